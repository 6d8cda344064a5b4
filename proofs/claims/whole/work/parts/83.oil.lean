/-! oil -/
def uO (c : Cf) (mo : Nat → Bool) : Cf := (cN c, cD c, cC c, cK c, cP c, cW c, (fun l d => mo l || cO c l d), cA c, cF c)
/-- as loc_up, with oils alike on the lines of X -/
theorem loc_upO {c e : Cf} {X : Nat → Bool} (hn : cN c = cN e) (hW : cW c = cW e) (hO : ∀ k, X k = true → ∀ d, cO c (cC c k / 6) d = cO e (cC e k / 6) d) (hA : cA c = cA e) (hF : cF c = cF e) (hD : ∀ k, X k = true → cD c k = cD e k) (hC : ∀ k, X k = true → cC c k = cC e k) (hK : ∀ k, X k = true → cK c k = cK e k) (hP : ∀ k, X k = true → cP c k = cP e k) (hX : ∀ k j, X k = true → j < cN c → X j = false → (cP c j = true → ¬ cC c j = cC c k) ∧ (cP e j = true → ¬ cC e j = cC e k)) : ∀ (d : Nat) (k : Nat), X k = true → stg c d k = stg e d k ∧ up c d k = up e d k := by
  have hnow := loc_now (c := c) (e := e) hn hW hD hC hP hX
  have hup : ∀ d, (∀ k, X k = true → stg c d k = stg e d k) → ∀ k, X k = true → upS c d (stg c d) k = upS e d (stg e d) k := by
    intro d hs k hk
    have ht : top c d (stg c d) k = top e d (stg e d) k := by
      unfold top
      rw [hn]
      congr 1
      refine exB_cong (fun i hi => ?_)
      rw [← hn] at hi
      cases hi2 : X i with
      | true => rw [hnow i hi2, hC i hi2, hC k hk, hs i hi2, hs k hk]
      | false =>
        have h1 : ((cC c i == cC c k) && (now c i d == 1 || now c i d == 2 && (decide (stg c d k < stg c d i) || stg c d i == stg c d k && decide (k < i)))) = false := by
          cases hp : cP c i with
          | false => simp [now_nP hp]
          | true => simp [(hX k i hk hi hi2).1 hp]
        have h2 : ((cC e i == cC e k) && (now e i d == 1 || now e i d == 2 && (decide (stg e d k < stg e d i) || stg e d i == stg e d k && decide (k < i)))) = false := by
          cases hp : cP e i with
          | false => simp [now_nP hp]
          | true => simp [(hX k i hk hi hi2).2 hp]
        rw [Bool.and_assoc, Bool.and_assoc, h1, h2]
    unfold upS
    rw [hnow k hk, hs k hk, hA, hO k hk d, ht]
  have hst : ∀ d k, X k = true → stg c d k = stg e d k := by
    intro d
    induction d with
    | zero => exact fun k hk => hK k hk
    | succ d ih =>
      intro k hk
      show (if now c k d = 2 then adj c d (stg c d) k else cK c k) = (if now e k d = 2 then adj e d (stg e d) k else cK e k)
      rw [hnow k hk, hK k hk]
      congr 1
      unfold adj
      rw [hup d ih k hk, ih k hk, hA, hF]
  exact fun d k hk => ⟨hst d k hk, hup d (hst d) k hk⟩
theorem up_uO {c : Cf} {mo : Nat → Bool} {d k : Nat} : up (uO c mo) d k = (!mo (cC c k / 6) && up c d k) := by
  cases hm : mo (cC c k / 6) with
  | true =>
    rw [Bool.not_true, Bool.false_and]
    cases h : up (uO c mo) d k with
    | false => rfl
    | true =>
      exfalso
      unfold up upS at h
      simp only [Bool.and_eq_true, Bool.not_eq_true'] at h
      have h2 : (mo (cC c k / 6) || cO c (cC c k / 6) d) = false := h.1.2
      rw [hm] at h2
      cases h2
  | false =>
    rw [Bool.not_false, Bool.true_and]
    have hx := loc_upO (c := uO c mo) (e := c) (X := fun j => !mo (cC c j / 6)) rfl rfl (fun j hj d => by
      have hj2 : mo (cC c j / 6) = false := by simpa using hj
      show (mo (cC c j / 6) || cO c (cC c j / 6) d) = cO c (cC c j / 6) d
      rw [hj2, Bool.false_or]) rfl rfl (fun _ _ => rfl) (fun _ _ => rfl) (fun _ _ => rfl) (fun _ _ => rfl) (fun a j ha hj hz => by
      have ha2 : mo (cC c a / 6) = false := by simpa using ha
      have hz2 : mo (cC c j / 6) = true := by simpa using hz
      have hne : ¬ cC c j = cC c a := fun q => by rw [q, ha2] at hz2; cases hz2
      exact ⟨fun _ => hne, fun _ => hne⟩) d k (by simp [hm])
    exact hx.2
theorem pb_or2 {p q : Nat → Bool} : pb p ||| pb q = pb (fun k => p k || q k) := by
  unfold pb
  rw [fa_or]
  congr 1
  apply Nat.eq_of_testBit_eq
  intro i
  rw [Nat.testBit_or]
  by_cases hi : i < 8
  · rw [ob_bit hi, ob_bit hi, ob_bit hi]
  · have h1 : ob 8 p < 2 ^ i := Nat.lt_of_lt_of_le (ob_lt 8 p) (Nat.pow_le_pow_right (by decide) (by omega))
    have h3 : ob 8 q < 2 ^ i := Nat.lt_of_lt_of_le (ob_lt 8 q) (Nat.pow_le_pow_right (by decide) (by omega))
    have h2 : ob 8 (fun k => p k || q k) < 2 ^ i := Nat.lt_of_lt_of_le (ob_lt 8 _) (Nat.pow_le_pow_right (by decide) (by omega))
    rw [Nat.testBit_lt_two_pow h1, Nat.testBit_lt_two_pow h2, Nat.testBit_lt_two_pow h3]
    rfl
def oiL (c : Cf) (l : Nat) : Bool := exB (fun d => lnB c (fun k => up c d k) l) 20
theorem allU_0 {c : Cf} : allU c = 0 ↔ ∀ d, d < 20 → ∀ k, k < 8 → up c d k = false := by
  constructor
  · intro h d hd
    exact fb_ct_zero.mp (fb_sm_zero h d hd)
  · intro h
    have : fb_sm (ctU c) 20 = fb_sm (fun _ => 0) 20 := fb_sm_cong (fun d hd => fb_ct_zero.mpr (h d hd))
    show fb_sm (ctU c) 20 = 0
    rw [this, fb_sm_const]
theorem oil_iff {c : Cf} (hP : ∀ k, cP c k = true → k < cN c) (h8 : cN c ≤ 8) (hC : ∀ k, k < cN c → cC c k < 36) {mo : Nat → Bool} : allU (uO c mo) = 0 ↔ ∀ l, l < 6 → oiL c l = true → mo l = true := by
  rw [allU_0]
  constructor
  · intro h l hl hL
    unfold oiL lnB at hL
    obtain ⟨d, hd, hx⟩ := exB_iff.mp hL
    obtain ⟨k, hk, hx2⟩ := exB_iff.mp hx
    simp only [Bool.and_eq_true, beq_iff_eq] at hx2
    have := h d hd k (by omega)
    rw [up_uO, hx2.1, hx2.2, Bool.and_true] at this
    simpa using this
  · intro h d hd k hk
    rw [up_uO]
    cases hu : up c d k with
    | false => rw [Bool.and_false]
    | true =>
      have hkn := hP k (up_P hu)
      have hlt : cC c k / 6 < 6 := by have := hC k hkn; omega
      have hL : oiL c (cC c k / 6) = true := exB_iff.mpr ⟨d, hd, exB_iff.mpr ⟨k, hkn, by simp [hu]⟩⟩
      rw [h _ hlt hL]
      rfl
theorem ob_ext {n : Nat} {p : Nat → Bool} {m : Nat} (hm : m < 2 ^ n) (h : ∀ k, k < n → m.testBit k = p k) : m = ob n p := by
  apply Nat.eq_of_testBit_eq
  intro i
  by_cases hi : i < n
  · rw [ob_bit hi, h i hi]
  · have h1 : ob n p < 2 ^ i := Nat.lt_of_lt_of_le (ob_lt n p) (Nat.pow_le_pow_right (by decide) (by omega))
    have h2 : m < 2 ^ i := Nat.lt_of_lt_of_le hm (Nat.pow_le_pow_right (by decide) (by omega))
    rw [Nat.testBit_lt_two_pow h1, Nat.testBit_lt_two_pow h2]
theorem ob86 {p : Nat → Bool} (h : ∀ k, 6 ≤ k → p k = false) : ob 8 p = ob 6 p := by
  have h6 := ob_lt 6 p
  refine (ob_ext (n := 8) (p := p) (m := ob 6 p) (by omega) (fun k hk => ?_)).symm
  by_cases q : k < 6
  · rw [ob_bit q]
  · rw [h k (by omega), Nat.testBit_lt_two_pow (Nat.lt_of_lt_of_le h6 (Nat.pow_le_pow_right (by decide) (by omega)))]
theorem pb_m {m : Nat} (h : m < 256) : nI m = pb (fun k => m.testBit k) := by
  unfold pb
  rw [← ob_ext (n := 8) (p := fun k => m.testBit k) (m := m) h (fun _ _ => rfl)]
def pc (i : Nat) : Nat := fb_ct (fun k => i.testBit k) 8
theorem pc_le {i : Nat} : pc i ≤ 8 := fb_ct_le _ _
theorem onesN_ok {m : Nat} (h : m < 256) {S : Sg} : fX9_ones (nI m) S = some (nI (pc m), S) := by
  rw [pb_m h]
  exact ones_ok
/-- the reference's best set of lines so far, 64: none -/
def bst (T : Nat → Bool) : Nat → Nat
  | 0 => 64
  | i + 1 => if pc i < 4 ∧ (bst T i = 64 ∨ pc i < pc (bst T i)) ∧ T i = true then i else bst T i
theorem bst_s {T : Nat → Bool} {i : Nat} : bst T (i + 1) = if pc i < 4 ∧ (bst T i = 64 ∨ pc i < pc (bst T i)) ∧ T i = true then i else bst T i := rfl
theorem bst_cong {T U : Nat → Bool} : ∀ {n : Nat}, (∀ i, i < n → T i = U i) → bst T n = bst U n
  | 0, _ => rfl
  | n + 1, h => by rw [bst_s, bst_s, bst_cong (fun i hi => h i (by omega)), h n (by omega)]
theorem bst_le {T : Nat → Bool} : ∀ n, n ≤ 64 → bst T n = 64 ∨ bst T n < n
  | 0, _ => Or.inl rfl
  | n + 1, h => by
    rw [bst_s]
    split
    · exact Or.inr (by omega)
    · rcases bst_le n (by omega) with q | q
      · exact Or.inl q
      · exact Or.inr (by omega)
set_option maxRecDepth 100000 in
theorem bst_all : ∀ m, m < 64 → bst (fun s => (m &&& s) == m) 64 = if pc m < 4 then m else 64 := by decide +kernel
theorem sub_iff {m s : Nat} (hm : m < 64) : (m &&& s) = m ↔ ∀ l, l < 6 → m.testBit l = true → s.testBit l = true := by
  constructor
  · intro h l _ hl
    have := congrArg (fun z => Nat.testBit z l) h
    simp only [Nat.testBit_and, hl, Bool.true_and] at this
    exact this
  · intro h
    apply Nat.eq_of_testBit_eq
    intro i
    rw [Nat.testBit_and]
    by_cases hi : i < 6
    · cases q : m.testBit i with
      | false => rfl
      | true => rw [h i hi q]; rfl
    · rw [Nat.testBit_lt_two_pow (Nat.lt_of_lt_of_le (show m < 2 ^ 6 from hm) (Nat.pow_le_pow_right (by decide) (by omega)))]
      rfl
def oiV (c : Cf) (w : Nat) : Int32 := if pc (ob 6 (oiL c)) < 4 then (if w = 0 then nI (pc (ob 6 (oiL c))) else nI (ob 6 (oiL c))) else -nI 1
theorem oiL_hi {c : Cf} (hC : ∀ k, k < cN c → cC c k < 36) {l : Nat} (hl : 6 ≤ l) : oiL c l = false := exB_false.mpr (fun d _ => lnB_hi hC hl)
theorem bcN : ∀ m, m < 64 → bcv (nI m) = nI (pc m) := by decide +kernel
theorem oilC_ok {S : Sg} {A : Ab} (h : RC S A) {w : Nat} (hw : w < 2) : ∃ S', fX8_oil (nI w) S = some (oiV (cfg A) w, S') ∧ RF S' A := by
  obtain ⟨S1, e1, h1⟩ := bring_ok h
  refine ⟨S1, ?_, h1⟩
  have hC36 : ∀ k, k < cN (cfg A) → cC (cfg A) k < 36 := fun k hk => (cfg_rng hk).2.1
  have key : lp bX8_oil_18 fl (pb (fun l => exB (fun d => lnB (cfg A) (fun k => up (cfg A) d k) l) 0), nI 0) S1 = some ((pb (oiL (cfg A)), nI 20), S1) := by
    refine lp_fl (fun i => (pb (fun l => exB (fun d => lnB (cfg A) (fun k => up (cfg A) d k) l) i), nI i)) (fun _ => S1) 20 (by omega) (fun i hi rec => ?_) (fun rec => ?_)
    · have w22 : S1.1 22 i = ps (fun k => up (cfg A) i k) := fr_risen h1 hi
      have hln := linesOf_ok (t := 12) h1.2.2.1 (p := fun k => up (cfg A) i k)
      have hor : pb (fun l => exB (fun d => lnB (cfg A) (fun k => up (cfg A) d k) l) i) ||| pb (lnB (cfg A) (fun k => up (cfg A) i k)) = pb (fun l => exB (fun d => lnB (cfg A) (fun k => up (cfg A) d k) l) (i + 1)) := by
        rw [pb_or2]
        exact pb_cong (fun l _ => rfl)
      generalize pb (fun l => exB (fun d => lnB (cfg A) (fun k => up (cfg A) d k) l) i) = Y at hor ⊢
      generalize pb (fun l => exB (fun d => lnB (cfg A) (fun k => up (cfg A) d k) l) (i + 1)) = Z at hor ⊢
      generalize pb (lnB (cfg A) (fun k => up (cfg A) i k)) = W at hor hln
      generalize ps (fun k => up (cfg A) i k) = P at w22 hln
      simp (disch := omega) only [bX8_oil_18, bdq, gd_ix, lit_0, lit_1, lit_2, lit_3, lit_4, lit_5, lit_6, lit_7, lit_8, lit_9, lit_10, lit_15, lit_16, lit_19, lit_20, lit_31, lit_35, lit_36, lit_48, lit_49, lit_53, lit_55, lit_57, lit_59, lit_60, lit_63, lit_64, lit_97, lit_102, lit_110, lit_160, lit_255, nI_add, ns_sub, ns_div, ns_le, ns_lt, ns_eq, ns_cl, pk_mul, ne10, eq_self, ↓reduceIte, w22, hln, hor, show ¬ 20 ≤ i from by omega]
    · show bX8_oil_18 rec (pb (oiL (cfg A)), nI 20) S1 = _
      generalize pb (oiL (cfg A)) = Y
      simp (disch := omega) only [bX8_oil_18, bdq, gd_ix, lit_0, lit_1, lit_2, lit_3, lit_4, lit_5, lit_6, lit_7, lit_8, lit_9, lit_10, lit_15, lit_16, lit_19, lit_20, lit_31, lit_35, lit_36, lit_48, lit_49, lit_53, lit_55, lit_57, lit_59, lit_60, lit_63, lit_64, lit_97, lit_102, lit_110, lit_160, lit_255, nI_add, ns_sub, ns_div, ns_le, ns_lt, ns_eq, ns_cl, pk_mul, ne10, eq_self, ↓reduceIte, Nat.le_refl]
  have e0 : pb (fun l => exB (fun d => lnB (cfg A) (fun k => up (cfg A) d k) l) 0) = nI 0 := by
    rw [pb_eq0]
    intro k _
    rfl
  rw [e0] at key
  have em : pb (oiL (cfg A)) = nI (ob 6 (oiL (cfg A))) := by
    unfold pb
    rw [ob86 (fun k hk => oiL_hi hC36 hk)]
  rw [em] at key
  have h64 : ob 6 (oiL (cfg A)) < 64 := ob_lt 6 _
  have hbc : ∀ Sy : Sg, fJ6_bitCount_0f7a4 (nI (ob 6 (oiL (cfg A)))) Sy = some (nI (pc (ob 6 (oiL (cfg A)))), Sy) := fun Sy => by rw [bc_ok, bcN _ h64]
  unfold oiV
  generalize ob 6 (oiL (cfg A)) = m at key h64 hbc ⊢
  have hp := pc_le (i := m)
  have hw2 : w = 0 ∨ w = 1 := by omega
  unfold fX8_oil
  by_cases q : pc m < 4
  · rw [if_pos q]
    rcases hw2 with rfl | rfl
    · simp (disch := omega) only [cEith_y, bdq, gd_ix, lit_0, lit_1, lit_2, lit_3, lit_4, lit_5, lit_6, lit_7, lit_8, lit_9, lit_10, lit_15, lit_16, lit_19, lit_20, lit_31, lit_35, lit_36, lit_48, lit_49, lit_53, lit_55, lit_57, lit_59, lit_60, lit_63, lit_64, lit_97, lit_102, lit_110, lit_160, lit_255, nI_add, ns_sub, ns_div, ns_le, ns_lt, ns_eq, ns_cl, pk_mul, ne10, eq_self, ↓reduceIte, e1, key, hbc, show pc m ≤ 3 from by omega]
    · simp (disch := omega) only [cEith_y, bdq, gd_ix, lit_0, lit_1, lit_2, lit_3, lit_4, lit_5, lit_6, lit_7, lit_8, lit_9, lit_10, lit_15, lit_16, lit_19, lit_20, lit_31, lit_35, lit_36, lit_48, lit_49, lit_53, lit_55, lit_57, lit_59, lit_60, lit_63, lit_64, lit_97, lit_102, lit_110, lit_160, lit_255, nI_add, ns_sub, ns_div, ns_le, ns_lt, ns_eq, ns_cl, pk_mul, ne10, eq_self, ↓reduceIte, e1, key, hbc, show pc m ≤ 3 from by omega]
  · rw [if_neg q]
    rcases hw2 with rfl | rfl
    · simp (disch := omega) only [cEith_y, bdq, gd_ix, lit_0, lit_1, lit_2, lit_3, lit_4, lit_5, lit_6, lit_7, lit_8, lit_9, lit_10, lit_15, lit_16, lit_19, lit_20, lit_31, lit_35, lit_36, lit_48, lit_49, lit_53, lit_55, lit_57, lit_59, lit_60, lit_63, lit_64, lit_97, lit_102, lit_110, lit_160, lit_255, nI_add, ns_sub, ns_div, ns_le, ns_lt, ns_eq, ns_cl, pk_mul, ne10, eq_self, ↓reduceIte, e1, key, hbc, show ¬ pc m ≤ 3 from by omega]
    · simp (disch := omega) only [cEith_y, bdq, gd_ix, lit_0, lit_1, lit_2, lit_3, lit_4, lit_5, lit_6, lit_7, lit_8, lit_9, lit_10, lit_15, lit_16, lit_19, lit_20, lit_31, lit_35, lit_36, lit_48, lit_49, lit_53, lit_55, lit_57, lit_59, lit_60, lit_63, lit_64, lit_97, lit_102, lit_110, lit_160, lit_255, nI_add, ns_sub, ns_div, ns_le, ns_lt, ns_eq, ns_cl, pk_mul, ne10, eq_self, ↓reduceIte, e1, key, hbc, show ¬ pc m ≤ 3 from by omega]
/-- the reference -/
def toI (b : Nat) : Int32 := if b = 64 then -nI 1 else nI b
theorem MdO.set {S : Sg} {c : Cf} {nw no : Nat} {wd wl od ol : Nat → Nat} {s : Nat} (h : Md (sI S 0 18 (nI 0)) c nw wd wl no od ol (fun _ => false)) (hs : s < 64) : Md (sI S 0 18 (nI s)) (uO c (fun l => s.testBit l)) nw wd wl no od ol (fun l => s.testBit l) := by
  obtain ⟨h1, h2, h3, h4, h5, h6, h7, h8, h9, h10, h11, h12, h13, h14, h15, h16, h17⟩ := h
  have e : ∀ a j, ¬ (a = 0 ∧ j = 18) → (sI S 0 18 (nI s)).1 a j = (sI S 0 18 (nI 0)).1 a j := fun a j q => by rw [sI1, sI1, if_neg q, if_neg q]
  refine ⟨h1, by rw [e 0 4 (by omega)]; exact h2, fun j hj => ?_, h4, by rw [e 0 10 (by omega)]; exact h5, fun w hw => ?_, h7, by rw [e 0 13 (by omega)]; exact h8, fun o ho => ?_, fun d hd => by rw [e 12 d (by omega)]; exact h10 d hd, by rw [e 0 9 (by omega)]; exact h11, h12, by rw [e 0 17 (by omega)]; exact h13, fun l hl => ?_, h15, fun l d => ?_, h17⟩
  · rw [e 4 j (by omega), e 5 j (by omega), e 7 j (by omega)]; exact h3 j hj
  · rw [e 8 w (by omega), e 9 w (by omega)]; exact h6 w hw
  · rw [e 10 o (by omega), e 11 o (by omega)]; exact h9 o ho
  · rw [sI1, if_pos ⟨rfl, rfl⟩, isIn_256 s (by omega) l (by omega)]
  · show (s.testBit l || cO c l d) = _
    rw [h16 l d, Bool.false_or]
theorem MdO.st {S : Sg} {c : Cf} {nw no : Nat} {wd wl od ol : Nat → Nat} (h : Md S c nw wd wl no od ol (fun _ => false)) : Md (sI S 0 18 (nI 0)) c nw wd wl no od ol (fun _ => false) := by
  obtain ⟨h1, h2, h3, h4, h5, h6, h7, h8, h9, h10, h11, h12, h13, h14, h15, h16, h17⟩ := h
  have e : ∀ a j, ¬ (a = 0 ∧ j = 18) → (sI S 0 18 (nI 0)).1 a j = S.1 a j := fun a j q => by rw [sI1, if_neg q]
  refine ⟨h1, by rw [e 0 4 (by omega)]; exact h2, fun j hj => ?_, h4, by rw [e 0 10 (by omega)]; exact h5, fun w hw => ?_, h7, by rw [e 0 13 (by omega)]; exact h8, fun o ho => ?_, fun d hd => by rw [e 12 d (by omega)]; exact h10 d hd, by rw [e 0 9 (by omega)]; exact h11, h12, by rw [e 0 17 (by omega)]; exact h13, fun l hl => ?_, h15, h16, h17⟩
  · rw [e 4 j (by omega), e 5 j (by omega), e 7 j (by omega)]; exact h3 j hj
  · rw [e 8 w (by omega), e 9 w (by omega)]; exact h6 w hw
  · rw [e 10 o (by omega), e 11 o (by omega)]; exact h9 o ho
  · rw [sI1, if_pos ⟨rfl, rfl⟩, isIn_256 0 (by omega) l (by omega)]
    simp
theorem MdO.go {S S' : Sg} {c : Cf} {nw no : Nat} {wd wl od ol : Nat → Nat} {v : Int32} (h : Md (sI S 0 18 (nI 0)) c nw wd wl no od ol (fun _ => false)) (f : mf (sI S 0 18 v) S') : Md (sI S' 0 18 (nI 0)) c nw wd wl no od ol (fun _ => false) := h.mf ⟨fun a j q1 q2 => by
  rw [sI1, sI1]
  by_cases q : a = 0 ∧ j = 18
  · rw [if_pos q, if_pos q]
  · rw [if_neg q, if_neg q]
    have := f.1 a j q1 q2
    rw [sI1, if_neg q] at this
    exact this, f.2⟩
theorem oilM_lp {S : Sg} {c : Cf} {nw no : Nat} {wd wl od ol : Nat → Nat} {T : Nat → Bool} (hT : ∀ s, s < 64 → (T s = true ↔ allU (uO c (fun l => s.testBit l)) = 0)) (h : Md (sI S 0 18 (nI 0)) c nw wd wl no od ol (fun _ => false)) : ∃ S', lp bX9_oilOf_8 fl (-nI 1, nI 0) S = some ((toI (bst T 64), nI 64), S') ∧ mz S S' := by
  obtain ⟨t, S', e, ht, q⟩ := lp_invF (B := bX9_oilOf_8) (fun i a Sx => a = (toI (bst T i), nI i) ∧ Md (sI Sx 0 18 (nI 0)) c nw wd wl no od ol (fun _ => false) ∧ mz S Sx) (fun a Sx => a = (toI (bst T 64), nI 64) ∧ mz S Sx) 64 (by omega) (by
    rintro i a Sx hi ⟨ha, hm, hg⟩
    subst ha
    by_cases hin : i < 64
    · have hp := pc_le (i := i)
      have eo : ∀ Sy : Sg, fX9_ones (nI i) Sy = some (nI (pc i), Sy) := fun Sy => onesN_ok (by omega)
      have hb := bst_le (T := T) i (by omega)
      refine Or.inl ⟨hin, ?_⟩
      by_cases c1 : pc i < 4
      · obtain ⟨S6, e6, f6, -, d6⟩ := runs_ok (MdO.set hm hin)
        have eU := allUpM_ok (S := S6) (c := uO c (fun l => i.testBit l)) (fun d hd => (d6 d hd).1)
        have hl := allU_le (c := uO c (fun l => i.testBit l))
        have hTi := hT i hin
        have hz6 : mz S S6 := (hg.I (by omega)).tr f6.mz
        have hm6 := MdO.go hm f6
        generalize allU (uO c (fun l => i.testBit l)) = V at eU hl hTi
        by_cases c2 : bst T i = 64
        · have e3 : toI (bst T i) = -nI 1 := by unfold toI; rw [if_pos c2]
          rw [e3]
          by_cases c3 : V = 0
          · have e4 : toI (bst T (i + 1)) = nI i := by
              rw [bst_s, if_pos ⟨c1, Or.inl c2, hTi.mpr c3⟩]
              unfold toI; rw [if_neg (by omega)]
            refine ⟨(toI (bst T (i + 1)), nI (i + 1)), S6, fun rec => ?_, rfl, hm6, hz6⟩
            rw [e4]
            simp (disch := omega) only [bX9_oilOf_8, bdq, gd_ix, lit_0, lit_1, lit_2, lit_3, lit_4, lit_5, lit_6, lit_7, lit_8, lit_9, lit_10, lit_15, lit_16, lit_19, lit_20, lit_31, lit_35, lit_36, lit_48, lit_49, lit_53, lit_55, lit_57, lit_59, lit_60, lit_63, lit_64, lit_97, lit_102, lit_110, lit_160, lit_255, nI_add, ns_sub, ns_div, ns_le, ns_lt, ns_eq, ns_cl, pk_mul, ne10, eq_self, ↓reduceIte, eo, e6, eU, c3, show ¬ 4 ≤ pc i from by omega, show ¬ 64 ≤ i from by omega]
          · have e4 : toI (bst T (i + 1)) = -nI 1 := by
              rw [bst_s, if_neg (fun z => c3 (hTi.mp z.2.2)), e3]
            refine ⟨(toI (bst T (i + 1)), nI (i + 1)), S6, fun rec => ?_, rfl, hm6, hz6⟩
            rw [e4]
            simp (disch := omega) only [bX9_oilOf_8, bdq, gd_ix, lit_0, lit_1, lit_2, lit_3, lit_4, lit_5, lit_6, lit_7, lit_8, lit_9, lit_10, lit_15, lit_16, lit_19, lit_20, lit_31, lit_35, lit_36, lit_48, lit_49, lit_53, lit_55, lit_57, lit_59, lit_60, lit_63, lit_64, lit_97, lit_102, lit_110, lit_160, lit_255, nI_add, ns_sub, ns_div, ns_le, ns_lt, ns_eq, ns_cl, pk_mul, ne10, eq_self, ↓reduceIte, eo, e6, eU, c3, show ¬ 4 ≤ pc i from by omega, show ¬ 64 ≤ i from by omega]
        · have hbi : bst T i < i := hb.resolve_left c2
          have e3 : toI (bst T i) = nI (bst T i) := by unfold toI; rw [if_neg c2]
          have eo2 : ∀ Sy : Sg, fX9_ones (nI (bst T i)) Sy = some (nI (pc (bst T i)), Sy) := fun Sy => onesN_ok (by omega)
          have hp2 := pc_le (i := bst T i)
          rw [e3]
          by_cases c4 : pc i < pc (bst T i)
          · by_cases c3 : V = 0
            · have e4 : toI (bst T (i + 1)) = nI i := by
                rw [bst_s, if_pos ⟨c1, Or.inr c4, hTi.mpr c3⟩]
                unfold toI; rw [if_neg (by omega)]
              refine ⟨(toI (bst T (i + 1)), nI (i + 1)), S6, fun rec => ?_, rfl, hm6, hz6⟩
              rw [e4]
              simp (disch := omega) only [bX9_oilOf_8, bdq, gd_ix, lit_0, lit_1, lit_2, lit_3, lit_4, lit_5, lit_6, lit_7, lit_8, lit_9, lit_10, lit_15, lit_16, lit_19, lit_20, lit_31, lit_35, lit_36, lit_48, lit_49, lit_53, lit_55, lit_57, lit_59, lit_60, lit_63, lit_64, lit_97, lit_102, lit_110, lit_160, lit_255, nI_add, ns_sub, ns_div, ns_le, ns_lt, ns_eq, ns_cl, pk_mul, ne10, eq_self, ↓reduceIte, eo, eo2, ne_m1, e6, eU, c3, show ¬ pc (bst T i) ≤ pc i from by omega, show ¬ 4 ≤ pc i from by omega, show ¬ 64 ≤ i from by omega]
            · have e4 : toI (bst T (i + 1)) = nI (bst T i) := by
                rw [bst_s, if_neg (fun z => c3 (hTi.mp z.2.2)), e3]
              refine ⟨(toI (bst T (i + 1)), nI (i + 1)), S6, fun rec => ?_, rfl, hm6, hz6⟩
              rw [e4]
              simp (disch := omega) only [bX9_oilOf_8, bdq, gd_ix, lit_0, lit_1, lit_2, lit_3, lit_4, lit_5, lit_6, lit_7, lit_8, lit_9, lit_10, lit_15, lit_16, lit_19, lit_20, lit_31, lit_35, lit_36, lit_48, lit_49, lit_53, lit_55, lit_57, lit_59, lit_60, lit_63, lit_64, lit_97, lit_102, lit_110, lit_160, lit_255, nI_add, ns_sub, ns_div, ns_le, ns_lt, ns_eq, ns_cl, pk_mul, ne10, eq_self, ↓reduceIte, eo, eo2, ne_m1, e6, eU, c3, show ¬ pc (bst T i) ≤ pc i from by omega, show ¬ 4 ≤ pc i from by omega, show ¬ 64 ≤ i from by omega]
          · have e4 : toI (bst T (i + 1)) = nI (bst T i) := by
              rw [bst_s, if_neg (fun z => z.2.1.elim c2 c4), e3]
            refine ⟨(toI (bst T (i + 1)), nI (i + 1)), Sx, fun rec => ?_, rfl, hm, hg⟩
            rw [e4]
            simp (disch := omega) only [bX9_oilOf_8, bdq, gd_ix, lit_0, lit_1, lit_2, lit_3, lit_4, lit_5, lit_6, lit_7, lit_8, lit_9, lit_10, lit_15, lit_16, lit_19, lit_20, lit_31, lit_35, lit_36, lit_48, lit_49, lit_53, lit_55, lit_57, lit_59, lit_60, lit_63, lit_64, lit_97, lit_102, lit_110, lit_160, lit_255, nI_add, ns_sub, ns_div, ns_le, ns_lt, ns_eq, ns_cl, pk_mul, ne10, eq_self, ↓reduceIte, eo, eo2, ne_m1, show pc (bst T i) ≤ pc i from by omega, show ¬ 4 ≤ pc i from by omega, show ¬ 64 ≤ i from by omega]
      · have e4 : bst T (i + 1) = bst T i := by rw [bst_s, if_neg (fun z => c1 z.1)]
        refine ⟨(toI (bst T (i + 1)), nI (i + 1)), Sx, fun rec => ?_, rfl, hm, hg⟩
        rw [e4]
        generalize toI (bst T i) = y
        simp (disch := omega) only [bX9_oilOf_8, bdq, gd_ix, lit_0, lit_1, lit_2, lit_3, lit_4, lit_5, lit_6, lit_7, lit_8, lit_9, lit_10, lit_15, lit_16, lit_19, lit_20, lit_31, lit_35, lit_36, lit_48, lit_49, lit_53, lit_55, lit_57, lit_59, lit_60, lit_63, lit_64, lit_97, lit_102, lit_110, lit_160, lit_255, nI_add, ns_sub, ns_div, ns_le, ns_lt, ns_eq, ns_cl, pk_mul, ne10, eq_self, ↓reduceIte, eo, show 4 ≤ pc i from by omega, show ¬ 64 ≤ i from by omega]
    · have hin2 : i = 64 := by omega
      subst hin2
      refine Or.inr ⟨(toI (bst T 64), nI 64), Sx, fun rec => ?_, rfl, hg⟩
      generalize toI (bst T 64) = y
      simp (disch := omega) only [bX9_oilOf_8, bdq, gd_ix, lit_0, lit_1, lit_2, lit_3, lit_4, lit_5, lit_6, lit_7, lit_8, lit_9, lit_10, lit_15, lit_16, lit_19, lit_20, lit_31, lit_35, lit_36, lit_48, lit_49, lit_53, lit_55, lit_57, lit_59, lit_60, lit_63, lit_64, lit_97, lit_102, lit_110, lit_160, lit_255, nI_add, ns_sub, ns_div, ns_le, ns_lt, ns_eq, ns_cl, pk_mul, ne10, eq_self, ↓reduceIte, Nat.le_refl]) (-nI 1, nI 0) S ⟨rfl, h, mz.rf⟩
  subst ht
  exact ⟨S', e, q⟩
theorem oilM_ok {S : Sg} {A : Ab} (h : RM S A) {w : Nat} (hw : w < 2) : ∃ S', fX9_oilOf (nI w) S = some (oiV (cfg A) w, S') ∧ mz S S' := by
  have h8 := cfg_8m h
  have hC36 : ∀ k, k < cN (cfg A) → cC (cfg A) k < 36 := fun k hk => (cfg_rng hk).2.1
  have h64 : ob 6 (oiL (cfg A)) < 64 := ob_lt 6 _
  have hbit : ∀ l, l < 6 → (ob 6 (oiL (cfg A))).testBit l = oiL (cfg A) l := fun l hl => ob_bit hl
  obtain ⟨S1, e1, z1, r1, m1⟩ := asTold_ok h
  obtain ⟨S2, e2, g2⟩ := oilM_lp (S := S1) (c := cfg A) (T := fun s => (ob 6 (oiL (cfg A)) &&& s) == ob 6 (oiL (cfg A))) (fun s hs => by
    rw [beq_iff_eq, sub_iff h64, oil_iff (fun k hk => cfg_P hk) h8 hC36]
    constructor
    · intro z l hl hL
      exact z l hl (by rw [hbit l hl]; exact hL)
    · intro z l hl hL
      exact z l hl (by rw [← hbit l hl]; exact hL)) (MdO.st m1)
  rw [bst_all _ h64] at e2
  refine ⟨S2, ?_, z1.tr g2⟩
  unfold oiV
  generalize ob 6 (oiL (cfg A)) = m at e2 h64 ⊢
  have hp := pc_le (i := m)
  have eo : ∀ Sy : Sg, fX9_ones (nI m) Sy = some (nI (pc m), Sy) := fun Sy => onesN_ok (by omega)
  have hw2 : w = 0 ∨ w = 1 := by omega
  unfold fX9_oilOf
  by_cases q : pc m < 4
  · rw [if_pos q] at e2
    rw [if_pos q]
    have e3 : toI m = nI m := by unfold toI; rw [if_neg (by omega)]
    rw [e3] at e2
    rcases hw2 with rfl | rfl
    · simp (disch := omega) only [bdq, gd_ix, lit_0, lit_1, lit_2, lit_3, lit_4, lit_5, lit_6, lit_7, lit_8, lit_9, lit_10, lit_15, lit_16, lit_19, lit_20, lit_31, lit_35, lit_36, lit_48, lit_49, lit_53, lit_55, lit_57, lit_59, lit_60, lit_63, lit_64, lit_97, lit_102, lit_110, lit_160, lit_255, nI_add, ns_sub, ns_div, ns_le, ns_lt, ns_eq, ns_cl, pk_mul, ne10, eq_self, ↓reduceIte, e1, e2, ne_m1, eo, ne01]
    · simp (disch := omega) only [bdq, gd_ix, lit_0, lit_1, lit_2, lit_3, lit_4, lit_5, lit_6, lit_7, lit_8, lit_9, lit_10, lit_15, lit_16, lit_19, lit_20, lit_31, lit_35, lit_36, lit_48, lit_49, lit_53, lit_55, lit_57, lit_59, lit_60, lit_63, lit_64, lit_97, lit_102, lit_110, lit_160, lit_255, nI_add, ns_sub, ns_div, ns_le, ns_lt, ns_eq, ns_cl, pk_mul, ne10, eq_self, ↓reduceIte, e1, e2, ne_m1]
  · rw [if_neg q] at e2
    rw [if_neg q]
    have e3 : toI 64 = -nI 1 := rfl
    rw [e3] at e2
    rcases hw2 with rfl | rfl
    · simp (disch := omega) only [bdq, gd_ix, lit_0, lit_1, lit_2, lit_3, lit_4, lit_5, lit_6, lit_7, lit_8, lit_9, lit_10, lit_15, lit_16, lit_19, lit_20, lit_31, lit_35, lit_36, lit_48, lit_49, lit_53, lit_55, lit_57, lit_59, lit_60, lit_63, lit_64, lit_97, lit_102, lit_110, lit_160, lit_255, nI_add, ns_sub, ns_div, ns_le, ns_lt, ns_eq, ns_cl, pk_mul, ne10, eq_self, ↓reduceIte, e1, e2]
    · simp (disch := omega) only [bdq, gd_ix, lit_0, lit_1, lit_2, lit_3, lit_4, lit_5, lit_6, lit_7, lit_8, lit_9, lit_10, lit_15, lit_16, lit_19, lit_20, lit_31, lit_35, lit_36, lit_48, lit_49, lit_53, lit_55, lit_57, lit_59, lit_60, lit_63, lit_64, lit_97, lit_102, lit_110, lit_160, lit_255, nI_add, ns_sub, ns_div, ns_le, ns_lt, ns_eq, ns_cl, pk_mul, ne10, eq_self, ↓reduceIte, e1, e2]
theorem stp_oil_ok : stp_oil Inv := by
  rintro Sc Sm x1 ⟨A, hC, hM⟩
  by_cases g1 : rg x1 2
  · obtain ⟨w, hw, rfl⟩ := g1
    obtain ⟨S1, e1, h1⟩ := oilC_ok hC hw
    obtain ⟨S2, e2, h2⟩ := oilM_ok hM hw
    refine ⟨_, S1, S2, e1, ?_, A, h1.c, hM.mz h2⟩
    unfold fX9_oil
    rw [lit_0, lit_1, in_y (by omega) (by omega), bd_some, if_neg (by decide), e2, bd_some]
  · refine ⟨-nI 2, Sc, Sm, ?_, ?_, A, hC, hM⟩
    · unfold fX8_oil
      simp (disch := omega) only [cEith_n g1, bdq, gd_ix, lit_0, lit_1, lit_2, lit_3, lit_4, lit_5, lit_6, lit_7, lit_8, lit_9, lit_10, lit_15, lit_16, lit_19, lit_20, lit_31, lit_35, lit_36, lit_48, lit_49, lit_53, lit_55, lit_57, lit_59, lit_60, lit_63, lit_64, lit_97, lit_102, lit_110, lit_160, lit_255, nI_add, ns_sub, ns_div, ns_le, ns_lt, ns_eq, ns_cl, pk_mul, ne10, eq_self, ↓reduceIte]
    · unfold fX9_oil
      simp (disch := omega) only [in_n g1 (b := 1) rfl (by omega), bdq, gd_ix, lit_0, lit_1, lit_2, lit_3, lit_4, lit_5, lit_6, lit_7, lit_8, lit_9, lit_10, lit_15, lit_16, lit_19, lit_20, lit_31, lit_35, lit_36, lit_48, lit_49, lit_53, lit_55, lit_57, lit_59, lit_60, lit_63, lit_64, lit_97, lit_102, lit_110, lit_160, lit_255, nI_add, ns_sub, ns_div, ns_le, ns_lt, ns_eq, ns_cl, pk_mul, ne10, eq_self, ↓reduceIte]
