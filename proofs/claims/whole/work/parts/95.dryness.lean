/-! dryness: the watched board -/
def wtd (c : Cf) (day : Nat) : Nat → Bool := fun k => if cA c day = 0 then false else exB (fun j => able c j day && (cP c k && (cC c k == cC c j))) (cN c)
theorem wtd_P {c : Cf} {day k : Nat} (h : wtd c day k = true) : cP c k = true := by
  unfold wtd at h
  by_cases q : cA c day = 0
  · rw [if_pos q] at h; cases h
  · rw [if_neg q] at h
    obtain ⟨j, _, hj⟩ := exB_iff.mp h
    simp only [Bool.and_eq_true] at hj
    exact hj.2.1
theorem wtd_cl {c : Cf} {day : Nat} : cl c (wtd c day) := fun k j hk _ hz hp q => by
  unfold wtd at hk hz
  by_cases z : cA c day = 0
  · rw [if_pos z] at hk; cases hk
  · rw [if_neg z] at hk hz
    obtain ⟨i, hi, hj⟩ := exB_iff.mp hk
    simp only [Bool.and_eq_true, beq_iff_eq] at hj
    have := exB_false.mp hz i hi
    rw [hj.1, hp, q, hj.2.2] at this
    simp at this
theorem up_wtd {c : Cf} (hP : ∀ k, cP c k = true → k < cN c) (hK : ∀ k, k < cN c → cK c k ≤ 9) {g : Nat → Nat} {day : Nat} (hg : g day = cA c day ∨ g day = 0) : exB (fun k => up (uA c g) day k) (cN c) = exB (fun k => up (uA (uP c (wtd c day)) g) day k) (cN c) := by
  have h1 : ∀ k, up (uA (uP c (wtd c day)) g) day k = (wtd c day k && up (uA c g) day k) := fun k => up_in (c := uA c g) (Y := wtd c day) (fun k h => wtd_P (c := c) (day := day) h) (fun k h => hP k (wtd_P (c := c) (day := day) h)) (fun a b ha hb hz hp => wtd_cl (c := c) (day := day) a b ha hb hz hp)
  refine exB_cong (fun k hk => ?_)
  rw [h1 k]
  cases hu : up (uA c g) day k with
  | false => rw [Bool.and_false]
  | true =>
    have hab : able c k day = true := up_able (c := uA c g) (s := stg (uA c g) day) hu
    have hp : cP c k = true := able_P hab
    have h10 : ¬ g day = 0 := fun q => by
      have h9 := stg_le (c := uA c g) (k := k) (hK k hk) day
      unfold up upS at hu
      simp only [Bool.and_eq_true, decide_eq_true_eq] at hu
      have h2 : 10 ≤ stg (uA c g) day k + g day := hu.1.1.2
      omega
    have hne : ¬ cA c day = 0 := fun q => by
      rcases hg with z | z
      · exact h10 (z.trans q)
      · exact h10 z
    have hw : wtd c day k = true := by
      unfold wtd
      rw [if_neg hne]
      exact exB_iff.mpr ⟨k, hk, by rw [hab, hp]; simp⟩
    rw [hw]
    rfl
theorem vv_wtd {c : Cf} (hP : ∀ k, cP c k = true → k < cN c) (hK : ∀ k, k < cN c → cK c k ≤ 9) {x : Nat} (hx : x ≤ 16) {n day : Nat} : vvS c x (cA c) n day 0 (cK c) = vvS (uP c (wtd c day)) x (cA c) n day 0 (cK c) := by
  rw [← vv_sum hx, ← vv_sum hx]
  refine fb_sm_cong (fun t _ => ?_)
  have e1 := stil_up (c := c) (g := dmS (cA c) 0 n t) (m := day)
  have e2 : stil (uP c (wtd c day)) (dmS (cA c) 0 n t) day 0 (cK c) = !exB (fun k => up (uA (uP c (wtd c day)) (dmS (cA c) 0 n t)) day k) (cN c) := stil_up (c := uP c (wtd c day)) (g := dmS (cA c) 0 n t) (m := day)
  rw [e1, e2, up_wtd hP hK (g := dmS (cA c) 0 n t)]
  unfold dmS
  split
  · exact Or.inr rfl
  · exact Or.inl rfl
theorem hv_more : ∀ q p r, hv (p + q) (2 ^ q * r) = hv p r + q
  | 0, p, r => by rw [Nat.pow_zero, Nat.one_mul]; rfl
  | q + 1, p, r => by
    have e : 2 ^ (q + 1) * r = 2 * (2 ^ q * r) := by rw [Nat.pow_succ, Nat.mul_comm (2 ^ q) 2, Nat.mul_assoc]
    rw [show p + (q + 1) = (p + q) + 1 by omega, e]
    show (if 2 * (2 ^ q * r) % 2 = 0 then hv (p + q) (2 * (2 ^ q * r) / 2) + 1 else 0) = _
    rw [if_pos (by omega), show 2 * (2 ^ q * r) / 2 = 2 ^ q * r by omega, hv_more q p r]
    omega
/-- above and below -/
def drV (c : Cf) (x L day w : Nat) : Nat := if w = 0 then vvS c x (cA c) (L + 1) day 0 (cK c) / 2 ^ hv (4 * (L + 1)) (vvS c x (cA c) (L + 1) day 0 (cK c)) else 2 ^ (4 * (L + 1) - hv (4 * (L + 1)) (vvS c x (cA c) (L + 1) day 0 (cK c)))
theorem p16 (e : Nat) : 16 ^ e = 2 ^ (4 * e) := by
  rw [show (16 : Nat) = 2 ^ 4 from rfl, ← Nat.pow_mul]
theorem drV_min {c : Cf} {x L day w : Nat} : drV c x (if day < L then day else L) day w = drV c x L day w := by
  by_cases q : day < L
  · rw [if_pos q]
    obtain ⟨e, rfl⟩ : ∃ e, L = day + e := ⟨L - day, by omega⟩
    unfold drV
    have ev : vvS c x (cA c) (day + e + 1) day 0 (cK c) = 2 ^ (4 * e) * vvS c x (cA c) (day + 1) day 0 (cK c) := by
      rw [show day + e + 1 = day + 1 + e by omega, vv_more, p16]
    rw [ev, show 4 * (day + e + 1) = 4 * (day + 1) + 4 * e by omega, hv_more]
    by_cases z : w = 0
    · rw [if_pos z, if_pos z, Nat.pow_add, Nat.mul_comm (2 ^ hv _ _) (2 ^ (4 * e)), Nat.mul_div_mul_left _ _ (Nat.two_pow_pos _)]
    · rw [if_neg z, if_neg z]
      congr 1
      omega
  · rw [if_neg q]
theorem mates_ok {t : Nat} {S : Sg} {c : Cf} (hB : Bd t S c) (hS : Stl t S c) (hP : ∀ k, k < cN c → cP c k = true) {d : Nat} : fX0_withMates t (ps (fun k => able c k d)) S = some (ps (fun k => exB (fun j => able c j d && (cP c k && (cC c k == cC c j))) (cN c)), S) := by
  obtain ⟨h1, h2, h3⟩ := hB
  have key : lp (bX0_withMates_4 t (ps (fun k => able c k d))) fl (ps (fun k => exB (fun j => able c j d && (cP c k && (cC c k == cC c j))) 0), nI 0) S = some ((ps (fun k => exB (fun j => able c j d && (cP c k && (cC c k == cC c j))) (cN c)), nI (cN c)), S) := by
    refine lp_fl (fun i => (ps (fun k => exB (fun j => able c j d && (cP c k && (cC c k == cC c j))) i), nI i)) (fun _ => S) (cN c) (by omega) (fun i hi rec => ?_) (fun rec => ?_)
    · have hm := hS.1 i hi (hP i hi)
      cases ha : able c i d with
      | true =>
        have hor : ps (fun k => exB (fun j => able c j d && (cP c k && (cC c k == cC c j))) i) ||| ps (fun k => cP c k && (cC c k == cC c i)) = ps (fun k => exB (fun j => able c j d && (cP c k && (cC c k == cC c j))) (i + 1)) := by
          rw [ps_or]
          exact ps_cong (fun k _ => by rw [exB, ha, Bool.true_and])
        generalize ps (fun k => exB (fun j => able c j d && (cP c k && (cC c k == cC c j))) (i + 1)) = Z at hor ⊢
        generalize ps (fun k => exB (fun j => able c j d && (cP c k && (cC c k == cC c j))) i) = Y at hor ⊢
        simp (disch := omega) only [bX0_withMates_4, bdq, gd_ix, lit_0, lit_1, lit_2, lit_3, lit_4, lit_5, lit_6, lit_7, lit_8, lit_9, lit_10, lit_15, lit_16, lit_19, lit_20, lit_31, lit_35, lit_36, lit_48, lit_49, lit_53, lit_55, lit_57, lit_59, lit_60, lit_63, lit_64, lit_97, lit_102, lit_110, lit_160, lit_255, nI_add, ns_sub, ns_div, ns_le, ns_lt, ns_eq, ns_cl, pk_mul, ne10, eq_self, ↓reduceIte, h2, has_ok, ha, hm, hor, show ¬ cN c ≤ i from by omega]
      | false =>
        have hsk : ps (fun k => exB (fun j => able c j d && (cP c k && (cC c k == cC c j))) (i + 1)) = ps (fun k => exB (fun j => able c j d && (cP c k && (cC c k == cC c j))) i) := ps_cong (fun k _ => by rw [exB, ha, Bool.false_and, Bool.or_false])
        rw [hsk]
        generalize ps (fun k => exB (fun j => able c j d && (cP c k && (cC c k == cC c j))) i) = Y
        simp (disch := omega) only [bX0_withMates_4, bdq, gd_ix, lit_0, lit_1, lit_2, lit_3, lit_4, lit_5, lit_6, lit_7, lit_8, lit_9, lit_10, lit_15, lit_16, lit_19, lit_20, lit_31, lit_35, lit_36, lit_48, lit_49, lit_53, lit_55, lit_57, lit_59, lit_60, lit_63, lit_64, lit_97, lit_102, lit_110, lit_160, lit_255, nI_add, ns_sub, ns_div, ns_le, ns_lt, ns_eq, ns_cl, pk_mul, ne10, eq_self, ↓reduceIte, h2, has_ok, ha, Bool.false_eq_true, show ¬ cN c ≤ i from by omega]
    · generalize ps (fun k => exB (fun j => able c j d && (cP c k && (cC c k == cC c j))) (cN c)) = Y
      simp (disch := omega) only [bX0_withMates_4, bdq, gd_ix, lit_0, lit_1, lit_2, lit_3, lit_4, lit_5, lit_6, lit_7, lit_8, lit_9, lit_10, lit_15, lit_16, lit_19, lit_20, lit_31, lit_35, lit_36, lit_48, lit_49, lit_53, lit_55, lit_57, lit_59, lit_60, lit_63, lit_64, lit_97, lit_102, lit_110, lit_160, lit_255, nI_add, ns_sub, ns_div, ns_le, ns_lt, ns_eq, ns_cl, pk_mul, ne10, eq_self, ↓reduceIte, h2, Nat.le_refl]
  have e0 : ps (fun k => exB (fun j => able c j d && (cP c k && (cC c k == cC c j))) 0) = nI 0 := ps_eq0.mpr (fun _ _ => rfl)
  rw [e0] at key
  unfold fX0_withMates
  rw [lit_0, key, bd_some]
