/-! what stands on a cell -/
theorem now_1 {c : Cf} {k d : Nat} (h : now c k d = 1) : cP c k = true ∧ cD c k ≤ d ∧ gone c k d = false := by
  unfold now at h
  by_cases h1 : cP c k = false ∨ d < cD c k
  · rw [if_pos h1] at h; omega
  · rw [if_neg h1] at h
    refine ⟨?_, by omega, ?_⟩
    · cases q : cP c k with
      | true => rfl
      | false => exact absurd (Or.inl q) h1
    · cases q : gone c k d with
      | false => rfl
      | true => rw [if_pos q] at h; omega
theorem now_lt {c : Cf} (hP : ∀ k, cP c k = true → k < cN c) {k d : Nat} (h : ¬ now c k d = 0) : k < cN c := by
  cases q : cP c k with
  | true => exact hP k q
  | false => exact absurd (now_nP q) h
theorem wr_gone {c : Cf} {d k j : Nat} (hj : j < cN c) (h1 : now c k d = 1) (h2 : now c j d = 1) (hc : cC c k = cC c j) (hl : cD c k < cD c j ∨ (cD c j = cD c k ∧ k < j)) : False := by
  obtain ⟨a1, a2, a3⟩ := now_1 h1
  obtain ⟨b1, b2, b3⟩ := now_1 h2
  have : gone c k d = true := by
    unfold gone
    rw [Bool.or_eq_true]
    right
    rw [exB_iff]
    refine ⟨j, hj, ?_⟩
    rw [Bool.and_eq_true]
    refine ⟨?_, decide_eq_true b2⟩
    unfold lat
    simp only [Bool.and_eq_true, Bool.or_eq_true, beq_iff_eq, decide_eq_true_eq]
    exact ⟨⟨b1, hc.symm⟩, hl⟩
  rw [this] at a3
  cases a3
theorem wr_uniq {c : Cf} {d k j : Nat} (hk : k < cN c) (hj : j < cN c) (h1 : now c k d = 1) (h2 : now c j d = 1) (hc : cC c k = cC c j) : k = j := by
  rcases Nat.lt_trichotomy (cD c k) (cD c j) with q | q | q
  · exact (wr_gone hj h1 h2 hc (Or.inl q)).elim
  · rcases Nat.lt_trichotomy k j with z | z | z
    · exact (wr_gone hj h1 h2 hc (Or.inr ⟨q.symm, z⟩)).elim
    · exact z
    · exact (wr_gone hk h2 h1 hc.symm (Or.inr ⟨q, z⟩)).elim
  · exact (wr_gone hk h2 h1 hc.symm (Or.inl q)).elim
theorem up_top {c : Cf} {d k : Nat} {s : Nat → Nat} (h : upS c d s k = true) {i : Nat} (hi : i < cN c) (hik : ¬ i = k) (hc : cC c i = cC c k) : ¬ now c i d = 1 ∧ (now c i d = 2 → s i < s k ∨ (s i = s k ∧ i < k)) := by
  unfold upS at h
  simp only [Bool.and_eq_true] at h
  have ht := h.2
  unfold top at ht
  rw [Bool.not_eq_true', exB_false] at ht
  have := ht i hi
  have e1 : (i == k) = false := beq_false_of_ne hik
  have e2 : (cC c i == cC c k) = true := by simpa using hc
  rw [e1, e2] at this
  simp only [Bool.not_false, Bool.true_and, Bool.or_eq_false_iff, Bool.and_eq_false_iff] at this
  obtain ⟨t1, t2⟩ := this
  refine ⟨by simpa using t1, fun q => ?_⟩
  rcases t2 with z | ⟨z1, z2⟩
  · rw [q] at z; cases z
  · simp only [decide_eq_false_iff_not] at z1
    rcases z2 with y | y
    · have : ¬ s i = s k := by simpa using y
      omega
    · have : ¬ k < i := by simpa using y
      by_cases w : s i = s k
      · right; omega
      · omega
theorem up_uniq {c : Cf} {d k j : Nat} (hk : k < cN c) (hj : j < cN c) (h1 : up c d k = true) (h2 : up c d j = true) (hc : cC c k = cC c j) : k = j := by
  by_cases q : k = j
  · exact q
  · exfalso
    have a := (up_top h1 hj (fun z => q z.symm) hc.symm).2 (up_2 h2)
    have b := (up_top h2 hk q hc).2 (up_2 h1)
    omega
theorem up_wr {c : Cf} {d k j : Nat} (hj : j < cN c) (h1 : up c d k = true) (h2 : now c j d = 1) (hc : cC c j = cC c k) : False := by
  by_cases q : j = k
  · subst q; have := up_2 h1; omega
  · exact (up_top h1 hj q hc).1 h2
def shp (c : Cf) (d x k : Nat) : Bool := (cC c k == x) && ((now c k d == 1) || up c d k)
/-- what stands: the sign, 6 and the sign, none -/
def shw (c : Cf) (G : Nat → Nat) (d x : Nat) : Int32 := if fa_first (shp c d x) (cN c) < cN c then (if now c (fa_first (shp c d x) (cN c)) d = 1 then nI (G (fa_first (shp c d x) (cN c))) else nI (6 + G (fa_first (shp c d x) (cN c)))) else -nI 1
theorem shp_uniq {c : Cf} {d x k j : Nat} (hk : k < cN c) (hj : j < cN c) (h1 : shp c d x k = true) (h2 : shp c d x j = true) : k = j := by
  unfold shp at h1 h2
  simp only [Bool.and_eq_true, Bool.or_eq_true, beq_iff_eq] at h1 h2
  have hc : cC c k = cC c j := h1.1.trans h2.1.symm
  rcases h1.2 with a | a
  · rcases h2.2 with b | b
    · exact wr_uniq hk hj a b hc
    · exact (up_wr hk b a hc).elim
  · rcases h2.2 with b | b
    · exact (up_wr hj a b hc.symm).elim
    · exact up_uniq hk hj a b hc
theorem first_of {p : Nat → Bool} {n k : Nat} (hk : k < n) (h : p k = true) (hu : ∀ j, j < n → p j = true → j = k) : fa_first p n = k := by
  have hl := fa_first_le p n
  by_cases q : fa_first p n < n
  · exact hu _ q (fa_first_yes p n q)
  · have := fa_first_no p n k (by omega)
    rw [this] at h; cases h
theorem first_none {p : Nat → Bool} {n : Nat} (h : ∀ k, k < n → p k = false) : ¬ fa_first p n < n := by
  intro q
  have := fa_first_yes p n q
  rw [h _ q] at this
  cases this
theorem shw_w {c : Cf} {G : Nat → Nat} {d x k : Nat} (hk : k < cN c) (hx : cC c k = x) (h : now c k d = 1) : shw c G d x = nI (G k) := by
  have hp : shp c d x k = true := by simp [shp, hx, h]
  have e := first_of hk hp (fun j hj hq => shp_uniq hj hk hq hp)
  unfold shw
  rw [e, if_pos hk, if_pos h]
theorem shw_u {c : Cf} {G : Nat → Nat} {d x k : Nat} (hk : k < cN c) (hx : cC c k = x) (h : up c d k = true) : shw c G d x = nI (6 + G k) := by
  have hp : shp c d x k = true := by simp [shp, hx, h]
  have e := first_of hk hp (fun j hj hq => shp_uniq hj hk hq hp)
  have := up_2 h
  unfold shw
  rw [e, if_pos hk, if_neg (by omega)]
theorem shw_n {c : Cf} {G : Nat → Nat} {d x : Nat} (h : ∀ k, k < cN c → shp c d x k = false) : shw c G d x = -nI 1 := by
  unfold shw
  rw [if_neg (first_none h)]
def srp (c : Cf) (d x k : Nat) : Bool := (cC c k == x) && up c d k
/-- the sign that has come up; 6 if none has -/
def sr (c : Cf) (G : Nat → Nat) (d x : Nat) : Nat := if fa_first (srp c d x) (cN c) < cN c then G (fa_first (srp c d x) (cN c)) else 6
theorem sr_u {c : Cf} {G : Nat → Nat} {d x k : Nat} (hk : k < cN c) (hx : cC c k = x) (h : up c d k = true) : sr c G d x = G k := by
  have hp : srp c d x k = true := by simp [srp, hx, h]
  have e := first_of hk hp (fun j hj hq => by
    unfold srp at hq
    simp only [Bool.and_eq_true, beq_iff_eq] at hq
    exact up_uniq hj hk hq.2 h (hq.1.trans hx.symm))
  unfold sr
  rw [e, if_pos hk]
theorem sr_n {c : Cf} {G : Nat → Nat} {d x : Nat} (h : ∀ k, k < cN c → srp c d x k = false) : sr c G d x = 6 := by
  unfold sr
  rw [if_neg (first_none h)]
theorem sr_le {c : Cf} {G : Nat → Nat} {d x : Nat} (hG : ∀ k, k < cN c → G k ≤ 5) : sr c G d x ≤ 6 := by
  unfold sr
  split
  · have := hG _ (by assumption); omega
  · omega
theorem sr_cong {c e : Cf} {G H : Nat → Nat} {d x : Nat} (hn : cN c = cN e) (h : ∀ k, k < cN c → (srp c d x k = srp e d x k ∧ (srp c d x k = true → G k = H k))) (hu : ∀ k, k < cN c → srp c d x k = true → up c d k = true) : sr c G d x = sr e H d x := by
  by_cases q : ∃ k, k < cN c ∧ srp c d x k = true
  · obtain ⟨k, hk, hp⟩ := q
    have h1 := hp
    have h2 : srp e d x k = true := by rw [← (h k hk).1]; exact hp
    unfold srp at h1 h2
    simp only [Bool.and_eq_true, beq_iff_eq] at h1 h2
    rw [sr_u hk h1.1 h1.2, sr_u (by omega) h2.1 h2.2]
    exact (h k hk).2 hp
  · have z : ∀ k, k < cN c → srp c d x k = false := fun k hk => by
      cases y : srp c d x k with
      | false => rfl
      | true => exact absurd ⟨k, hk, y⟩ q
    rw [sr_n z, sr_n (fun k hk => by rw [← (h k (by omega)).1]; exact z k (by omega))]
theorem sr_shw {c : Cf} {G : Nat → Nat} {d x : Nat} (hG : ∀ k, k < cN c → G k ≤ 5) : (if shw c G d x ≤ nI 5 then nI 6 else shw c G d x - nI 6) = nI (sr c G d x) := by
  by_cases q : ∃ k, k < cN c ∧ shp c d x k = true
  · obtain ⟨k, hk, hp⟩ := q
    unfold shp at hp
    simp only [Bool.and_eq_true, Bool.or_eq_true, beq_iff_eq] at hp
    have h5 := hG k hk
    rcases hp.2 with a | a
    · rw [shw_w hk hp.1 a, if_pos (by rw [ns_le (by omega) (by omega)]; omega), sr_n (fun j hj => by
        cases y : srp c d x j with
        | false => rfl
        | true =>
          unfold srp at y
          simp only [Bool.and_eq_true, beq_iff_eq] at y
          exact (up_wr hk y.2 a (hp.1.trans y.1.symm)).elim)]
    · rw [shw_u hk hp.1 a, if_neg (by rw [ns_le (by omega) (by omega)]; omega), sr_u hk hp.1 a, ns_sub (by omega)]
      congr 1
      omega
  · have z : ∀ k, k < cN c → shp c d x k = false := fun k hk => by
      cases y : shp c d x k with
      | false => rfl
      | true => exact absurd ⟨k, hk, y⟩ q
    rw [shw_n z, if_pos (by decide), sr_n (fun k hk => by
      have := z k hk
      unfold shp at this
      unfold srp
      cases h1 : (cC c k == x) with
      | false => rfl
      | true =>
        rw [h1, Bool.true_and, Bool.or_eq_false_iff] at this
        rw [Bool.true_and]
        exact this.2)]
/-- the class -/
def sgB (t : Nat) (S : Sg) (c : Cf) (G : Nat → Nat) : Prop := ∀ k, k < cN c → S.1 (t + 3) k = nI (G k)
theorem shownOn_ok {t : Nat} {S : Sg} {c : Cf} {G : Nat → Nat} (hB : Bd t S c) (hS : Stl t S c) (hG : sgB t S c G) {d x : Nat} (hd : d < 20) (hx : x < 36) : fX0_shownOn t (nI d) (nI x) (ps (fun k => up c d k)) S = some (shw c G d x, S) := by
  obtain ⟨h1, h2, h3⟩ := hB
  have w6 := (hS.2 d hd).1
  obtain ⟨r, S', e1, rfl, hQ⟩ := lp_invF (B := bX0_shownOn_3 t (nI d) (nI x) (ps (fun k => up c d k))) (fun i a S1 => S1 = S ∧ a = nI i ∧ ∀ k, k < i → shp c d x k = false) (fun r S1 => S1 = S ∧ (r = Sum.inr (shw c G d x) ∨ (∃ y, r = Sum.inl y ∧ shw c G d x = -nI 1))) (cN c) (by omega) (by
    rintro i a S1 hi ⟨rfl, rfl, hr⟩
    by_cases hin : i < cN c
    · obtain ⟨k1, k2, k3, k4, -⟩ := h3 i hin
      have hg := hG i hin
      by_cases c1 : cC c i = x
      · by_cases c2 : now c i d = 1
        · refine Or.inr ⟨Sum.inr (nI (G i)), S1, fun rec => ?_, rfl, Or.inl (by rw [shw_w hin c1 c2])⟩
          simp (disch := omega) only [bX0_shownOn_3, h2, bd_some, gd_ix, lit_0, lit_1, lit_2, lit_3, lit_4, lit_5, lit_6, lit_7, lit_8, lit_9, lit_10, lit_15, lit_16, lit_19, lit_20, lit_31, lit_35, lit_36, lit_48, lit_49, lit_53, lit_55, lit_57, lit_59, lit_60, lit_63, lit_64, lit_97, lit_102, lit_110, lit_160, lit_255, nI_add, ns_sub, ns_div, ns_le, ns_lt, ns_eq, ns_cl, pk_mul, ne10, eq_self, ↓reduceIte, k3, c1, w6, has_ok, c2, BEq.rfl, hg, show ¬ cN c ≤ i from by omega]
        · have c2' : (now c i d == 1) = false := beq_false_of_ne c2
          cases c3 : up c d i with
          | true =>
            refine Or.inr ⟨Sum.inr (nI (6 + G i)), S1, fun rec => ?_, rfl, Or.inl (by rw [shw_u hin c1 c3])⟩
            simp (disch := omega) only [bX0_shownOn_3, h2, bd_some, gd_ix, lit_0, lit_1, lit_2, lit_3, lit_4, lit_5, lit_6, lit_7, lit_8, lit_9, lit_10, lit_15, lit_16, lit_19, lit_20, lit_31, lit_35, lit_36, lit_48, lit_49, lit_53, lit_55, lit_57, lit_59, lit_60, lit_63, lit_64, lit_97, lit_102, lit_110, lit_160, lit_255, nI_add, ns_sub, ns_div, ns_le, ns_lt, ns_eq, ns_cl, pk_mul, ne10, eq_self, ↓reduceIte, k3, c1, w6, has_ok, c2', c3, Bool.false_eq_true, hg, show ¬ cN c ≤ i from by omega]
          | false =>
            refine Or.inl ⟨hin, nI (i + 1), S1, fun rec => ?_, rfl, rfl, fun k hk => ?_⟩
            · simp (disch := omega) only [bX0_shownOn_3, h2, bd_some, gd_ix, lit_0, lit_1, lit_2, lit_3, lit_4, lit_5, lit_6, lit_7, lit_8, lit_9, lit_10, lit_15, lit_16, lit_19, lit_20, lit_31, lit_35, lit_36, lit_48, lit_49, lit_53, lit_55, lit_57, lit_59, lit_60, lit_63, lit_64, lit_97, lit_102, lit_110, lit_160, lit_255, nI_add, ns_sub, ns_div, ns_le, ns_lt, ns_eq, ns_cl, pk_mul, ne10, eq_self, ↓reduceIte, k3, c1, w6, has_ok, c2', c3, Bool.false_eq_true, show ¬ cN c ≤ i from by omega]
            · by_cases q : k = i
              · subst q; simp [shp, c2', c3]
              · exact hr k (by omega)
      · refine Or.inl ⟨hin, nI (i + 1), S1, fun rec => ?_, rfl, rfl, fun k hk => ?_⟩
        · simp (disch := omega) only [bX0_shownOn_3, h2, bd_some, gd_ix, lit_0, lit_1, lit_2, lit_3, lit_4, lit_5, lit_6, lit_7, lit_8, lit_9, lit_10, lit_15, lit_16, lit_19, lit_20, lit_31, lit_35, lit_36, lit_48, lit_49, lit_53, lit_55, lit_57, lit_59, lit_60, lit_63, lit_64, lit_97, lit_102, lit_110, lit_160, lit_255, nI_add, ns_sub, ns_div, ns_le, ns_lt, ns_eq, ns_cl, pk_mul, ne10, eq_self, ↓reduceIte, k3, c1, show ¬ cN c ≤ i from by omega]
        · by_cases q : k = i
          · subst q; simp [shp, c1]
          · exact hr k (by omega)
    · have hin2 : i = cN c := by omega
      subst hin2
      refine Or.inr ⟨Sum.inl (nI (cN c)), S1, fun rec => ?_, rfl, Or.inr ⟨_, rfl, shw_n hr⟩⟩
      simp (disch := omega) only [bX0_shownOn_3, h2, bd_some, gd_ix, lit_0, lit_1, lit_2, lit_3, lit_4, lit_5, lit_6, lit_7, lit_8, lit_9, lit_10, lit_15, lit_16, lit_19, lit_20, lit_31, lit_35, lit_36, lit_48, lit_49, lit_53, lit_55, lit_57, lit_59, lit_60, lit_63, lit_64, lit_97, lit_102, lit_110, lit_160, lit_255, nI_add, ns_sub, ns_div, ns_le, ns_lt, ns_eq, ns_cl, pk_mul, ne10, eq_self, ↓reduceIte, Nat.le_refl]) (nI 0) S ⟨rfl, rfl, fun k hk => absurd hk (by omega)⟩
  unfold fX0_shownOn
  rw [lit_0, e1, bd_some]
  rcases hQ with rfl | ⟨y, rfl, hy⟩
  · rfl
  · rw [hy]; rfl
theorem signRisen_ok {t : Nat} {S : Sg} {c b : Cf} {G : Nat → Nat} (hB : Bd t S b) (hbN : cN b = cN c) (hbC : ∀ k, k < cN c → cC b k = cC c k) (hG : sgB t S c G) {d x : Nat} (hx : x < 36) : fX0_signRisen t (nI x) (ps (fun k => up c d k)) S = some (nI (sr c G d x), S) := by
  obtain ⟨h1, h2, h3⟩ := hB
  rw [hbN] at h1 h2 h3
  obtain ⟨r, S', e1, rfl, hQ⟩ := lp_invF (B := bX0_signRisen_2 t (nI x) (ps (fun k => up c d k))) (fun i a S1 => S1 = S ∧ a = nI i ∧ ∀ k, k < i → srp c d x k = false) (fun r S1 => S1 = S ∧ (r = Sum.inr (nI (sr c G d x)) ∨ (∃ y, r = Sum.inl y ∧ sr c G d x = 6))) (cN c) (by omega) (by
    rintro i a S1 hi ⟨rfl, rfl, hr⟩
    by_cases hin : i < cN c
    · obtain ⟨k1, k2, k3, k4, -⟩ := h3 i hin
      rw [hbC i hin] at k3 k4
      have hg := hG i hin
      by_cases c1 : cC c i = x
      · cases c3 : up c d i with
        | true =>
          refine Or.inr ⟨Sum.inr (nI (G i)), S1, fun rec => ?_, rfl, Or.inl (by rw [sr_u hin c1 c3])⟩
          simp (disch := omega) only [bX0_signRisen_2, h2, bd_some, gd_ix, lit_0, lit_1, lit_2, lit_3, lit_4, lit_5, lit_6, lit_7, lit_8, lit_9, lit_10, lit_15, lit_16, lit_19, lit_20, lit_31, lit_35, lit_36, lit_48, lit_49, lit_53, lit_55, lit_57, lit_59, lit_60, lit_63, lit_64, lit_97, lit_102, lit_110, lit_160, lit_255, nI_add, ns_sub, ns_div, ns_le, ns_lt, ns_eq, ns_cl, pk_mul, ne10, eq_self, ↓reduceIte, k3, c1, has_ok, c3, hg, show ¬ cN c ≤ i from by omega]
        | false =>
          refine Or.inl ⟨hin, nI (i + 1), S1, fun rec => ?_, rfl, rfl, fun k hk => ?_⟩
          · simp (disch := omega) only [bX0_signRisen_2, h2, bd_some, gd_ix, lit_0, lit_1, lit_2, lit_3, lit_4, lit_5, lit_6, lit_7, lit_8, lit_9, lit_10, lit_15, lit_16, lit_19, lit_20, lit_31, lit_35, lit_36, lit_48, lit_49, lit_53, lit_55, lit_57, lit_59, lit_60, lit_63, lit_64, lit_97, lit_102, lit_110, lit_160, lit_255, nI_add, ns_sub, ns_div, ns_le, ns_lt, ns_eq, ns_cl, pk_mul, ne10, eq_self, ↓reduceIte, k3, c1, has_ok, c3, Bool.false_eq_true, show ¬ cN c ≤ i from by omega]
          · by_cases q : k = i
            · subst q; simp [srp, c3]
            · exact hr k (by omega)
      · refine Or.inl ⟨hin, nI (i + 1), S1, fun rec => ?_, rfl, rfl, fun k hk => ?_⟩
        · simp (disch := omega) only [bX0_signRisen_2, h2, bd_some, gd_ix, lit_0, lit_1, lit_2, lit_3, lit_4, lit_5, lit_6, lit_7, lit_8, lit_9, lit_10, lit_15, lit_16, lit_19, lit_20, lit_31, lit_35, lit_36, lit_48, lit_49, lit_53, lit_55, lit_57, lit_59, lit_60, lit_63, lit_64, lit_97, lit_102, lit_110, lit_160, lit_255, nI_add, ns_sub, ns_div, ns_le, ns_lt, ns_eq, ns_cl, pk_mul, ne10, eq_self, ↓reduceIte, k3, c1, show ¬ cN c ≤ i from by omega]
        · by_cases q : k = i
          · subst q; simp [srp, c1]
          · exact hr k (by omega)
    · have hin2 : i = cN c := by omega
      subst hin2
      refine Or.inr ⟨Sum.inl (nI (cN c)), S1, fun rec => ?_, rfl, Or.inr ⟨_, rfl, sr_n hr⟩⟩
      simp (disch := omega) only [bX0_signRisen_2, h2, bd_some, gd_ix, lit_0, lit_1, lit_2, lit_3, lit_4, lit_5, lit_6, lit_7, lit_8, lit_9, lit_10, lit_15, lit_16, lit_19, lit_20, lit_31, lit_35, lit_36, lit_48, lit_49, lit_53, lit_55, lit_57, lit_59, lit_60, lit_63, lit_64, lit_97, lit_102, lit_110, lit_160, lit_255, nI_add, ns_sub, ns_div, ns_le, ns_lt, ns_eq, ns_cl, pk_mul, ne10, eq_self, ↓reduceIte, Nat.le_refl]) (nI 0) S ⟨rfl, rfl, fun k hk => absurd hk (by omega)⟩
  unfold fX0_signRisen
  rw [lit_0, e1, bd_some]
  rcases hQ with rfl | ⟨y, rfl, hy⟩
  · rfl
  · rw [hy]; rfl
/-- the reference -/
theorem standsNow_ok {S : Sg} {c : Cf} {G : Nat → Nat} (h04 : S.1 0 4 = nI (cN c)) (h8 : cN c ≤ 8) (h5 : ∀ k, k < cN c → S.1 5 k = nI (cC c k) ∧ cC c k < 36) (hG : ∀ k, k < cN c → S.1 6 k = nI (G k)) {d x : Nat} (hR : Rd S c d) (hd : d < 20) (hx : x < 36) : fX9_standsNow (nI d) (nI x) S = some (shw c G d x, S) := by
  obtain ⟨a, S', e1, rfl, y, rfl, hQ⟩ := lp_invF (B := bX9_standsNow_5 (nI d) (nI x)) (fun i a S1 => S1 = S ∧ a.2 = nI i ∧ ((a.1 = shw c G d x ∧ ∃ k, k < cN c ∧ shp c d x k = true) ∨ (a.1 = -nI 1 ∧ ∀ k, k < i → shp c d x k = false))) (fun a S1 => S1 = S ∧ ∃ y, a = (y, nI (cN c)) ∧ y = shw c G d x) (cN c) (by omega) (by
    rintro i ⟨a1, a2⟩ S1 hi ⟨rfl, rfl, hI⟩
    by_cases hin : i < cN c
    · refine Or.inl ⟨hin, ?_⟩
      obtain ⟨k3, k4⟩ := h5 i hin
      have hg := hG i hin
      have w16 := (hR.2 i hin).1
      have hn2 := now_le (c := c) (k := i) (d := d)
      by_cases c1 : cC c i = x
      · cases c3 : up c d i with
        | true =>
          rw [c3] at w16
          refine ⟨(nI (6 + G i), nI (i + 1)), S1, fun rec => ?_, rfl, rfl, Or.inl ⟨(shw_u hin c1 c3).symm, i, hin, by simp [shp, c1, c3]⟩⟩
          simp (disch := omega) only [bX9_standsNow_5, h04, bd_some, gd_ix, lit_0, lit_1, lit_2, lit_3, lit_4, lit_5, lit_6, lit_7, lit_8, lit_9, lit_10, lit_15, lit_16, lit_19, lit_20, lit_31, lit_35, lit_36, lit_48, lit_49, lit_53, lit_55, lit_57, lit_59, lit_60, lit_63, lit_64, lit_97, lit_102, lit_110, lit_160, lit_255, nI_add, ns_sub, ns_div, ns_le, ns_lt, ns_eq, ns_cl, pk_mul, ne10, eq_self, ↓reduceIte, k3, c1, w16, Nat.reduceEqDiff, hg, show ¬ cN c ≤ i from by omega]
        | false =>
          rw [c3] at w16
          simp only [Bool.false_eq_true, if_false] at w16
          by_cases c2 : now c i d = 1
          · rw [c2] at w16
            refine ⟨(nI (G i), nI (i + 1)), S1, fun rec => ?_, rfl, rfl, Or.inl ⟨(shw_w hin c1 c2).symm, i, hin, by simp [shp, c1, c2]⟩⟩
            simp (disch := omega) only [bX9_standsNow_5, h04, bd_some, gd_ix, lit_0, lit_1, lit_2, lit_3, lit_4, lit_5, lit_6, lit_7, lit_8, lit_9, lit_10, lit_15, lit_16, lit_19, lit_20, lit_31, lit_35, lit_36, lit_48, lit_49, lit_53, lit_55, lit_57, lit_59, lit_60, lit_63, lit_64, lit_97, lit_102, lit_110, lit_160, lit_255, nI_add, ns_sub, ns_div, ns_le, ns_lt, ns_eq, ns_cl, pk_mul, ne10, eq_self, ↓reduceIte, k3, c1, w16, hg, show ¬ cN c ≤ i from by omega]
          · refine ⟨(a1, nI (i + 1)), S1, fun rec => ?_, rfl, rfl, ?_⟩
            · simp (disch := omega) only [bX9_standsNow_5, h04, bd_some, gd_ix, lit_0, lit_1, lit_2, lit_3, lit_4, lit_5, lit_6, lit_7, lit_8, lit_9, lit_10, lit_15, lit_16, lit_19, lit_20, lit_31, lit_35, lit_36, lit_48, lit_49, lit_53, lit_55, lit_57, lit_59, lit_60, lit_63, lit_64, lit_97, lit_102, lit_110, lit_160, lit_255, nI_add, ns_sub, ns_div, ns_le, ns_lt, ns_eq, ns_cl, pk_mul, ne10, eq_self, ↓reduceIte, k3, c1, w16, c2, show ¬ now c i d = 3 from by omega, show ¬ cN c ≤ i from by omega]
            · rcases hI with z | ⟨z1, z2⟩
              · exact Or.inl z
              · refine Or.inr ⟨z1, fun k hk => ?_⟩
                by_cases q : k = i
                · subst q; simp [shp, c2, c3]
                · exact z2 k (by omega)
      · refine ⟨(a1, nI (i + 1)), S1, fun rec => ?_, rfl, rfl, ?_⟩
        · simp (disch := omega) only [bX9_standsNow_5, h04, bd_some, gd_ix, lit_0, lit_1, lit_2, lit_3, lit_4, lit_5, lit_6, lit_7, lit_8, lit_9, lit_10, lit_15, lit_16, lit_19, lit_20, lit_31, lit_35, lit_36, lit_48, lit_49, lit_53, lit_55, lit_57, lit_59, lit_60, lit_63, lit_64, lit_97, lit_102, lit_110, lit_160, lit_255, nI_add, ns_sub, ns_div, ns_le, ns_lt, ns_eq, ns_cl, pk_mul, ne10, eq_self, ↓reduceIte, k3, c1, show ¬ cN c ≤ i from by omega]
        · rcases hI with z | ⟨z1, z2⟩
          · exact Or.inl z
          · refine Or.inr ⟨z1, fun k hk => ?_⟩
            by_cases q : k = i
            · subst q; simp [shp, c1]
            · exact z2 k (by omega)
    · have hin2 : i = cN c := by omega
      subst hin2
      refine Or.inr ⟨(a1, nI (cN c)), S1, fun rec => ?_, rfl, a1, rfl, ?_⟩
      · simp (disch := omega) only [bX9_standsNow_5, h04, bd_some, gd_ix, lit_0, lit_1, lit_2, lit_3, lit_4, lit_5, lit_6, lit_7, lit_8, lit_9, lit_10, lit_15, lit_16, lit_19, lit_20, lit_31, lit_35, lit_36, lit_48, lit_49, lit_53, lit_55, lit_57, lit_59, lit_60, lit_63, lit_64, lit_97, lit_102, lit_110, lit_160, lit_255, nI_add, ns_sub, ns_div, ns_le, ns_lt, ns_eq, ns_cl, pk_mul, ne10, eq_self, ↓reduceIte, Nat.le_refl]
      · rcases hI with z | ⟨z1, z2⟩
        · exact z.1
        · rw [shw_n z2]; exact z1) (-nI 1, nI 0) S ⟨rfl, rfl, Or.inr ⟨rfl, fun k hk => absurd hk (by omega)⟩⟩
  unfold fX9_standsNow
  have e1' : lp (bX9_standsNow_5 (nI d) (nI x)) fl (-1, 0) S' = some ((y, nI (cN c)), S') := e1
  rw [e1', bd_some, hQ]
