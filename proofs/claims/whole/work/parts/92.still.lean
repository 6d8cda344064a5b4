/-! dry days by chance: the class's count of cases -/
def pkS (c : Cf) (s : Nat → Nat) : Int32 := pk (fun k => if k < cN c then s k else 0)
def invS (c : Cf) (d : Nat) (s : Nat → Nat) : Prop := ∀ k, k < cN c → s k ≤ 9 ∧ (¬ now c k d = 2 → s k = cK c k)
theorem upS_n {c : Cf} {d k : Nat} {s : Nat → Nat} (h : upS c d s k = true) : now c k d = 2 := able_now (up_able h)
theorem upS_0 {c : Cf} {d k : Nat} {s : Nat → Nat} (hs : s k ≤ 9) : upS (uA c (fun _ => 0)) d s k = false := by
  cases h : upS (uA c (fun _ => 0)) d s k with
  | false => rfl
  | true =>
    exfalso
    unfold upS at h
    simp only [Bool.and_eq_true, decide_eq_true_eq] at h
    have h2 : 10 ≤ s k + 0 := h.1.1.2
    omega
theorem nx_val {c : Cf} {d a : Nat} {s : Nat → Nat} (hP : ∀ k, cP c k = true → k < cN c) (hi : invS c d s) (k : Nat) : (if k < cN c then s k else 0) + (if upS (uA c (fun _ => a)) d s k = true ∧ (if k < cN c then s k else 0) < 9 then 1 else 0) - (if (decide (a < cF c) && ((now c k d == 2) && !(upS (uA c (fun _ => a)) d s k))) = true ∧ 0 < (if k < cN c then s k else 0) then 1 else 0) = if k < cN c then nxS c d a s k else 0 := by
  by_cases hk : k < cN c
  · simp only [hk, if_true]
    obtain ⟨h9, h0⟩ := hi k hk
    unfold nxS
    by_cases h2 : now c k d = 2
    · rw [if_pos h2]
      show _ = (if upS (uA c (fun _ => a)) d s k = true then (if s k < 9 then s k + 1 else s k) else if a < cF c then s k - 1 else s k)
      cases hu : upS (uA c (fun _ => a)) d s k with
      | true =>
        simp [h2]
        split <;> omega
      | false =>
        simp only [Bool.false_eq_true, false_and, ↓reduceIte, h2, BEq.rfl, Bool.not_false, Bool.and_true, decide_eq_true_eq, Nat.add_zero]
        by_cases hf : a < cF c
        · simp only [hf, true_and, ↓reduceIte]
          split <;> omega
        · simp only [hf, false_and, ↓reduceIte]
          omega
    · rw [if_neg h2]
      have hu : upS (uA c (fun _ => a)) d s k = false := by
        cases h : upS (uA c (fun _ => a)) d s k with
        | false => rfl
        | true => exact absurd (upS_n h) h2
      rw [hu, ← h0 h2]
      simp [h2]
  · simp only [hk, if_false]
    have hu : upS (uA c (fun _ => a)) d s k = false := by
      cases h : upS (uA c (fun _ => a)) d s k with
      | false => rfl
      | true =>
        have h1 : now c k d = 2 := upS_n (c := uA c (fun _ => a)) h
        exact absurd (now_lt hP (k := k) (d := d) (by omega)) hk
    rw [hu]
    simp
theorem inv_nx {c : Cf} {d a : Nat} {s : Nat → Nat} (hK : ∀ k, k < cN c → cK c k ≤ 9) (hi : invS c d s) : invS c (d + 1) (nxS c d a s) := fun k hk => by
  obtain ⟨h9, h0⟩ := hi k hk
  unfold nxS
  by_cases h2 : now c k d = 2
  · rw [if_pos h2]
    refine ⟨?_, fun q => absurd (now2_mono h2) q⟩
    unfold adj
    split
    · split <;> omega
    · split <;> omega
  · rw [if_neg h2]
    exact ⟨hK k hk, fun _ => rfl⟩
theorem upS_congS {c : Cf} {d k : Nat} {s t : Nat → Nat} (h : ∀ i, i < cN c → s i = t i) (hk : k < cN c) : upS c d s k = upS c d t k := by
  unfold upS top
  rw [h k hk]
  congr 2
  exact exB_cong (fun i hi => by rw [h i hi])
theorem nx_congS {c : Cf} {d a : Nat} {s t : Nat → Nat} (h : ∀ i, i < cN c → s i = t i) : ∀ k, k < cN c → nxS c d a s k = nxS c d a t k := fun k hk => by
  unfold nxS adj
  rw [upS_congS (c := uA c (fun _ => a)) h hk, h k hk]
theorem noUp_congS {c : Cf} {d a : Nat} {s t : Nat → Nat} (h : ∀ i, i < cN c → s i = t i) : noUp c d a s = noUp c d a t := by
  unfold noUp
  rw [exB_cong (n := cN c) (p := fun k => upS (uA c (fun _ => a)) d s k) (q := fun k => upS (uA c (fun _ => a)) d t k) (fun i hi => upS_congS (c := uA c (fun _ => a)) h hi)]
theorem stil_congS {c : Cf} {g : Nat → Nat} : ∀ m d s t, (∀ i, i < cN c → s i = t i) → stil c g m d s = stil c g m d t
  | 0, d, s, t, h => by rw [stil_0, stil_0, noUp_congS h]
  | m + 1, d, s, t, h => by rw [stil_s, stil_s]; exact stil_congS m (d + 1) _ _ (nx_congS h)
theorem vv_congS {c : Cf} {x : Nat} {a : Nat → Nat} : ∀ n m d s t, (∀ i, i < cN c → s i = t i) → vvS c x a n m d s = vvS c x a n m d t
  | 0, m, d, s, t, h => by rw [vv_0, vv_0, stil_congS m d s t h]
  | n + 1, 0, d, s, t, h => by rw [vv_s0, vv_s0, noUp_congS h, noUp_congS h]
  | n + 1, m + 1, d, s, t, h => by rw [vv_ss, vv_ss, vv_congS n m (d + 1) _ _ (nx_congS h), vv_congS n m (d + 1) _ _ (nx_congS h)]
theorem noUp_0 {c : Cf} {d : Nat} {s : Nat → Nat} (hi : invS c d s) : noUp c d 0 s = true := by
  unfold noUp
  rw [exB_false.mpr (fun k hk => upS_0 (hi k hk).1)]
  rfl
theorem risenA_ok {t : Nat} {S : Sg} {c : Cf} (hB : Bd t S c) (hS : Stl t S c) (hP : ∀ k, cP c k = true → k < cN c) {s : Nat → Nat} {d a : Nat} (hi : invS c d s) (hd : d < 20) (ha : a ≤ 9) : fX0_risenOn t (nI d) (nI a) (pkS c s) S = some (ps (fun k => upS (uA c (fun _ => a)) d s k), S) :=
  risenOn_ok (c := uA c (fun _ => a)) hB hS hP (fun k hk => (hi k hk).1) hd ha
theorem wetA_ok {t : Nat} {S : Sg} {c : Cf} (hS : Stl t S c) (hP : ∀ k, cP c k = true → k < cN c) {s : Nat → Nat} {d a : Nat} (hi : invS c d s) (hd : d < 20) : fX0_weathered t (nI d) (ps (fun k => upS (uA c (fun _ => a)) d s k)) (pkS c s) (if decide (a < cF c) = true then nI 1 else nI 0) S = some (pkS c (nxS c d a s), S) := by
  have h := weathered_ok hS (fun k hk => (hi k hk).1) hd (fun k => upS (uA c (fun _ => a)) d s k) (decide (a < cF c))
  rw [pk_cong (fun k _ => nx_val hP hi k)] at h
  exact h
theorem dryA_ok {t : Nat} {S : Sg} {c : Cf} (hS : Stl t S c) (hP : ∀ k, cP c k = true → k < cN c) {s : Nat → Nat} {d : Nat} (hi : invS c d s) (hd : d < 20) : fX0_weathered t (nI d) (nI 0) (pkS c s) (if decide (0 < cF c) = true then nI 1 else nI 0) S = some (pkS c (nxS c d 0 s), S) := by
  have h := wetA_ok (a := 0) hS hP hi hd
  have e : ps (fun k => upS (uA c (fun _ => 0)) d s k) = nI 0 := ps_eq0.mpr (fun k _ => by
    by_cases hk : k < cN c
    · exact upS_0 (hi k hk).1
    · cases q : upS (uA c (fun _ => 0)) d s k with
      | false => rfl
      | true =>
        have h1 : now c k d = 2 := upS_n (c := uA c (fun _ => 0)) q
        exact absurd (now_lt hP (k := k) (d := d) (by omega)) hk)
  rw [e] at h
  exact h
theorem wide16 : ∀ x, x ≤ 16 → Int32.toInt64 (nI x) = lN x ∧ Int32.toInt64 (nI 16 - nI x) = lN (16 - x) := by decide +kernel
theorem pkS_inj {c : Cf} {s t : Nat → Nat} (h8 : cN c ≤ 8) (hs : ∀ k, k < cN c → s k ≤ 9) (ht : ∀ k, k < cN c → t k ≤ 9) (h : pkS c s = pkS c t) : ∀ k, k < cN c → s k = t k := fun k hk => by
  have := pk_inj (fun k _ => by
    by_cases q : k < cN c
    · rw [if_pos q]; have := hs k q; omega
    · rw [if_neg q]; omega) (fun k _ => by
    by_cases q : k < cN c
    · rw [if_pos q]; have := ht k q; omega
    · rw [if_neg q]; omega) h k (by omega)
  rw [if_pos hk, if_pos hk] at this
  exact this
/-- what stillFrom reads -/
def chI (S : Sg) (c : Cf) (x L day : Nat) : Prop := x ≤ 16 ∧ L ≤ day ∧ day < 20 ∧ S.1 41 0 = nI x ∧ S.1 41 1 = nI L ∧ S.1 41 2 = nI day ∧ S.1 41 3 = nI (cF c) ∧ cF c ≤ 9 ∧ ∀ d, d < 20 → S.1 5 d = nI (cA c d) ∧ cA c d ≤ 9
theorem noUp_ps {c : Cf} (h8 : cN c ≤ 8) (hP : ∀ k, cP c k = true → k < cN c) {d a : Nat} {s : Nat → Nat} : (ps (fun k => upS (uA c (fun _ => a)) d s k) = nI 0) ↔ noUp c d a s = true := by
  unfold noUp
  rw [Bool.not_eq_true', exB_false]
  constructor
  · intro h k hk
    exact ps_eq0.mp h k (by omega)
  · intro h
    refine ps_eq0.mpr (fun k _ => ?_)
    by_cases hk : k < cN c
    · exact h k hk
    · cases q : upS (uA c (fun _ => a)) d s k with
      | false => rfl
      | true =>
        have h1 : now c k d = 2 := upS_n (c := uA c (fun _ => a)) q
        exact absurd (now_lt hP (k := k) (d := d) (by omega)) hk
