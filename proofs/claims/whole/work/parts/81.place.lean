/-! place -/
/-- a stroke alone on the board: of its cell only the line matters -/
theorem lat_self {c : Cf} {k : Nat} : lat c k k = false := by
  unfold lat
  simp
theorem alone_now {c e : Cf} {k : Nat} (hN : cN c = cN e) (hW : cW c = cW e) (hPc : ∀ j, cP c j = (j == k)) (hPe : ∀ j, cP e j = (j == k)) (hD : cD c k = cD e k) (hL : cC c k / 6 = cC e k / 6) (d : Nat) : now c k d = now e k d := by
  have hl : ∀ b : Cf, (∀ j, cP b j = (j == k)) → ∀ j, lat b k j = false := fun b hb j => by
    by_cases q : j = k
    · subst q; exact lat_self
    · unfold lat
      rw [hb j, beq_false_of_ne q]
      rfl
  have z : ∀ b : Cf, (∀ j, cP b j = (j == k)) → exB (fun j => lat b k j && decide (cD b j ≤ d)) (cN b) = false := fun b hb => exB_false.mpr (fun j _ => by rw [hl b hb j]; rfl)
  have hg : gone c k d = gone e k d := by
    unfold gone
    rw [z c hPc, z e hPe, hD, hW, hL]
  unfold now
  rw [hg, hPc k, hPe k, hD]
theorem alone_top {c : Cf} {k d : Nat} {s : Nat → Nat} (hP : ∀ j, cP c j = (j == k)) : top c d s k = true := by
  unfold top
  rw [Bool.not_eq_true', exB_false]
  intro i _
  by_cases q : i = k
  · subst q; simp
  · have h0 : now c i d = 0 := now_nP (by rw [hP i]; exact beq_false_of_ne q)
    rw [h0]
    simp
theorem alone_up {c e : Cf} {k : Nat} (hN : cN c = cN e) (hW : cW c = cW e) (hO : cO c = cO e) (hA : cA c = cA e) (hF : cF c = cF e) (hPc : ∀ j, cP c j = (j == k)) (hPe : ∀ j, cP e j = (j == k)) (hD : cD c k = cD e k) (hK : cK c k = cK e k) (hL : cC c k / 6 = cC e k / 6) : ∀ d, stg c d k = stg e d k ∧ up c d k = up e d k := by
  have hnow := alone_now hN hW hPc hPe hD hL
  have hup : ∀ d, stg c d k = stg e d k → upS c d (stg c d) k = upS e d (stg e d) k := fun d hs => by
    unfold upS
    rw [alone_top hPc, alone_top hPe, hnow d, hs, hA, hO, hL]
  have hst : ∀ d, stg c d k = stg e d k := by
    intro d
    induction d with
    | zero => exact hK
    | succ d ih =>
      show (if now c k d = 2 then adj c d (stg c d) k else cK c k) = (if now e k d = 2 then adj e d (stg e d) k else cK e k)
      rw [hnow d, hK]
      congr 1
      unfold adj
      rw [hup d ih, ih, hA, hF]
  exact fun d => ⟨hst d, hup d (hst d)⟩
theorem fx_uP {c : Cf} {p : Nat → Bool} : cW (uP c p) = cW c ∧ cO (uP c p) = cO c ∧ cA (uP c p) = cA c ∧ cF (uP c p) = cF c := ⟨rfl, rfl, rfl, rfl⟩
/-- k moved to x; the others there -/
theorem place_one {c : Cf} (hP : ∀ j, cP c j = decide (j < cN c)) {k x : Nat} (hk : k < cN c) (he : ∀ j, j < cN c → ¬ j = k → ¬ cC c j = x) : allU (uC c k x) = allU (uP (uC c k x) (fun j => j == k)) + allU (uP c (outX c (fun j => j == k))) := by
  have hPn : ∀ j, cP c j = true → j < cN c := fun j h => by rw [hP] at h; exact of_decide_eq_true h
  have hPy : ∀ j, j < cN c → cP c j = true := fun j h => by rw [hP]; exact decide_eq_true h
  have hcl : ∀ a j, a < cN c → j < cN c → a = k → ¬ j = k → ¬ (if j = k then x else cC c j) = (if a = k then x else cC c a) := fun a j _ hj ha hjk q => by
    rw [if_neg hjk, if_pos ha] at q
    exact he j hj hjk q
  have e1 : allU (uP (uC c k x) (fun j => j == k)) = aY (uC c k x) (fun j => j == k) := allU_in (c := uC c k x) (fun j h => by
    have : j = k := by simpa using h
    exact hPy j (by omega)) (fun j h => by
    have : j = k := by simpa using h
    show j < cN c
    omega) (fun a j ha hj hz _ => by
    have h1 : a = k := by simpa using ha
    have h2 : ¬ j = k := by simpa using hz
    have hj2 : j < cN c := hj
    exact hcl a j (by omega) hj2 h1 h2)
  have e2 : aY (uC c k x) (fun j => !(j == k)) = aY (uC c k x) (outX c (fun j => j == k)) := aY_cong (c := uC c k x) (fun j hj _ => by
    have hj2 : j < cN c := hj
    unfold outX; simp [hj2]) hPn
  have e3 : allU (uP (uC c k x) (outX c (fun j => j == k))) = aY (uC c k x) (outX c (fun j => j == k)) := allU_in (c := uC c k x) (fun j h => hPy j (outX_n h).1) (fun j h => (outX_n h).1) (fun a j ha hj hz _ => by
    have h1 : ¬ a = k := by simpa using (outX_n ha).2
    have hj2 : j < cN c := hj
    have h2 : j = k := by simpa using outX_no hz hj2
    show ¬ (if j = k then x else cC c j) = (if a = k then x else cC c a)
    rw [if_pos h2, if_neg h1]
    exact fun q => he a (outX_n ha).1 h1 q.symm)
  have e5 : allU (uP (uC c k x) (outX c (fun j => j == k))) = allU (uP c (outX c (fun j => j == k))) := allU_agree (c := uC c k x) (e := c) rfl rfl rfl rfl rfl (fun _ _ => rfl) (fun j h => by
    have h1 : ¬ j = k := by simpa using (outX_n h).2
    show (if j = k then x else cC c j) = cC c j
    rw [if_neg h1]) (fun _ _ => rfl) (fun j h => (outX_n h).1)
  rw [aY_split (c := uC c k x) (Y := fun j => j == k), e1, e2, ← e3, e5]
theorem place_same {c : Cf} (hP : ∀ j, cP c j = decide (j < cN c)) {k x y : Nat} (hk : k < cN c) (hx : ∀ j, j < cN c → ¬ j = k → ¬ cC c j = x) (hy : ∀ j, j < cN c → ¬ j = k → ¬ cC c j = y) (hl : x / 6 = y / 6) : allU (uC c k x) = allU (uC c k y) := by
  rw [place_one hP hk hx, place_one hP hk hy]
  congr 1
  refine fb_sm_cong (fun d _ => fb_ct_cong (fun j _ => ?_))
  by_cases q : j = k
  · subst q
    exact ((alone_up (c := uP (uC c j x) (fun i => i == j)) (e := uP (uC c j y) (fun i => i == j)) rfl rfl rfl rfl rfl (fun _ => rfl) (fun _ => rfl) rfl rfl (by
      show (if j = j then x else cC c j) / 6 = (if j = j then y else cC c j) / 6
      rw [if_pos rfl, if_pos rfl]
      exact hl)) d).2
  · have z : ∀ b : Cf, up (uP b (fun i => i == k)) d j = false := fun b => by
      cases h : up (uP b (fun i => i == k)) d j with
      | false => rfl
      | true =>
        have h2 : (j == k) = true := up_P h
        exact absurd (by simpa using h2) q
    rw [z, z]
theorem place_sum {c : Cf} (hP : ∀ j, cP c j = decide (j < cN c)) {k x : Nat} (hk : k < cN c) : allU (uC c k x) = aY c (fun j => !(mtX c (cC c k) j || mtX c x j)) + (if x = cC c k then 0 else allU (uP c (fun j => mtX c (cC c k) j && !(j == k)))) + allU (uP (uC c k x) (fun j => mtX c x j || (j == k))) := by
  have hPn : ∀ j, cP c j = true → j < cN c := fun j h => by rw [hP] at h; exact of_decide_eq_true h
  have hPy : ∀ j, j < cN c → cP c j = true := fun j h => by rw [hP]; exact decide_eq_true h
  have hkM : mtX c (cC c k) k = true := by unfold mtX; simp [hk]
  -- the rest
  obtain ⟨Z, hZ⟩ : ∃ Z : Nat → Bool, (fun j => mtX c (cC c k) j || mtX c x j) = Z := ⟨_, rfl⟩
  have hZt : ∀ j, Z j = (mtX c (cC c k) j || mtX c x j) := fun j => by rw [← hZ]
  have hZn : ∀ j, Z j = true → j < cN c ∧ (cC c j = cC c k ∨ cC c j = x) := fun j h => by
    rw [hZt, Bool.or_eq_true] at h
    rcases h with h | h
    · exact ⟨(mtX_n h).1, Or.inl (mtX_n h).2⟩
    · exact ⟨(mtX_n h).1, Or.inr (mtX_n h).2⟩
  have hZo : ∀ j, Z j = false → j < cN c → ¬ cC c j = cC c k ∧ ¬ cC c j = x := fun j h hj => by
    rw [hZt, Bool.or_eq_false_iff] at h
    exact ⟨mtX_no h.1 hj, mtX_no h.2 hj⟩
  have hZk : Z k = true := by rw [hZt, hkM]; rfl
  have hnk : ∀ j, outX c Z j = true → ¬ j = k := fun j h q => by
    subst q
    have := (outX_n h).2
    rw [hZk] at this; cases this
  have e2 : aY (uC c k x) (fun j => !Z j) = aY (uC c k x) (outX c Z) := aY_cong (c := uC c k x) (fun j hj _ => by
    have hj2 : j < cN c := hj
    unfold outX; simp [hj2]) hPn
  have e3 : allU (uP (uC c k x) (outX c Z)) = aY (uC c k x) (outX c Z) := allU_in (c := uC c k x) (fun j h => hPy j (outX_n h).1) (fun j h => (outX_n h).1) (fun a j ha hj hz _ => by
    have hj2 : j < cN c := hj
    have h1 := hZo a (outX_n ha).2 (outX_n ha).1
    have h2 := (hZn j (outX_no hz hj2)).2
    show ¬ (if j = k then x else cC c j) = (if a = k then x else cC c a)
    rw [if_neg (hnk a ha)]
    intro q
    by_cases z : j = k
    · rw [if_pos z] at q; exact h1.2 q.symm
    · rw [if_neg z] at q
      rcases h2 with y | y
      · exact h1.1 (q.symm.trans y)
      · exact h1.2 (q.symm.trans y))
  have e4 : allU (uP c (outX c Z)) = aY c (outX c Z) := allU_in (fun j h => hPy j (outX_n h).1) (fun j h => (outX_n h).1) (fun a j ha hj hz _ q => by
    have h1 := hZo a (outX_n ha).2 (outX_n ha).1
    rcases (hZn j (outX_no hz hj)).2 with y | y
    · exact h1.1 (q.symm.trans y)
    · exact h1.2 (q.symm.trans y))
  have e5 : allU (uP (uC c k x) (outX c Z)) = allU (uP c (outX c Z)) := allU_agree (c := uC c k x) (e := c) rfl rfl rfl rfl rfl (fun _ _ => rfl) (fun j h => by
    show (if j = k then x else cC c j) = cC c j
    rw [if_neg (hnk j h)]) (fun _ _ => rfl) (fun j h => (outX_n h).1)
  have e6 : aY c (fun j => !Z j) = aY c (outX c Z) := aY_cong (fun j hj _ => by unfold outX; simp [hj]) hPn
  have hTn : ∀ j, (mtX c x j || (j == k)) = true → j < cN c ∧ (if j = k then x else cC c j) = x := fun j h => by
    by_cases q : j = k
    · rw [if_pos q]; exact ⟨by omega, rfl⟩
    · rw [beq_false_of_ne q, Bool.or_false] at h
      rw [if_neg q]
      exact mtX_n h
  have e7 : allU (uP (uC c k x) (fun j => mtX c x j || (j == k))) = aY (uC c k x) (fun j => mtX c x j || (j == k)) := allU_in (c := uC c k x) (fun j h => hPy j (hTn j h).1) (fun j h => (hTn j h).1) (fun a j ha hj hz _ => by
    have hj2 : j < cN c := hj
    rw [Bool.or_eq_false_iff] at hz
    have h2 : ¬ j = k := by simpa using hz.2
    show ¬ (if j = k then x else cC c j) = (if a = k then x else cC c a)
    rw [(hTn a ha).2, if_neg h2]
    exact mtX_no hz.1 hj2)
  have hsp := aY_split (c := uC c k x) (Y := Z)
  rw [e2, ← e3, e5, e4, ← e6, hZ.symm] at hsp
  dsimp only at hsp
  rw [hsp]
  by_cases hx : x = cC c k
  · rw [if_pos hx, e7]
    have : aY (uC c k x) (fun j => mtX c (cC c k) j || mtX c x j) = aY (uC c k x) (fun j => mtX c x j || (j == k)) := aY_cong (c := uC c k x) (fun j hj _ => by
      rw [hx]
      by_cases q : j = k
      · subst q; rw [hkM]; rfl
      · rw [beq_false_of_ne q, Bool.or_self, Bool.or_false]) hPn
    omega
  · rw [if_neg hx, e7]
    have hMn : ∀ j, (mtX c (cC c k) j && !(j == k)) = true → j < cN c ∧ cC c j = cC c k ∧ ¬ j = k := fun j h => by
      rw [Bool.and_eq_true] at h
      exact ⟨(mtX_n h.1).1, (mtX_n h.1).2, by simpa using h.2⟩
    have e8 : allU (uP (uC c k x) (fun j => mtX c (cC c k) j && !(j == k))) = aY (uC c k x) (fun j => mtX c (cC c k) j && !(j == k)) := allU_in (c := uC c k x) (fun j h => hPy j (hMn j h).1) (fun j h => (hMn j h).1) (fun a j ha hj hz _ => by
      have hj2 : j < cN c := hj
      have ha2 := hMn a ha
      show ¬ (if j = k then x else cC c j) = (if a = k then x else cC c a)
      rw [if_neg ha2.2.2, ha2.2.1]
      by_cases q : j = k
      · rw [if_pos q]; exact hx
      · rw [if_neg q]
        rw [beq_false_of_ne q, Bool.not_false, Bool.and_true] at hz
        exact mtX_no hz hj2)
    have e9 : allU (uP (uC c k x) (fun j => mtX c (cC c k) j && !(j == k))) = allU (uP c (fun j => mtX c (cC c k) j && !(j == k))) := allU_agree (c := uC c k x) (e := c) rfl rfl rfl rfl rfl (fun _ _ => rfl) (fun j h => by
      show (if j = k then x else cC c j) = cC c j
      rw [if_neg (hMn j h).2.2]) (fun _ _ => rfl) (fun j h => (hMn j h).1)
    have e10 := aY_or (c := uC c k x) (Y := fun j => mtX c (cC c k) j && !(j == k)) (Z := fun j => mtX c x j || (j == k)) (fun j h => by
      have h1 := hMn j h.1
      have h2 := hTn j h.2
      rw [if_neg h1.2.2] at h2
      exact hx (h2.2.symm.trans h1.2.1))
    have e11 : aY (uC c k x) (fun j => mtX c (cC c k) j || mtX c x j) = aY (uC c k x) (fun j => (mtX c (cC c k) j && !(j == k)) || (mtX c x j || (j == k))) := aY_cong (c := uC c k x) (fun j hj _ => by
      by_cases q : j = k
      · subst q; rw [hkM]; simp
      · rw [beq_false_of_ne q]; simp) hPn
    omega
