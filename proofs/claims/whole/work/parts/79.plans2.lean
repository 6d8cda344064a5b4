/-! one stroke changed, on both sides -/
/-- the class's trial but for one stroke's day -/
def BdD (S : Sg) (c : Cf) (k : Nat) : Prop := cN c ≤ 8 ∧ S.1 24 0 = nI (cN c) ∧ ∀ j, j < cN c → (S.1 (24 + 1) j = nI (cD c j) ∨ j = k) ∧ cD c j < 20 ∧ (S.1 (24 + 2) j = nI (cC c j)) ∧ cC c j < 36 ∧ (S.1 (24 + 4) j = nI (cK c j)) ∧ 1 ≤ cK c j ∧ cK c j ≤ 9
theorem BdD.of {S : Sg} {c : Cf} {k : Nat} (h : Bd 24 S c) : BdD S c k := by
  obtain ⟨h1, h2, h3⟩ := h
  exact ⟨h1, h2, fun j hj => by
    obtain ⟨a1, a2, a3, a4, a5, a6⟩ := h3 j hj
    exact ⟨Or.inl a1, a2,  a3, a4,  a5, a6⟩⟩
theorem BdD.kp {S S' : Sg} {c : Cf} {k : Nat} (h : BdD S c k) (e : ∀ a j, 24 ≤ a → a ≤ 28 → ¬ (a = 25 ∧ j = k) → S'.1 a j = S.1 a j) : BdD S' c k := by
  obtain ⟨h1, h2, h3⟩ := h
  refine ⟨h1, by rw [e 24 0 (by omega) (by omega) (by omega)]; exact h2, fun j hj => ?_⟩
  obtain ⟨a1, a2, a3, a4, a5, a6⟩ := h3 j hj
  by_cases q : j = k
  · subst q
    exact ⟨Or.inr rfl, a2, by rw [e (24 + 2) j (by omega) (by omega) (by omega)]; exact a3, a4, by rw [e (24 + 4) j (by omega) (by omega) (by omega)]; exact a5, a6⟩
  · exact ⟨by rw [e (24 + 1) j (by omega) (by omega) (by omega)]; exact a1, a2, by rw [e (24 + 2) j (by omega) (by omega) (by omega)]; exact a3, a4, by rw [e (24 + 4) j (by omega) (by omega) (by omega)]; exact a5, a6⟩
theorem BdD.set {S : Sg} {c : Cf} {k d : Nat} (h : BdD S c k) (hd : d < 20) : Bd 24 (sI S 25 k (nI d)) (uD c k d) := by
  obtain ⟨h1, h2, h3⟩ := h
  refine ⟨h1, by rw [sI1, if_neg (by omega)]; exact h2, fun j hj => ?_⟩
  obtain ⟨a1, a2, a3, a4, a5, a6⟩ := h3 j hj
  by_cases q : j = k
  · show _ = nI (if j = k then d else cD c j) ∧ (if j = k then d else cD c j) < 20 ∧ _ = nI (cC c j) ∧ (cC c j) < 36 ∧ _ = nI (cK c j) ∧ 1 ≤ (cK c j) ∧ (cK c j) ≤ 9
    simp only [if_pos q]
    exact ⟨by rw [sI1, if_pos ⟨rfl, q⟩], hd, by rw [sI1, if_neg (by omega)]; exact a3, a4, by rw [sI1, if_neg (by omega)]; exact a5, a6⟩
  · show _ = nI (if j = k then d else cD c j) ∧ (if j = k then d else cD c j) < 20 ∧ _ = nI (cC c j) ∧ (cC c j) < 36 ∧ _ = nI (cK c j) ∧ 1 ≤ (cK c j) ∧ (cK c j) ≤ 9
    simp only [if_neg q]
    rw [sI1, if_neg (by omega), sI1, if_neg (by omega), sI1, if_neg (by omega)]
    exact ⟨a1.resolve_right q, a2, a3, a4, a5, a6⟩
/-- the reference -/
theorem MdD.set {S : Sg} {c : Cf} {nw no : Nat} {wd wl od ol : Nat → Nat} {mo : Nat → Bool} {k d : Nat} (h : Md (sI S 4 k (nI (cD c k))) c nw wd wl no od ol mo) (hd : d < 20) : Md (sI S 4 k (nI d)) (uD c k d) nw wd wl no od ol mo := by
  obtain ⟨h1, h2, h3, h4, h5, h6, h7, h8, h9, h10, h11, h12, h13, h14, h15⟩ := h
  have e : ∀ a j, ¬ (a = 4 ∧ j = k) → (sI S 4 k (nI d)).1 a j = (sI S 4 k (nI (cD c k))).1 a j := fun a j q => by rw [sI1, sI1, if_neg q, if_neg q]
  refine ⟨h1, by rw [e 0 4 (by omega)]; exact h2, fun j hj => ?_, h4, by rw [e 0 10 (by omega)]; exact h5, fun w hw => ?_, h7, by rw [e 0 13 (by omega)]; exact h8, fun o ho => ?_, fun d hd => by rw [e 12 d (by omega)]; exact h10 d hd, by rw [e 0 9 (by omega)]; exact h11, h12, by rw [e 0 17 (by omega)]; exact h13, by rw [e 0 18 (by omega)]; exact h14, h15⟩
  · obtain ⟨a1, a2, a3, a4, a5, a6⟩ := h3 j hj
    by_cases q : j = k
    · show _ = nI (if j = k then d else cD c j) ∧ (if j = k then d else cD c j) < 20 ∧ _ = nI (cC c j) ∧ (cC c j) < 36 ∧ _ = nI (cK c j) ∧ 1 ≤ (cK c j) ∧ (cK c j) ≤ 9
      simp only [if_pos q]
      exact ⟨by rw [sI1, if_pos ⟨rfl, q⟩], hd, by rw [e 5 j (by omega)]; exact a3, a4, by rw [e 7 j (by omega)]; exact a5, a6⟩
    · show _ = nI (if j = k then d else cD c j) ∧ (if j = k then d else cD c j) < 20 ∧ _ = nI (cC c j) ∧ (cC c j) < 36 ∧ _ = nI (cK c j) ∧ 1 ≤ (cK c j) ∧ (cK c j) ≤ 9
      simp only [if_neg q]
      rw [e 4 j (by omega), e 5 j (by omega), e 7 j (by omega)]
      exact ⟨a1, a2, a3, a4, a5, a6⟩
  · rw [e 8 w (by omega), e 9 w (by omega)]; exact h6 w hw
  · rw [e 10 o (by omega), e 11 o (by omega)]; exact h9 o ho
theorem MdD.st {S : Sg} {c : Cf} {nw no : Nat} {wd wl od ol : Nat → Nat} {mo : Nat → Bool} {k : Nat} (h : Md S c nw wd wl no od ol mo) (hk : k < cN c) : Md (sI S 4 k (nI (cD c k))) c nw wd wl no od ol mo := by
  have e : sI S 4 k (nI (cD c k)) = S := by
    have w := (h.2.2.1 k hk).1
    apply Prod.ext
    · funext a j
      show (sI S 4 k (nI (cD c k))).1 a j = S.1 a j
      rw [sI1]
      by_cases q : a = 4 ∧ j = k
      · rw [if_pos q, q.1, q.2, w]
      · rw [if_neg q]
    · rfl
  rw [e]
  exact h
theorem MdD.go {S S' : Sg} {c : Cf} {nw no : Nat} {wd wl od ol : Nat → Nat} {mo : Nat → Bool} {k : Nat} {v : Int32} (h : Md (sI S 4 k (nI (cD c k))) c nw wd wl no od ol mo) (f : mf (sI S 4 k v) S') : Md (sI S' 4 k (nI (cD c k))) c nw wd wl no od ol mo := h.mf ⟨fun a j q1 q2 => by
  rw [sI1, sI1]
  by_cases q : a = 4 ∧ j = k
  · rw [if_pos q, if_pos q]
  · rw [if_neg q, if_neg q]
    have := f.1 a j q1 q2
    rw [sI1, if_neg q] at this
    exact this, f.2⟩

/-- the class's trial but for one stroke's cell -/
def BdC (S : Sg) (c : Cf) (k : Nat) : Prop := cN c ≤ 8 ∧ S.1 24 0 = nI (cN c) ∧ ∀ j, j < cN c → (S.1 (24 + 1) j = nI (cD c j)) ∧ cD c j < 20 ∧ (S.1 (24 + 2) j = nI (cC c j) ∨ j = k) ∧ cC c j < 36 ∧ (S.1 (24 + 4) j = nI (cK c j)) ∧ 1 ≤ cK c j ∧ cK c j ≤ 9
theorem BdC.of {S : Sg} {c : Cf} {k : Nat} (h : Bd 24 S c) : BdC S c k := by
  obtain ⟨h1, h2, h3⟩ := h
  exact ⟨h1, h2, fun j hj => by
    obtain ⟨a1, a2, a3, a4, a5, a6⟩ := h3 j hj
    exact ⟨ a1, a2, Or.inl a3, a4,  a5, a6⟩⟩
theorem BdC.kp {S S' : Sg} {c : Cf} {k : Nat} (h : BdC S c k) (e : ∀ a j, 24 ≤ a → a ≤ 28 → ¬ (a = 26 ∧ j = k) → S'.1 a j = S.1 a j) : BdC S' c k := by
  obtain ⟨h1, h2, h3⟩ := h
  refine ⟨h1, by rw [e 24 0 (by omega) (by omega) (by omega)]; exact h2, fun j hj => ?_⟩
  obtain ⟨a1, a2, a3, a4, a5, a6⟩ := h3 j hj
  by_cases q : j = k
  · subst q
    exact ⟨by rw [e (24 + 1) j (by omega) (by omega) (by omega)]; exact a1, a2, Or.inr rfl, a4, by rw [e (24 + 4) j (by omega) (by omega) (by omega)]; exact a5, a6⟩
  · exact ⟨by rw [e (24 + 1) j (by omega) (by omega) (by omega)]; exact a1, a2, by rw [e (24 + 2) j (by omega) (by omega) (by omega)]; exact a3, a4, by rw [e (24 + 4) j (by omega) (by omega) (by omega)]; exact a5, a6⟩
theorem BdC.set {S : Sg} {c : Cf} {k d : Nat} (h : BdC S c k) (hd : d < 36) : Bd 24 (sI S 26 k (nI d)) (uC c k d) := by
  obtain ⟨h1, h2, h3⟩ := h
  refine ⟨h1, by rw [sI1, if_neg (by omega)]; exact h2, fun j hj => ?_⟩
  obtain ⟨a1, a2, a3, a4, a5, a6⟩ := h3 j hj
  by_cases q : j = k
  · show _ = nI (cD c j) ∧ (cD c j) < 20 ∧ _ = nI (if j = k then d else cC c j) ∧ (if j = k then d else cC c j) < 36 ∧ _ = nI (cK c j) ∧ 1 ≤ (cK c j) ∧ (cK c j) ≤ 9
    simp only [if_pos q]
    exact ⟨by rw [sI1, if_neg (by omega)]; exact a1, a2, by rw [sI1, if_pos ⟨rfl, q⟩], hd, by rw [sI1, if_neg (by omega)]; exact a5, a6⟩
  · show _ = nI (cD c j) ∧ (cD c j) < 20 ∧ _ = nI (if j = k then d else cC c j) ∧ (if j = k then d else cC c j) < 36 ∧ _ = nI (cK c j) ∧ 1 ≤ (cK c j) ∧ (cK c j) ≤ 9
    simp only [if_neg q]
    rw [sI1, if_neg (by omega), sI1, if_neg (by omega), sI1, if_neg (by omega)]
    exact ⟨a1, a2, a3.resolve_right q, a4, a5, a6⟩
/-- the reference -/
theorem MdC.set {S : Sg} {c : Cf} {nw no : Nat} {wd wl od ol : Nat → Nat} {mo : Nat → Bool} {k d : Nat} (h : Md (sI S 5 k (nI (cC c k))) c nw wd wl no od ol mo) (hd : d < 36) : Md (sI S 5 k (nI d)) (uC c k d) nw wd wl no od ol mo := by
  obtain ⟨h1, h2, h3, h4, h5, h6, h7, h8, h9, h10, h11, h12, h13, h14, h15⟩ := h
  have e : ∀ a j, ¬ (a = 5 ∧ j = k) → (sI S 5 k (nI d)).1 a j = (sI S 5 k (nI (cC c k))).1 a j := fun a j q => by rw [sI1, sI1, if_neg q, if_neg q]
  refine ⟨h1, by rw [e 0 4 (by omega)]; exact h2, fun j hj => ?_, h4, by rw [e 0 10 (by omega)]; exact h5, fun w hw => ?_, h7, by rw [e 0 13 (by omega)]; exact h8, fun o ho => ?_, fun d hd => by rw [e 12 d (by omega)]; exact h10 d hd, by rw [e 0 9 (by omega)]; exact h11, h12, by rw [e 0 17 (by omega)]; exact h13, by rw [e 0 18 (by omega)]; exact h14, h15⟩
  · obtain ⟨a1, a2, a3, a4, a5, a6⟩ := h3 j hj
    by_cases q : j = k
    · show _ = nI (cD c j) ∧ (cD c j) < 20 ∧ _ = nI (if j = k then d else cC c j) ∧ (if j = k then d else cC c j) < 36 ∧ _ = nI (cK c j) ∧ 1 ≤ (cK c j) ∧ (cK c j) ≤ 9
      simp only [if_pos q]
      exact ⟨by rw [e 4 j (by omega)]; exact a1, a2, by rw [sI1, if_pos ⟨rfl, q⟩], hd, by rw [e 7 j (by omega)]; exact a5, a6⟩
    · show _ = nI (cD c j) ∧ (cD c j) < 20 ∧ _ = nI (if j = k then d else cC c j) ∧ (if j = k then d else cC c j) < 36 ∧ _ = nI (cK c j) ∧ 1 ≤ (cK c j) ∧ (cK c j) ≤ 9
      simp only [if_neg q]
      rw [e 4 j (by omega), e 5 j (by omega), e 7 j (by omega)]
      exact ⟨a1, a2, a3, a4, a5, a6⟩
  · rw [e 8 w (by omega), e 9 w (by omega)]; exact h6 w hw
  · rw [e 10 o (by omega), e 11 o (by omega)]; exact h9 o ho
theorem MdC.st {S : Sg} {c : Cf} {nw no : Nat} {wd wl od ol : Nat → Nat} {mo : Nat → Bool} {k : Nat} (h : Md S c nw wd wl no od ol mo) (hk : k < cN c) : Md (sI S 5 k (nI (cC c k))) c nw wd wl no od ol mo := by
  have e : sI S 5 k (nI (cC c k)) = S := by
    have w := (h.2.2.1 k hk).2.2.1
    apply Prod.ext
    · funext a j
      show (sI S 5 k (nI (cC c k))).1 a j = S.1 a j
      rw [sI1]
      by_cases q : a = 5 ∧ j = k
      · rw [if_pos q, q.1, q.2, w]
      · rw [if_neg q]
    · rfl
  rw [e]
  exact h
theorem MdC.go {S S' : Sg} {c : Cf} {nw no : Nat} {wd wl od ol : Nat → Nat} {mo : Nat → Bool} {k : Nat} {v : Int32} (h : Md (sI S 5 k (nI (cC c k))) c nw wd wl no od ol mo) (f : mf (sI S 5 k v) S') : Md (sI S' 5 k (nI (cC c k))) c nw wd wl no od ol mo := h.mf ⟨fun a j q1 q2 => by
  rw [sI1, sI1]
  by_cases q : a = 5 ∧ j = k
  · rw [if_pos q, if_pos q]
  · rw [if_neg q, if_neg q]
    have := f.1 a j q1 q2
    rw [sI1, if_neg q] at this
    exact this, f.2⟩

/-- the class's trial but for one stroke's chalk -/
def BdK (S : Sg) (c : Cf) (k : Nat) : Prop := cN c ≤ 8 ∧ S.1 24 0 = nI (cN c) ∧ ∀ j, j < cN c → (S.1 (24 + 1) j = nI (cD c j)) ∧ cD c j < 20 ∧ (S.1 (24 + 2) j = nI (cC c j)) ∧ cC c j < 36 ∧ (S.1 (24 + 4) j = nI (cK c j) ∨ j = k) ∧ 1 ≤ cK c j ∧ cK c j ≤ 9
theorem BdK.of {S : Sg} {c : Cf} {k : Nat} (h : Bd 24 S c) : BdK S c k := by
  obtain ⟨h1, h2, h3⟩ := h
  exact ⟨h1, h2, fun j hj => by
    obtain ⟨a1, a2, a3, a4, a5, a6⟩ := h3 j hj
    exact ⟨ a1, a2,  a3, a4, Or.inl a5, a6⟩⟩
theorem BdK.kp {S S' : Sg} {c : Cf} {k : Nat} (h : BdK S c k) (e : ∀ a j, 24 ≤ a → a ≤ 28 → ¬ (a = 28 ∧ j = k) → S'.1 a j = S.1 a j) : BdK S' c k := by
  obtain ⟨h1, h2, h3⟩ := h
  refine ⟨h1, by rw [e 24 0 (by omega) (by omega) (by omega)]; exact h2, fun j hj => ?_⟩
  obtain ⟨a1, a2, a3, a4, a5, a6⟩ := h3 j hj
  by_cases q : j = k
  · subst q
    exact ⟨by rw [e (24 + 1) j (by omega) (by omega) (by omega)]; exact a1, a2, by rw [e (24 + 2) j (by omega) (by omega) (by omega)]; exact a3, a4, Or.inr rfl, a6⟩
  · exact ⟨by rw [e (24 + 1) j (by omega) (by omega) (by omega)]; exact a1, a2, by rw [e (24 + 2) j (by omega) (by omega) (by omega)]; exact a3, a4, by rw [e (24 + 4) j (by omega) (by omega) (by omega)]; exact a5, a6⟩
theorem BdK.set {S : Sg} {c : Cf} {k d : Nat} (h : BdK S c k) (hd : 1 ≤ d ∧ d ≤ 9) : Bd 24 (sI S 28 k (nI d)) (uK c k d) := by
  obtain ⟨h1, h2, h3⟩ := h
  refine ⟨h1, by rw [sI1, if_neg (by omega)]; exact h2, fun j hj => ?_⟩
  obtain ⟨a1, a2, a3, a4, a5, a6⟩ := h3 j hj
  by_cases q : j = k
  · show _ = nI (cD c j) ∧ (cD c j) < 20 ∧ _ = nI (cC c j) ∧ (cC c j) < 36 ∧ _ = nI (if j = k then d else cK c j) ∧ 1 ≤ (if j = k then d else cK c j) ∧ (if j = k then d else cK c j) ≤ 9
    simp only [if_pos q]
    exact ⟨by rw [sI1, if_neg (by omega)]; exact a1, a2, by rw [sI1, if_neg (by omega)]; exact a3, a4, by rw [sI1, if_pos ⟨rfl, q⟩], hd⟩
  · show _ = nI (cD c j) ∧ (cD c j) < 20 ∧ _ = nI (cC c j) ∧ (cC c j) < 36 ∧ _ = nI (if j = k then d else cK c j) ∧ 1 ≤ (if j = k then d else cK c j) ∧ (if j = k then d else cK c j) ≤ 9
    simp only [if_neg q]
    rw [sI1, if_neg (by omega), sI1, if_neg (by omega), sI1, if_neg (by omega)]
    exact ⟨a1, a2, a3, a4, a5.resolve_right q, a6⟩
/-- the reference -/
theorem MdK.set {S : Sg} {c : Cf} {nw no : Nat} {wd wl od ol : Nat → Nat} {mo : Nat → Bool} {k d : Nat} (h : Md (sI S 7 k (nI (cK c k))) c nw wd wl no od ol mo) (hd : 1 ≤ d ∧ d ≤ 9) : Md (sI S 7 k (nI d)) (uK c k d) nw wd wl no od ol mo := by
  obtain ⟨h1, h2, h3, h4, h5, h6, h7, h8, h9, h10, h11, h12, h13, h14, h15⟩ := h
  have e : ∀ a j, ¬ (a = 7 ∧ j = k) → (sI S 7 k (nI d)).1 a j = (sI S 7 k (nI (cK c k))).1 a j := fun a j q => by rw [sI1, sI1, if_neg q, if_neg q]
  refine ⟨h1, by rw [e 0 4 (by omega)]; exact h2, fun j hj => ?_, h4, by rw [e 0 10 (by omega)]; exact h5, fun w hw => ?_, h7, by rw [e 0 13 (by omega)]; exact h8, fun o ho => ?_, fun d hd => by rw [e 12 d (by omega)]; exact h10 d hd, by rw [e 0 9 (by omega)]; exact h11, h12, by rw [e 0 17 (by omega)]; exact h13, by rw [e 0 18 (by omega)]; exact h14, h15⟩
  · obtain ⟨a1, a2, a3, a4, a5, a6⟩ := h3 j hj
    by_cases q : j = k
    · show _ = nI (cD c j) ∧ (cD c j) < 20 ∧ _ = nI (cC c j) ∧ (cC c j) < 36 ∧ _ = nI (if j = k then d else cK c j) ∧ 1 ≤ (if j = k then d else cK c j) ∧ (if j = k then d else cK c j) ≤ 9
      simp only [if_pos q]
      exact ⟨by rw [e 4 j (by omega)]; exact a1, a2, by rw [e 5 j (by omega)]; exact a3, a4, by rw [sI1, if_pos ⟨rfl, q⟩], hd⟩
    · show _ = nI (cD c j) ∧ (cD c j) < 20 ∧ _ = nI (cC c j) ∧ (cC c j) < 36 ∧ _ = nI (if j = k then d else cK c j) ∧ 1 ≤ (if j = k then d else cK c j) ∧ (if j = k then d else cK c j) ≤ 9
      simp only [if_neg q]
      rw [e 4 j (by omega), e 5 j (by omega), e 7 j (by omega)]
      exact ⟨a1, a2, a3, a4, a5, a6⟩
  · rw [e 8 w (by omega), e 9 w (by omega)]; exact h6 w hw
  · rw [e 10 o (by omega), e 11 o (by omega)]; exact h9 o ho
theorem MdK.st {S : Sg} {c : Cf} {nw no : Nat} {wd wl od ol : Nat → Nat} {mo : Nat → Bool} {k : Nat} (h : Md S c nw wd wl no od ol mo) (hk : k < cN c) : Md (sI S 7 k (nI (cK c k))) c nw wd wl no od ol mo := by
  have e : sI S 7 k (nI (cK c k)) = S := by
    have w := (h.2.2.1 k hk).2.2.2.2.1
    apply Prod.ext
    · funext a j
      show (sI S 7 k (nI (cK c k))).1 a j = S.1 a j
      rw [sI1]
      by_cases q : a = 7 ∧ j = k
      · rw [if_pos q, q.1, q.2, w]
      · rw [if_neg q]
    · rfl
  rw [e]
  exact h
theorem MdK.go {S S' : Sg} {c : Cf} {nw no : Nat} {wd wl od ol : Nat → Nat} {mo : Nat → Bool} {k : Nat} {v : Int32} (h : Md (sI S 7 k (nI (cK c k))) c nw wd wl no od ol mo) (f : mf (sI S 7 k v) S') : Md (sI S' 7 k (nI (cK c k))) c nw wd wl no od ol mo := h.mf ⟨fun a j q1 q2 => by
  rw [sI1, sI1]
  by_cases q : a = 7 ∧ j = k
  · rw [if_pos q, if_pos q]
  · rw [if_neg q, if_neg q]
    have := f.1 a j q1 q2
    rw [sI1, if_neg q] at this
    exact this, f.2⟩

def mnB (f : Nat → Nat) : Nat → Int32
  | 0 => -nI 1
  | n + 1 => nI (amn f n)
def mnV (f : Nat → Nat) : Nat → Int32
  | 0 => nI 0
  | n + 1 => nI (f (amn f n))
theorem mnB_0 {f : Nat → Nat} : mnB f 0 = -nI 1 := rfl
theorem mnV_0 {f : Nat → Nat} : mnV f 0 = nI 0 := rfl
theorem mnB_s {f : Nat → Nat} {n : Nat} : mnB f (n + 1) = nI (amn f n) := rfl
theorem mnV_s {f : Nat → Nat} {n : Nat} : mnV f (n + 1) = nI (f (amn f n)) := rfl

/-- the reference's when, from any state with the board told -/
theorem whenM_lp {S : Sg} {c : Cf} {nw no : Nat} {wd wl od ol : Nat → Nat} {mo : Nat → Bool} {k : Nat} {f : Nat → Nat} (hk : k < 8) (hf : ∀ d, d < 20 → f d = allU (uD c k d)) (h : Md (sI S 4 k (nI (cD c k))) c nw wd wl no od ol mo) : ∃ S', lp (bX9_whenOf_20 (nI k)) fl (-nI 1, nI 0, nI 0) S = some ((nI (amn f 19), nI (f (amn f 19)), nI 20), S') ∧ ∀ a j, ¬ (13 ≤ a ∧ a ≤ 17) → ¬ (a = 0 ∧ j = 21) → ¬ (a = 4 ∧ j = k) → S'.1 a j = S.1 a j := by
  obtain ⟨t, S', e, ht, q⟩ := lp_invF (B := bX9_whenOf_20 (nI k)) (fun i a Sx => a = (mnB f i, mnV f i, nI i) ∧ Md (sI Sx 4 k (nI (cD c k))) c nw wd wl no od ol mo ∧ ∀ a j, ¬ (13 ≤ a ∧ a ≤ 17) → ¬ (a = 0 ∧ j = 21) → ¬ (a = 4 ∧ j = k) → Sx.1 a j = S.1 a j) (fun a Sx => a = (nI (amn f 19), nI (f (amn f 19)), nI 20) ∧ ∀ a j, ¬ (13 ≤ a ∧ a ≤ 17) → ¬ (a = 0 ∧ j = 21) → ¬ (a = 4 ∧ j = k) → Sx.1 a j = S.1 a j) 20 (by omega) (by
    rintro i a Sx hi ⟨ha, hm, hg⟩
    subst ha
    by_cases hin : i < 20
    · have m2 := MdD.set hm hin
      obtain ⟨S6, e6, f6, -, d6⟩ := runs_ok m2
      have eU := allUpM_ok (S := S6) (c := uD c k i) (fun d hd => (d6 d hd).1)
      have hfi := hf i hin
      rw [← hfi] at eU
      have hl : f i ≤ 160 := by rw [hfi]; exact allU_le
      refine Or.inl ⟨hin, (mnB f (i + 1), mnV f (i + 1), nI (i + 1)), S6, fun rec => ?_, rfl, MdD.go hm f6, fun a j q1 q2 q3 => ?_⟩
      · cases i with
        | zero =>
          rw [mnB_s, mnV_s, amn_0, mnB_0, mnV_0]
          simp (disch := omega) only [bX9_whenOf_20, bdq, gd_ix, lit_0, lit_1, lit_2, lit_3, lit_4, lit_5, lit_6, lit_7, lit_8, lit_9, lit_10, lit_15, lit_16, lit_19, lit_20, lit_31, lit_35, lit_36, lit_48, lit_49, lit_53, lit_55, lit_57, lit_59, lit_60, lit_63, lit_64, lit_97, lit_102, lit_110, lit_160, lit_255, nI_add, ns_sub, ns_div, ns_le, ns_lt, ns_eq, ns_cl, pk_mul, ne10, eq_self, ↓reduceIte, e6, eU, show ¬ 20 ≤ 0 from by omega]
        | succ j =>
          have hj := amn_le f j
          have hl2 : f (amn f j) ≤ 160 := by rw [hf (amn f j) (by omega)]; exact allU_le
          rw [mnB_s, mnV_s, mnB_s, mnV_s, amn_s]
          by_cases q : f (j + 1) < f (amn f j)
          · rw [if_pos q]
            simp (disch := omega) only [bX9_whenOf_20, bdq, gd_ix, lit_0, lit_1, lit_2, lit_3, lit_4, lit_5, lit_6, lit_7, lit_8, lit_9, lit_10, lit_15, lit_16, lit_19, lit_20, lit_31, lit_35, lit_36, lit_48, lit_49, lit_53, lit_55, lit_57, lit_59, lit_60, lit_63, lit_64, lit_97, lit_102, lit_110, lit_160, lit_255, nI_add, ns_sub, ns_div, ns_le, ns_lt, ns_eq, ns_cl, pk_mul, ne10, eq_self, ↓reduceIte, ne_m1, e6, eU, show ¬ f (amn f j) ≤ f (j + 1) from by omega, show ¬ 20 ≤ j + 1 from by omega]
          · rw [if_neg q]
            simp (disch := omega) only [bX9_whenOf_20, bdq, gd_ix, lit_0, lit_1, lit_2, lit_3, lit_4, lit_5, lit_6, lit_7, lit_8, lit_9, lit_10, lit_15, lit_16, lit_19, lit_20, lit_31, lit_35, lit_36, lit_48, lit_49, lit_53, lit_55, lit_57, lit_59, lit_60, lit_63, lit_64, lit_97, lit_102, lit_110, lit_160, lit_255, nI_add, ns_sub, ns_div, ns_le, ns_lt, ns_eq, ns_cl, pk_mul, ne10, eq_self, ↓reduceIte, ne_m1, e6, eU, show f (amn f j) ≤ f (j + 1) from by omega, show ¬ 20 ≤ j + 1 from by omega]
      · have := f6.1 a j q1 q2
        rw [sI1, if_neg q3] at this
        rw [this]
        exact hg a j q1 q2 q3
    · have hin2 : i = 20 := by omega
      subst hin2
      refine Or.inr ⟨(nI (amn f 19), nI (f (amn f 19)), nI 20), Sx, fun rec => ?_, rfl, hg⟩
      rw [show mnB f 20 = nI (amn f 19) from rfl, show mnV f 20 = nI (f (amn f 19)) from rfl]
      simp (disch := omega) only [bX9_whenOf_20, bdq, gd_ix, lit_0, lit_1, lit_2, lit_3, lit_4, lit_5, lit_6, lit_7, lit_8, lit_9, lit_10, lit_15, lit_16, lit_19, lit_20, lit_31, lit_35, lit_36, lit_48, lit_49, lit_53, lit_55, lit_57, lit_59, lit_60, lit_63, lit_64, lit_97, lit_102, lit_110, lit_160, lit_255, nI_add, ns_sub, ns_div, ns_le, ns_lt, ns_eq, ns_cl, pk_mul, ne10, eq_self, ↓reduceIte, Nat.le_refl]) (mnB f 0, mnV f 0, nI 0) S ⟨rfl, h, fun _ _ _ _ _ => rfl⟩
  subst ht
  rw [mnB_0, mnV_0] at e
  exact ⟨S', e, q⟩
theorem whenM_ok {S : Sg} {A : Ab} (h : RM S A) {k w : Nat} (hk : k < cN (cfg A)) (hw : w < 2) : ∃ S', fX9_whenOf (nI k) (nI w) S = some (fwV (fun d => allU (uD (cfg A) k d)) 19 w, S') ∧ mz S S' := by
  have h8 := cfg_8m h
  obtain ⟨f, hf⟩ : ∃ f : Nat → Nat, (fun d => allU (uD (cfg A) k d)) = f := ⟨_, rfl⟩
  rw [hf]
  obtain ⟨S1, e1, z1, r1, m1⟩ := asTold_ok h
  obtain ⟨S2, e2, g2⟩ := whenM_lp (S := S1) (c := cfg A) (k := k) (f := f) (by omega) (fun d _ => by rw [← hf]) (MdD.st m1 hk)
  refine ⟨sI S2 4 k (S1.1 4 k), ?_, z1.tr (mz.I (fun a j q1 q2 q3 q4 q5 => g2 a j (by omega) (by omega) (by omega)) (by omega))⟩
  have hw2 : w = 0 ∨ w = 1 := by omega
  unfold fX9_whenOf fwV
  rcases hw2 with rfl | rfl
  · simp (disch := omega) only [bdq, gd_ix, lit_0, lit_1, lit_2, lit_3, lit_4, lit_5, lit_6, lit_7, lit_8, lit_9, lit_10, lit_15, lit_16, lit_19, lit_20, lit_31, lit_35, lit_36, lit_48, lit_49, lit_53, lit_55, lit_57, lit_59, lit_60, lit_63, lit_64, lit_97, lit_102, lit_110, lit_160, lit_255, nI_add, ns_sub, ns_div, ns_le, ns_lt, ns_eq, ns_cl, pk_mul, ne10, eq_self, ↓reduceIte, e1, e2]
  · simp (disch := omega) only [bdq, gd_ix, lit_0, lit_1, lit_2, lit_3, lit_4, lit_5, lit_6, lit_7, lit_8, lit_9, lit_10, lit_15, lit_16, lit_19, lit_20, lit_31, lit_35, lit_36, lit_48, lit_49, lit_53, lit_55, lit_57, lit_59, lit_60, lit_63, lit_64, lit_97, lit_102, lit_110, lit_160, lit_255, nI_add, ns_sub, ns_div, ns_le, ns_lt, ns_eq, ns_cl, pk_mul, ne10, eq_self, ↓reduceIte, e1, e2]

/-- the reference's place, from any state with the board told -/
theorem placeM_lp {S : Sg} {c : Cf} {nw no : Nat} {wd wl od ol : Nat → Nat} {mo : Nat → Bool} {k : Nat} {f : Nat → Nat} (hk : k < 8) (hf : ∀ d, d < 36 → f d = allU (uC c k d)) (h : Md (sI S 5 k (nI (cC c k))) c nw wd wl no od ol mo) : ∃ S', lp (bX9_placeOf_20 (nI k)) fl (-nI 1, nI 0, nI 0) S = some ((nI (amn f 35), nI (f (amn f 35)), nI 36), S') ∧ ∀ a j, ¬ (13 ≤ a ∧ a ≤ 17) → ¬ (a = 0 ∧ j = 21) → ¬ (a = 5 ∧ j = k) → S'.1 a j = S.1 a j := by
  obtain ⟨t, S', e, ht, q⟩ := lp_invF (B := bX9_placeOf_20 (nI k)) (fun i a Sx => a = (mnB f i, mnV f i, nI i) ∧ Md (sI Sx 5 k (nI (cC c k))) c nw wd wl no od ol mo ∧ ∀ a j, ¬ (13 ≤ a ∧ a ≤ 17) → ¬ (a = 0 ∧ j = 21) → ¬ (a = 5 ∧ j = k) → Sx.1 a j = S.1 a j) (fun a Sx => a = (nI (amn f 35), nI (f (amn f 35)), nI 36) ∧ ∀ a j, ¬ (13 ≤ a ∧ a ≤ 17) → ¬ (a = 0 ∧ j = 21) → ¬ (a = 5 ∧ j = k) → Sx.1 a j = S.1 a j) 36 (by omega) (by
    rintro i a Sx hi ⟨ha, hm, hg⟩
    subst ha
    by_cases hin : i < 36
    · have m2 := MdC.set hm hin
      obtain ⟨S6, e6, f6, -, d6⟩ := runs_ok m2
      have eU := allUpM_ok (S := S6) (c := uC c k i) (fun d hd => (d6 d hd).1)
      have hfi := hf i hin
      rw [← hfi] at eU
      have hl : f i ≤ 160 := by rw [hfi]; exact allU_le
      refine Or.inl ⟨hin, (mnB f (i + 1), mnV f (i + 1), nI (i + 1)), S6, fun rec => ?_, rfl, MdC.go hm f6, fun a j q1 q2 q3 => ?_⟩
      · cases i with
        | zero =>
          rw [mnB_s, mnV_s, amn_0, mnB_0, mnV_0]
          simp (disch := omega) only [bX9_placeOf_20, bdq, gd_ix, lit_0, lit_1, lit_2, lit_3, lit_4, lit_5, lit_6, lit_7, lit_8, lit_9, lit_10, lit_15, lit_16, lit_19, lit_20, lit_31, lit_35, lit_36, lit_48, lit_49, lit_53, lit_55, lit_57, lit_59, lit_60, lit_63, lit_64, lit_97, lit_102, lit_110, lit_160, lit_255, nI_add, ns_sub, ns_div, ns_le, ns_lt, ns_eq, ns_cl, pk_mul, ne10, eq_self, ↓reduceIte, e6, eU, show ¬ 36 ≤ 0 from by omega]
        | succ j =>
          have hj := amn_le f j
          have hl2 : f (amn f j) ≤ 160 := by rw [hf (amn f j) (by omega)]; exact allU_le
          rw [mnB_s, mnV_s, mnB_s, mnV_s, amn_s]
          by_cases q : f (j + 1) < f (amn f j)
          · rw [if_pos q]
            simp (disch := omega) only [bX9_placeOf_20, bdq, gd_ix, lit_0, lit_1, lit_2, lit_3, lit_4, lit_5, lit_6, lit_7, lit_8, lit_9, lit_10, lit_15, lit_16, lit_19, lit_20, lit_31, lit_35, lit_36, lit_48, lit_49, lit_53, lit_55, lit_57, lit_59, lit_60, lit_63, lit_64, lit_97, lit_102, lit_110, lit_160, lit_255, nI_add, ns_sub, ns_div, ns_le, ns_lt, ns_eq, ns_cl, pk_mul, ne10, eq_self, ↓reduceIte, ne_m1, e6, eU, show ¬ f (amn f j) ≤ f (j + 1) from by omega, show ¬ 36 ≤ j + 1 from by omega]
          · rw [if_neg q]
            simp (disch := omega) only [bX9_placeOf_20, bdq, gd_ix, lit_0, lit_1, lit_2, lit_3, lit_4, lit_5, lit_6, lit_7, lit_8, lit_9, lit_10, lit_15, lit_16, lit_19, lit_20, lit_31, lit_35, lit_36, lit_48, lit_49, lit_53, lit_55, lit_57, lit_59, lit_60, lit_63, lit_64, lit_97, lit_102, lit_110, lit_160, lit_255, nI_add, ns_sub, ns_div, ns_le, ns_lt, ns_eq, ns_cl, pk_mul, ne10, eq_self, ↓reduceIte, ne_m1, e6, eU, show f (amn f j) ≤ f (j + 1) from by omega, show ¬ 36 ≤ j + 1 from by omega]
      · have := f6.1 a j q1 q2
        rw [sI1, if_neg q3] at this
        rw [this]
        exact hg a j q1 q2 q3
    · have hin2 : i = 36 := by omega
      subst hin2
      refine Or.inr ⟨(nI (amn f 35), nI (f (amn f 35)), nI 36), Sx, fun rec => ?_, rfl, hg⟩
      rw [show mnB f 36 = nI (amn f 35) from rfl, show mnV f 36 = nI (f (amn f 35)) from rfl]
      simp (disch := omega) only [bX9_placeOf_20, bdq, gd_ix, lit_0, lit_1, lit_2, lit_3, lit_4, lit_5, lit_6, lit_7, lit_8, lit_9, lit_10, lit_15, lit_16, lit_19, lit_20, lit_31, lit_35, lit_36, lit_48, lit_49, lit_53, lit_55, lit_57, lit_59, lit_60, lit_63, lit_64, lit_97, lit_102, lit_110, lit_160, lit_255, nI_add, ns_sub, ns_div, ns_le, ns_lt, ns_eq, ns_cl, pk_mul, ne10, eq_self, ↓reduceIte, Nat.le_refl]) (mnB f 0, mnV f 0, nI 0) S ⟨rfl, h, fun _ _ _ _ _ => rfl⟩
  subst ht
  rw [mnB_0, mnV_0] at e
  exact ⟨S', e, q⟩
theorem placeM_ok {S : Sg} {A : Ab} (h : RM S A) {k w : Nat} (hk : k < cN (cfg A)) (hw : w < 2) : ∃ S', fX9_placeOf (nI k) (nI w) S = some (fwV (fun d => allU (uC (cfg A) k d)) 35 w, S') ∧ mz S S' := by
  have h8 := cfg_8m h
  obtain ⟨f, hf⟩ : ∃ f : Nat → Nat, (fun d => allU (uC (cfg A) k d)) = f := ⟨_, rfl⟩
  rw [hf]
  obtain ⟨S1, e1, z1, r1, m1⟩ := asTold_ok h
  obtain ⟨S2, e2, g2⟩ := placeM_lp (S := S1) (c := cfg A) (k := k) (f := f) (by omega) (fun d _ => by rw [← hf]) (MdC.st m1 hk)
  refine ⟨sI S2 5 k (S1.1 5 k), ?_, z1.tr (mz.I (fun a j q1 q2 q3 q4 q5 => g2 a j (by omega) (by omega) (by omega)) (by omega))⟩
  have hw2 : w = 0 ∨ w = 1 := by omega
  unfold fX9_placeOf fwV
  rcases hw2 with rfl | rfl
  · simp (disch := omega) only [bdq, gd_ix, lit_0, lit_1, lit_2, lit_3, lit_4, lit_5, lit_6, lit_7, lit_8, lit_9, lit_10, lit_15, lit_16, lit_19, lit_20, lit_31, lit_35, lit_36, lit_48, lit_49, lit_53, lit_55, lit_57, lit_59, lit_60, lit_63, lit_64, lit_97, lit_102, lit_110, lit_160, lit_255, nI_add, ns_sub, ns_div, ns_le, ns_lt, ns_eq, ns_cl, pk_mul, ne10, eq_self, ↓reduceIte, e1, e2]
  · simp (disch := omega) only [bdq, gd_ix, lit_0, lit_1, lit_2, lit_3, lit_4, lit_5, lit_6, lit_7, lit_8, lit_9, lit_10, lit_15, lit_16, lit_19, lit_20, lit_31, lit_35, lit_36, lit_48, lit_49, lit_53, lit_55, lit_57, lit_59, lit_60, lit_63, lit_64, lit_97, lit_102, lit_110, lit_160, lit_255, nI_add, ns_sub, ns_div, ns_le, ns_lt, ns_eq, ns_cl, pk_mul, ne10, eq_self, ↓reduceIte, e1, e2]
