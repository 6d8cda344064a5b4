/-! one told thing changes -/
theorem RB.upT {S S' : Sg} {A : Ab} {T' : Tx} (h : RB S A) (e : ∀ a j, ¬ ((a = 1 ∨ a = 2) ∨ (a = 0 ∧ (j = 14 ∨ j = 17)) ∨ a = 5 ∨ (12 ≤ a ∧ a ≤ 35) ∨ a = 6 ∨ (40 ≤ a ∧ a ≤ 41) ∨ a = 43) → S'.1 a j = S.1 a j) (hn : cT 1 20 S' T') : RB S' (T', A.2) := by
  obtain ⟨h1, h2, h3, h4, h5, h6, h7⟩ := h
  refine ⟨hn, ?_, ?_, ?_, ?_, ?_, ?_⟩
  · exact ⟨h2.1, by rw [e 3 1 (by omega)]; exact h2.2.1, fun i hi => by rw [e (3 + 1) i (by omega)]; exact h2.2.2 i hi⟩
  · exact ⟨h3.1, by rw [e 0 15 (by omega)]; exact h3.2⟩
  · exact ⟨h4.1, h4.2.1, by rw [e 7 4 (by omega)]; exact h4.2.2.1, by rw [e 7 5 (by omega)]; exact h4.2.2.2.1, fun w hw => by rw [e 8 w (by omega), e 9 w (by omega)]; exact h4.2.2.2.2.1 w hw, fun o ho => by rw [e 10 o (by omega), e 11 o (by omega)]; exact h4.2.2.2.2.2 o ho⟩
  · exact ⟨h5.1, by rw [e 36 3 (by omega)]; exact h5.2.1, fun i hi => by rw [e 37 i (by omega), e 38 i (by omega), e 39 i (by omega)]; exact h5.2.2 i hi⟩
  · exact fun j hj => by obtain ⟨q0, q1, q2, q3, q4⟩ := h6 j hj; exact ⟨q0, by rw [e (44 + 2 * j) 1 (by omega)]; exact q1, by rw [e (44 + 2 * j) 2 (by omega)]; exact q2, by rw [e (44 + 2 * j) 3 (by omega)]; exact q3, fun i hi => by rw [e (44 + 2 * j + 1) i (by omega)]; exact q4 i hi⟩
  · exact ⟨h7.1, by rw [e 0 16 (by omega)]; exact h7.2⟩
theorem RB.upU {S S' : Sg} {A : Ab} {T' : Tx} (h : RB S A) (e : ∀ a j, ¬ ((a = 3 ∨ a = 4) ∨ (a = 0 ∧ (j = 14 ∨ j = 17)) ∨ a = 5 ∨ (12 ≤ a ∧ a ≤ 35) ∨ a = 6 ∨ (40 ≤ a ∧ a ≤ 41) ∨ a = 43) → S'.1 a j = S.1 a j) (hn : cT 3 55 S' T') : RB S' (A.1, T', A.2.2) := by
  obtain ⟨h1, h2, h3, h4, h5, h6, h7⟩ := h
  refine ⟨?_, hn, ?_, ?_, ?_, ?_, ?_⟩
  · exact ⟨h1.1, by rw [e 1 1 (by omega)]; exact h1.2.1, fun i hi => by rw [e (1 + 1) i (by omega)]; exact h1.2.2 i hi⟩
  · exact ⟨h3.1, by rw [e 0 15 (by omega)]; exact h3.2⟩
  · exact ⟨h4.1, h4.2.1, by rw [e 7 4 (by omega)]; exact h4.2.2.1, by rw [e 7 5 (by omega)]; exact h4.2.2.2.1, fun w hw => by rw [e 8 w (by omega), e 9 w (by omega)]; exact h4.2.2.2.2.1 w hw, fun o ho => by rw [e 10 o (by omega), e 11 o (by omega)]; exact h4.2.2.2.2.2 o ho⟩
  · exact ⟨h5.1, by rw [e 36 3 (by omega)]; exact h5.2.1, fun i hi => by rw [e 37 i (by omega), e 38 i (by omega), e 39 i (by omega)]; exact h5.2.2 i hi⟩
  · exact fun j hj => by obtain ⟨q0, q1, q2, q3, q4⟩ := h6 j hj; exact ⟨q0, by rw [e (44 + 2 * j) 1 (by omega)]; exact q1, by rw [e (44 + 2 * j) 2 (by omega)]; exact q2, by rw [e (44 + 2 * j) 3 (by omega)]; exact q3, fun i hi => by rw [e (44 + 2 * j + 1) i (by omega)]; exact q4 i hi⟩
  · exact ⟨h7.1, by rw [e 0 16 (by omega)]; exact h7.2⟩
theorem RB.upF {S S' : Sg} {A : Ab} {T' : Nat} (h : RB S A) (e : ∀ a j, ¬ ((a = 0 ∧ j = 15) ∨ (a = 0 ∧ (j = 14 ∨ j = 17)) ∨ a = 5 ∨ (12 ≤ a ∧ a ≤ 35) ∨ a = 6 ∨ (40 ≤ a ∧ a ≤ 41) ∨ a = 43) → S'.1 a j = S.1 a j) (hn : T' ≤ 9 ∧ S'.1 0 15 = nI T') : RB S' (A.1, A.2.1, T', A.2.2.2) := by
  obtain ⟨h1, h2, h3, h4, h5, h6, h7⟩ := h
  refine ⟨?_, ?_, hn, ?_, ?_, ?_, ?_⟩
  · exact ⟨h1.1, by rw [e 1 1 (by omega)]; exact h1.2.1, fun i hi => by rw [e (1 + 1) i (by omega)]; exact h1.2.2 i hi⟩
  · exact ⟨h2.1, by rw [e 3 1 (by omega)]; exact h2.2.1, fun i hi => by rw [e (3 + 1) i (by omega)]; exact h2.2.2 i hi⟩
  · exact ⟨h4.1, h4.2.1, by rw [e 7 4 (by omega)]; exact h4.2.2.1, by rw [e 7 5 (by omega)]; exact h4.2.2.2.1, fun w hw => by rw [e 8 w (by omega), e 9 w (by omega)]; exact h4.2.2.2.2.1 w hw, fun o ho => by rw [e 10 o (by omega), e 11 o (by omega)]; exact h4.2.2.2.2.2 o ho⟩
  · exact ⟨h5.1, by rw [e 36 3 (by omega)]; exact h5.2.1, fun i hi => by rw [e 37 i (by omega), e 38 i (by omega), e 39 i (by omega)]; exact h5.2.2 i hi⟩
  · exact fun j hj => by obtain ⟨q0, q1, q2, q3, q4⟩ := h6 j hj; exact ⟨q0, by rw [e (44 + 2 * j) 1 (by omega)]; exact q1, by rw [e (44 + 2 * j) 2 (by omega)]; exact q2, by rw [e (44 + 2 * j) 3 (by omega)]; exact q3, fun i hi => by rw [e (44 + 2 * j + 1) i (by omega)]; exact q4 i hi⟩
  · exact ⟨h7.1, by rw [e 0 16 (by omega)]; exact h7.2⟩
theorem RB.upC {S S' : Sg} {A : Ab} {W' O' : Pr2} (h : RB S A) (e : ∀ a j, ¬ ((7 ≤ a ∧ a ≤ 11) ∨ (a = 0 ∧ (j = 14 ∨ j = 17)) ∨ a = 5 ∨ (12 ≤ a ∧ a ≤ 35) ∨ a = 6 ∨ (40 ≤ a ∧ a ≤ 41) ∨ a = 43) → S'.1 a j = S.1 a j) (hn : Ca S' W'.1 W'.2.1 W'.2.2 O'.1 O'.2.1 O'.2.2) : RB S' (A.1, A.2.1, A.2.2.1, W', O', A.2.2.2.2.2) := by
  obtain ⟨h1, h2, h3, h4, h5, h6, h7⟩ := h
  refine ⟨?_, ?_, ?_, hn, ?_, ?_, ?_⟩
  · exact ⟨h1.1, by rw [e 1 1 (by omega)]; exact h1.2.1, fun i hi => by rw [e (1 + 1) i (by omega)]; exact h1.2.2 i hi⟩
  · exact ⟨h2.1, by rw [e 3 1 (by omega)]; exact h2.2.1, fun i hi => by rw [e (3 + 1) i (by omega)]; exact h2.2.2 i hi⟩
  · exact ⟨h3.1, by rw [e 0 15 (by omega)]; exact h3.2⟩
  · exact ⟨h5.1, by rw [e 36 3 (by omega)]; exact h5.2.1, fun i hi => by rw [e 37 i (by omega), e 38 i (by omega), e 39 i (by omega)]; exact h5.2.2 i hi⟩
  · exact fun j hj => by obtain ⟨q0, q1, q2, q3, q4⟩ := h6 j hj; exact ⟨q0, by rw [e (44 + 2 * j) 1 (by omega)]; exact q1, by rw [e (44 + 2 * j) 2 (by omega)]; exact q2, by rw [e (44 + 2 * j) 3 (by omega)]; exact q3, fun i hi => by rw [e (44 + 2 * j + 1) i (by omega)]; exact q4 i hi⟩
  · exact ⟨h7.1, by rw [e 0 16 (by omega)]; exact h7.2⟩
theorem RB.upS {S S' : Sg} {A : Ab} {T' : Sn3} (h : RB S A) (e : ∀ a j, ¬ ((36 ≤ a ∧ a ≤ 39) ∨ (a = 0 ∧ (j = 14 ∨ j = 17)) ∨ a = 5 ∨ (12 ≤ a ∧ a ≤ 35) ∨ a = 6 ∨ (40 ≤ a ∧ a ≤ 41) ∨ a = 43) → S'.1 a j = S.1 a j) (hn : cSn S' T') : RB S' (A.1, A.2.1, A.2.2.1, A.2.2.2.1, A.2.2.2.2.1, T', A.2.2.2.2.2.2) := by
  obtain ⟨h1, h2, h3, h4, h5, h6, h7⟩ := h
  refine ⟨?_, ?_, ?_, ?_, hn, ?_, ?_⟩
  · exact ⟨h1.1, by rw [e 1 1 (by omega)]; exact h1.2.1, fun i hi => by rw [e (1 + 1) i (by omega)]; exact h1.2.2 i hi⟩
  · exact ⟨h2.1, by rw [e 3 1 (by omega)]; exact h2.2.1, fun i hi => by rw [e (3 + 1) i (by omega)]; exact h2.2.2 i hi⟩
  · exact ⟨h3.1, by rw [e 0 15 (by omega)]; exact h3.2⟩
  · exact ⟨h4.1, h4.2.1, by rw [e 7 4 (by omega)]; exact h4.2.2.1, by rw [e 7 5 (by omega)]; exact h4.2.2.2.1, fun w hw => by rw [e 8 w (by omega), e 9 w (by omega)]; exact h4.2.2.2.2.1 w hw, fun o ho => by rw [e 10 o (by omega), e 11 o (by omega)]; exact h4.2.2.2.2.2 o ho⟩
  · exact fun j hj => by obtain ⟨q0, q1, q2, q3, q4⟩ := h6 j hj; exact ⟨q0, by rw [e (44 + 2 * j) 1 (by omega)]; exact q1, by rw [e (44 + 2 * j) 2 (by omega)]; exact q2, by rw [e (44 + 2 * j) 3 (by omega)]; exact q3, fun i hi => by rw [e (44 + 2 * j + 1) i (by omega)]; exact q4 i hi⟩
  · exact ⟨h7.1, by rw [e 0 16 (by omega)]; exact h7.2⟩
theorem RB.upH {S S' : Sg} {A : Ab} {T' : Sh4} (h : RB S A) (e : ∀ a j, ¬ ((44 ≤ a ∧ a ≤ 51) ∨ (a = 0 ∧ (j = 14 ∨ j = 17)) ∨ a = 5 ∨ (12 ≤ a ∧ a ≤ 35) ∨ a = 6 ∨ (40 ≤ a ∧ a ≤ 41) ∨ a = 43) → S'.1 a j = S.1 a j) (hn : cSh S' T') : RB S' (A.1, A.2.1, A.2.2.1, A.2.2.2.1, A.2.2.2.2.1, A.2.2.2.2.2.1, T', A.2.2.2.2.2.2.2) := by
  obtain ⟨h1, h2, h3, h4, h5, h6, h7⟩ := h
  refine ⟨?_, ?_, ?_, ?_, ?_, hn, ?_⟩
  · exact ⟨h1.1, by rw [e 1 1 (by omega)]; exact h1.2.1, fun i hi => by rw [e (1 + 1) i (by omega)]; exact h1.2.2 i hi⟩
  · exact ⟨h2.1, by rw [e 3 1 (by omega)]; exact h2.2.1, fun i hi => by rw [e (3 + 1) i (by omega)]; exact h2.2.2 i hi⟩
  · exact ⟨h3.1, by rw [e 0 15 (by omega)]; exact h3.2⟩
  · exact ⟨h4.1, h4.2.1, by rw [e 7 4 (by omega)]; exact h4.2.2.1, by rw [e 7 5 (by omega)]; exact h4.2.2.2.1, fun w hw => by rw [e 8 w (by omega), e 9 w (by omega)]; exact h4.2.2.2.2.1 w hw, fun o ho => by rw [e 10 o (by omega), e 11 o (by omega)]; exact h4.2.2.2.2.2 o ho⟩
  · exact ⟨h5.1, by rw [e 36 3 (by omega)]; exact h5.2.1, fun i hi => by rw [e 37 i (by omega), e 38 i (by omega), e 39 i (by omega)]; exact h5.2.2 i hi⟩
  · exact ⟨h7.1, by rw [e 0 16 (by omega)]; exact h7.2⟩
theorem RB.upG {S S' : Sg} {A : Ab} {T' : Nat} (h : RB S A) (e : ∀ a j, ¬ ((a = 0 ∧ j = 16) ∨ (a = 0 ∧ (j = 14 ∨ j = 17)) ∨ a = 5 ∨ (12 ≤ a ∧ a ≤ 35) ∨ a = 6 ∨ (40 ≤ a ∧ a ≤ 41) ∨ a = 43) → S'.1 a j = S.1 a j) (hn : T' ≤ 5 ∧ S'.1 0 16 = nI T') : RB S' (A.1, A.2.1, A.2.2.1, A.2.2.2.1, A.2.2.2.2.1, A.2.2.2.2.2.1, A.2.2.2.2.2.2.1, T') := by
  obtain ⟨h1, h2, h3, h4, h5, h6, h7⟩ := h
  refine ⟨?_, ?_, ?_, ?_, ?_, ?_, hn⟩
  · exact ⟨h1.1, by rw [e 1 1 (by omega)]; exact h1.2.1, fun i hi => by rw [e (1 + 1) i (by omega)]; exact h1.2.2 i hi⟩
  · exact ⟨h2.1, by rw [e 3 1 (by omega)]; exact h2.2.1, fun i hi => by rw [e (3 + 1) i (by omega)]; exact h2.2.2 i hi⟩
  · exact ⟨h3.1, by rw [e 0 15 (by omega)]; exact h3.2⟩
  · exact ⟨h4.1, h4.2.1, by rw [e 7 4 (by omega)]; exact h4.2.2.1, by rw [e 7 5 (by omega)]; exact h4.2.2.2.1, fun w hw => by rw [e 8 w (by omega), e 9 w (by omega)]; exact h4.2.2.2.2.1 w hw, fun o ho => by rw [e 10 o (by omega), e 11 o (by omega)]; exact h4.2.2.2.2.2 o ho⟩
  · exact ⟨h5.1, by rw [e 36 3 (by omega)]; exact h5.2.1, fun i hi => by rw [e 37 i (by omega), e 38 i (by omega), e 39 i (by omega)]; exact h5.2.2 i hi⟩
  · exact fun j hj => by obtain ⟨q0, q1, q2, q3, q4⟩ := h6 j hj; exact ⟨q0, by rw [e (44 + 2 * j) 1 (by omega)]; exact q1, by rw [e (44 + 2 * j) 2 (by omega)]; exact q2, by rw [e (44 + 2 * j) 3 (by omega)]; exact q3, fun i hi => by rw [e (44 + 2 * j + 1) i (by omega)]; exact q4 i hi⟩
theorem RM.upT {S S' : Sg} {A : Ab} {T' : Tx} (h : RM S A) (e : ∀ a j, ¬ (((a = 1 ∧ j = 0) ∨ (a = 2 ∧ j < 55)) ∨ (a = 0 ∧ (j = 2 ∨ j = 4 ∨ j = 17 ∨ j = 18 ∨ j = 21)) ∨ (3 ≤ a ∧ a ≤ 7) ∨ (12 ≤ a ∧ a ≤ 17) ∨ a = 21 ∨ a = 26) → S'.1 a j = S.1 a j) (hn : mT 0 20 S' T') : RM S' (T', A.2) := by
  obtain ⟨h1, h2, h3, h4, h5, h6, h7⟩ := h
  refine ⟨hn, ?_, ?_, ?_, ?_, ?_, ?_⟩
  · exact ⟨h2.1, by rw [e 1 1 (by omega)]; exact h2.2.1, fun i hi => by rw [e 2 (55 * 1 + i) (by omega)]; exact h2.2.2 i hi⟩
  · exact ⟨h3.1, by rw [e 0 9 (by omega)]; exact h3.2⟩
  · exact ⟨h4.1, h4.2.1, by rw [e 0 10 (by omega)]; exact h4.2.2.1, by rw [e 0 13 (by omega)]; exact h4.2.2.2.1, fun w hw => by rw [e 8 w (by omega), e 9 w (by omega)]; exact h4.2.2.2.2.1 w hw, fun o ho => by rw [e 10 o (by omega), e 11 o (by omega)]; exact h4.2.2.2.2.2 o ho⟩
  · exact ⟨h5.1, by rw [e 0 25 (by omega)]; exact h5.2.1, fun i hi => by rw [e 18 i (by omega), e 19 i (by omega), e 20 i (by omega)]; exact h5.2.2 i hi⟩
  · exact fun j hj => by obtain ⟨q0, q1, q2, q3, q4⟩ := h6 j hj; exact ⟨q0, by rw [e 22 j (by omega)]; exact q1, by rw [e 23 j (by omega)]; exact q2, by rw [e 24 j (by omega)]; exact q3, fun i hi => by rw [e 25 (60 * j + i) (by omega)]; exact q4 i hi⟩
  · exact ⟨h7.1, by rw [e 0 35 (by omega)]; exact h7.2⟩
theorem RM.upU {S S' : Sg} {A : Ab} {T' : Tx} (h : RM S A) (e : ∀ a j, ¬ (((a = 1 ∧ j = 1) ∨ (a = 2 ∧ 55 ≤ j)) ∨ (a = 0 ∧ (j = 2 ∨ j = 4 ∨ j = 17 ∨ j = 18 ∨ j = 21)) ∨ (3 ≤ a ∧ a ≤ 7) ∨ (12 ≤ a ∧ a ≤ 17) ∨ a = 21 ∨ a = 26) → S'.1 a j = S.1 a j) (hn : mT 1 55 S' T') : RM S' (A.1, T', A.2.2) := by
  obtain ⟨h1, h2, h3, h4, h5, h6, h7⟩ := h
  refine ⟨?_, hn, ?_, ?_, ?_, ?_, ?_⟩
  · exact ⟨h1.1, by rw [e 1 0 (by omega)]; exact h1.2.1, fun i (hi : i < (aT A).1) => by have := h1.1; rw [e 2 (55 * 0 + i) (by omega)]; exact h1.2.2 i hi⟩
  · exact ⟨h3.1, by rw [e 0 9 (by omega)]; exact h3.2⟩
  · exact ⟨h4.1, h4.2.1, by rw [e 0 10 (by omega)]; exact h4.2.2.1, by rw [e 0 13 (by omega)]; exact h4.2.2.2.1, fun w hw => by rw [e 8 w (by omega), e 9 w (by omega)]; exact h4.2.2.2.2.1 w hw, fun o ho => by rw [e 10 o (by omega), e 11 o (by omega)]; exact h4.2.2.2.2.2 o ho⟩
  · exact ⟨h5.1, by rw [e 0 25 (by omega)]; exact h5.2.1, fun i hi => by rw [e 18 i (by omega), e 19 i (by omega), e 20 i (by omega)]; exact h5.2.2 i hi⟩
  · exact fun j hj => by obtain ⟨q0, q1, q2, q3, q4⟩ := h6 j hj; exact ⟨q0, by rw [e 22 j (by omega)]; exact q1, by rw [e 23 j (by omega)]; exact q2, by rw [e 24 j (by omega)]; exact q3, fun i hi => by rw [e 25 (60 * j + i) (by omega)]; exact q4 i hi⟩
  · exact ⟨h7.1, by rw [e 0 35 (by omega)]; exact h7.2⟩
theorem RM.upF {S S' : Sg} {A : Ab} {T' : Nat} (h : RM S A) (e : ∀ a j, ¬ ((a = 0 ∧ j = 9) ∨ (a = 0 ∧ (j = 2 ∨ j = 4 ∨ j = 17 ∨ j = 18 ∨ j = 21)) ∨ (3 ≤ a ∧ a ≤ 7) ∨ (12 ≤ a ∧ a ≤ 17) ∨ a = 21 ∨ a = 26) → S'.1 a j = S.1 a j) (hn : T' ≤ 9 ∧ S'.1 0 9 = nI T') : RM S' (A.1, A.2.1, T', A.2.2.2) := by
  obtain ⟨h1, h2, h3, h4, h5, h6, h7⟩ := h
  refine ⟨?_, ?_, hn, ?_, ?_, ?_, ?_⟩
  · exact ⟨h1.1, by rw [e 1 0 (by omega)]; exact h1.2.1, fun i (hi : i < (aT A).1) => by have := h1.1; rw [e 2 (55 * 0 + i) (by omega)]; exact h1.2.2 i hi⟩
  · exact ⟨h2.1, by rw [e 1 1 (by omega)]; exact h2.2.1, fun i hi => by rw [e 2 (55 * 1 + i) (by omega)]; exact h2.2.2 i hi⟩
  · exact ⟨h4.1, h4.2.1, by rw [e 0 10 (by omega)]; exact h4.2.2.1, by rw [e 0 13 (by omega)]; exact h4.2.2.2.1, fun w hw => by rw [e 8 w (by omega), e 9 w (by omega)]; exact h4.2.2.2.2.1 w hw, fun o ho => by rw [e 10 o (by omega), e 11 o (by omega)]; exact h4.2.2.2.2.2 o ho⟩
  · exact ⟨h5.1, by rw [e 0 25 (by omega)]; exact h5.2.1, fun i hi => by rw [e 18 i (by omega), e 19 i (by omega), e 20 i (by omega)]; exact h5.2.2 i hi⟩
  · exact fun j hj => by obtain ⟨q0, q1, q2, q3, q4⟩ := h6 j hj; exact ⟨q0, by rw [e 22 j (by omega)]; exact q1, by rw [e 23 j (by omega)]; exact q2, by rw [e 24 j (by omega)]; exact q3, fun i hi => by rw [e 25 (60 * j + i) (by omega)]; exact q4 i hi⟩
  · exact ⟨h7.1, by rw [e 0 35 (by omega)]; exact h7.2⟩
theorem RM.upC {S S' : Sg} {A : Ab} {W' O' : Pr2} (h : RM S A) (e : ∀ a j, ¬ (((a = 0 ∧ (j = 10 ∨ j = 13)) ∨ (8 ≤ a ∧ a ≤ 11)) ∨ (a = 0 ∧ (j = 2 ∨ j = 4 ∨ j = 17 ∨ j = 18 ∨ j = 21)) ∨ (3 ≤ a ∧ a ≤ 7) ∨ (12 ≤ a ∧ a ≤ 17) ∨ a = 21 ∨ a = 26) → S'.1 a j = S.1 a j) (hn : mCa S' W' O') : RM S' (A.1, A.2.1, A.2.2.1, W', O', A.2.2.2.2.2) := by
  obtain ⟨h1, h2, h3, h4, h5, h6, h7⟩ := h
  refine ⟨?_, ?_, ?_, hn, ?_, ?_, ?_⟩
  · exact ⟨h1.1, by rw [e 1 0 (by omega)]; exact h1.2.1, fun i (hi : i < (aT A).1) => by have := h1.1; rw [e 2 (55 * 0 + i) (by omega)]; exact h1.2.2 i hi⟩
  · exact ⟨h2.1, by rw [e 1 1 (by omega)]; exact h2.2.1, fun i hi => by rw [e 2 (55 * 1 + i) (by omega)]; exact h2.2.2 i hi⟩
  · exact ⟨h3.1, by rw [e 0 9 (by omega)]; exact h3.2⟩
  · exact ⟨h5.1, by rw [e 0 25 (by omega)]; exact h5.2.1, fun i hi => by rw [e 18 i (by omega), e 19 i (by omega), e 20 i (by omega)]; exact h5.2.2 i hi⟩
  · exact fun j hj => by obtain ⟨q0, q1, q2, q3, q4⟩ := h6 j hj; exact ⟨q0, by rw [e 22 j (by omega)]; exact q1, by rw [e 23 j (by omega)]; exact q2, by rw [e 24 j (by omega)]; exact q3, fun i hi => by rw [e 25 (60 * j + i) (by omega)]; exact q4 i hi⟩
  · exact ⟨h7.1, by rw [e 0 35 (by omega)]; exact h7.2⟩
theorem RM.upS {S S' : Sg} {A : Ab} {T' : Sn3} (h : RM S A) (e : ∀ a j, ¬ (((a = 0 ∧ j = 25) ∨ (18 ≤ a ∧ a ≤ 20)) ∨ (a = 0 ∧ (j = 2 ∨ j = 4 ∨ j = 17 ∨ j = 18 ∨ j = 21)) ∨ (3 ≤ a ∧ a ≤ 7) ∨ (12 ≤ a ∧ a ≤ 17) ∨ a = 21 ∨ a = 26) → S'.1 a j = S.1 a j) (hn : mSn S' T') : RM S' (A.1, A.2.1, A.2.2.1, A.2.2.2.1, A.2.2.2.2.1, T', A.2.2.2.2.2.2) := by
  obtain ⟨h1, h2, h3, h4, h5, h6, h7⟩ := h
  refine ⟨?_, ?_, ?_, ?_, hn, ?_, ?_⟩
  · exact ⟨h1.1, by rw [e 1 0 (by omega)]; exact h1.2.1, fun i (hi : i < (aT A).1) => by have := h1.1; rw [e 2 (55 * 0 + i) (by omega)]; exact h1.2.2 i hi⟩
  · exact ⟨h2.1, by rw [e 1 1 (by omega)]; exact h2.2.1, fun i hi => by rw [e 2 (55 * 1 + i) (by omega)]; exact h2.2.2 i hi⟩
  · exact ⟨h3.1, by rw [e 0 9 (by omega)]; exact h3.2⟩
  · exact ⟨h4.1, h4.2.1, by rw [e 0 10 (by omega)]; exact h4.2.2.1, by rw [e 0 13 (by omega)]; exact h4.2.2.2.1, fun w hw => by rw [e 8 w (by omega), e 9 w (by omega)]; exact h4.2.2.2.2.1 w hw, fun o ho => by rw [e 10 o (by omega), e 11 o (by omega)]; exact h4.2.2.2.2.2 o ho⟩
  · exact fun j hj => by obtain ⟨q0, q1, q2, q3, q4⟩ := h6 j hj; exact ⟨q0, by rw [e 22 j (by omega)]; exact q1, by rw [e 23 j (by omega)]; exact q2, by rw [e 24 j (by omega)]; exact q3, fun i hi => by rw [e 25 (60 * j + i) (by omega)]; exact q4 i hi⟩
  · exact ⟨h7.1, by rw [e 0 35 (by omega)]; exact h7.2⟩
theorem RM.upH {S S' : Sg} {A : Ab} {T' : Sh4} (h : RM S A) (e : ∀ a j, ¬ ((22 ≤ a ∧ a ≤ 25) ∨ (a = 0 ∧ (j = 2 ∨ j = 4 ∨ j = 17 ∨ j = 18 ∨ j = 21)) ∨ (3 ≤ a ∧ a ≤ 7) ∨ (12 ≤ a ∧ a ≤ 17) ∨ a = 21 ∨ a = 26) → S'.1 a j = S.1 a j) (hn : mSh S' T') : RM S' (A.1, A.2.1, A.2.2.1, A.2.2.2.1, A.2.2.2.2.1, A.2.2.2.2.2.1, T', A.2.2.2.2.2.2.2) := by
  obtain ⟨h1, h2, h3, h4, h5, h6, h7⟩ := h
  refine ⟨?_, ?_, ?_, ?_, ?_, hn, ?_⟩
  · exact ⟨h1.1, by rw [e 1 0 (by omega)]; exact h1.2.1, fun i (hi : i < (aT A).1) => by have := h1.1; rw [e 2 (55 * 0 + i) (by omega)]; exact h1.2.2 i hi⟩
  · exact ⟨h2.1, by rw [e 1 1 (by omega)]; exact h2.2.1, fun i hi => by rw [e 2 (55 * 1 + i) (by omega)]; exact h2.2.2 i hi⟩
  · exact ⟨h3.1, by rw [e 0 9 (by omega)]; exact h3.2⟩
  · exact ⟨h4.1, h4.2.1, by rw [e 0 10 (by omega)]; exact h4.2.2.1, by rw [e 0 13 (by omega)]; exact h4.2.2.2.1, fun w hw => by rw [e 8 w (by omega), e 9 w (by omega)]; exact h4.2.2.2.2.1 w hw, fun o ho => by rw [e 10 o (by omega), e 11 o (by omega)]; exact h4.2.2.2.2.2 o ho⟩
  · exact ⟨h5.1, by rw [e 0 25 (by omega)]; exact h5.2.1, fun i hi => by rw [e 18 i (by omega), e 19 i (by omega), e 20 i (by omega)]; exact h5.2.2 i hi⟩
  · exact ⟨h7.1, by rw [e 0 35 (by omega)]; exact h7.2⟩
theorem RM.upG {S S' : Sg} {A : Ab} {T' : Nat} (h : RM S A) (e : ∀ a j, ¬ ((a = 0 ∧ j = 35) ∨ (a = 0 ∧ (j = 2 ∨ j = 4 ∨ j = 17 ∨ j = 18 ∨ j = 21)) ∨ (3 ≤ a ∧ a ≤ 7) ∨ (12 ≤ a ∧ a ≤ 17) ∨ a = 21 ∨ a = 26) → S'.1 a j = S.1 a j) (hn : T' ≤ 5 ∧ S'.1 0 35 = nI T') : RM S' (A.1, A.2.1, A.2.2.1, A.2.2.2.1, A.2.2.2.2.1, A.2.2.2.2.2.1, A.2.2.2.2.2.2.1, T') := by
  obtain ⟨h1, h2, h3, h4, h5, h6, h7⟩ := h
  refine ⟨?_, ?_, ?_, ?_, ?_, ?_, hn⟩
  · exact ⟨h1.1, by rw [e 1 0 (by omega)]; exact h1.2.1, fun i (hi : i < (aT A).1) => by have := h1.1; rw [e 2 (55 * 0 + i) (by omega)]; exact h1.2.2 i hi⟩
  · exact ⟨h2.1, by rw [e 1 1 (by omega)]; exact h2.2.1, fun i hi => by rw [e 2 (55 * 1 + i) (by omega)]; exact h2.2.2 i hi⟩
  · exact ⟨h3.1, by rw [e 0 9 (by omega)]; exact h3.2⟩
  · exact ⟨h4.1, h4.2.1, by rw [e 0 10 (by omega)]; exact h4.2.2.1, by rw [e 0 13 (by omega)]; exact h4.2.2.2.1, fun w hw => by rw [e 8 w (by omega), e 9 w (by omega)]; exact h4.2.2.2.2.1 w hw, fun o ho => by rw [e 10 o (by omega), e 11 o (by omega)]; exact h4.2.2.2.2.2 o ho⟩
  · exact ⟨h5.1, by rw [e 0 25 (by omega)]; exact h5.2.1, fun i hi => by rw [e 18 i (by omega), e 19 i (by omega), e 20 i (by omega)]; exact h5.2.2 i hi⟩
  · exact fun j hj => by obtain ⟨q0, q1, q2, q3, q4⟩ := h6 j hj; exact ⟨q0, by rw [e 22 j (by omega)]; exact q1, by rw [e 23 j (by omega)]; exact q2, by rw [e 24 j (by omega)]; exact q3, fun i hi => by rw [e 25 (60 * j + i) (by omega)]; exact q4 i hi⟩
