/-! the reference: one day, all days -/
theorem nowP_stg {c : Cf} {d k : Nat} (h : ¬ nowP c d k = 2) : stg c d k = cK c k := by
  apply stg_start
  unfold nowP at h
  by_cases hd : d = 0
  · exact Or.inl hd
  · rw [if_neg hd] at h
    exact Or.inr h
theorem dayJ_stg {c : Cf} {d k : Nat} (h : dayJ c d k = true) : stg c d k = cK c k := by
  apply stg_start
  by_cases hd : d = 0
  · exact Or.inl hd
  · refine Or.inr ?_
    unfold dayJ at h
    rw [Bool.and_eq_true, beq_iff_eq] at h
    unfold now
    rw [if_pos (Or.inr (by omega))]
    omega
theorem up_2 {c : Cf} {d k : Nat} (h : up c d k = true) : now c k d = 2 := by
  unfold up upS at h
  simp only [Bool.and_eq_true, beq_iff_eq] at h
  exact h.1.1.1
theorem adjF_adj {c : Cf} {d k : Nat} : adjF c d (up c d) (stg c d) k = adj c d (stg c d) k := rfl
theorem stg_2 {c : Cf} {d k : Nat} (h : now c k d = 2) : stg c (d + 1) k = adjF c d (up c d) (stg c d) k := by
  rw [adjF_adj, stg]
  dsimp only
  rw [if_pos h]
/-- the rows that the reference keeps of day d -/
def Rd (S : Sg) (c : Cf) (d : Nat) : Prop := S.1 15 d = pb (up c d) ∧ ∀ k, k < cN c → S.1 16 (8 * d + k) = nI (if up c d k = true then 3 else now c k d) ∧ S.1 17 (8 * d + k) = if now c k d = 2 then nI (stg c (d + 1) k) else -nI 1
theorem goesBy_ok {S : Sg} {c : Cf} {nw no : Nat} {wd wl od ol : Nat → Nat} {mo : Nat → Bool} (h : Md S c nw wd wl no od ol mo) {d : Nat} (hd : d < 20) (hN : Nw S (cN c) (nowP c d) (stg c d)) : ∃ S', fX9_goesBy (nI d) S = some ((), S') ∧ mf S S' ∧ kpd d S S' ∧ Nw S' (cN c) (fun k => now c k d) (stg c (d + 1)) ∧ Rd S' c d := by
  have h8 := h.1
  have hg : ∀ i, i < cN c → stg c d i ≤ 9 := fun i hi => stg_le (h.2.2.1 i hi).2.2.2.2.2.2 d
  have hP := h.2.2.2.2.2.2.2.2.2.2.2.2.2.2.2.2
  obtain ⟨S1, e1, f1, k1, N1⟩ := wipes_ok h hd hN (fun k hk q => (nowP_stg (by omega)).symm)
  have h1 := h.mf f1
  obtain ⟨S2, e2, f2, k2, N2⟩ := strokes_ok h1 hd N1 (fun k hk q => by
    by_cases z : nowP c d k = 1 ∧ cW c d (cC c k / 6) = true
    · rw [if_pos z] at q; omega
    · rw [if_neg z] at q
      exact (nowP_stg (by omega)).symm) (fun k hk q => (dayJ_stg q).symm)
  have h2 := h1.mf f2
  have N2' : Nw S2 (cN c) (fun k => now c k d) (stg c d) := N2.cong (fun k hk => now_step.resolve_right (by omega))
  have e3 := ups_ok h2 hd N2' hg
  have hset : pb (fun k => decide (k < cN c) && upF c d (fun k => now c k d) (stg c d) k) = pb (up c d) := pb_cong (fun k hk => upF_up (fun i hi => rfl) hP)
  rw [hset] at e3
  have h4 : Md (sI (sI S2 0 21 (pb (up c d))) 15 d (pb (up c d))) c nw wd wl no od ol mo := h2.mf ((mf.rf.I (by omega)).I (by omega))
  obtain ⟨S5, e5, f5, k5, k5', N5, R5⟩ := rows_ok h4 hd (u := up c d) (N2'.fl (fun a j q => by rw [sI1, if_neg (by omega), sI1, if_neg (by omega)])) hg (by rw [sI1, if_neg (by omega), sI1, if_pos ⟨rfl, rfl⟩]) (fun i q => up_2 q)
  refine ⟨S5, ?_, ?_, ?_, ?_, ?_, ?_⟩
  · unfold fX9_goesBy
    have e3' : lp (bX9_goesBy_172 (nI d)) fl 0 (sI S2 0 21 0) = some (nI (cN c), sI S2 0 21 (pb (up c d))) := e3
    have e5' : lp (bX9_goesBy_277 (nI d)) fl 0 (sI (sI S2 0 21 (pb (up c d))) 15 d (pb (up c d))) = some (nI (cN c), S5) := e5
    have e1' : lp (bX9_goesBy_2 (nI d)) fl 0 S = some (nI nw, S1) := e1
    have e2' : lp (bX9_goesBy_77 (nI d)) fl 0 S1 = some (nI (cN c), S2) := e2
    rw [e1', bd_some, e2', bd_some, e3', bd_some, gd_ix hd (by omega), ns_cl (by omega), sI1, if_pos ⟨rfl, rfl⟩, e5', bd_some]
  · exact (f1.tr f2).tr (((mf.rf.I (by omega)).I (by omega)).tr f5)
  · intro a j p1 p2 p3 p4
    rw [k5 a j p1 p2 p3 p4, sI1, if_neg (by omega), sI1, if_neg (by omega)]
    exact (k2 a j p1 p2).trans (k1 a j p1 p2)
  · intro k hk
    obtain ⟨m1, m2, m3⟩ := N5 k hk
    exact ⟨m1, m2, fun q => by rw [stg_2 q]; exact m3 q⟩
  · rw [k5' d, sI1, if_pos ⟨rfl, rfl⟩]
  · intro k hk
    obtain ⟨m1, m2⟩ := R5 k hk
    refine ⟨m1, ?_⟩
    rw [m2]
    by_cases q : now c k d = 2
    · rw [if_pos q, if_pos q, stg_2 q]
    · rw [if_neg q, if_neg q]
theorem Rd.kpd {S S' : Sg} {c : Cf} {d e : Nat} (h : Rd S c e) (hn : cN c ≤ 8) (hd : ¬ e = d) (k : kpd d S S') : Rd S' c e := by
  refine ⟨by rw [k 15 e (by omega) (by omega) (by omega) (by omega)]; exact h.1, fun i hi => ?_⟩
  rw [k 16 (8 * e + i) (by omega) (by omega) (by omega) (by omega), k 17 (8 * e + i) (by omega) (by omega) (by omega) (by omega)]
  exact h.2 i hi
theorem runs_ok {S : Sg} {c : Cf} {nw no : Nat} {wd wl od ol : Nat → Nat} {mo : Nat → Bool} (h : Md S c nw wd wl no od ol mo) : ∃ S', fX9_runs S = some ((), S') ∧ mf S S' ∧ Nw S' (cN c) (fun k => now c k 19) (stg c 20) ∧ ∀ d, d < 20 → Rd S' c d := by
  have h8 := h.1
  obtain ⟨a, S1, e1, rfl, f1, n1⟩ := lp_invF (B := bX9_runs_2) (fun i a S1 => a = nI i ∧ mf S S1 ∧ ∀ k, k < i → S1.1 13 k = nI 0) (fun a S1 => a = nI 8 ∧ mf S S1 ∧ ∀ k, k < 8 → S1.1 13 k = nI 0) 8 (by omega) (by
    rintro i a S1 hi ⟨rfl, hf, hz⟩
    by_cases hin : i < 8
    · refine Or.inl ⟨hin, nI (i + 1), sI (sI S1 13 i (nI 0)) 14 i (nI 0), fun rec => ?_, rfl, (hf.I (by omega)).I (by omega), fun k hk => ?_⟩
      · simp (disch := omega) only [bX9_runs_2, bd_some, gd_ix, lit_0, lit_1, lit_2, lit_3, lit_4, lit_5, lit_6, lit_7, lit_8, lit_9, lit_10, lit_15, lit_16, lit_19, lit_20, lit_31, lit_35, lit_36, lit_48, lit_49, lit_53, lit_55, lit_57, lit_59, lit_60, lit_63, lit_64, lit_97, lit_102, lit_110, lit_160, lit_255, nI_add, ns_sub, ns_div, ns_le, ns_lt, ns_eq, ns_cl, pk_mul, ne10, eq_self, ↓reduceIte, show ¬ 8 ≤ i from by omega]
      · rw [sI1, if_neg (by omega), sI1]
        by_cases hki : k = i
        · rw [if_pos ⟨rfl, hki⟩]
        · rw [if_neg (by omega)]; exact hz k (by omega)
    · have hin2 : i = 8 := by omega
      subst hin2
      refine Or.inr ⟨nI 8, S1, fun rec => ?_, rfl, hf, hz⟩
      simp (disch := omega) only [bX9_runs_2, bd_some, gd_ix, lit_0, lit_1, lit_2, lit_3, lit_4, lit_5, lit_6, lit_7, lit_8, lit_9, lit_10, lit_15, lit_16, lit_19, lit_20, lit_31, lit_35, lit_36, lit_48, lit_49, lit_53, lit_55, lit_57, lit_59, lit_60, lit_63, lit_64, lit_97, lit_102, lit_110, lit_160, lit_255, nI_add, ns_sub, ns_div, ns_le, ns_lt, ns_eq, ns_cl, pk_mul, ne10, eq_self, ↓reduceIte, Nat.le_refl]) (nI 0) S ⟨rfl, mf.rf, fun k hk => absurd hk (by omega)⟩
  have h1 := h.mf f1
  obtain ⟨a, S2, e2, rfl, f2, n2, r2⟩ := lp_invF (B := bX9_runs_30) (fun i a S2 => a = nI i ∧ mf S1 S2 ∧ Nw S2 (cN c) (nowP c i) (stg c i) ∧ ∀ d, d < i → Rd S2 c d) (fun a S2 => a = nI 20 ∧ mf S1 S2 ∧ Nw S2 (cN c) (nowP c 20) (stg c 20) ∧ ∀ d, d < 20 → Rd S2 c d) 20 (by omega) (by
    rintro i a S2 hi ⟨rfl, hf, hN, hR⟩
    by_cases hin : i < 20
    · obtain ⟨S3, e3, f3, k3, N3, R3⟩ := goesBy_ok (h1.mf hf) hin hN
      refine Or.inl ⟨hin, nI (i + 1), S3, fun rec => ?_, rfl, hf.tr f3, N3.cong (fun k hk => by unfold nowP; rw [if_neg (by omega)]; rfl), fun e he => ?_⟩
      · simp (disch := omega) only [bX9_runs_30, bd_some, gd_ix, lit_0, lit_1, lit_2, lit_3, lit_4, lit_5, lit_6, lit_7, lit_8, lit_9, lit_10, lit_15, lit_16, lit_19, lit_20, lit_31, lit_35, lit_36, lit_48, lit_49, lit_53, lit_55, lit_57, lit_59, lit_60, lit_63, lit_64, lit_97, lit_102, lit_110, lit_160, lit_255, nI_add, ns_sub, ns_div, ns_le, ns_lt, ns_eq, ns_cl, pk_mul, ne10, eq_self, ↓reduceIte, e3, show ¬ 20 ≤ i from by omega]
      · by_cases hei : e = i
        · subst hei; exact R3
        · exact (hR e (by omega)).kpd h8 hei k3
    · have hin2 : i = 20 := by omega
      subst hin2
      refine Or.inr ⟨nI 20, S2, fun rec => ?_, rfl, hf, hN, hR⟩
      simp (disch := omega) only [bX9_runs_30, bd_some, gd_ix, lit_0, lit_1, lit_2, lit_3, lit_4, lit_5, lit_6, lit_7, lit_8, lit_9, lit_10, lit_15, lit_16, lit_19, lit_20, lit_31, lit_35, lit_36, lit_48, lit_49, lit_53, lit_55, lit_57, lit_59, lit_60, lit_63, lit_64, lit_97, lit_102, lit_110, lit_160, lit_255, nI_add, ns_sub, ns_div, ns_le, ns_lt, ns_eq, ns_cl, pk_mul, ne10, eq_self, ↓reduceIte, Nat.le_refl]) (nI 0) S1 ⟨rfl, mf.rf, fun k hk => ⟨by rw [n1 k (by omega)]; rfl, by simp [nowP], fun q => by simp [nowP] at q⟩, fun k hk => absurd hk (by omega)⟩
  refine ⟨S2, ?_, f1.tr f2, n2.cong (fun k hk => by unfold nowP; rw [if_neg (by omega)]), r2⟩
  unfold fX9_runs
  have e1' : lp bX9_runs_2 fl 0 S = some (nI 8, S1) := e1
  have e2' : lp bX9_runs_30 fl 0 S1 = some (nI 20, S2) := e2
  rw [e1', bd_some, e2', bd_some]
