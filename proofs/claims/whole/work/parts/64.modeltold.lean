/-! the reference: strokes read, the board as told, its days -/
theorem st4_get {S : Sg} {U : Tx} {n a j : Nat} : (st4 S U n).1 a j = if a = 7 ∧ j = n then nI (tK U n) else if a = 6 ∧ j = n then nI (tG U n) else if a = 5 ∧ j = n then nI (tC U n) else if a = 4 ∧ j = n then nI (tD U n) else S.1 a j := by
  unfold st4
  rw [sI1, sI1, sI1, sI1]
def mr (S S' : Sg) : Prop := ∀ a j, ¬ (4 ≤ a ∧ a ≤ 7) → S'.1 a j = S.1 a j
theorem mT.mr {t room : Nat} {S S' : Sg} {T : Tx} (h : mT t room S T) (f : mr S S') : mT t room S' T := by
  obtain ⟨h1, h2, h3⟩ := h
  refine ⟨h1, by rw [f 1 t (by omega)]; exact h2, fun i hi => ?_⟩
  rw [f 2 _ (by omega)]
  exact h3 i hi
def rows4 (S : Sg) (U : Tx) (n : Nat) : Prop := ∀ k, k < n → S.1 4 k = nI (tD U k) ∧ S.1 5 k = nI (tC U k) ∧ S.1 6 k = nI (tG U k) ∧ S.1 7 k = nI (tK U k)
theorem readsS_ok {S : Sg} {U : Tx} (h : mT 1 55 S U) : ∃ S', fX9_readsStrokes S = some (fau1 U, S') ∧ S'.1 0 4 = nI (tN U) ∧ rows4 S' U (tN U) ∧ ∀ a j, ¬ (a = 0 ∧ j = 4) → ¬ (4 ≤ a ∧ a ≤ 7) → S'.1 a j = S.1 a j := by
  have h1 := h.1
  generalize hS0 : sI S 0 4 (nI 0) = S0
  have hm0 : mT 1 55 S0 U := by
    obtain ⟨h1, h2, h3⟩ := h
    rw [← hS0]
    exact ⟨h1, by rw [sI1, if_neg (by omega)]; exact h2, fun i hi => by rw [sI1, if_neg (by omega)]; exact h3 i hi⟩
  have z0 : S0.1 0 4 = nI 0 := by rw [← hS0, sI1, if_pos ⟨rfl, rfl⟩]
  have g0 : ∀ a j, ¬ (a = 0 ∧ j = 4) → ¬ (4 ≤ a ∧ a ≤ 7) → S0.1 a j = S.1 a j := fun a j q1 q2 => by rw [← hS0, sI1, if_neg (by omega)]
  obtain ⟨t, S', e1, hQ⟩ := lp_invF (B := bX9_readsStrokes_9) (fun i a Sx => a = (nI i, nI (7 * i)) ∧ mr S0 Sx ∧ (∀ q, q < 7 * i → q < U.1 ∧ fitB (q % 7) (U.2 q) = true) ∧ rows4 Sx U i) (fun t Sx => ((t = Sum.inr (fau1 U)) ∨ (∃ y, t = Sum.inl y ∧ fau1 U = -nI 1)) ∧ Sx.1 0 4 = nI (tN U) ∧ rows4 Sx U (tN U) ∧ ∀ a j, ¬ (a = 0 ∧ j = 4) → ¬ (4 ≤ a ∧ a ≤ 7) → Sx.1 a j = S0.1 a j) 8 (by omega) (by
    rintro i a Sx hi ⟨rfl, hf, hq, hr⟩
    have hmx := hm0.mr hf
    have hl := hmx.2.1
    have hz : Sx.1 0 4 = nI 0 := by rw [hf 0 4 (by omega)]; exact z0
    have hgx : ∀ a j, ¬ (a = 0 ∧ j = 4) → ¬ (4 ≤ a ∧ a ≤ 7) → Sx.1 a j = S0.1 a j := fun a j _ q2 => hf a j q2
    by_cases hstop : U.1 = 0
    · have hi0 : i = 0 := by
        by_cases z : i = 0
        · exact z
        · have := (hq 0 (by omega)).1; omega
      subst hi0
      have hbad : bad1 U = U.1 := bad1_eq (Nat.le_refl _) (fun q hq2 => by omega) (fun q => by omega)
      have hN : tN U = 0 := by unfold tN; split <;> omega
      refine Or.inr ⟨Sum.inl (nI 0, nI 0), Sx, fun rec => ?_, Or.inr ⟨_, rfl, ?_⟩, by rw [hN]; exact hz, by rw [hN]; exact hr, hgx⟩
      · simp (disch := omega) only [bX9_readsStrokes_9, hl, bd_some, gd_ix, lit_0, lit_1, lit_2, lit_3, lit_4, lit_5, lit_6, lit_7, lit_8, lit_9, lit_10, lit_15, lit_16, lit_19, lit_20, lit_31, lit_35, lit_36, lit_48, lit_49, lit_53, lit_55, lit_57, lit_59, lit_60, lit_63, lit_64, lit_97, lit_102, lit_110, lit_160, lit_255, nI_add, ns_sub, ns_div, ns_le, ns_lt, ns_eq, ns_cl, pk_mul, ne10, eq_self, ↓reduceIte, hstop, Nat.mul_zero, Nat.lt_irrefl, Nat.le_refl]
      · unfold fau1
        rw [if_neg (by omega), if_pos (Or.inl hstop)]
    · have hi8 : i < 8 := by
        by_cases z : i = 8
        · have := (hq 55 (by omega)).1; omega
        · omega
      have hgo : 7 * i < U.1 ∨ ¬ 7 * i ≤ 0 := by omega
      have eR := readsStroke_ok hmx (n := i) (by omega)
      have hg6 : gdn U (7 * i) ≤ 6 := fa_first_le _ _
      have hfit : ∀ s, s < gdn U (7 * i) → 7 * i + s < U.1 ∧ fitB ((7 * i + s) % 7) (U.2 (7 * i + s)) = true := fun s hs => by
        have := first_lt (p := wlB U (7 * i)) (n := 6) (i := s) hs
        rw [show (7 * i + s) % 7 = s by omega]
        simpa [wlB] using this
      have hall : ∀ q, q < 7 * i + gdn U (7 * i) → q < U.1 ∧ fitB (q % 7) (U.2 q) = true := fun q hq2 => by
        by_cases z : q < 7 * i
        · exact hq q z
        · have := hfit (q - 7 * i) (by omega)
          rw [show 7 * i + (q - 7 * i) = q by omega] at this
          exact this
      by_cases hg : gdn U (7 * i) = 6
      · rw [if_pos hg, hg] at eR
        rw [hg] at hall
        have h6 : 7 * i + 6 ≤ U.1 := by have := (hall (7 * i + 5) (by omega)).1; omega
        have hf2 : mr S0 (st4 Sx U i) := fun a j q => by
          rw [st4_get, if_neg (by omega), if_neg (by omega), if_neg (by omega), if_neg (by omega)]
          exact hf a j q
        have hm2 := hm0.mr hf2
        have hl2 := hm2.2.1
        have hr2 : rows4 (st4 Sx U i) U (i + 1) := fun k hk => by
          rw [st4_get, st4_get, st4_get, st4_get]
          by_cases z : k = i
          · subst z; simp
          · simp only [z, and_false, if_false]; exact hr k (by omega)
        by_cases hend : 7 * i + 6 = U.1
        · have hbad : bad1 U = U.1 := bad1_eq (Nat.le_refl _) (fun q hq2 => (hall q (by omega)).2) (fun q => by omega)
          have hN : tN U = i + 1 := by unfold tN; rw [if_pos ⟨by omega, Or.inr (by omega)⟩]; omega
          refine Or.inr ⟨Sum.inr (-nI 1), sI (st4 Sx U i) 0 4 (nI (i + 1)), fun rec => ?_, Or.inl ?_, by rw [sI1, if_pos ⟨rfl, rfl⟩, hN], fun k hk => ?_, fun a j q1 q2 => by rw [sI1, if_neg (by omega)]; exact hf2 a j q2⟩
          · rcases hgo with c | c
            · simp (disch := omega) only [bX9_readsStrokes_9, hl, bd_some, gd_ix, lit_0, lit_1, lit_2, lit_3, lit_4, lit_5, lit_6, lit_7, lit_8, lit_9, lit_10, lit_15, lit_16, lit_19, lit_20, lit_31, lit_35, lit_36, lit_48, lit_49, lit_53, lit_55, lit_57, lit_59, lit_60, lit_63, lit_64, lit_97, lit_102, lit_110, lit_160, lit_255, nI_add, ns_sub, ns_div, ns_le, ns_lt, ns_eq, ns_cl, pk_mul, ne10, eq_self, ↓reduceIte, c, show ¬ i = 8 from by omega, eR, Nat.le_refl, hl2, hend]
            · by_cases c2 : 7 * i < U.1
              · simp (disch := omega) only [bX9_readsStrokes_9, hl, bd_some, gd_ix, lit_0, lit_1, lit_2, lit_3, lit_4, lit_5, lit_6, lit_7, lit_8, lit_9, lit_10, lit_15, lit_16, lit_19, lit_20, lit_31, lit_35, lit_36, lit_48, lit_49, lit_53, lit_55, lit_57, lit_59, lit_60, lit_63, lit_64, lit_97, lit_102, lit_110, lit_160, lit_255, nI_add, ns_sub, ns_div, ns_le, ns_lt, ns_eq, ns_cl, pk_mul, ne10, eq_self, ↓reduceIte, c2, show ¬ i = 8 from by omega, eR, Nat.le_refl, hl2, hend]
              · simp (disch := omega) only [bX9_readsStrokes_9, hl, bd_some, gd_ix, lit_0, lit_1, lit_2, lit_3, lit_4, lit_5, lit_6, lit_7, lit_8, lit_9, lit_10, lit_15, lit_16, lit_19, lit_20, lit_31, lit_35, lit_36, lit_48, lit_49, lit_53, lit_55, lit_57, lit_59, lit_60, lit_63, lit_64, lit_97, lit_102, lit_110, lit_160, lit_255, nI_add, ns_sub, ns_div, ns_le, ns_lt, ns_eq, ns_cl, pk_mul, ne10, eq_self, ↓reduceIte, c2, c, show ¬ i = 8 from by omega, eR, Nat.le_refl, hl2, hend]
          · unfold fau1
            rw [if_neg (by omega), if_pos (Or.inr (by omega))]
          · rw [sI1, sI1, sI1, sI1, if_neg (by omega), if_neg (by omega), if_neg (by omega), if_neg (by omega)]
            exact hr2 k (by omega)
        · have eB := byteAt_y hm2 (i := 7 * i + 6) (by omega)
          have h255 := (hm2.2.2 (7 * i + 6) (by omega)).2
          have c2 : 7 * i < U.1 := by omega
          by_cases hsemi : U.2 (7 * i + 6) = 59
          · refine Or.inl ⟨hi8, (nI (i + 1), nI (7 * (i + 1))), st4 Sx U i, fun rec => ?_, rfl, hf2, fun q hq2 => ?_, hr2⟩
            · rw [hsemi] at eB
              simp (disch := omega) only [bX9_readsStrokes_9, hl, bd_some, gd_ix, lit_0, lit_1, lit_2, lit_3, lit_4, lit_5, lit_6, lit_7, lit_8, lit_9, lit_10, lit_15, lit_16, lit_19, lit_20, lit_31, lit_35, lit_36, lit_48, lit_49, lit_53, lit_55, lit_57, lit_59, lit_60, lit_63, lit_64, lit_97, lit_102, lit_110, lit_160, lit_255, nI_add, ns_sub, ns_div, ns_le, ns_lt, ns_eq, ns_cl, pk_mul, ne10, eq_self, ↓reduceIte, c2, show ¬ i = 8 from by omega, eR, Nat.le_refl, hl2, hend, eB, show 7 * i + 6 + 1 = 7 * (i + 1) from by omega]
            · by_cases z : q < 7 * i + 6
              · exact hall q z
              · have : q = 7 * i + 6 := by omega
                subst this
                refine ⟨by omega, ?_⟩
                rw [show (7 * i + 6) % 7 = 6 by omega, hsemi]
                rfl
          · have hnf : fitB ((7 * i + 6) % 7) (U.2 (7 * i + 6)) = false := by
              rw [show (7 * i + 6) % 7 = 6 by omega]
              cases z : fitB 6 (U.2 (7 * i + 6)) with
              | false => rfl
              | true => simp [fitB] at z; omega
            have hbad : bad1 U = 7 * i + 6 := bad1_eq (by omega) (fun q hq2 => (hall q hq2).2) (fun _ => hnf)
            have hN : tN U = 0 := by unfold tN; rw [if_neg (by omega)]
            refine Or.inr ⟨Sum.inr (nI (7 * i + 6)), st4 Sx U i, fun rec => ?_, Or.inl ?_, by rw [st4_get, if_neg (by omega), if_neg (by omega), if_neg (by omega), if_neg (by omega), hN]; exact hz, by rw [hN]; exact fun k hk => absurd hk (by omega), fun a j _ q2 => hf2 a j q2⟩
            · simp (disch := omega) only [bX9_readsStrokes_9, hl, bd_some, gd_ix, lit_0, lit_1, lit_2, lit_3, lit_4, lit_5, lit_6, lit_7, lit_8, lit_9, lit_10, lit_15, lit_16, lit_19, lit_20, lit_31, lit_35, lit_36, lit_48, lit_49, lit_53, lit_55, lit_57, lit_59, lit_60, lit_63, lit_64, lit_97, lit_102, lit_110, lit_160, lit_255, nI_add, ns_sub, ns_div, ns_le, ns_lt, ns_eq, ns_cl, pk_mul, ne10, eq_self, ↓reduceIte, c2, show ¬ i = 8 from by omega, eR, Nat.le_refl, hl2, hend, eB, hsemi]
            · unfold fau1
              rw [hbad, if_pos (by omega)]
      · rw [if_neg hg] at eR
        have hlast : ¬ (7 * i + gdn U (7 * i) < U.1 ∧ fitB ((7 * i + gdn U (7 * i)) % 7) (U.2 (7 * i + gdn U (7 * i))) = true) := by
          have hy := fa_first_yes (fun s => !wlB U (7 * i) s) 6 (by show gdn U (7 * i) < 6; omega)
          have hy2 : wlB U (7 * i) (gdn U (7 * i)) = false := by
            have : (!wlB U (7 * i) (gdn U (7 * i))) = true := hy
            simpa using this
          rw [show (7 * i + gdn U (7 * i)) % 7 = gdn U (7 * i) by omega]
          rintro ⟨z1, z2⟩
          simp [wlB, z1, z2] at hy2
        have hle : 7 * i + gdn U (7 * i) ≤ U.1 := by
          by_cases z : 7 * i + gdn U (7 * i) = 0
          · omega
          · have := (hall (7 * i + gdn U (7 * i) - 1) (by omega)).1; omega
        have hbad : bad1 U = 7 * i + gdn U (7 * i) := bad1_eq hle (fun q hq2 => (hall q hq2).2) (fun z => by
          cases z2 : fitB ((7 * i + gdn U (7 * i)) % 7) (U.2 (7 * i + gdn U (7 * i))) with
          | false => rfl
          | true => exact absurd ⟨z, z2⟩ hlast)
        have hN : tN U = 0 := by unfold tN; split <;> omega
        refine Or.inr ⟨Sum.inr (nI (7 * i + gdn U (7 * i))), Sx, fun rec => ?_, Or.inl ?_, by rw [hN]; exact hz, by rw [hN]; exact fun k hk => absurd hk (by omega), hgx⟩
        · by_cases c2 : 7 * i < U.1
          · simp (disch := omega) only [bX9_readsStrokes_9, hl, bd_some, gd_ix, lit_0, lit_1, lit_2, lit_3, lit_4, lit_5, lit_6, lit_7, lit_8, lit_9, lit_10, lit_15, lit_16, lit_19, lit_20, lit_31, lit_35, lit_36, lit_48, lit_49, lit_53, lit_55, lit_57, lit_59, lit_60, lit_63, lit_64, lit_97, lit_102, lit_110, lit_160, lit_255, nI_add, ns_sub, ns_div, ns_le, ns_lt, ns_eq, ns_cl, pk_mul, ne10, eq_self, ↓reduceIte, c2, show ¬ i = 8 from by omega, eR, show ¬ 6 ≤ gdn U (7 * i) from by omega]
          · simp (disch := omega) only [bX9_readsStrokes_9, hl, bd_some, gd_ix, lit_0, lit_1, lit_2, lit_3, lit_4, lit_5, lit_6, lit_7, lit_8, lit_9, lit_10, lit_15, lit_16, lit_19, lit_20, lit_31, lit_35, lit_36, lit_48, lit_49, lit_53, lit_55, lit_57, lit_59, lit_60, lit_63, lit_64, lit_97, lit_102, lit_110, lit_160, lit_255, nI_add, ns_sub, ns_div, ns_le, ns_lt, ns_eq, ns_cl, pk_mul, ne10, eq_self, ↓reduceIte, c2, show ¬ 7 * i ≤ 0 from by omega, show ¬ i = 8 from by omega, eR, show ¬ 6 ≤ gdn U (7 * i) from by omega]
        · unfold fau1
          rw [hbad]
          by_cases z : 7 * i + gdn U (7 * i) < U.1
          · rw [if_pos z]
          · rw [if_neg z, if_neg (by omega)]
            congr 2
            omega) (nI 0, nI 0) S0 ⟨rfl, fun _ _ _ => rfl, fun q hq => absurd hq (by omega), fun k hk => absurd hk (by omega)⟩
  obtain ⟨q1, q2, q3, q4⟩ := hQ
  refine ⟨S', ?_, q2, q3, fun a j z1 z2 => (q4 a j z1 z2).trans (g0 a j z1 z2)⟩
  unfold fX9_readsStrokes
  have e1' : lp bX9_readsStrokes_9 fl (0, 0) S0 = some (t, S') := e1
  rw [lit_0, hS0, ← lit_0, e1', bd_some]
  rcases q1 with rfl | ⟨y, rfl, hy⟩
  · rfl
  · rw [hy]; rfl
/-- the texts have been read -/
def Rr (S : Sg) (A : Ab) : Prop := S.1 0 2 = nI (tN0 (aT A)) ∧ S.1 0 4 = nI (tN (aU A)) ∧ (∀ d, d < 20 → S.1 3 d = nI (tA (aT A) d)) ∧ rows4 S (aU A) (tN (aU A))
theorem faultOf_ok {S : Sg} {A : Ab} (h : RM S A) (x : Int32) : ∃ S', fX9_faultOf x S = some ((if x = nI 0 then fau0 (aT A) else fau1 (aU A)), S') ∧ mz S S' ∧ Rr S' A := by
  obtain ⟨S1, e1, n1, r1, g1⟩ := readsD_ok h.1
  have h1 : RM S1 A := h.mz (fun a j q1 q2 q3 q4 q5 => g1 a j (by omega) (by omega))
  obtain ⟨S2, e2, n2, r2, g2⟩ := readsS_ok h1.2.1
  refine ⟨S2, ?_, fun a j q1 q2 q3 q4 q5 => (g2 a j (by omega) (by omega)).trans (g1 a j (by omega) (by omega)), ?_, n2, fun d hd => ?_, r2⟩
  · unfold fX9_faultOf
    rw [e1, bd_some, e2, bd_some]
    show (if x = nI 0 then _ else _) = _
    by_cases q : x = nI 0
    · rw [if_pos q, if_pos q]
    · rw [if_neg q, if_neg q]
  · rw [g2 0 2 (by omega) (by omega)]; exact n1
  · rw [g2 3 d (by omega) (by omega)]; exact r1 d hd
theorem reads_ok {S : Sg} {A : Ab} (h : RM S A) : ∃ S', fX9_reads S = some ((), S') ∧ mz S S' ∧ Rr S' A := by
  obtain ⟨S1, e1, g1, r1⟩ := faultOf_ok h 0
  refine ⟨S1, ?_, g1, r1⟩
  unfold fX9_reads
  rw [e1, bd_some]
abbrev MdA (S : Sg) (c : Cf) (A : Ab) (mo : Nat → Bool) : Prop := Md S c (aW A).1 (aW A).2.1 (aW A).2.2 (aO A).1 (aO A).2.1 (aO A).2.2 mo
theorem asTold_ok {S : Sg} {A : Ab} (h : RM S A) : ∃ S', fX9_asTold S = some ((), S') ∧ mz S S' ∧ Rr S' A ∧ MdA S' (cfg A) A (fun _ => false) := by
  obtain ⟨S1, e1, g1, r1⟩ := reads_ok h
  generalize hS2 : sI (sI S1 0 17 (nI 0)) 0 18 (nI 0) = S2
  have g2 : ∀ a j, ¬ (a = 0 ∧ (j = 17 ∨ j = 18)) → S2.1 a j = S1.1 a j := fun a j q => by rw [← hS2, sI1, if_neg (by omega), sI1, if_neg (by omega)]
  have z17 : S2.1 0 17 = nI 0 := by rw [← hS2, sI1, if_neg (by omega), sI1, if_pos ⟨rfl, rfl⟩]
  have z18 : S2.1 0 18 = nI 0 := by rw [← hS2, sI1, if_pos ⟨rfl, rfl⟩]
  obtain ⟨a, S3, e3, rfl, f3, r3⟩ := lp_invF (B := bX9_asTold_16) (fun i a Sx => a = nI i ∧ fr 12 12 S2 Sx ∧ ∀ d, d < i → Sx.1 12 d = nI (tA (aT A) d)) (fun a Sx => a = nI 20 ∧ fr 12 12 S2 Sx ∧ ∀ d, d < 20 → Sx.1 12 d = nI (tA (aT A) d)) 20 (by omega) (by
    rintro i a Sx hi ⟨rfl, hf, hr⟩
    by_cases hin : i < 20
    · have w : Sx.1 3 i = nI (tA (aT A) i) := by rw [hf.1 3 i (by omega), g2 3 i (by omega)]; exact r1.2.2.1 i hin
      refine Or.inl ⟨hin, nI (i + 1), sI Sx 12 i (nI (tA (aT A) i)), fun rec => ?_, rfl, hf.I (by omega) (by omega), fun d hd => ?_⟩
      · simp (disch := omega) only [bX9_asTold_16, bd_some, gd_ix, lit_0, lit_1, lit_2, lit_3, lit_4, lit_5, lit_6, lit_7, lit_8, lit_9, lit_10, lit_15, lit_16, lit_19, lit_20, lit_31, lit_35, lit_36, lit_48, lit_49, lit_53, lit_55, lit_57, lit_59, lit_60, lit_63, lit_64, lit_97, lit_102, lit_110, lit_160, lit_255, nI_add, ns_sub, ns_div, ns_le, ns_lt, ns_eq, ns_cl, pk_mul, ne10, eq_self, ↓reduceIte, w, show ¬ 20 ≤ i from by omega]
      · rw [sI1]
        by_cases q : d = i
        · subst q; rw [if_pos ⟨rfl, rfl⟩]
        · rw [if_neg (by omega)]; exact hr d (by omega)
    · have hin2 : i = 20 := by omega
      subst hin2
      refine Or.inr ⟨nI 20, Sx, fun rec => ?_, rfl, hf, hr⟩
      simp (disch := omega) only [bX9_asTold_16, bd_some, gd_ix, lit_0, lit_1, lit_2, lit_3, lit_4, lit_5, lit_6, lit_7, lit_8, lit_9, lit_10, lit_15, lit_16, lit_19, lit_20, lit_31, lit_35, lit_36, lit_48, lit_49, lit_53, lit_55, lit_57, lit_59, lit_60, lit_63, lit_64, lit_97, lit_102, lit_110, lit_160, lit_255, nI_add, ns_sub, ns_div, ns_le, ns_lt, ns_eq, ns_cl, pk_mul, ne10, eq_self, ↓reduceIte, Nat.le_refl]) (nI 0) S2 ⟨rfl, fr.rf, fun d hd => absurd hd (by omega)⟩
  have g3 : ∀ a j, ¬ (a = 0 ∧ (j = 17 ∨ j = 18)) → ¬ a = 12 → S3.1 a j = S1.1 a j := fun a j q1 q2 => (f3.1 a j (by omega)).trans (g2 a j q1)
  have hz3 : mz S S3 := fun a j q1 q2 q3 q4 q5 => (g3 a j (by omega) (by omega)).trans (g1 a j q1 q2 q3 q4 q5)
  have hM := h.mz hz3
  have hU := hM.2.1.1
  have hrr : rows4 S3 (aU A) (tN (aU A)) := fun k hk => by
    rw [g3 4 k (by omega) (by omega), g3 5 k (by omega) (by omega), g3 6 k (by omega) (by omega), g3 7 k (by omega) (by omega)]
    exact r1.2.2.2 k hk
  have h04 : S3.1 0 4 = nI (tN (aU A)) := by rw [g3 0 4 (by omega) (by omega)]; exact r1.2.1
  refine ⟨S3, ?_, hz3, ⟨by rw [g3 0 2 (by omega) (by omega)]; exact r1.1, h04, fun d hd => by rw [g3 3 d (by omega) (by omega)]; exact r1.2.2.1 d hd, hrr⟩, ?_⟩
  · unfold fX9_asTold
    have e3' : lp bX9_asTold_16 fl (nI 0) S2 = some (nI 20, S3) := e3
    rw [e1, bd_some, lit_0, hS2, e3', bd_some]
  · obtain ⟨c1, c2, c3, c4, c5, c6⟩ := hM.2.2.2.1
    refine ⟨tN_le hU, h04, fun k hk => ?_, c1, c3, c5, c2, c4, c6, fun d hd => ⟨r3 d hd, tA_le⟩, hM.2.2.1.2, hM.2.2.1.1, fun k hk => ?_, fun l hl => ?_, fun _ _ => rfl, fun l d => ?_, fun k hk => cfg_P hk⟩
    · have hr := t_rng (U := aU A) (k := k) hk
      obtain ⟨a1, a2, a3, a4⟩ := hrr k hk
      exact ⟨a1, hr.1, a2, hr.2.1, a4, hr.2.2.2.1, hr.2.2.2.2⟩
    · rw [f3.1 0 17 (by omega), z17, cfg_P2 hk, isIn_256 0 (by omega) k (by have := tN_le hU; have h2 : k < tN (aU A) := hk; omega)]
      simp
    · rw [f3.1 0 18 (by omega), z18, isIn_256 0 (by omega) l (by omega)]
      simp
    · rw [Bool.false_or]; rfl
theorem Rr.mf {S S' : Sg} {A : Ab} (h : Rr S A) (f : mf S S') : Rr S' A := by
  obtain ⟨h1, h2, h3, h4⟩ := h
  refine ⟨by rw [f.1 0 2 (by omega) (by omega)]; exact h1, by rw [f.1 0 4 (by omega) (by omega)]; exact h2, fun d hd => by rw [f.1 3 d (by omega) (by omega)]; exact h3 d hd, fun k hk => ?_⟩
  rw [f.1 4 k (by omega) (by omega), f.1 5 k (by omega) (by omega), f.1 6 k (by omega) (by omega), f.1 7 k (by omega) (by omega)]
  exact h4 k hk
theorem runsTold_ok {S : Sg} {A : Ab} (h : RM S A) : ∃ S', fX9_runsTold S = some ((), S') ∧ mz S S' ∧ Rr S' A ∧ MdA S' (cfg A) A (fun _ => false) ∧ ∀ d, d < 20 → Rd S' (cfg A) d := by
  obtain ⟨S1, e1, g1, r1, m1⟩ := asTold_ok h
  obtain ⟨S2, e2, f2, n2, d2⟩ := runs_ok m1
  refine ⟨S2, ?_, g1.tr f2.mz, r1.mf f2, m1.mf f2, d2⟩
  unfold fX9_runsTold
  rw [e1, bd_some, e2, bd_some]
