/-! the class's place -/
theorem sc_non {k i own : Nat} {el PM P1 Pk : Int32} {E L V : Nat} {S S34 S36 : Sg} (hk : k < 8) (hi : i < 36) (ho : own < 36) (eon : fX0_onCell 12 (nI i) S = some (P1, S)) (honly : ∀ T : Sg, fX8_only (nI k) T = some (Pk, T)) (eups : fX3_upsOf 21 ((PM ||| P1) ^^^ (-nI 1)) (sI S 26 k (nI i)) = some (nI E, sI S 26 k (nI i))) (eT : fX8_upsInTrial (P1 ||| Pk) (sI S 26 k (nI i)) = some (nI V, S34)) (eo : fX4_offer (nI i) (nI (E + (if i = own then 0 else L) + V)) S34 = some ((), S36)) (hne : ¬ P1 &&& (Pk ^^^ (-nI 1)) = nI 0) (rec : Int32 × Int32 → Sg → Option ((Int32 × Int32) × Sg)) : bX8_seekCell_57 (nI k) (nI own) PM (nI L) rec (el, nI i) S = rec (el, nI (i + 1)) S36 := by
  by_cases q : i = own
  · rw [if_pos q] at eo
    subst q
    simp (disch := omega) only [bX8_seekCell_57, bdq, gd_ix, lit_0, lit_1, lit_2, lit_3, lit_4, lit_5, lit_6, lit_7, lit_8, lit_9, lit_10, lit_15, lit_16, lit_19, lit_20, lit_31, lit_35, lit_36, lit_48, lit_49, lit_53, lit_55, lit_57, lit_59, lit_60, lit_63, lit_64, lit_97, lit_102, lit_110, lit_160, lit_255, nI_add, ns_sub, ns_div, ns_le, ns_lt, ns_eq, ns_cl, pk_mul, ne10, eq_self, ↓reduceIte, eon, honly, hne, eups, eT, eo, show ¬ 36 ≤ i from by omega]
  · rw [if_neg q] at eo
    simp (disch := omega) only [bX8_seekCell_57, bdq, gd_ix, lit_0, lit_1, lit_2, lit_3, lit_4, lit_5, lit_6, lit_7, lit_8, lit_9, lit_10, lit_15, lit_16, lit_19, lit_20, lit_31, lit_35, lit_36, lit_48, lit_49, lit_53, lit_55, lit_57, lit_59, lit_60, lit_63, lit_64, lit_97, lit_102, lit_110, lit_160, lit_255, nI_add, ns_sub, ns_div, ns_le, ns_lt, ns_eq, ns_cl, pk_mul, ne10, eq_self, ↓reduceIte, eon, honly, hne, eups, eT, eo, q, show ¬ 36 ≤ i from by omega]
theorem sc_emp {k i own : Nat} {el PM P1 Pk : Int32} {E L V : Nat} {S S34 S36 : Sg} (hk : k < 8) (hi : i < 36) (ho : own < 36) (eon : fX0_onCell 12 (nI i) S = some (P1, S)) (honly : ∀ T : Sg, fX8_only (nI k) T = some (Pk, T)) (eups : fX3_upsOf 21 ((PM ||| P1) ^^^ (-nI 1)) (sI S 26 k (nI i)) = some (nI E, sI S 26 k (nI i))) (eT : fX8_upsInTrial (P1 ||| Pk) (sI S 26 k (nI i)) = some (nI V, S34)) (eo : fX4_offer (nI i) (nI (E + (if i = own then 0 else L) + V)) S34 = some ((), S36)) (he : P1 &&& (Pk ^^^ (-nI 1)) = nI 0) (hl : ¬ el = nI (i / 6)) (rec : Int32 × Int32 → Sg → Option ((Int32 × Int32) × Sg)) : bX8_seekCell_57 (nI k) (nI own) PM (nI L) rec (el, nI i) S = rec (nI (i / 6), nI (i + 1)) S36 := by
  by_cases q : i = own
  · rw [if_pos q] at eo
    subst q
    simp (disch := omega) only [bX8_seekCell_57, bdq, gd_ix, lit_0, lit_1, lit_2, lit_3, lit_4, lit_5, lit_6, lit_7, lit_8, lit_9, lit_10, lit_15, lit_16, lit_19, lit_20, lit_31, lit_35, lit_36, lit_48, lit_49, lit_53, lit_55, lit_57, lit_59, lit_60, lit_63, lit_64, lit_97, lit_102, lit_110, lit_160, lit_255, nI_add, ns_sub, ns_div, ns_le, ns_lt, ns_eq, ns_cl, pk_mul, ne10, eq_self, ↓reduceIte, eon, honly, he, hl, eups, eT, eo, show ¬ 36 ≤ i from by omega]
  · rw [if_neg q] at eo
    simp (disch := omega) only [bX8_seekCell_57, bdq, gd_ix, lit_0, lit_1, lit_2, lit_3, lit_4, lit_5, lit_6, lit_7, lit_8, lit_9, lit_10, lit_15, lit_16, lit_19, lit_20, lit_31, lit_35, lit_36, lit_48, lit_49, lit_53, lit_55, lit_57, lit_59, lit_60, lit_63, lit_64, lit_97, lit_102, lit_110, lit_160, lit_255, nI_add, ns_sub, ns_div, ns_le, ns_lt, ns_eq, ns_cl, pk_mul, ne10, eq_self, ↓reduceIte, eon, honly, he, hl, eups, eT, eo, q, show ¬ 36 ≤ i from by omega]
theorem sc_skip {k i own : Nat} {PM P1 Pk : Int32} {L : Nat} {S : Sg} (hk : k < 8) (hi : i < 36) (eon : fX0_onCell 12 (nI i) S = some (P1, S)) (honly : ∀ T : Sg, fX8_only (nI k) T = some (Pk, T)) (he : P1 &&& (Pk ^^^ (-nI 1)) = nI 0) (rec : Int32 × Int32 → Sg → Option ((Int32 × Int32) × Sg)) : bX8_seekCell_57 (nI k) (nI own) PM (nI L) rec (nI (i / 6), nI i) S = rec (nI (i / 6), nI (i + 1)) S := by
  have e6 : nI i / nI 6 = nI (i / 6) := ns_div (by omega) (by omega) (by omega)
  unfold bX8_seekCell_57
  dsimp only
  rw [if_neg (by rw [lit_36, ns_le (by omega) (by omega)]; omega), eon, bd_some, honly, bd_some, lit_0, lit_1, lit_6, he, if_pos rfl, bd_some, if_neg (by decide), e6, if_pos rfl, bd_some, nI_add]
theorem emp_iff {c : Cf} {x k : Nat} (h8 : cN c ≤ 8) : ps (fun j => mtX c x j && !(j == k)) = nI 0 ↔ ∀ j, j < cN c → ¬ j = k → ¬ cC c j = x := by
  constructor
  · intro h j hj hk q
    have := ps_eq0.mp h j (by omega)
    have e : mtX c x j = true := by unfold mtX; simp [hj, q]
    rw [e, beq_false_of_ne hk] at this
    cases this
  · intro h
    refine ps_eq0.mpr (fun j _ => ?_)
    cases q : mtX c x j with
    | false => rfl
    | true =>
      by_cases z : j = k
      · subst z; simp
      · exact absurd (mtX_n q).2 (h j (mtX_n q).1 z)
theorem seekCell_ok {S : Sg} {A : Ab} (h : RF S A) {k : Nat} (hk : k < cN (cfg A)) : ∃ S', fX8_seekCell (nI k) S = some ((), S') ∧ RF S' A ∧ fwI S' (fun x => allU (uC (cfg A) k x)) 36 := by
  have h8 := cfg_8 h.1
  have hx := (cfg_rng hk).2.1
  obtain ⟨f, hf⟩ : ∃ f : Nat → Nat, (fun x => allU (uC (cfg A) k x)) = f := ⟨_, rfl⟩
  have hf1 : ∀ x, f x ≤ 1000 := fun d => by rw [← hf]; exact Nat.le_trans allU_le (by omega)
  have hsame : ∀ x y, (∀ j, j < cN (cfg A) → ¬ j = k → ¬ cC (cfg A) j = x) → (∀ j, j < cN (cfg A) → ¬ j = k → ¬ cC (cfg A) j = y) → x / 6 = y / 6 → f x = f y := fun x y a b l => by
    rw [← hf]
    exact place_same cfg_dec hk a b l
  have hsum : ∀ x, aY (cfg A) (fun j => !(mtX (cfg A) (cC (cfg A) k) j || mtX (cfg A) x j)) + (if x = cC (cfg A) k then 0 else allU (uP (cfg A) (fun j => mtX (cfg A) (cC (cfg A) k) j && !(j == k)))) + allU (uP (uC (cfg A) k x) (fun j => mtX (cfg A) x j || (j == k))) = f x := fun x => by
    rw [← hf]
    exact (place_sum cfg_dec hk).symm
  rw [hf]
  have e14 : S.1 14 k = nI (cC (cfg A) k) := (h.2.2.1.2.2 k hk).2.2.1
  have e1 : fX0_onCell 12 (nI (cC (cfg A) k)) S = some (ps (mtX (cfg A) (cC (cfg A) k)), S) := onCell_ok (t := 12) h.2.2.1 hx
  obtain ⟨S1, e3, f3, b3, g3⟩ := trial_ok h
  have h1 := h.scr (f3.scr (by omega))
  obtain ⟨S2, e5, f5⟩ := upsInTrial_ok h1 b3 (p := fun j => mtX (cfg A) (cC (cfg A) k) j && !(j == k)) rfl rfl rfl rfl (fun j hj => by
    rw [Bool.and_eq_true] at hj
    exact (mtX_n hj.1).1)
  obtain ⟨S3, e4, f4, w4⟩ := begin_ok (S := S2) (f := f)
  have hL := allU_le (c := uP (cfg A) (fun j => mtX (cfg A) (cC (cfg A) k) j && !(j == k)))
  generalize allU (uP (cfg A) (fun j => mtX (cfg A) (cC (cfg A) k) j && !(j == k))) = L at e5 hL hsum
  obtain ⟨a, S4, e6, ⟨el, ha⟩, z6, w6⟩ := lp_invF (B := bX8_seekCell_57 (nI k) (nI (cC (cfg A) k)) (ps (mtX (cfg A) (cC (cfg A) k))) (nI L)) (fun i a Sx => (∃ el, a = (el, nI i) ∧ (el = -nI 1 ∨ ∃ x, x < i ∧ (∀ j, j < cN (cfg A) → ¬ j = k → ¬ cC (cfg A) j = x) ∧ el = nI (x / 6))) ∧ scr S Sx ∧ BdC Sx (cfg A) k ∧ fwI Sx f i) (fun a Sx => (∃ el, a = (el, nI 36)) ∧ scr S Sx ∧ fwI Sx f 36) 36 (by omega) (by
    rintro i a Sx hi ⟨⟨el, ha, hel⟩, hz, hb, hw⟩
    subst ha
    by_cases hin : i < 36
    · have hx0 := h.scr hz
      have eon : fX0_onCell 12 (nI i) Sx = some (ps (mtX (cfg A) i), Sx) := onCell_ok (t := 12) hx0.2.2.1 hin
      have honly : ∀ T : Sg, fX8_only (nI k) T = some (ps (fun j => j == k), T) := fun T => only_ok (by omega) T
      have hz2 : scr S (sI Sx 26 k (nI i)) := hz.I (by omega)
      have hx2 := h.scr hz2
      have eups : fX3_upsOf 21 ((ps (mtX (cfg A) (cC (cfg A) k)) ||| ps (mtX (cfg A) i)) ^^^ (-nI 1)) (sI Sx 26 k (nI i)) = some (nI (aY (cfg A) (fun j => !(mtX (cfg A) (cC (cfg A) k) j || mtX (cfg A) i j))), sI Sx 26 k (nI i)) := by
        rw [ps_or]
        exact upsC_ok (t := 21) (p := fun d j => up (cfg A) d j && !(mtX (cfg A) (cC (cfg A) k) j || mtX (cfg A) i j)) (fun d hd => by rw [fr_risen hx2 hd]; exact ps_subN)
      obtain ⟨S34, eT, f34⟩ := upsInTrial_ok hx2 (hb.set hin) (c := uC (cfg A) k i) (p := fun j => mtX (cfg A) i j || (j == k)) fx_uC.1 fx_uC.2.1 fx_uC.2.2.1 fx_uC.2.2.2 (fun j hj => by
        rw [cN_uC]
        rw [Bool.or_eq_true] at hj
        rcases hj with z | z
        · exact (mtX_n z).1
        · have : j = k := by simpa using z
          omega)
      rw [← ps_or] at eT
      have w34 : fwI S34 f i := (hw.I (by omega)).fr f34 (by omega)
      obtain ⟨S36, eo, f36, w36⟩ := offer_ok w34 hf1
      rw [← hsum i] at eo
      have hz36 : scr S S36 := (hz2.tr (f34.scr (by omega))).tr (f36.scr (by omega))
      have hb36 : BdC S36 (cfg A) k := hb.kp (fun b j q1 q2 q3 => by rw [f36.1 b j (by omega), f34.1 b j (by omega), sI1, if_neg (by omega)])
      have hemp := emp_iff (c := cfg A) (x := i) (k := k) h8
      rw [← ps_subN] at hemp
      refine Or.inl ⟨hin, ?_⟩
      by_cases he : ps (mtX (cfg A) i) &&& (ps (fun j => j == k) ^^^ (-nI 1)) = nI 0
      · have hE := hemp.mp he
        by_cases hl : el = nI (i / 6)
        · rw [hl]
          rcases hel with z | ⟨x, z1, z2, z3⟩
          · rw [hl] at z
            exact absurd z (ne_m1 (by omega))
          · have hxl : x / 6 = i / 6 := by
              rw [hl, ns_eq (by omega) (by omega)] at z3
              exact z3.symm
            exact ⟨(nI (i / 6), nI (i + 1)), Sx, fun rec => sc_skip (by omega) hin eon honly he rec, ⟨nI (i / 6), rfl, Or.inr ⟨i, by omega, hE, rfl⟩⟩, hz, hb, fwI_skip hw z1 (hsame x i z2 hE hxl)⟩
        · exact ⟨(nI (i / 6), nI (i + 1)), S36, fun rec => sc_emp (by omega) hin hx eon honly eups eT eo he hl rec, ⟨nI (i / 6), rfl, Or.inr ⟨i, by omega, hE, rfl⟩⟩, hz36, hb36, w36⟩
      · exact ⟨(el, nI (i + 1)), S36, fun rec => sc_non (by omega) hin hx eon honly eups eT eo he rec, ⟨el, rfl, hel.imp id (fun ⟨x, z1, z2⟩ => ⟨x, by omega, z2⟩)⟩, hz36, hb36, w36⟩
    · have hin2 : i = 36 := by omega
      subst hin2
      refine Or.inr ⟨(el, nI 36), Sx, fun rec => ?_, ⟨el, rfl⟩, hz, hw⟩
      generalize ps (mtX (cfg A) (cC (cfg A) k)) = PM
      simp (disch := omega) only [bX8_seekCell_57, bdq, gd_ix, lit_0, lit_1, lit_2, lit_3, lit_4, lit_5, lit_6, lit_7, lit_8, lit_9, lit_10, lit_15, lit_16, lit_19, lit_20, lit_31, lit_35, lit_36, lit_48, lit_49, lit_53, lit_55, lit_57, lit_59, lit_60, lit_63, lit_64, lit_97, lit_102, lit_110, lit_160, lit_255, nI_add, ns_sub, ns_div, ns_le, ns_lt, ns_eq, ns_cl, pk_mul, ne10, eq_self, ↓reduceIte, Nat.le_refl]) (-nI 1, nI 0) S3 ⟨⟨-nI 1, rfl, Or.inl rfl⟩, ((f3.scr (by omega)).tr (f5.scr (by omega))).tr (f4.scr (by omega)), (BdC.of b3).kp (fun b j q1 q2 q3 => by rw [f4.1 b j (by omega), f5.1 b j (by omega)]), w4⟩
  subst ha
  refine ⟨S4, ?_, h.scr z6, w6⟩
  have e5' : fX8_upsInTrial (ps (mtX (cfg A) (cC (cfg A) k)) &&& (ps (fun j => j == k) ^^^ (-1))) S1 = some (nI L, S2) := by
    rw [ps_sub]; exact e5
  unfold fX8_seekCell
  rw [gd_ix (by omega) (by omega), ns_cl (by omega), e14, e1, bd_some, e3, bd_some, only_ok (by omega), bd_some, e5', bd_some, e4, bd_some]
  show bd (lp (bX8_seekCell_57 (nI k) (nI (cC (cfg A) k)) (ps (mtX (cfg A) (cC (cfg A) k))) (nI L)) fl (-nI 1, nI 0) S3) _ = _
  rw [e6, bd_some]
theorem placeC_ok {S : Sg} {A : Ab} (h : RC S A) {k w : Nat} (hk : k < cN (cfg A)) (hw : w < 2) : ∃ S', fX8_place (nI k) (nI w) S = some (fwV (fun x => allU (uC (cfg A) k x)) 35 w, S') ∧ RF S' A := by
  obtain ⟨S1, e1, h1⟩ := bring_ok h
  obtain ⟨S2, e2, h2, w2⟩ := seekCell_ok h1 hk
  refine ⟨S2, ?_, h2⟩
  have e3 := tell_ok w2 hw
  unfold fX8_place
  rw [e1, bd_some, cStroke_y h1 hk, bd_some, if_neg (by decide), cEith_y hw, bd_some, if_neg (by decide), e2, bd_some, e3, bd_some]
theorem stp_place_ok : stp_place Inv := by
  rintro Sc Sm x1 x2 ⟨A, hC, hM⟩
  obtain ⟨S0, e0, h0⟩ := bring_ok hC
  obtain ⟨S2, z2, r2, y2, n2⟩ := mStroke_ok hM x1
  by_cases g1 : rg x1 (cN (cfg A))
  · have e2 := y2 g1
    obtain ⟨k, hk, rfl⟩ := g1
    by_cases g2 : rg x2 2
    · obtain ⟨w, hw, rfl⟩ := g2
      obtain ⟨S1, e1, h1⟩ := placeC_ok hC hk hw
      obtain ⟨S3, e3, z3⟩ := placeM_ok (hM.mz z2) hk hw
      refine ⟨_, S1, S3, e1, ?_, A, h1.c, (hM.mz z2).mz z3⟩
      unfold fX9_place
      rw [e2, bd_some, if_neg (by decide), lit_0, lit_1, in_y (by omega) (by omega), bd_some, if_neg (by decide), e3, bd_some]
    · refine ⟨-nI 2, S0, S2, ?_, ?_, A, h0.c, hM.mz z2⟩
      · unfold fX8_place
        simp (disch := omega) only [e0, cStroke_y h0 hk, cEith_n g2, bdq, gd_ix, lit_0, lit_1, lit_2, lit_3, lit_4, lit_5, lit_6, lit_7, lit_8, lit_9, lit_10, lit_15, lit_16, lit_19, lit_20, lit_31, lit_35, lit_36, lit_48, lit_49, lit_53, lit_55, lit_57, lit_59, lit_60, lit_63, lit_64, lit_97, lit_102, lit_110, lit_160, lit_255, nI_add, ns_sub, ns_div, ns_le, ns_lt, ns_eq, ns_cl, pk_mul, ne10, eq_self, ↓reduceIte]
      · unfold fX9_place
        simp (disch := omega) only [e2, in_n g2 (b := 1) rfl (by omega), bdq, gd_ix, lit_0, lit_1, lit_2, lit_3, lit_4, lit_5, lit_6, lit_7, lit_8, lit_9, lit_10, lit_15, lit_16, lit_19, lit_20, lit_31, lit_35, lit_36, lit_48, lit_49, lit_53, lit_55, lit_57, lit_59, lit_60, lit_63, lit_64, lit_97, lit_102, lit_110, lit_160, lit_255, nI_add, ns_sub, ns_div, ns_le, ns_lt, ns_eq, ns_cl, pk_mul, ne10, eq_self, ↓reduceIte]
  · refine ⟨-nI 2, S0, S2, ?_, ?_, A, h0.c, hM.mz z2⟩
    · unfold fX8_place
      simp (disch := omega) only [e0, cStroke_n h0 g1, bdq, gd_ix, lit_0, lit_1, lit_2, lit_3, lit_4, lit_5, lit_6, lit_7, lit_8, lit_9, lit_10, lit_15, lit_16, lit_19, lit_20, lit_31, lit_35, lit_36, lit_48, lit_49, lit_53, lit_55, lit_57, lit_59, lit_60, lit_63, lit_64, lit_97, lit_102, lit_110, lit_160, lit_255, nI_add, ns_sub, ns_div, ns_le, ns_lt, ns_eq, ns_cl, pk_mul, ne10, eq_self, ↓reduceIte]
    · unfold fX9_place
      simp (disch := omega) only [n2 g1, bdq, gd_ix, lit_0, lit_1, lit_2, lit_3, lit_4, lit_5, lit_6, lit_7, lit_8, lit_9, lit_10, lit_15, lit_16, lit_19, lit_20, lit_31, lit_35, lit_36, lit_48, lit_49, lit_53, lit_55, lit_57, lit_59, lit_60, lit_63, lit_64, lit_97, lit_102, lit_110, lit_160, lit_255, nI_add, ns_sub, ns_div, ns_le, ns_lt, ns_eq, ns_cl, pk_mul, ne10, eq_self, ↓reduceIte]
