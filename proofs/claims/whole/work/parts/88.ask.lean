/-! ask: what stands without a stroke -/
theorem now_in {c : Cf} {Y : Nat → Bool} (hY : ∀ k, Y k = true → cP c k = true) (hc : cl c Y) {d k : Nat} (hk : Y k = true) : now (uP c Y) k d = now c k d :=
  loc_now (c := uP c Y) (e := c) (X := Y) rfl rfl (fun _ _ => rfl) (fun _ _ => rfl) (fun k hk => by
    show Y k = cP c k
    rw [hk, hY k hk]) (fun k j hk hj hz => ⟨fun q => absurd (show Y j = true from q) (by rw [hz]; decide), fun q => hc k j hk hj hz q⟩) k hk d
theorem shw_cong {c e : Cf} {G : Nat → Nat} {d x : Nat} (hN : cN c = cN e) (hC : ∀ j, cC c j = cC e j) (h : ∀ j, j < cN c → cC c j = x → now c j d = now e j d ∧ up c d j = up e d j) : shw c G d x = shw e G d x := by
  by_cases q : ∃ k, k < cN c ∧ shp c d x k = true
  · obtain ⟨k, hk, hp⟩ := q
    unfold shp at hp
    simp only [Bool.and_eq_true, Bool.or_eq_true, beq_iff_eq] at hp
    obtain ⟨h1, h2⟩ := h k hk hp.1
    have hx2 : cC e k = x := by rw [← hC k]; exact hp.1
    rcases hp.2 with a | a
    · rw [shw_w hk hp.1 a, shw_w (c := e) (by omega) hx2 (by rw [← h1]; exact a)]
    · rw [shw_u hk hp.1 a, shw_u (c := e) (by omega) hx2 (by rw [← h2]; exact a)]
  · have z : ∀ k, k < cN c → shp c d x k = false := fun k hk => by
      cases y : shp c d x k with
      | false => rfl
      | true => exact absurd ⟨k, hk, y⟩ q
    rw [shw_n z, shw_n (c := e) (fun k hk => by
      have hk2 : k < cN c := by omega
      have hz := z k hk2
      unfold shp at hz ⊢
      rw [← hC k]
      by_cases y : cC c k = x
      · obtain ⟨h1, h2⟩ := h k hk2 y
        rw [← h1, ← h2]; exact hz
      · rw [beq_false_of_ne y]; rfl)]
theorem shw_cell {c : Cf} (hP : ∀ j, cP c j = true → j < cN c) {G : Nat → Nat} {d x : Nat} : shw (uP c (onX c x)) G d x = shw c G d x := by
  refine shw_cong (c := uP c (onX c x)) (e := c) rfl (fun _ => rfl) (fun j _ hj => ?_)
  have hj2 : cC c j = x := hj
  have hu : up (uP c (onX c x)) d j = (onX c x j && up c d j) := up_in (fun k h => (onX_n h).1) (fun k h => hP k (onX_n h).1) onX_cl
  cases hp : cP c j with
  | true =>
    have ho : onX c x j = true := by unfold onX; rw [hp, hj2]; simp
    rw [hu, ho, Bool.true_and]
    exact ⟨now_in (fun k h => (onX_n h).1) onX_cl ho, rfl⟩
  | false =>
    have ho : cP (uP c (onX c x)) j = false := by
      show onX c x j = false
      unfold onX; rw [hp]; rfl
    rw [now_nP ho, now_nP hp]
    refine ⟨rfl, ?_⟩
    cases z1 : up c d j with
    | true => rw [up_P z1] at hp; cases hp
    | false => rw [hu, z1, Bool.and_false]
theorem shw_less0 {c : Cf} (hP : ∀ j, cP c j = decide (j < cN c)) {G : Nat → Nat} {k d y : Nat} (hy : ¬ y = cC c k) : shw c G d y = shw (lessK c k) G d y := by
  have hPn : ∀ j, cP c j = true → j < cN c := fun j h => by rw [hP j] at h; exact of_decide_eq_true h
  obtain ⟨Z, hZ⟩ : ∃ Z : Nat → Bool, Z = fun j => cP c j && !(cC c j == cC c k) := ⟨_, rfl⟩
  have hZn : ∀ j, Z j = true → cP c j = true ∧ ¬ cC c j = cC c k := fun j h => by
    rw [hZ] at h
    simpa using h
  have hZo : ∀ j, Z j = false → cP c j = true → cC c j = cC c k := fun j h hp => by
    rw [hZ] at h
    simpa [hp] using h
  have hl : ∀ j, cP (lessK c k) j = (cP c j && !(j == k)) := fun _ => rfl
  have hlp : ∀ j, cP (lessK c k) j = true → cP c j = true := fun j h => by rw [hl, Bool.and_eq_true] at h; exact h.1
  have hY2 : ∀ j, Z j = true → cP (lessK c k) j = true := fun j h => by
    rw [hl, (hZn j h).1, beq_false_of_ne (fun q => (hZn j h).2 (by rw [q]))]; rfl
  have c1 : cl c Z := fun a j ha _ hz hp q => (hZn a ha).2 (q.symm.trans (hZo j hz hp))
  have c2 : cl (lessK c k) Z := fun a j ha _ hz hp q => (hZn a ha).2 (q.symm.trans (hZo j hz (hlp j hp)))
  refine shw_cong (c := c) (e := lessK c k) rfl (fun _ => rfl) (fun j hj hjy => ?_)
  have hjx : ¬ cC c j = cC c k := fun q => hy (hjy.symm.trans q)
  have hzj : Z j = true := by rw [hZ]; simp [hP j, hj, hjx]
  have n1 := now_in (c := c) (Y := Z) (fun k h => (hZn k h).1) c1 (d := d) hzj
  have n2 := now_in (c := lessK c k) (Y := Z) hY2 c2 (d := d) hzj
  have u1 := up_in (c := c) (Y := Z) (fun k h => (hZn k h).1) (fun k h => hPn k (hZn k h).1) c1 (d := d) (k := j)
  have u2 := up_in (c := lessK c k) (Y := Z) hY2 (fun k h => hPn k (hZn k h).1) c2 (d := d) (k := j)
  rw [hzj, Bool.true_and] at u1 u2
  exact ⟨n1.symm.trans n2, u1.symm.trans u2⟩
theorem shw_less1 {c : Cf} (hP : ∀ j, cP c j = decide (j < cN c)) {G : Nat → Nat} {k d x : Nat} : shw (uP c (fun j => mtX c x j && !(j == k))) G d x = shw (lessK c k) G d x := by
  have hPn : ∀ j, cP (lessK c k) j = true → j < cN (lessK c k) := fun j h => by
    have h2 : (cP c j && !(j == k)) = true := h
    rw [Bool.and_eq_true, hP j] at h2
    exact of_decide_eq_true h2.1
  rw [lessK_on hP]
  have := shw_cell (c := lessK c k) hPn (G := G) (d := d) (x := x)
  exact this
def vw (A : Ab) (x k d : Nat) : Int32 := shw (lessK (cfg A) k) (sgn A) d x
/-- the class's views of one stroke -/
theorem views_ok {S : Sg} {t k x : Nat} {g : Nat → Int32} {ch : Int32} (hk : k < 8) (h : ∀ T : Sg, fr 43 43 S T → ∀ d, d < 20 → (if ch = nI 0 then fX0_shownOn 12 (nI d) (nI x) (T.1 22 d) T else fX0_shownOn 24 (nI d) (nI x) (T.1 34 d) T) = some (g d, T)) : ∃ S', lp (bX8_viewWithoutEach_57 (nI x) (nI k) ch) fl (nI 0) S = some (nI 20, S') ∧ (∀ a j, ¬ (a = 43 ∧ 20 * k ≤ j ∧ j < 20 * k + 20) → S'.1 a j = S.1 a j) ∧ S'.2 = S.2 ∧ ∀ d, d < 20 → S'.1 43 (20 * k + d) = g d := by
  obtain ⟨a, S', e1, ha, q1, q2, q3⟩ := lp_invF (B := bX8_viewWithoutEach_57 (nI x) (nI k) ch) (fun i a Sx => a = nI i ∧ (∀ a j, ¬ (a = 43 ∧ 20 * k ≤ j ∧ j < 20 * k + 20) → Sx.1 a j = S.1 a j) ∧ Sx.2 = S.2 ∧ ∀ d, d < i → Sx.1 43 (20 * k + d) = g d) (fun a Sx => a = nI 20 ∧ (∀ a j, ¬ (a = 43 ∧ 20 * k ≤ j ∧ j < 20 * k + 20) → Sx.1 a j = S.1 a j) ∧ Sx.2 = S.2 ∧ ∀ d, d < 20 → Sx.1 43 (20 * k + d) = g d) 20 (by omega) (by
    rintro i a Sx hi ⟨ha, hf, hf2, hr⟩
    subst ha
    by_cases hin : i < 20
    · have e := h Sx ⟨fun b j q => hf b j (by omega), hf2⟩ i hin
      have ek : k * 20 + i = 20 * k + i := by omega
      refine Or.inl ⟨hin, nI (i + 1), sI Sx 43 (20 * k + i) (g i), fun rec => ?_, rfl, fun b j q => by rw [sI1, if_neg (by omega)]; exact hf b j q, hf2, fun d hd => ?_⟩
      · generalize g i = y at e
        by_cases hc : ch = nI 0
        · rw [if_pos hc] at e
          simp (disch := omega) only [bX8_viewWithoutEach_57, bdq, gd_ix, lit_0, lit_1, lit_2, lit_3, lit_4, lit_5, lit_6, lit_7, lit_8, lit_9, lit_10, lit_15, lit_16, lit_19, lit_20, lit_31, lit_35, lit_36, lit_48, lit_49, lit_53, lit_55, lit_57, lit_59, lit_60, lit_63, lit_64, lit_97, lit_102, lit_110, lit_160, lit_255, nI_add, ns_sub, ns_div, ns_le, ns_lt, ns_eq, ns_cl, pk_mul, ne10, eq_self, ↓reduceIte, hc, e, ek, show ¬ 20 ≤ i from by omega]
        · rw [if_neg hc] at e
          simp (disch := omega) only [bX8_viewWithoutEach_57, bdq, gd_ix, lit_0, lit_1, lit_2, lit_3, lit_4, lit_5, lit_6, lit_7, lit_8, lit_9, lit_10, lit_15, lit_16, lit_19, lit_20, lit_31, lit_35, lit_36, lit_48, lit_49, lit_53, lit_55, lit_57, lit_59, lit_60, lit_63, lit_64, lit_97, lit_102, lit_110, lit_160, lit_255, nI_add, ns_sub, ns_div, ns_le, ns_lt, ns_eq, ns_cl, pk_mul, ne10, eq_self, ↓reduceIte, hc, e, ek, show ¬ 20 ≤ i from by omega]
      · rw [sI1]
        by_cases q : d = i
        · subst q; rw [if_pos ⟨rfl, rfl⟩]
        · rw [if_neg (by omega)]; exact hr d (by omega)
    · have hin2 : i = 20 := by omega
      subst hin2
      refine Or.inr ⟨nI 20, Sx, fun rec => ?_, rfl, hf, hf2, hr⟩
      simp (disch := omega) only [bX8_viewWithoutEach_57, bdq, gd_ix, lit_0, lit_1, lit_2, lit_3, lit_4, lit_5, lit_6, lit_7, lit_8, lit_9, lit_10, lit_15, lit_16, lit_19, lit_20, lit_31, lit_35, lit_36, lit_48, lit_49, lit_53, lit_55, lit_57, lit_59, lit_60, lit_63, lit_64, lit_97, lit_102, lit_110, lit_160, lit_255, nI_add, ns_sub, ns_div, ns_le, ns_lt, ns_eq, ns_cl, pk_mul, ne10, eq_self, ↓reduceIte, Nat.le_refl]) (nI 0) S ⟨rfl, fun _ _ _ => rfl, rfl, fun d hd => absurd hd (by omega)⟩
  subst ha
  exact ⟨S', e1, q1, q2, q3⟩
theorem viewEach_ok {S : Sg} {A : Ab} (h : RF S A) {p : Nat → Bool} {x : Nat} (hx : x < 36) : ∃ S', fX8_viewWithoutEach (pb p) (nI x) S = some ((), S') ∧ scr S S' ∧ ∀ k, k < cN (cfg A) → p k = true → ∀ d, d < 20 → S'.1 43 (20 * k + d) = vw A x k d := by
  have h8 := cfg_8 h.1
  obtain ⟨a, S', e1, ha, z1, q1⟩ := lp_invF (B := bX8_viewWithoutEach_2 (pb p) (nI x)) (fun i a Sx => a = nI i ∧ scr S Sx ∧ ∀ k, k < i → p k = true → ∀ d, d < 20 → Sx.1 43 (20 * k + d) = vw A x k d) (fun a Sx => a = nI (cN (cfg A)) ∧ scr S Sx ∧ ∀ k, k < cN (cfg A) → p k = true → ∀ d, d < 20 → Sx.1 43 (20 * k + d) = vw A x k d) (cN (cfg A)) (by omega) (by
    rintro i a Sx hi ⟨ha, hz, hr⟩
    subst ha
    have hx1 := h.scr hz
    have e12 := hx1.2.2.1.2.1
    by_cases hin : i < cN (cfg A)
    · have e14 : Sx.1 14 i = nI (cC (cfg A) i) := (hx1.2.2.1.2.2 i hin).2.2.1
      have hci := (cfg_rng hin).2.1
      have eb := hasBit_ok (p := p) (k := i) (show i < 8 by omega) (S := Sx)
      refine Or.inl ⟨hin, ?_⟩
      cases hp : p i with
      | false =>
        rw [hp] at eb
        generalize pb p = P at eb
        refine ⟨nI (i + 1), Sx, fun rec => ?_, rfl, hz, fun k hk hpk d hd => ?_⟩
        · simp (disch := omega) only [bX8_viewWithoutEach_2, bdq, gd_ix, lit_0, lit_1, lit_2, lit_3, lit_4, lit_5, lit_6, lit_7, lit_8, lit_9, lit_10, lit_15, lit_16, lit_19, lit_20, lit_31, lit_35, lit_36, lit_48, lit_49, lit_53, lit_55, lit_57, lit_59, lit_60, lit_63, lit_64, lit_97, lit_102, lit_110, lit_160, lit_255, nI_add, ns_sub, ns_div, ns_le, ns_lt, ns_eq, ns_cl, pk_mul, ne10, eq_self, ↓reduceIte, e12, eb, bI_f, show ¬ cN (cfg A) ≤ i from by omega]
        · by_cases q : k = i
          · subst q; rw [hp] at hpk; cases hpk
          · exact hr k (by omega) hpk d hd
      | true =>
        rw [hp] at eb
        by_cases hc : cC (cfg A) i = x
        · obtain ⟨S2, e2, f2, b2, g2, s2, r2⟩ := tryWithout_ok hx1 hin
          rw [hc] at s2 r2
          obtain ⟨S3, e3, f3, -, r3⟩ := views_ok (S := S2) (t := 24) (k := i) (x := x) (g := fun d => vw A x i d) (ch := nI 1) (by omega) (fun T fT d hd => by
            rw [if_neg (by decide)]
            have w : T.1 34 d = ps (fun j => up (uP (cfg A) (fun j => mtX (cfg A) x j && !(j == i))) d j) := by rw [fT.1 34 d (by omega)]; exact r2 d hd
            rw [w, shownOn_ok (t := 24) (c := uP (cfg A) (fun j => mtX (cfg A) x j && !(j == i))) (G := sgn A) (Bd_uP (b2.fr fT (by omega))) ⟨fun j hj hq => by rw [fT.1 (24 + 5) j (by omega)]; exact s2.1 j hj hq, fun d hd => by rw [fT.1 (24 + 6) d (by omega), fT.1 (24 + 7) d (by omega), fT.1 (24 + 8) d (by omega)]; exact s2.2 d hd⟩ (fun j hj => by rw [fT.1 (24 + 3) j (by omega)]; exact g2 j hj) hd hx, shw_less1 cfg_dec]
            rfl)
          refine ⟨nI (i + 1), S3, fun rec => ?_, rfl, (hz.tr (f2.scr (by omega))).tr (fun b j q1 q2 q3 q4 => f3 b j (by omega)), fun k hk hpk d hd => ?_⟩
          · generalize pb p = P at eb
            simp (disch := omega) only [bX8_viewWithoutEach_2, bdq, gd_ix, lit_0, lit_1, lit_2, lit_3, lit_4, lit_5, lit_6, lit_7, lit_8, lit_9, lit_10, lit_15, lit_16, lit_19, lit_20, lit_31, lit_35, lit_36, lit_48, lit_49, lit_53, lit_55, lit_57, lit_59, lit_60, lit_63, lit_64, lit_97, lit_102, lit_110, lit_160, lit_255, nI_add, ns_sub, ns_div, ns_le, ns_lt, ns_eq, ns_cl, pk_mul, ne10, eq_self, ↓reduceIte, e12, eb, bI_t, e14, hc, e2, e3, show ¬ cN (cfg A) ≤ i from by omega]
          · by_cases q : k = i
            · subst q; exact r3 d hd
            · rw [f3 43 _ (by omega), f2.1 43 _ (by omega)]; exact hr k (by omega) hpk d hd
        · obtain ⟨S3, e3, f3, -, r3⟩ := views_ok (S := Sx) (t := 24) (k := i) (x := x) (g := fun d => vw A x i d) (ch := nI 0) (by omega) (fun T fT d hd => by
            rw [if_pos rfl]
            have hT := hx1.scr (S' := T) (fun b j q1 q2 q3 q4 => fT.1 b j (by omega))
            have w : T.1 22 d = ps (fun k => up (cfg A) d k) := fr_risen hT hd
            rw [w, shownOn_ok hT.2.2.1 hT.2.2.2.2.1 (fr_sg hT) hd hx, shw_less0 cfg_dec (fun q => hc q.symm)]
            rfl)
          refine ⟨nI (i + 1), S3, fun rec => ?_, rfl, hz.tr (fun b j q1 q2 q3 q4 => f3 b j (by omega)), fun k hk hpk d hd => ?_⟩
          · generalize pb p = P at eb
            simp (disch := omega) only [bX8_viewWithoutEach_2, bdq, gd_ix, lit_0, lit_1, lit_2, lit_3, lit_4, lit_5, lit_6, lit_7, lit_8, lit_9, lit_10, lit_15, lit_16, lit_19, lit_20, lit_31, lit_35, lit_36, lit_48, lit_49, lit_53, lit_55, lit_57, lit_59, lit_60, lit_63, lit_64, lit_97, lit_102, lit_110, lit_160, lit_255, nI_add, ns_sub, ns_div, ns_le, ns_lt, ns_eq, ns_cl, pk_mul, ne10, eq_self, ↓reduceIte, e12, eb, bI_t, e14, hc, e3, show ¬ cN (cfg A) ≤ i from by omega]
          · by_cases q : k = i
            · subst q; exact r3 d hd
            · rw [f3 43 _ (by omega)]; exact hr k (by omega) hpk d hd
    · have hin2 : i = cN (cfg A) := by omega
      subst hin2
      refine Or.inr ⟨nI (cN (cfg A)), Sx, fun rec => ?_, rfl, hz, hr⟩
      generalize pb p = P
      simp (disch := omega) only [bX8_viewWithoutEach_2, bdq, gd_ix, lit_0, lit_1, lit_2, lit_3, lit_4, lit_5, lit_6, lit_7, lit_8, lit_9, lit_10, lit_15, lit_16, lit_19, lit_20, lit_31, lit_35, lit_36, lit_48, lit_49, lit_53, lit_55, lit_57, lit_59, lit_60, lit_63, lit_64, lit_97, lit_102, lit_110, lit_160, lit_255, nI_add, ns_sub, ns_div, ns_le, ns_lt, ns_eq, ns_cl, pk_mul, ne10, eq_self, ↓reduceIte, e12, Nat.le_refl]) (nI 0) S ⟨rfl, scr.rf, fun k hk => absurd hk (by omega)⟩
  subst ha
  refine ⟨S', ?_, z1, q1⟩
  unfold fX8_viewWithoutEach
  rw [lit_0, e1, bd_some]
