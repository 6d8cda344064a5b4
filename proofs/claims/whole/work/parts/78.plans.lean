/-! plans: a board with one thing changed, the fewest -/
def uD (c : Cf) (k d : Nat) : Cf := (cN c, (fun i => if i = k then d else cD c i), cC c, cK c, cP c, cW c, cO c, cA c, cF c)
def uC (c : Cf) (k x : Nat) : Cf := (cN c, cD c, (fun i => if i = k then x else cC c i), cK c, cP c, cW c, cO c, cA c, cF c)
def uK (c : Cf) (k v : Nat) : Cf := (cN c, cD c, cC c, (fun i => if i = k then v else cK c i), cP c, cW c, cO c, cA c, cF c)
def uP (c : Cf) (p : Nat → Bool) : Cf := (cN c, cD c, cC c, cK c, p, cW c, cO c, cA c, cF c)
/-- how many of Y come up on all days -/
def aY (c : Cf) (Y : Nat → Bool) : Nat := fb_sm (fun d => fb_ct (fun k => up c d k && Y k) 8) 20
/-- Y shares no cell with what else is there -/
def cl (c : Cf) (Y : Nat → Bool) : Prop := ∀ k j, Y k = true → j < cN c → Y j = false → cP c j = true → ¬ cC c j = cC c k
theorem up_P {c : Cf} {d k : Nat} (h : up c d k = true) : cP c k = true := by
  have h2 := up_2 h
  cases q : cP c k with
  | true => rfl
  | false => rw [now_nP q] at h2; omega
theorem up_in {c : Cf} {Y : Nat → Bool} (hY : ∀ k, Y k = true → cP c k = true) (hn : ∀ k, Y k = true → k < cN c) (hc : cl c Y) {d k : Nat} : up (uP c Y) d k = (Y k && up c d k) := by
  cases hk : Y k with
  | true =>
    have h := (loc_up (c := uP c Y) (e := c) (X := Y) rfl rfl rfl rfl rfl (fun _ _ => rfl) (fun _ _ => rfl) (fun _ _ => rfl) (fun k hk => by
      show Y k = cP c k
      rw [hk, hY k hk]) (fun k j hk hj hz => ⟨fun q => absurd (show Y j = true from q) (by rw [hz]; decide), fun q => hc k j hk hj hz q⟩) (fun k hk => hn k hk) d k hk).2
    rw [h, Bool.true_and]
  | false =>
    rw [Bool.false_and]
    cases q : up (uP c Y) d k with
    | false => rfl
    | true =>
      have q2 : Y k = true := up_P q
      rw [hk] at q2; cases q2
theorem allU_in {c : Cf} {Y : Nat → Bool} (hY : ∀ k, Y k = true → cP c k = true) (hn : ∀ k, Y k = true → k < cN c) (hc : cl c Y) : allU (uP c Y) = aY c Y := fb_sm_cong (fun d _ => fb_ct_cong (fun k _ => by
  rw [up_in hY hn hc, Bool.and_comm]))
theorem aY_split {c : Cf} {Y : Nat → Bool} : allU c = aY c Y + aY c (fun k => !Y k) := by
  unfold allU aY
  rw [← fb_sm_add]
  refine fb_sm_cong (fun d _ => ?_)
  unfold ctU
  rw [← fb_ct_or (fun k _ => by
    intro q
    simp only [Bool.and_eq_true, Bool.not_eq_true'] at q
    rw [q.1.2] at q
    cases q.2.2)]
  exact fb_ct_cong (fun k _ => by dsimp only; cases up c d k <;> cases Y k <;> rfl)
theorem aY_cong {c : Cf} {Y Z : Nat → Bool} (h : ∀ k, k < cN c → cP c k = true → Y k = Z k) (hP : ∀ k, cP c k = true → k < cN c) : aY c Y = aY c Z := fb_sm_cong (fun d _ => fb_ct_cong (fun k _ => by
  cases hu : up c d k with
  | false => rfl
  | true =>
    have hp := up_P hu
    rw [h k (hP k hp) hp]))
theorem aY_or {c : Cf} {Y Z : Nat → Bool} (h : ∀ k, ¬ (Y k = true ∧ Z k = true)) : aY c (fun k => Y k || Z k) = aY c Y + aY c Z := by
  unfold aY
  rw [← fb_sm_add]
  refine fb_sm_cong (fun d _ => ?_)
  rw [← fb_ct_or (fun k _ => by
    intro q
    simp only [Bool.and_eq_true] at q
    exact h k ⟨q.1.2, q.2.2⟩)]
  exact fb_ct_cong (fun k _ => by dsimp only; cases up c d k <;> cases Y k <;> cases Z k <;> rfl)
/-- two boards that are alike on Y, and nothing else there -/
theorem up_agree {c e : Cf} {Y : Nat → Bool} (hN : cN c = cN e) (hW : cW c = cW e) (hO : cO c = cO e) (hA : cA c = cA e) (hF : cF c = cF e) (hD : ∀ k, Y k = true → cD c k = cD e k) (hC : ∀ k, Y k = true → cC c k = cC e k) (hK : ∀ k, Y k = true → cK c k = cK e k) (hn : ∀ k, Y k = true → k < cN c) {d k : Nat} : up (uP c Y) d k = up (uP e Y) d k := by
  cases hk : Y k with
  | true => exact (loc_up (c := uP c Y) (e := uP e Y) (X := Y) hN hW hO hA hF hD hC hK (fun _ _ => rfl) (fun k j hk hj hz => ⟨fun q => absurd (show Y j = true from q) (by rw [hz]; decide), fun q => absurd (show Y j = true from q) (by rw [hz]; decide)⟩) hn d k hk).2
  | false =>
    have z : ∀ b : Cf, up (uP b Y) d k = false := fun b => by
      cases q : up (uP b Y) d k with
      | false => rfl
      | true =>
        have q2 : Y k = true := up_P q
        rw [hk] at q2; cases q2
    rw [z c, z e]
theorem allU_agree {c e : Cf} {Y : Nat → Bool} (hN : cN c = cN e) (hW : cW c = cW e) (hO : cO c = cO e) (hA : cA c = cA e) (hF : cF c = cF e) (hD : ∀ k, Y k = true → cD c k = cD e k) (hC : ∀ k, Y k = true → cC c k = cC e k) (hK : ∀ k, Y k = true → cK c k = cK e k) (hn : ∀ k, Y k = true → k < cN c) : allU (uP c Y) = allU (uP e Y) := fb_sm_cong (fun d _ => fb_ct_cong (fun k _ => up_agree hN hW hO hA hF hD hC hK hn))
/-- the first of 0 .. n that has fewest -/
def amn (f : Nat → Nat) : Nat → Nat
  | 0 => 0
  | n + 1 => if f (n + 1) < f (amn f n) then n + 1 else amn f n
theorem amn_0 {f : Nat → Nat} : amn f 0 = 0 := rfl
theorem amn_s {f : Nat → Nat} {n : Nat} : amn f (n + 1) = if f (n + 1) < f (amn f n) then n + 1 else amn f n := rfl
theorem amn_cong {f g : Nat → Nat} : ∀ {n : Nat}, (∀ k, k ≤ n → f k = g k) → amn f n = amn g n
  | 0, _ => rfl
  | n + 1, h => by
    have ih := amn_cong (n := n) (fun k hk => h k (by omega))
    have hl : amn g n ≤ n := by
      clear ih h
      induction n with
      | zero => exact Nat.le_refl _
      | succ m ih => rw [amn_s]; split <;> omega
    rw [amn_s, amn_s, ih, h (n + 1) (by omega), h (amn g n) (by omega)]
theorem amn_le (f : Nat → Nat) : ∀ n, amn f n ≤ n
  | 0 => Nat.le_refl _
  | n + 1 => by
    have := amn_le f n
    rw [amn_s]
    split <;> omega
theorem amn_min (f : Nat → Nat) : ∀ n x, x ≤ n → f (amn f n) ≤ f x
  | 0, x, h => by rw [show x = 0 by omega]; exact Nat.le_refl _
  | n + 1, x, h => by
    have ih := amn_min f n
    rw [amn_s]
    by_cases q : f (n + 1) < f (amn f n)
    · rw [if_pos q]
      by_cases z : x = n + 1
      · subst z; exact Nat.le_refl _
      · have := ih x (by omega); omega
    · rw [if_neg q]
      by_cases z : x = n + 1
      · subst z; omega
      · exact ih x (by omega)
/-- the class's fewest, when those below i have been offered -/
def fwI (S : Sg) (f : Nat → Nat) : Nat → Prop
  | 0 => S.1 40 0 = -nI 1 ∧ S.1 40 1 = nI 2147483647
  | i + 1 => S.1 40 0 = nI (amn f i) ∧ S.1 40 1 = nI (f (amn f i))
theorem fwI.fr {S S' : Sg} {f : Nat → Nat} {i lo hi : Nat} (h : fwI S f i) (g : fr lo hi S S') (hl : hi < 40 ∨ 40 < lo) : fwI S' f i := by
  have e0 := g.1 40 0 (by omega)
  have e1 := g.1 40 1 (by omega)
  cases i with
  | zero => exact ⟨e0.trans h.1, e1.trans h.2⟩
  | succ i => exact ⟨e0.trans h.1, e1.trans h.2⟩
theorem fwI.I {S : Sg} {f : Nat → Nat} {i a k : Nat} {v : Int32} (h : fwI S f i) (ha : ¬ a = 40) : fwI (sI S a k v) f i := by
  have e0 : (sI S a k v).1 40 0 = S.1 40 0 := by rw [sI1, if_neg (by omega)]
  have e1 : (sI S a k v).1 40 1 = S.1 40 1 := by rw [sI1, if_neg (by omega)]
  cases i with
  | zero => exact ⟨e0.trans h.1, e1.trans h.2⟩
  | succ i => exact ⟨e0.trans h.1, e1.trans h.2⟩
theorem begin_ok {S : Sg} {f : Nat → Nat} : ∃ S', fX4_begin S = some ((), S') ∧ fr 40 40 S S' ∧ fwI S' f 0 := by
  refine ⟨sI (sI S 40 0 (-1)) 40 1 2147483647, rfl, (fr.rf.I (by omega) (by omega)).I (by omega) (by omega), ?_, ?_⟩
  · rw [sI1, if_neg (by omega), sI1, if_pos ⟨rfl, rfl⟩]; rfl
  · rw [sI1, if_pos ⟨rfl, rfl⟩]; rfl
theorem offer_ok {S : Sg} {f : Nat → Nat} {i : Nat} (h : fwI S f i) (hf : ∀ k, f k ≤ 1000) : ∃ S', fX4_offer (nI i) (nI (f i)) S = some ((), S') ∧ fr 40 40 S S' ∧ fwI S' f (i + 1) := by
  have hi := hf i
  cases i with
  | zero =>
    obtain ⟨h1, h2⟩ := h
    refine ⟨sI (sI S 40 0 (nI 0)) 40 1 (nI (f 0)), ?_, (fr.rf.I (by omega) (by omega)).I (by omega) (by omega), ?_, ?_⟩
    · unfold fX4_offer
      rw [h2, if_neg (by rw [ns_le (by omega) (by omega)]; omega)]
    · rw [sI1, if_neg (by omega), sI1, if_pos ⟨rfl, rfl⟩, amn_0]
    · rw [sI1, if_pos ⟨rfl, rfl⟩, amn_0]
  | succ i =>
    obtain ⟨h1, h2⟩ := h
    have hj := hf (amn f i)
    by_cases q : f (i + 1) < f (amn f i)
    · refine ⟨sI (sI S 40 0 (nI (i + 1))) 40 1 (nI (f (i + 1))), ?_, (fr.rf.I (by omega) (by omega)).I (by omega) (by omega), ?_, ?_⟩
      · unfold fX4_offer
        rw [h2, if_neg (by rw [ns_le (by omega) (by omega)]; omega)]
      · rw [sI1, if_neg (by omega), sI1, if_pos ⟨rfl, rfl⟩, amn_s, if_pos q]
      · rw [sI1, if_pos ⟨rfl, rfl⟩, amn_s, if_pos q]
    · refine ⟨S, ?_, fr.rf, ?_, ?_⟩
      · unfold fX4_offer
        rw [h2, if_pos (by rw [ns_le (by omega) (by omega)]; omega)]
      · rw [amn_s, if_neg q]; exact h1
      · rw [amn_s, if_neg q]; exact h2
theorem fwI_skip {S : Sg} {f : Nat → Nat} {i j : Nat} (h : fwI S f i) (hj : j < i) (e : f j = f i) : fwI S f (i + 1) := by
  cases i with
  | zero => omega
  | succ i =>
    obtain ⟨h1, h2⟩ := h
    have := amn_min f i j (by omega)
    have q : ¬ f (i + 1) < f (amn f i) := by omega
    refine ⟨?_, ?_⟩
    · rw [amn_s, if_neg q]; exact h1
    · rw [amn_s, if_neg q]; exact h2
def fwV (f : Nat → Nat) (n w : Nat) : Int32 := if w = 0 then nI (amn f n) else nI (f (amn f n))
theorem tell_ok {S : Sg} {f : Nat → Nat} {n w : Nat} (h : fwI S f (n + 1)) (hw : w < 2) : fX4_tell (nI w) S = some (fwV f n w, S) := by
  obtain ⟨h1, h2⟩ := h
  unfold fX4_tell fwV
  have hw2 : w = 0 ∨ w = 1 := by omega
  rcases hw2 with rfl | rfl
  · rw [if_pos (show nI 0 = (0 : Int32) from rfl), if_pos rfl, h1]
  · rw [if_neg (by decide), if_neg (by omega), h2]
/-- the class's trial takes the strokes told -/
theorem cp8 : cpok 0 0 8 8 8 = true := by decide
theorem tn0 : Int32.toNatClampNeg (0 : Int32) = 0 := by decide
theorem tn8 : Int32.toNatClampNeg (8 : Int32) = 8 := by decide
theorem cpy8 {f g : Nat → Int32} {k : Nat} (hk : k < 8) : va_cpy f g 0 0 8 k = f k := by
  unfold va_cpy
  rw [if_pos (by omega), Nat.sub_zero, Nat.zero_add]
theorem take_ok {S : Sg} : ∃ S', fX0_takeStrokes 24 12 S = some ((), S') ∧ fr 24 28 S S' ∧ S'.1 24 0 = S.1 12 0 ∧ ∀ k, k < 8 → S'.1 25 k = S.1 13 k ∧ S'.1 26 k = S.1 14 k ∧ S'.1 27 k = S.1 15 k ∧ S'.1 28 k = S.1 16 k := by
  unfold fX0_takeStrokes
  rw [gd_t cp8, gd_t cp8, gd_t cp8, gd_t cp8, tn0, tn8]
  refine ⟨_, rfl, ⟨fun a j q => ?_, rfl⟩, ?_, fun k hk => ?_⟩
  · rw [sC1, if_neg (by omega), sC1, if_neg (by omega), sC1, if_neg (by omega), sC1, if_neg (by omega), sI1, if_neg (by omega)]
  · rw [sC1, if_neg (by omega), sC1, if_neg (by omega), sC1, if_neg (by omega), sC1, if_neg (by omega), sI1, if_pos ⟨rfl, rfl⟩]
  · refine ⟨?_, ?_, ?_, ?_⟩
    · rw [sC1, if_neg (by omega), sC1, if_neg (by omega), sC1, if_neg (by omega), sC1, if_pos rfl, cpy8 hk, sI1, if_neg (by omega)]
    · rw [sC1, if_neg (by omega), sC1, if_neg (by omega), sC1, if_pos rfl, cpy8 hk, sC1, if_neg (by omega), sI1, if_neg (by omega)]
    · rw [sC1, if_neg (by omega), sC1, if_pos rfl, cpy8 hk, sC1, if_neg (by omega), sC1, if_neg (by omega), sI1, if_neg (by omega)]
    · rw [sC1, if_pos rfl, cpy8 hk, sC1, if_neg (by omega), sC1, if_neg (by omega), sC1, if_neg (by omega), sI1, if_neg (by omega)]
theorem trial_ok {S : Sg} {A : Ab} (h : RF S A) : ∃ S', fX0_takeStrokes 24 12 S = some ((), S') ∧ fr 24 28 S S' ∧ Bd 24 S' (cfg A) ∧ sgB 24 S' (cfg A) (sgn A) := by
  obtain ⟨S', e, f, q0, q⟩ := take_ok (S := S)
  have h8 := cfg_8 h.1
  obtain ⟨b1, b2, b3⟩ := h.2.2.1
  refine ⟨S', e, f, ⟨b1, q0.trans b2, fun k hk => ?_⟩, fun k hk => ?_⟩
  · obtain ⟨r1, r2, r3, r4⟩ := q k (by omega)
    obtain ⟨k1, k2, k3, k4, k5, k6⟩ := b3 k hk
    exact ⟨r1.trans k1, k2, r2.trans k3, k4, r4.trans k5, k6⟩
  · exact (q k (by omega)).2.2.1.trans (h.2.2.2.1 k hk)
/-- settled and followed in the trial, for the strokes p -/
theorem trialRun_ok {S : Sg} {A : Ab} {c : Cf} {p : Nat → Bool} (h : RF S A) (hB : Bd 24 S c) (hW : cW c = cW (cfg A)) (hO : cO c = cO (cfg A)) (hA : cA c = cA (cfg A)) (hF : cF c = cF (cfg A)) (hp : ∀ k, p k = true → k < cN c) : ∃ S1 S2, fX0_settle 24 (ps p) S = some ((), S1) ∧ fX3_follow 33 24 5 (S1.1 0 15) S1 = some ((), S2) ∧ fr 29 32 S S1 ∧ fr 34 35 S1 S2 ∧ Stl 24 S2 (uP c p) ∧ ∀ d, d < 20 → S2.1 (33 + 1) d = ps (fun k => up (uP c p) d k) := by
  have hB' : Bd 24 S (uP c p) := hB
  have hWo : Wo (uP c p) (aW A).1 (aW A).2.1 (aW A).2.2 (aO A).1 (aO A).2.1 (aO A).2.2 := ⟨fun e l => by
    show cW c e l = _
    rw [hW]; rfl, fun l d => by
    show cO c l d = _
    rw [hO]; rfl, hp⟩
  obtain ⟨S1, e1, f1, s1⟩ := settle_ok (t := 24) (c := uP c p) (by omega) hB' h.1.2.2.2.1 hWo
  have h5 : ∀ d, d < 20 → S1.1 5 d = nI (cA (uP c p) d) ∧ cA (uP c p) d ≤ 9 := fun d hd => by
    rw [f1.1 5 d (by omega)]
    show S.1 5 d = nI (cA c d) ∧ cA c d ≤ 9
    rw [hA]
    exact ⟨h.2.2.2.2.2.2.1 d hd, tA_le⟩
  have hF9 : cF (uP c p) ≤ 9 := by
    show cF c ≤ 9
    rw [hF]
    exact h.1.2.2.1.1
  obtain ⟨S2, e2, f2, r2⟩ := follow_ok (t := 24) (tc := 33) (td := 5) (c := uP c p) (hB'.fr f1 (by omega)) s1 hp h5 hF9 (by omega) (by omega)
  refine ⟨S1, S2, e1, ?_, f1, f2, ⟨fun k hk hq => by rw [f2.1 (24 + 5) k (by omega)]; exact s1.1 k hk hq, fun d hd => by rw [f2.1 (24 + 6) d (by omega), f2.1 (24 + 7) d (by omega), f2.1 (24 + 8) d (by omega)]; exact s1.2 d hd⟩, fun d hd => (r2 d hd).1⟩
  have e15 : S1.1 0 15 = nI (cF (uP c p)) := by
    rw [f1.1 0 15 (by omega)]
    show _ = nI (cF c)
    rw [hF]
    exact h.1.2.2.1.2
  rw [e15]
  exact e2
theorem upsInTrial_ok {S : Sg} {A : Ab} {c : Cf} {p : Nat → Bool} (h : RF S A) (hB : Bd 24 S c) (hW : cW c = cW (cfg A)) (hO : cO c = cO (cfg A)) (hA : cA c = cA (cfg A)) (hF : cF c = cF (cfg A)) (hp : ∀ k, p k = true → k < cN c) : ∃ S', fX8_upsInTrial (ps p) S = some (nI (allU (uP c p)), S') ∧ fr 29 35 S S' := by
  obtain ⟨S1, S2, e1, e2, f1, f2, -, r2⟩ := trialRun_ok h hB hW hO hA hF hp
  refine ⟨S2, ?_, (f1.wd (by omega) (by omega)).tr (f2.wd (by omega) (by omega))⟩
  have e3 := totalC_ok (t := 33) (S := S2) (c := uP c p) r2
  unfold fX8_upsInTrial
  rw [e1, bd_some, e2, bd_some, e3, bd_some]
