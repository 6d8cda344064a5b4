/-! the first states, and the worlds that the constructors leave -/
def s0c : Nat → Nat → Int32
  | 0, 15 => 3
  | 0, 17 => 1
  | 40, 0 => -1
  | 40, 1 => 2147483647
  | 44, 1 => 1
  | 46, 1 => 1
  | 48, 1 => 1
  | 50, 1 => 1
  | _, _ => 0
def l0c : Nat → Nat → Int64
  | 41, 5 => 1
  | _, _ => 0
def S0c : Sg := (s0c, l0c)
def s0m : Nat → Nat → Int32
  | 0, 9 => 3
  | _, _ => 0
def S0m : Sg := (s0m, fun _ _ => 0)
def wX8 (g : Gk) (ad : Nat → Nat) (f : Nat → Option Nat) : va_W := [((ad 0), .inr (8, [.ref (ad 1), .ref (ad 3), .ref (ad 5), .ref (ad 6), .ref (ad 7), .ref (ad 12), .ref (ad 21), .ref (ad 24), .ref (ad 33), .ref (ad 36), .ref (ad 40), .ref (ad 41), .ref (ad 42), .ref (ad 43), .int (0 : Int32), .int (3 : Int32), .int (0 : Int32), .int (1 : Int32)])), ((ad 1), .inr (7, [.ref (ad 2), .int (0 : Int32)])), ((ad 2), .inl (g.2.1, 20, .inl (fun _ => 0))), ((ad 3), .inr (7, [.ref (ad 4), .int (0 : Int32)])), ((ad 4), .inl (g.2.1, 55, .inl (fun _ => 0))), ((ad 5), .inl (g.2.1, 20, .inl (fun _ => 0))), ((ad 6), .inl (g.2.1, 20, .inl (fun _ => 0))), ((ad 7), .inr (1, [.ref (ad 8), .ref (ad 9), .ref (ad 10), .ref (ad 11), .int (0 : Int32), .int (0 : Int32)])), ((ad 8), .inl (g.2.1, 8, .inl (fun _ => 0))), ((ad 9), .inl (g.2.1, 8, .inl (fun _ => 0))), ((ad 10), .inl (g.2.1, 4, .inl (fun _ => 0))), ((ad 11), .inl (g.2.1, 4, .inl (fun _ => 0))), ((ad 12), .inr (0, [.int (0 : Int32), .ref (ad 13), .ref (ad 14), .ref (ad 15), .ref (ad 16), .ref (ad 17), .ref (ad 18), .ref (ad 19), .ref (ad 20)])), ((ad 13), .inl (g.2.1, 8, .inl (fun _ => 0))), ((ad 14), .inl (g.2.1, 8, .inl (fun _ => 0))), ((ad 15), .inl (g.2.1, 8, .inl (fun _ => 0))), ((ad 16), .inl (g.2.1, 8, .inl (fun _ => 0))), ((ad 17), .inl (g.2.1, 8, .inl (fun _ => 0))), ((ad 18), .inl (g.2.1, 20, .inl (fun _ => 0))), ((ad 19), .inl (g.2.1, 20, .inl (fun _ => 0))), ((ad 20), .inl (g.2.1, 20, .inl (fun _ => 0))), ((ad 21), .inr (3, [.ref (ad 22), .ref (ad 23)])), ((ad 22), .inl (g.2.1, 20, .inl (fun _ => 0))), ((ad 23), .inl (g.2.1, 20, .inl (fun _ => 0))), ((ad 24), .inr (0, [.int (0 : Int32), .ref (ad 25), .ref (ad 26), .ref (ad 27), .ref (ad 28), .ref (ad 29), .ref (ad 30), .ref (ad 31), .ref (ad 32)])), ((ad 25), .inl (g.2.1, 8, .inl (fun _ => 0))), ((ad 26), .inl (g.2.1, 8, .inl (fun _ => 0))), ((ad 27), .inl (g.2.1, 8, .inl (fun _ => 0))), ((ad 28), .inl (g.2.1, 8, .inl (fun _ => 0))), ((ad 29), .inl (g.2.1, 8, .inl (fun _ => 0))), ((ad 30), .inl (g.2.1, 20, .inl (fun _ => 0))), ((ad 31), .inl (g.2.1, 20, .inl (fun _ => 0))), ((ad 32), .inl (g.2.1, 20, .inl (fun _ => 0))), ((ad 33), .inr (3, [.ref (ad 34), .ref (ad 35)])), ((ad 34), .inl (g.2.1, 20, .inl (fun _ => 0))), ((ad 35), .inl (g.2.1, 20, .inl (fun _ => 0))), ((ad 36), .inr (6, [.ref (ad 37), .ref (ad 38), .ref (ad 39), .int (0 : Int32)])), ((ad 37), .inl (g.2.1, 8, .inl (fun _ => 0))), ((ad 38), .inl (g.2.1, 8, .inl (fun _ => 0))), ((ad 39), .inl (g.2.1, 8, .inl (fun _ => 0))), ((ad 40), .inr (4, [.int (-1 : Int32), .int (2147483647 : Int32)])), ((ad 41), .inr (2, [.int (0 : Int32), .int (0 : Int32), .int (0 : Int32), .int (0 : Int32), .long (0 : Int64), .long (1 : Int64)])), ((ad 42), .inl (g.2.2.2, 4, .inr (.inr (.inr (.inr f))))), ((ad 43), .inl (g.2.1, 160, .inl (fun _ => 0))), ((ad 44), .inr (5, [.ref (ad 45), .int (1 : Int32), .int (0 : Int32), .int (0 : Int32)])), ((ad 45), .inl (g.2.1, 60, .inl (fun _ => 0))), ((ad 46), .inr (5, [.ref (ad 47), .int (1 : Int32), .int (0 : Int32), .int (0 : Int32)])), ((ad 47), .inl (g.2.1, 60, .inl (fun _ => 0))), ((ad 48), .inr (5, [.ref (ad 49), .int (1 : Int32), .int (0 : Int32), .int (0 : Int32)])), ((ad 49), .inl (g.2.1, 60, .inl (fun _ => 0))), ((ad 50), .inr (5, [.ref (ad 51), .int (1 : Int32), .int (0 : Int32), .int (0 : Int32)])), ((ad 51), .inl (g.2.1, 60, .inl (fun _ => 0)))]
def wX9 (g : Gk) (ad : Nat → Nat) : va_W := [((ad 0), .inr (9, [.ref (ad 1), .ref (ad 2), .int 0, .ref (ad 3), .int 0, .ref (ad 4), .ref (ad 5), .ref (ad 6), .ref (ad 7), .int (3 : Int32), .int 0, .ref (ad 8), .ref (ad 9), .int 0, .ref (ad 10), .ref (ad 11), .ref (ad 12), .int 0, .int 0, .ref (ad 13), .ref (ad 14), .int 0, .ref (ad 15), .ref (ad 16), .ref (ad 17), .int 0, .ref (ad 18), .ref (ad 19), .ref (ad 20), .ref (ad 21), .ref (ad 22), .ref (ad 23), .ref (ad 24), .ref (ad 25), .ref (ad 26), .int 0])), ((ad 1), .inl (g.2.1, 2, .inl (fun _ => 0))), ((ad 2), .inl (g.2.1, 110, .inl (fun _ => 0))), ((ad 3), .inl (g.2.1, 20, .inl (fun _ => 0))), ((ad 4), .inl (g.2.1, 9, .inl (fun _ => 0))), ((ad 5), .inl (g.2.1, 9, .inl (fun _ => 0))), ((ad 6), .inl (g.2.1, 9, .inl (fun _ => 0))), ((ad 7), .inl (g.2.1, 9, .inl (fun _ => 0))), ((ad 8), .inl (g.2.1, 8, .inl (fun _ => 0))), ((ad 9), .inl (g.2.1, 8, .inl (fun _ => 0))), ((ad 10), .inl (g.2.1, 4, .inl (fun _ => 0))), ((ad 11), .inl (g.2.1, 4, .inl (fun _ => 0))), ((ad 12), .inl (g.2.1, 20, .inl (fun _ => 0))), ((ad 13), .inl (g.2.1, 8, .inl (fun _ => 0))), ((ad 14), .inl (g.2.1, 8, .inl (fun _ => 0))), ((ad 15), .inl (g.2.1, 20, .inl (fun _ => 0))), ((ad 16), .inl (g.2.1, 160, .inl (fun _ => 0))), ((ad 17), .inl (g.2.1, 160, .inl (fun _ => 0))), ((ad 18), .inl (g.2.1, 8, .inl (fun _ => 0))), ((ad 19), .inl (g.2.1, 8, .inl (fun _ => 0))), ((ad 20), .inl (g.2.1, 8, .inl (fun _ => 0))), ((ad 21), .inl (g.2.1, 160, .inl (fun _ => 0))), ((ad 22), .inl (g.2.2.1, 4, .inl (fun _ => 0))), ((ad 23), .inl (g.2.1, 4, .inl (fun _ => 0))), ((ad 24), .inl (g.2.1, 4, .inl (fun _ => 0))), ((ad 25), .inl (g.2.1, 240, .inl (fun _ => 0))), ((ad 26), .inl (g.2.1, 60, .inl (fun _ => 0)))]
def z0 : Nat → Int32 := fun _ => 0
set_option maxRecDepth 100000 in
set_option maxHeartbeats 4000000 in
theorem wl8 (g : Gk) (ad : Nat → Nat) : wl LC (g.1, ad, g.2) S0c = wX8 g ad (fun j => some (ad (44 + 2 * j))) := by
  have hz : ∀ a, (a = 2 ∨ a = 4 ∨ a = 5 ∨ a = 6 ∨ (8 ≤ a ∧ a ≤ 11) ∨ (13 ≤ a ∧ a ≤ 20) ∨ a = 22 ∨ a = 23 ∨ (25 ≤ a ∧ a ≤ 32) ∨ a = 34 ∨ a = 35 ∨ (37 ≤ a ∧ a ≤ 39) ∨ a = 43 ∨ a = 45 ∨ a = 47 ∨ a = 49 ∨ a = 51) → s0c a = fun _ => 0 := by
    intro a ha
    funext j
    unfold s0c
    split <;> first | rfl | omega
  simp only [wl, LC, List.mapIdx_cons, List.mapIdx_nil, ce, fv, wX8, S0c]
  simp [hz]
  simp [s0c, l0c]
set_option maxRecDepth 100000 in
set_option maxHeartbeats 4000000 in
theorem wl9 (g : Gk) (ad : Nat → Nat) : wl LM (g.1, ad, g.2) S0m = wX9 g ad := by
  have hz : ∀ a, 1 ≤ a → s0m a = fun _ => 0 := by
    intro a ha
    funext j
    unfold s0m
    split <;> first | rfl | omega
  simp only [wl, LM, List.mapIdx_cons, List.mapIdx_nil, ce, fv, wX9, S0m]
  simp [hz]
  simp [s0m]
theorem arrV_cong {cA : ClassId} {n : Nat} {f f' : Nat → Value} (h : ∀ j, j < n → f j = f' j) : arrV cA n f = arrV cA n f' := by
  unfold arrV
  congr 1
  apply Array.ext
  · simp
  · intro i h1 h2
    simp at h1
    simp [h i h1]
theorem shf_eq (ad : Nat → Nat) (j : Nat) (hj : j < 4) : (va_up (va_up (va_up (va_up (fun _ => none) 0 (some (ad 44))) 1 (some (ad 46))) 2 (some (ad 48))) 3 (some (ad 50))) j = some (ad (44 + 2 * j)) := by
  rcases (show j = 0 ∨ j = 1 ∨ j = 2 ∨ j = 3 by omega) with rfl | rfl | rfl | rfl <;> rfl
set_option maxRecDepth 100000 in
set_option maxHeartbeats 4000000 in
theorem wX8_swap {g : Gk} {ad : Nat → Nat} {f f' : Nat → Option Nat} {H : Heap} (h : va_P g.1 vwCl (wX8 g ad f) H) (hf : ∀ j, j < 4 → f j = f' j) : va_P g.1 vwCl (wX8 g ad f') H := by
  intro k q hk
  by_cases hk42 : k = 42
  · subst hk42
    have e1 : (wX8 g ad f')[42]? = some (ad 42, .inl (g.2.2.2, 4, .inr (.inr (.inr (.inr f'))))) := rfl
    have e2 : (wX8 g ad f)[42]? = some (ad 42, .inl (g.2.2.2, 4, .inr (.inr (.inr (.inr f))))) := rfl
    cases e1.symm.trans hk
    have h1 := h 42 _ e2
    show H[ad 42]? = some (vp_cell g.2.2.2 (4, .inr (.inr (.inr (.inr f')))))
    have h2 : H[ad 42]? = some (vp_cell g.2.2.2 (4, .inr (.inr (.inr (.inr f))))) := h1
    rw [h2, vp_cell_q, vp_cell_q]
    congr 1
    exact arrV_cong (fun j hj => by rw [hf j hj])
  · refine h k q ?_
    have e : wX8 g ad f' = (wX8 g ad f).set 42 (ad 42, .inl (g.2.2.2, 4, .inr (.inr (.inr (.inr f'))))) := rfl
    rw [e, List.getElem?_set_ne (fun h => hk42 h.symm)] at hk
    exact hk

theorem Ij_of {L : List Shp} {G : Gd} {S : Sg} {A : Nat → Prop} (h : va_D A (wl L G S)) : Ij L G := by
  intro i j hi hj e
  exact h.1 i j _ _ (wl_at (List.getElem?_eq_getElem hi)) (wl_at (List.getElem?_eq_getElem hj)) e
theorem in_of {L : List Shp} {G : Gd} {S : Sg} {A : Nat → Prop} (h : va_D A (wl L G S)) (i : Nat) (hi : i < L.length) : A (G.2.1 i) := h.2 i _ (wl_at (List.getElem?_eq_getElem hi))
set_option maxHeartbeats 4000000 in
theorem li_init {Z : Mc} {b n nc ns : Nat} {xs : Nat → Int32} {g : Gk} {y : MethodName} {b' : ByteArray} {n' d mc' ms' a idx pc : Nat} {rest : List Value} {e : va_E} {F' : va_W → Prop} {ws1 : va_W} {H : Heap} {locs : List Loc} {ls : Array Slot}
    (hAt : lw_At Z.1 Z.2.2.2.2.1 Z.2.2.2.2.2.1 Z.2.2.2.2.2.2.2.2.1 Z.2.2.2.2.2.2.2.2.2 b n xs) (hR : Z.2.2.2.1 = room_1) (ha : Z.2.2.2.2.2.2.1 = #[Value.ref b]) (hWi : Wi g Z.2.2.2.2.1) (hM : Cn g Z.2.1 y b' n' d mc' ms' a [] e F') (mf : MF y b' n' none 0) (hy1 : y.name = "<init>") (hin : Cond.instanceMethod y ∈ tbG) (hlk : Cond.methodLink R_law idx y ∈ tbG) (hd60 : d ≤ 60) (hc : nc + mc' ≤ 600000) (hs : ns + ms' ≤ 7302250) (hst : (rest.map fun v => v.category).sum ≤ 8) (hd : decode code pc = .ok (.invokespecial idx, 3))
    (hl : ls.size = 4) (hP : va_P g.1 vwCl (ws1 ++ [(a, e)]) H) (hD : va_D (fun q : Nat => Z.2.2.2.2.1.heap.size ≤ q) (ws1 ++ [(a, e)])) (hS : va_S (fun q : Nat => Z.2.2.2.2.1.heap.size ≤ q) Z.2.2.2.2.1.heap H locs)
    (k : ∀ (ws' : va_W) (H1 : Heap) (locs1 : List Loc), F' ws' → va_P g.1 vwCl (ws1 ++ ws') H1 → va_D (fun q : Nat => Z.2.2.2.2.1.heap.size ≤ q) (ws1 ++ ws') → va_S (fun q : Nat => Z.2.2.2.2.1.heap.size ≤ q) Z.2.2.2.2.1.heap H1 locs1 → Wl Z (nc + mc') (ns + ms') b H1 locs1 (F0 Z.2.2.2.2.2.1 (pc + 3) ls rest)) : Wl Z nc ns b H locs (F0 Z.2.2.2.2.2.1 pc ls (.ref a :: rest)) := by
  obtain ⟨hx, hb, hr, hml, hown, hts, hX, hbl, hlocks, hgv⟩ := hAt
  rw [← ha] at hts
  have hG : GoodIn lw_tbl (wsG y b' n' none) := fun w hw => by
    have hm : w ∈ tbG := by
      rcases List.mem_cons.mp hw with rfl | h1
      · exact mf.1
      · exact h1
    exact ⟨tb_sub hm, good_of_word (tb_good hm)⟩
  have hRR : (rmN d mc' ms').frames + 1 ≤ Z.2.2.2.1.frames ∧ 8 + (n' + 11) + (rmN d mc' ms').locals ≤ Z.2.2.2.1.locals := by
    rw [hR]
    have h1 := mf.2.2.2
    exact ⟨by show d + 1 ≤ 2048; omega, by show 8 + (n' + 11) + 40 * d ≤ 84000; omega⟩
  have hlast : (ws1 ++ [(a, e)])[ws1.length]? = some (a, e) := by simp
  have hPc : va_P g.1 vwCl [(a, e)] H := fun k q hq => by
    have h1 := (List.getElem?_eq_some_iff.mp hq).1
    simp at h1
    subst h1
    cases hq
    exact hP _ _ hlast
  have hpre : PreS Z.2.2.2.2.1 H (va_Pc (.ref a :: []) (fun U => U.heap.size = H.size ∧ va_P g.1 vwCl [(a, e)] U.heap ∧ Wi g U)) (.ref a :: []) := ⟨blindN, fun U hU hW => ⟨rfl, by rw [hU], by rw [hU]; exact hPc, hWi.warm hW⟩⟩
  have hf : nc + mc' ≤ Z.2.2.2.1.cells ∧ ns + ms' ≤ Z.2.2.2.1.slots := by rw [hR]; exact ⟨hc, hs⟩
  have hrun : va_Run Z.1 Z.2.1 Z.2.2.1 Z.2.2.2.1 Z.2.2.2.2.1 Z.2.2.2.2.2.1 Z.2.2.2.2.2.2.1 Z.2.2.2.2.2.2.2.1 Z.2.2.2.2.2.2.2.2.1 Z.2.2.2.2.2.2.2.2.2 H locs nc ns mc' ms' (F0 Z.2.2.2.2.2.1 pc ls (.ref a :: rest)) rest (Qn g a H.size F' (Value.ref a :: []).toArray) (Ax a H.size) :=
    va_runI (As := []) (rest := rest) ⟨hx, hb, hml, hown, hts⟩ (hM H.size) ⟨callB_of 0 (Ts := lw_tbl) (ws' := tbG) hts hG rfl rfl rfl (hts _ (tb_sub mf.2.1)) (hts _ (tb_sub hlk)) mf.2.2.1 hRR, hy1, hts _ (tb_sub hin)⟩ hpre rfl rfl hl rfl (lv_room hst) hd hf
  intro T hT X
  obtain ⟨v, st₀, t, T', L', h0, X', hL, e1, e2, ⟨⟨hv, ws', hF', hP1, hD1⟩, hz, hk⟩, stp⟩ := hrun T hT X
  cases hv
  rw [h0] at hz hk
  rw [← e1] at hz hk hP1
  have hA2 : ∀ q, H.size ≤ q → Z.2.2.2.2.1.heap.size ≤ q := fun q hq => Nat.le_trans hS.1 hq
  have hAa : ∀ q, Ax a H.size q → Z.2.2.2.2.1.heap.size ≤ q := fun q hq => by
    rcases hq with z | z
    · rw [z]; exact hD.2 _ _ hlast
    · exact hA2 q z
  obtain ⟨p1, p2⟩ := n_ws (sz0 := 0) hP hD hP1 hD1 hA2 hk
  obtain ⟨t2, a1, b1⟩ := k ws' T'.heap (locs ++ L') hF' p1 p2
    ⟨Nat.le_trans hS.1 hz, fun q h1 h2 => (hk q (Nat.lt_of_lt_of_le h1 hS.1) (fun z => h2 (hAa q z))).trans (hS.2.1 q h1 h2), fun q hq => by
      rcases List.mem_append.mp hq with h | h
      · exact hS.2.2 q h
      · exact hAa _ (hL q h)⟩ T' rfl X'
  exact ⟨t2, stp t2 a1, b1⟩
theorem clkL_7 : Cond.classLink R_law 7 RX8 ∈ tbG := tb_in (List.mem_of_getElem? (i := 83) (by decide +kernel)) rfl
theorem clkL_10 : Cond.classLink R_law 10 RX9 ∈ tbG := tb_in (List.mem_of_getElem? (i := 809) (by decide +kernel)) rfl
theorem lkL_9 : Cond.methodLink R_law 9 yX8_init ∈ tbG := tb_in (List.mem_of_getElem? (i := 85) (by decide +kernel)) rfl
theorem lkL_12 : Cond.methodLink R_law 12 yX9_init ∈ tbG := tb_in (List.mem_of_getElem? (i := 811) (by decide +kernel)) rfl
theorem ao_in : Cond.arrayOver (.object "BoardRemembers$Sheet") ∈ lw_tbl := (List.mem_of_getElem? (i := 264) (by decide +kernel))
set_option maxRecDepth 100000 in
set_option maxHeartbeats 4000000 in
/-- the classes and array classes as the tables have them -/
theorem start_K {s : State} {args : Array Value} (hts : ∀ w ∈ lw_tbl, w.before args s = true) : ∃ g : Gk, Wi g s := by
  obtain ⟨c0, i0, hKn0⟩ := u_known (C := RX0) (T := TX0) (N := 9) (n := 9) hts inX0 (hts _ (tb_sub instX0))
  obtain ⟨c1, i1, hKn1⟩ := u_known (C := RX1) (T := TX1) (N := 6) (n := 6) hts inX1 (hts _ (tb_sub instX1))
  obtain ⟨c2, i2, hKn2⟩ := u_known (C := RX2) (T := TX2) (N := 6) (n := 6) hts inX2 (hts _ (tb_sub instX2))
  obtain ⟨c3, i3, hKn3⟩ := u_known (C := RX3) (T := TX3) (N := 2) (n := 2) hts inX3 (hts _ (tb_sub instX3))
  obtain ⟨c4, i4, hKn4⟩ := u_known (C := RX4) (T := TX4) (N := 2) (n := 2) hts inX4 (hts _ (tb_sub instX4))
  obtain ⟨c5, i5, hKn5⟩ := u_known (C := RX5) (T := TX5) (N := 4) (n := 4) hts inX5 (hts _ (tb_sub instX5))
  obtain ⟨c6, i6, hKn6⟩ := u_known (C := RX6) (T := TX6) (N := 4) (n := 4) hts inX6 (hts _ (tb_sub instX6))
  obtain ⟨c7, i7, hKn7⟩ := u_known (C := RX7) (T := TX7) (N := 2) (n := 2) hts inX7 (hts _ (tb_sub instX7))
  obtain ⟨c8, i8, hKn8⟩ := u_known (C := RX8) (T := TX8) (N := 18) (n := 18) hts inX8 (hts _ (tb_sub instX8))
  obtain ⟨c9, i9, hKn9⟩ := u_known (C := RX9) (T := TX9) (N := 36) (n := 36) hts inX9 (hts _ (tb_sub instX9))
  obtain ⟨cI, kI, pI, f1, f2, f3⟩ := Cond.arrayClass_spec (hts _ (tb_sub arr_i))
  obtain ⟨cZ, kZ, pZ, g1, g2, g3⟩ := Cond.arrayClass_spec (hts _ (tb_sub arr_z))
  obtain ⟨pO, cO, kO, h1, h2, h3, h4, h5⟩ := Cond.arrayOver_spec (hts _ ao_in)
  refine ⟨((fun k => ([c0, c1, c2, c3, c4, c5, c6, c7, c8, c9] : List ClassId).getD k c0, fun k => ([i0, i1, i2, i3, i4, i5, i6, i7, i8, i9] : List (Nat → Nat)).getD k i0), cI, cZ, cO), ⟨?_, ?_⟩, nk_of hts, va_AO.of (hts _ ao_in)⟩
  · intro k q hq
    match k, hq with
    | 0, hq => cases hq; exact hKn0
    | 1, hq => cases hq; exact hKn1
    | 2, hq => cases hq; exact hKn2
    | 3, hq => cases hq; exact hKn3
    | 4, hq => cases hq; exact hKn4
    | 5, hq => cases hq; exact hKn5
    | 6, hq => cases hq; exact hKn6
    | 7, hq => cases hq; exact hKn7
    | 8, hq => cases hq; exact hKn8
    | 9, hq => cases hq; exact hKn9
    | k + 10, hq => simp [vwCl] at hq
  · intro k q hq
    match k, hq with
    | 0, hq => cases hq; exact ⟨fun n z => ⟨fun k h => (by cases h), kI, f2, pI, f3⟩, f1⟩
    | 1, hq => cases hq; exact ⟨fun n z => ⟨fun k h => (by cases h), kZ, g2, pZ, g3⟩, g1⟩
    | 2, hq => cases hq; exact ⟨fun n z => ⟨fun k h => (by cases h), kO, h3, pO, h4⟩, kO, pO, h3, h4, h1, h5⟩
    | k + 3, hq => simp [tysK] at hq
set_option maxRecDepth 100000 in
set_option maxHeartbeats 4000000 in
theorem start_open {Inv : Sg → Sg → Prop} (hall : stp_all Inv) (hI0 : Inv S0c S0m) {p : Program} {e : Env} {s : State} {m : MethodId} {below : List Frame} {meth : Method} {c : Code} (l : Launch) {b L : Nat} {xs : Nat → Int32} (hL : L ≤ 384) (C0 : lw_At p s m meth c b L xs) : W p l e room_1 s m #[Value.ref b] below meth c s.heap [] 0 0 (lw_Z below #[Value.ref b] s) (entryFrame m ([Value.ref b] : List Value).toArray 4) := by
  have C1 := C0
  obtain ⟨hx, hb, hr, hml, hown, hts, hX, hbl, hlocks, hgv⟩ := C1
  obtain ⟨g, hWi⟩ := start_K hts
  have hA : ∀ q : Nat, s.heap.size ≤ q → (fun q : Nat => s.heap.size ≤ q) q := fun _ h => h
  have hS : va_S (fun q : Nat => s.heap.size ≤ q) s.heap s.heap [] := va_S.rf
  have hP : va_P g.1 vwCl [] s.heap := fun k q h => by simp at h
  have hD : va_D (fun q : Nat => s.heap.size ≤ q) [] := ⟨fun i j p q h => by simp at h, fun k q h => by simp at h⟩
  have hl := lv_entry ([.ref b]) (n := 4) (Nat.le_of_ble_eq_true rfl)
  rw [lg_entry_eq]
  generalize (lg_sl ([.ref b]) ++ List.replicate (4 - (lg_sl ([.ref b])).length) Slot.unset).toArray = ls at hl ⊢
  have hl : lv_has ls 4 [(0, .ref b)] := hl
  refine va_new (ci := 8) (fs := [.null, .null, .null, .null, .null, .null, .null, .null, .null, .null, .null, .null, .null, .null, .int 0, .int 0, .int 0, .int 0]) (C := RX8) (T := TX8) (N := 18) hx hb hts inX8 tyX8 tyX8_ok hown (hts _ (tb_sub clkL_7)) (hts _ (tb_sub instX8)) (hts _ (tb_sub iniX8)) hWi.1 hP hD hS hA rfl (by intro j hj; have hj2 : j = 0 ∨ j = 1 ∨ j = 2 ∨ j = 3 ∨ j = 4 ∨ j = 5 ∨ j = 6 ∨ j = 7 ∨ j = 8 ∨ j = 9 ∨ j = 10 ∨ j = 11 ∨ j = 12 ∨ j = 13 ∨ j = 14 ∨ j = 15 ∨ j = 16 ∨ j = 17 := (by omega); rcases hj2 with rfl | rfl | rfl | rfl | rfl | rfl | rfl | rfl | rfl | rfl | rfl | rfl | rfl | rfl | rfl | rfl | rfl | rfl <;> rfl) (Nat.le_of_ble_eq_true rfl) (Nat.le_of_ble_eq_true rfl) dL_law_0 (fun h8 H hP hD hS => ?_)
  refine lv_dup hx hb dL_law_3 rfl ?_
  refine li_init (Z := (p, l, e, room_1, s, m, #[Value.ref b], below, meth, c)) (ws1 := []) (rest := [.ref h8]) C0 rfl rfl hWi (cnX8 g l h8) mfIX8 rfl inIX8 lkL_9 (by decide) (Nat.le_of_ble_eq_true rfl) (Nat.le_of_ble_eq_true rfl) (Nat.le_of_ble_eq_true rfl) dL_law_4 hl.1 hP hD hS (fun w8 H locs hw8 hP hD hS => ?_)
  obtain ⟨q8, rfl⟩ := hw8
  refine lv_astore_n (lv' := [(1, .ref h8), (0, .ref b)]) hx hb dL_law_7 rfl hl (by decide) rfl (fun ls hl => ?_)
  refine va_new (ci := 9) (fs := [.null, .null, .int 0, .null, .int 0, .null, .null, .null, .null, .int 0, .int 0, .null, .null, .int 0, .null, .null, .null, .int 0, .int 0, .null, .null, .int 0, .null, .null, .null, .int 0, .null, .null, .null, .null, .null, .null, .null, .null, .null, .int 0]) (C := RX9) (T := TX9) (N := 36) hx hb hts inX9 tyX9 tyX9_ok hown (hts _ (tb_sub clkL_10)) (hts _ (tb_sub instX9)) (hts _ (tb_sub iniX9)) hWi.1 hP hD hS hA rfl (by intro j hj; have hj2 : j = 0 ∨ j = 1 ∨ j = 2 ∨ j = 3 ∨ j = 4 ∨ j = 5 ∨ j = 6 ∨ j = 7 ∨ j = 8 ∨ j = 9 ∨ j = 10 ∨ j = 11 ∨ j = 12 ∨ j = 13 ∨ j = 14 ∨ j = 15 ∨ j = 16 ∨ j = 17 ∨ j = 18 ∨ j = 19 ∨ j = 20 ∨ j = 21 ∨ j = 22 ∨ j = 23 ∨ j = 24 ∨ j = 25 ∨ j = 26 ∨ j = 27 ∨ j = 28 ∨ j = 29 ∨ j = 30 ∨ j = 31 ∨ j = 32 ∨ j = 33 ∨ j = 34 ∨ j = 35 := (by omega); rcases hj2 with rfl | rfl | rfl | rfl | rfl | rfl | rfl | rfl | rfl | rfl | rfl | rfl | rfl | rfl | rfl | rfl | rfl | rfl | rfl | rfl | rfl | rfl | rfl | rfl | rfl | rfl | rfl | rfl | rfl | rfl | rfl | rfl | rfl | rfl | rfl | rfl <;> rfl) (Nat.le_of_ble_eq_true rfl) (Nat.le_of_ble_eq_true rfl) dL_law_8 (fun h9 H hP hD hS => ?_)
  refine lv_dup hx hb dL_law_11 rfl ?_
  refine li_init (Z := (p, l, e, room_1, s, m, #[Value.ref b], below, meth, c)) (rest := [.ref h9]) C0 rfl rfl hWi (cnX9 g l h9) mfIX9 rfl inIX9 lkL_12 (by decide) (Nat.le_of_ble_eq_true rfl) (Nat.le_of_ble_eq_true rfl) (Nat.le_of_ble_eq_true rfl) dL_law_12 hl.1 hP hD hS (fun w9 H locs hw9 hP hD hS => ?_)
  obtain ⟨q9, rfl⟩ := hw9
  refine lv_astore_n (lv' := [(2, .ref h9), (1, .ref h8), (0, .ref b)]) hx hb dL_law_15 rfl hl (by decide) rfl (fun ls hl => ?_)
  refine lv_iconst (v := 0) hx hb dL_law_16 (by decide) ?_
  refine lv_istore_n (lv' := [(3, .int 0), (2, .ref h9), (1, .ref h8), (0, .ref b)]) hx hb dL_law_17 rfl hl (by decide) rfl (fun ls hl => ?_)
  have hP2 : va_P g.1 vwCl (wX8 g (fun i => if i = 0 then h8 else q8 i) (va_up (va_up (va_up (va_up (fun _ => none) 0 (some ((fun i => if i = 0 then h8 else q8 i) 44))) 1 (some ((fun i => if i = 0 then h8 else q8 i) 46))) 2 (some ((fun i => if i = 0 then h8 else q8 i) 48))) 3 (some ((fun i => if i = 0 then h8 else q8 i) 50))) ++ wX9 g (fun i => if i = 0 then h9 else q9 i)) H := hP
  have hD2 : va_D (fun q : Nat => s.heap.size ≤ q) (wX8 g (fun i => if i = 0 then h8 else q8 i) (va_up (va_up (va_up (va_up (fun _ => none) 0 (some ((fun i => if i = 0 then h8 else q8 i) 44))) 1 (some ((fun i => if i = 0 then h8 else q8 i) 46))) 2 (some ((fun i => if i = 0 then h8 else q8 i) 48))) 3 (some ((fun i => if i = 0 then h8 else q8 i) 50))) ++ wX9 g (fun i => if i = 0 then h9 else q9 i)) := hD
  have hb2 : ls.size = 4 := hl.1
  have hl2 : lv_has ls 4 [(0, .ref b), (1, .ref h8), (2, .ref h9), (3, .int (nI 0))] := lv_sub hl [3, 2, 1, 0] rfl
  clear hP hD hl
  generalize hA8 : (fun i => if i = 0 then h8 else q8 i) = ad8 at hP2 hD2
  generalize hA9 : (fun i => if i = 0 then h9 else q9 i) = ad9 at hP2 hD2
  have z8 : ad8 0 = h8 := by rw [← hA8]; rfl
  have z9 : ad9 0 = h9 := by rw [← hA9]; rfl
  have hP8 := wX8_swap (f' := fun j => some (ad8 (44 + 2 * j))) (fun k q hk => hP2 k q (by rw [List.getElem?_append_left (List.getElem?_eq_some_iff.mp hk).1]; exact hk)) (fun j hj => shf_eq ad8 j hj)
  rw [← wl8] at hP8
  have hP9 : va_P g.1 vwCl (wX9 g ad9) H := fun k q hk => hP2 (52 + k) q (by
    rw [List.getElem?_append_right (by show 52 ≤ 52 + k; omega)]
    show (wX9 g ad9)[52 + k - 52]? = some q
    rw [Nat.add_sub_cancel_left]
    exact hk)
  rw [← wl9] at hP9
  have at8 : ∀ i, i < 52 → ∃ e, (wX8 g ad8 (va_up (va_up (va_up (va_up (fun _ => none) 0 (some (ad8 44))) 1 (some (ad8 46))) 2 (some (ad8 48))) 3 (some (ad8 50))))[i]? = some (ad8 i, e) := by
    intro i hi
    have h1 := wl_at (L := LC) (G := (g.1, ad8, g.2)) (S := S0c) (List.getElem?_eq_getElem (l := LC) (i := i) hi)
    rw [wl8] at h1
    by_cases h42 : i = 42
    · subst h42; exact ⟨_, rfl⟩
    · have e : wX8 g ad8 (fun j => some (ad8 (44 + 2 * j))) = (wX8 g ad8 (va_up (va_up (va_up (va_up (fun _ => none) 0 (some (ad8 44))) 1 (some (ad8 46))) 2 (some (ad8 48))) 3 (some (ad8 50)))).set 42 (ad8 42, .inl (g.2.2.2, 4, .inr (.inr (.inr (.inr (fun j => some (ad8 (44 + 2 * j)))))))) := rfl
      rw [e, List.getElem?_set_ne (fun h => h42 h.symm)] at h1
      exact ⟨_, h1⟩
  have at9 : ∀ i, i < 27 → ∃ e, (wX9 g ad9)[i]? = some (ad9 i, e) := by
    intro i hi
    have h1 := wl_at (L := LM) (G := (g.1, ad9, g.2)) (S := S0m) (List.getElem?_eq_getElem (l := LM) (i := i) hi)
    rw [wl9] at h1
    exact ⟨_, h1⟩
  have in8 : ∀ i, i < 52 → ∃ e, (wX8 g ad8 (va_up (va_up (va_up (va_up (fun _ => none) 0 (some (ad8 44))) 1 (some (ad8 46))) 2 (some (ad8 48))) 3 (some (ad8 50))) ++ wX9 g ad9)[i]? = some (ad8 i, e) := by
    intro i hi
    obtain ⟨e, he⟩ := at8 i hi
    exact ⟨e, by rw [List.getElem?_append_left (List.getElem?_eq_some_iff.mp he).1]; exact he⟩
  have in9 : ∀ i, i < 27 → ∃ e, (wX8 g ad8 (va_up (va_up (va_up (va_up (fun _ => none) 0 (some (ad8 44))) 1 (some (ad8 46))) 2 (some (ad8 48))) 3 (some (ad8 50))) ++ wX9 g ad9)[52 + i]? = some (ad9 i, e) := by
    intro i hi
    obtain ⟨e, he⟩ := at9 i hi
    refine ⟨e, ?_⟩
    rw [List.getElem?_append_right (by show 52 ≤ 52 + i; omega)]
    show (wX9 g ad9)[52 + i - 52]? = _
    rw [Nat.add_sub_cancel_left]
    exact he
  have XX : Lx (g.1, ad8, g.2) (g.1, ad9, g.2) (p, l, e, room_1, s, m, #[Value.ref b], below, meth, c) b L xs 79 2025 := by
    refine ⟨C0, rfl, rfl, hWi.1, rfl, rfl, ?_, ?_, ?_, ?_, ?_, by decide, by decide⟩
    · intro i j hi hj' he
      obtain ⟨e1, h1⟩ := in8 i hi
      obtain ⟨e2, h2⟩ := in8 j hj'
      exact hD2.1 i j _ _ h1 h2 he
    · intro i j hi hj' he
      obtain ⟨e1, h1⟩ := in9 i hi
      obtain ⟨e2, h2⟩ := in9 j hj'
      have := hD2.1 (52 + i) (52 + j) _ _ h1 h2 he
      omega
    · intro i j hi hj' he
      obtain ⟨e1, h1⟩ := in8 i hi
      obtain ⟨e2, h2⟩ := in9 j hj'
      have := hD2.1 i (52 + j) _ _ h1 h2 he
      have hi2 : i < 52 := hi
      omega
    · intro i hi
      obtain ⟨e1, h1⟩ := in8 i hi
      exact hD2.2 i _ h1
    · intro i hi
      obtain ⟨e1, h1⟩ := in9 i hi
      exact hD2.2 (52 + i) _ h1
  have hgo := law_loop XX hL hall (L + 7) 0 S0c S0m (by omega) (Nat.zero_le _) hI0
  rw [show ((g.1, ad8, g.2) : Gd).2.1 0 = h8 from z8, show ((g.1, ad9, g.2) : Gd).2.1 0 = h9 from z9] at hgo
  exact hgo H locs ls hl2 hP8 hP9 hS
