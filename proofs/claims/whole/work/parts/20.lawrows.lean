/-! THE CLAIM OUT OF ONE WALK OF THE LAW'S BODY. Your part is whole_start (and what it stands on); all else here is the same for every law, but numbers. -/
def R_law : String := "BoardRemembersLaw"
def lw_P (b : Addr) (xs : List Int32) (args : Array Value) (s : State) : Prop := args = #[.ref b] ∧ s.IntsAt b xs ∧ xs.length ≤ 384 ∧ (Jvm.Cond.and given_1 narrow_1).before args s = true
def lw_Q (_ : Array Value) (s : State) (o : Outcome) (t : State) : Prop := o = .returned (some (.int 1)) ∧ Framed s o t [] 600000 7302250
def lw_Z (below : List Frame) (a : Array Value) (s : State) : State → Prop := fun t => ∃ o, t.status = .running ∧ Ended t below o ∧ lw_Q a s o t
/-- the law's own end, with 1 on the stack, nothing written that was there before, its room as the claim has it -/
theorem lw_ret {p : Program} {l : Launch} {e : Env} {s : State} {m : MethodId} {below : List Frame} {meth : Method} {c : Code} {b : Nat} (hx : p.tables.exec = Jvm.exec) (hb : c.code = code) (hr : meth.sig.returnType = ret) (hlocks : meth.locks = false) {pc : Nat} {H : Heap} {ls : Array Slot} (hdg : decode code pc = .ok (.ireturn, 1)) : W p l e room_1 s m #[Value.ref b] below meth c H [] 600000 7302250 (lw_Z below #[Value.ref b] s) (F0 m pc ls [.int 1]) := by
  intro T hT X
  obtain ⟨fs, hret, hrun, hended, hW, hframe⟩ := X.leave (v := some (.int 1)) (hlocks := hlocks) (fun h => by rw [hr] at h; cases h)
  have hmeth' : T.vm.method? m = some meth := X.method'
  refine ⟨T.setFrames fs, ?_, .returned (some (.int 1)), hrun, hended, rfl, ⟨_, rfl⟩, hW, hframe⟩
  jvm_step X.here [X.here.top, hx, hb, hdg, hmeth', hr, ret, narrow_b1]
  (try refine ⟨rfl, ?_⟩); (try refine ⟨rfl, ?_⟩)
  first | (intro acts; rw [hret _ acts rfl rfl rfl]) | rw [hret _ _ rfl rfl rfl]
  exact Steps.refl _
/-- what holds at the law's entry: the machine, the code, the tables' words (any of lw_tbl by 'hts w (by decide +kernel)'), the script of L ints xs at the cell b, what the Statement gives of the start (any of its parts by flat_of_before) -/
def lw_At (p : Program) (s : State) (m : MethodId) (meth : Method) (c : Code) (b L : Nat) (xs : Nat → Int32) : Prop :=
  p.tables.exec = Jvm.exec ∧ c.code = code ∧ meth.sig.returnType = ret ∧ c.maxLocals = 4 ∧ s.vm.findClass R_law = some m.cls ∧ (∀ w ∈ lw_tbl, w.before #[Value.ref b] s = true) ∧ va_X b L xs s s.heap ∧ b < s.heap.size ∧ meth.locks = false ∧ (Jvm.Cond.and given_1 narrow_1).before #[Value.ref b] s = true
/-! the law: two worlds side by side, the script outside them -/
def Lx (Gc Gm : Gd) (Z : Mc) (b n : Nat) (xs : Nat → Int32) (nc ns : Nat) : Prop :=
  lw_At Z.1 Z.2.2.2.2.1 Z.2.2.2.2.2.1 Z.2.2.2.2.2.2.2.2.1 Z.2.2.2.2.2.2.2.2.2 b n xs ∧ Z.2.2.2.1 = room_1 ∧ Z.2.2.2.2.2.2.1 = #[Value.ref b] ∧ va_K Gc.1 vwCl (tysG Gc) Z.2.2.2.2.1 ∧ Gm.1 = Gc.1 ∧ Gm.2.2 = Gc.2.2 ∧ Ij LC Gc ∧ Ij LM Gm ∧ (∀ i j, i < LC.length → j < LM.length → Gc.2.1 i ≠ Gm.2.1 j) ∧ (∀ i, i < LC.length → Z.2.2.2.2.1.heap.size ≤ Gc.2.1 i) ∧ (∀ i, i < LM.length → Z.2.2.2.2.1.heap.size ≤ Gm.2.1 i) ∧ nc ≤ 600000 ∧ ns ≤ 7302250
abbrev Wl (Z : Mc) (nc ns : Nat) (b : Nat) (H : Heap) (locs : List Loc) (g : JFrame) : Prop := W Z.1 Z.2.1 Z.2.2.1 Z.2.2.2.1 Z.2.2.2.2.1 Z.2.2.2.2.2.1 Z.2.2.2.2.2.2.1 Z.2.2.2.2.2.2.2.1 Z.2.2.2.2.2.2.2.2.1 Z.2.2.2.2.2.2.2.2.2 H locs nc ns (lw_Z Z.2.2.2.2.2.2.2.1 #[Value.ref b] Z.2.2.2.2.1) g
def Lw (Gc Gm : Gd) (Z : Mc) (b nc ns : Nat) (pc : Nat) (lvs : List (Nat × Value)) (st : List Value) (Sc Sm : Sg) : Prop :=
  ∀ (H : Heap) (locs : List Loc) (ls : Array Slot), lv_has ls 4 lvs → va_P Gc.1 vwCl (wl LC Gc Sc) H → va_P Gm.1 vwCl (wl LM Gm Sm) H → va_S (fun q : Nat => Z.2.2.2.2.1.heap.size ≤ q) Z.2.2.2.2.1.heap H locs → Wl Z nc ns b H locs (F0 Z.2.2.2.2.2.1 pc ls st)
section LAW
variable {Gc Gm : Gd} {Z : Mc} {b n nc ns : Nat} {xs : Nat → Int32} {pc : Nat} {lvs : List (Nat × Value)} {st : List Value} {Sc Sm : Sg}
theorem l_iconst (pc2 : Nat) (X : Lx Gc Gm Z b n xs nc ns) {k : Int} {v : Int32} (hd : decode code pc = .ok (.iconst k, 1)) (hp : pc + 1 = pc2) (hv : Int32.ofInt k = v) (k : Lw Gc Gm Z b nc ns pc2 lvs (.int v :: st) Sc Sm) : Lw Gc Gm Z b nc ns pc lvs st Sc Sm := by
  subst hp
  exact fun H locs ls hl hP hM hS => lv_iconst X.1.1 X.1.2.1 hd hv (k H locs ls hl hP hM hS)
theorem l_bipush (pc2 : Nat) (X : Lx Gc Gm Z b n xs nc ns) {k : Int} {v : Int32} (hd : decode code pc = .ok (.bipush k, 2)) (hp : pc + 2 = pc2) (hv : (Int8.ofInt k).toInt32 = v) (k : Lw Gc Gm Z b nc ns pc2 lvs (.int v :: st) Sc Sm) : Lw Gc Gm Z b nc ns pc lvs st Sc Sm := by
  subst hp
  exact fun H locs ls hl hP hM hS => lv_bipush X.1.1 X.1.2.1 hd hv (k H locs ls hl hP hM hS)
theorem l_iload_n (pc2 : Nat) (X : Lx Gc Gm Z b n xs nc ns) {k : Fin 4} {i : Nat} (q : Nat) {v : Int32} (hd : decode code pc = .ok (.iload_n k, 1)) (hp : pc + 1 = pc2) (hi : (k : Nat) = i) (hv : lvs[q]? = some (i, .int v)) (k : Lw Gc Gm Z b nc ns pc2 lvs (.int v :: st) Sc Sm) : Lw Gc Gm Z b nc ns pc lvs st Sc Sm := by
  subst hp
  exact fun H locs ls hl hP hM hS => lv_iload_n X.1.1 X.1.2.1 hd hi (lv_at hl q hv) (k H locs ls hl hP hM hS)
theorem l_aload_n (pc2 : Nat) (X : Lx Gc Gm Z b n xs nc ns) {k : Fin 4} {i : Nat} (q : Nat) {v : Nat} (hd : decode code pc = .ok (.aload_n k, 1)) (hp : pc + 1 = pc2) (hi : (k : Nat) = i) (hv : lvs[q]? = some (i, .ref v)) (k : Lw Gc Gm Z b nc ns pc2 lvs (.ref v :: st) Sc Sm) : Lw Gc Gm Z b nc ns pc lvs st Sc Sm := by
  subst hp
  exact fun H locs ls hl hP hM hS => lv_aload_n X.1.1 X.1.2.1 hd hi (lv_at hl q hv) (k H locs ls hl hP hM hS)
theorem l_iadd (pc2 : Nat) (X : Lx Gc Gm Z b n xs nc ns) {u v : Int32} (hd : decode code pc = .ok (.iadd, 1)) (hp : pc + 1 = pc2) (k : Lw Gc Gm Z b nc ns pc2 lvs (.int (u + v) :: st) Sc Sm) : Lw Gc Gm Z b nc ns pc lvs (.int v :: .int u :: st) Sc Sm := by
  subst hp
  exact fun H locs ls hl hP hM hS => lv_iadd X.1.1 X.1.2.1 hd (k H locs ls hl hP hM hS)
theorem l_isub (pc2 : Nat) (X : Lx Gc Gm Z b n xs nc ns) {u v : Int32} (hd : decode code pc = .ok (.isub, 1)) (hp : pc + 1 = pc2) (k : Lw Gc Gm Z b nc ns pc2 lvs (.int (u - v) :: st) Sc Sm) : Lw Gc Gm Z b nc ns pc lvs (.int v :: .int u :: st) Sc Sm := by
  subst hp
  exact fun H locs ls hl hP hM hS => lv_isub X.1.1 X.1.2.1 hd (k H locs ls hl hP hM hS)
theorem l_iand (pc2 : Nat) (X : Lx Gc Gm Z b n xs nc ns) {u v : Int32} (hd : decode code pc = .ok (.iand, 1)) (hp : pc + 1 = pc2) (k : Lw Gc Gm Z b nc ns pc2 lvs (.int (u &&& v) :: st) Sc Sm) : Lw Gc Gm Z b nc ns pc lvs (.int v :: .int u :: st) Sc Sm := by
  subst hp
  exact fun H locs ls hl hP hM hS => lv_iand X.1.1 X.1.2.1 hd (k H locs ls hl hP hM hS)
theorem l_lcmp (pc2 : Nat) (X : Lx Gc Gm Z b n xs nc ns) {u v : Int64} (hd : decode code pc = .ok (.lcmp, 1)) (hp : pc + 1 = pc2) (k : Lw Gc Gm Z b nc ns pc2 lvs (.int (lg_cmp u v) :: st) Sc Sm) : Lw Gc Gm Z b nc ns pc lvs (.long v :: .long u :: st) Sc Sm := by
  subst hp
  exact fun H locs ls hl hP hM hS => W.lcmp X.1.1 X.1.2.1 hd (k H locs ls hl hP hM hS)
theorem l_sld (pc2 : Nat) (X : Lx Gc Gm Z b n xs nc ns) {i : Int32} (hin : vp_in i n) (hd : decode code pc = .ok (.iaload, 1)) (hp : pc + 1 = pc2) (k : Lw Gc Gm Z b nc ns pc2 lvs (.int (xs i.toNatClampNeg) :: st) Sc Sm) : Lw Gc Gm Z b nc ns pc lvs (.int i :: .ref b :: st) Sc Sm := by
  subst hp
  obtain ⟨⟨hx, hb, hr, hml, hown, hts, hX, hbl, hlocks, hgv⟩, -⟩ := X
  exact fun H locs ls hl hP hM hS => va_sld hx hb hX hbl (Nat.not_le.mpr hbl) hS hin hd (k H locs ls hl hP hM hS)
theorem l_slen (pc2 : Nat) (X : Lx Gc Gm Z b n xs nc ns) (hd : decode code pc = .ok (.arraylength, 1)) (hp : pc + 1 = pc2) (k : Lw Gc Gm Z b nc ns pc2 lvs (.int (Int32.ofNat n) :: st) Sc Sm) : Lw Gc Gm Z b nc ns pc lvs (.ref b :: st) Sc Sm := by
  subst hp
  obtain ⟨⟨hx, hb, hr, hml, hown, hts, hX, hbl, hlocks, hgv⟩, -⟩ := X
  exact fun H locs ls hl hP hM hS => va_slen hx hb hX hbl (Nat.not_le.mpr hbl) hS hd (k H locs ls hl hP hM hS)
theorem l_gt (pc2 pc3 : Nat) (X : Lx Gc Gm Z b n xs nc ns) {u v : Int32} {off : Int} (hd : decode code pc = .ok (.if_icmp .gt off, 3)) (ht : (pc : Int) + off = (pc2 : Int)) (hp : pc + 3 = pc3) (k : v < u → Lw Gc Gm Z b nc ns pc2 lvs st Sc Sm) (k' : ¬ v < u → Lw Gc Gm Z b nc ns pc3 lvs st Sc Sm) : Lw Gc Gm Z b nc ns pc lvs (.int v :: .int u :: st) Sc Sm := by
  subst hp
  exact fun H locs ls hl hP hM hS => lv_icmp_gt X.1.1 X.1.2.1 hd ht (fun h => k h H locs ls hl hP hM hS) (fun h => k' h H locs ls hl hP hM hS)
/-- both answers are alike: the jump is taken -/
theorem l_eqi (pc2 : Nat) (X : Lx Gc Gm Z b n xs nc ns) {u : Int32} {off : Int} (hd : decode code pc = .ok (.if_icmp .eq off, 3)) (ht : (pc : Int) + off = (pc2 : Int)) (k : Lw Gc Gm Z b nc ns pc2 lvs st Sc Sm) : Lw Gc Gm Z b nc ns pc lvs (.int u :: .int u :: st) Sc Sm :=
  fun H locs ls hl hP hM hS => lv_icmp_eq X.1.1 X.1.2.1 hd ht (fun _ => k H locs ls hl hP hM hS) (fun h => absurd rfl h)
theorem l_eqz (pc2 : Nat) (X : Lx Gc Gm Z b n xs nc ns) {u : Int32} {off : Int} (hd : decode code pc = .ok (.ifCond .eq off, 3)) (ht : (pc : Int) + off = (pc2 : Int)) (hu : u = 0) (k : Lw Gc Gm Z b nc ns pc2 lvs st Sc Sm) : Lw Gc Gm Z b nc ns pc lvs (.int u :: st) Sc Sm :=
  fun H locs ls hl hP hM hS => lv_if_eq X.1.1 X.1.2.1 hd ht (fun _ => k H locs ls hl hP hM hS) (fun h => absurd hu h)
theorem l_goto (pc2 : Nat) (X : Lx Gc Gm Z b n xs nc ns) {off : Int} (hd : decode code pc = .ok (.goto off, 3)) (ht : (pc : Int) + off = (pc2 : Int)) (k : Lw Gc Gm Z b nc ns pc2 lvs st Sc Sm) : Lw Gc Gm Z b nc ns pc lvs st Sc Sm :=
  fun H locs ls hl hP hM hS => lv_goto X.1.1 X.1.2.1 hd ht (k H locs ls hl hP hM hS)
theorem l_iinc (pc2 : Nat) (X : Lx Gc Gm Z b n xs nc ns) {i : Nat} {k : Int} (q : Nat) (lvs2 : List (Nat × Value)) {u v : Int32} (hd : decode code pc = .ok (.iinc i k, 3)) (hp : pc + 3 = pc2) (hq : lvs[q]? = some (i, .int u)) (hv : u + Int32.ofInt k = v) (hn : i < 4) (hl : (i, Value.int v) :: lvs.filter (fun q => !(q.1 == i) && !(q.1 + 1 == i && q.2.category == 2)) = lvs2) (kk : Lw Gc Gm Z b nc ns pc2 lvs2 st Sc Sm) : Lw Gc Gm Z b nc ns pc lvs st Sc Sm := by
  subst hp
  exact fun H locs ls hls hP hM hS => lv_iinc X.1.1 X.1.2.1 hd hls hq hv hn hl (fun ls' hls' => kk H locs ls' hls' hP hM hS)
theorem l_sub {lvs' : List (Nat × Value)} (ks : List Nat) (h : lv_pick lvs ks = lvs') (k : Lw Gc Gm Z b nc ns pc lvs' st Sc Sm) : Lw Gc Gm Z b nc ns pc lvs st Sc Sm :=
  fun H locs ls hl hP hM hS => k H locs ls (lv_sub hl ks h) hP hM hS
theorem l_tin (pc2 : Nat) (X : Lx Gc Gm Z b n xs nc ns) {u : Int32} (c : Int32) (h : u = c) {dflt lo hi off : Int} {offs : Array Int} {len : Nat} (hd : decode code pc = .ok (.tableswitch dflt lo hi offs, len)) (h1 : ¬ c.toInt < lo) (h2 : ¬ hi < c.toInt) (ho : offs[(c.toInt - lo).toNat]? = some off) (ht : (pc : Int) + off = (pc2 : Int)) (k : Lw Gc Gm Z b nc ns pc2 lvs st Sc Sm) : Lw Gc Gm Z b nc ns pc lvs (.int u :: st) Sc Sm := by
  subst h
  exact fun H locs ls hl hP hM hS => lv_tableIn X.1.1 X.1.2.1 hd h1 h2 ho ht (k H locs ls hl hP hM hS)
theorem l_tout (pc2 : Nat) (X : Lx Gc Gm Z b n xs nc ns) {u : Int32} {dflt lo hi : Int} {offs : Array Int} {len : Nat} (hd : decode code pc = .ok (.tableswitch dflt lo hi offs, len)) (h : u.toInt < lo ∨ hi < u.toInt) (ht : (pc : Int) + dflt = (pc2 : Int)) (k : Lw Gc Gm Z b nc ns pc2 lvs st Sc Sm) : Lw Gc Gm Z b nc ns pc lvs (.int u :: st) Sc Sm :=
  fun H locs ls hl hP hM hS => lv_tableOut X.1.1 X.1.2.1 hd h ht (k H locs ls hl hP hM hS)
theorem l_ret (X : Lx Gc Gm Z b n xs nc ns) (hd : decode code pc = .ok (.ireturn, 1)) : Lw Gc Gm Z b nc ns pc lvs [.int 1] Sc Sm := by
  intro H locs ls hl hP hM hS
  obtain ⟨⟨hx, hb, hr, hml, hown, hts, hX, hbl, hlocks, hgv⟩, hR, ha, hK, e1, e2, hj1, hj2, hdis, hA1, hA2, h1, h2⟩ := X
  refine va_forget (fun q hq => hS.2.2 q hq) ?_
  refine W.widen (k := 600000) (n := 7302250) h1 h2 ?_
  show W _ _ _ _ _ _ _ _ _ _ _ _ _ _ _ _
  rw [hR, ha]
  exact lw_ret hx hb hr hlocks hd
theorem l_callW {L L2 : List Shp} {G G2 : Gd} {S S' S2 : Sg} {ρ' : Type} {ret' : ρ' → Option Value} {y : MethodName} {b' : ByteArray} {n' d idx ci i : Nat} {rt' : Option FieldType} {As rest : List Value} {r : ρ'} {ks : List Nat} {q : vw_C} {H : Heap} {locs : List Loc} {ls : Array Slot}
    (hAt : lw_At Z.1 Z.2.2.2.2.1 Z.2.2.2.2.2.1 Z.2.2.2.2.2.2.2.2.1 Z.2.2.2.2.2.2.2.2.2 b n xs) (hR : Z.2.2.2.1 = room_1) (ha : Z.2.2.2.2.2.2.1 = #[Value.ref b]) (hK : va_K G.1 vwCl (tysG G) Z.2.2.2.2.1) (hj : Ij L G) (hdis : ∀ i j, i < L2.length → j < L.length → G2.2.1 i ≠ G.2.1 j) (hA : ∀ i, i < L.length → Z.2.2.2.2.1.heap.size ≤ G.2.1 i) (hnc : nc ≤ 600000) (hns : ns ≤ 7302250)
    (hM : Ct L G Z.2.1 ret' y b' n' rt' d (.ref (G.2.1 i) :: As) S (some (r, S'))) (mf : MF y b' n' rt' As.length) (hin : Cond.instanceMethod y ∈ tbG ∧ Cond.selects y.cls y y ∈ tbG) (hlk : Cond.methodLink R_law idx y ∈ tbG) (hs : L[i]? = some (.inr (ci, ks))) (hc : vwCl[ci]? = some q) (hq : q.1 = y.cls) (hd60 : d ≤ 60) (hst : (rest.map fun v => v.category).sum ≤ 8) (hd : decode code pc = .ok (.invokevirtual idx, 3))
    (hl : lv_has ls 4 lvs) (hP : va_P G.1 vwCl (wl L G S) H) (hP2 : va_P G2.1 vwCl (wl L2 G2 S2) H) (hS : va_S (fun q : Nat => Z.2.2.2.2.1.heap.size ≤ q) Z.2.2.2.2.1.heap H locs)
    (k : ∀ (H1 : Heap) (locs1 : List Loc), va_P G.1 vwCl (wl L G S') H1 → va_P G2.1 vwCl (wl L2 G2 S2) H1 → va_S (fun q : Nat => Z.2.2.2.2.1.heap.size ≤ q) Z.2.2.2.2.1.heap H1 locs1 → Wl Z nc ns b H1 locs1 (F0 Z.2.2.2.2.2.1 (pc + 3) ls ((ret' r).toList ++ rest))) : Wl Z nc ns b H locs (F0 Z.2.2.2.2.2.1 pc ls (As.reverse ++ .ref (G.2.1 i) :: rest)) := by
  obtain ⟨hx, hb, hr, hml, hown, hts, hX, hbl, hlocks, hgv⟩ := hAt
  rw [← ha] at hts
  have hnk : nk Z.2.2.2.2.1 := nk_of hts
  have hG : GoodIn lw_tbl (wsG y b' n' rt') := fun w hw => by
    have hm : w ∈ tbG := by
      rcases List.mem_cons.mp hw with rfl | h1
      · exact mf.1
      · exact h1
    exact ⟨tb_sub hm, good_of_word (tb_good hm)⟩
  have hRR : (rmD d).frames + 1 ≤ Z.2.2.2.1.frames ∧ 8 + (n' + 11) + (rmD d).locals ≤ Z.2.2.2.1.locals := by
    rw [hR]
    have h1 := mf.2.2.2
    exact ⟨by show d + 1 ≤ 2048; omega, by show 8 + (n' + 11) + 40 * d ≤ 84000; omega⟩
  have hrun := va_runV (H := H) (locs := locs) (cells := nc) (slots := ns) (e := Z.2.2.1) (below := Z.2.2.2.2.2.2.2.1) (meth := Z.2.2.2.2.2.2.2.2.1) (g := F0 Z.2.2.2.2.2.1 pc ls (As.reverse ++ .ref (G.2.1 i) :: rest)) (As := As) (rest := rest) (C := y.cls) ⟨hx, hb, hml, hown, hts⟩ (hM r S' rfl) ⟨callB_of (R := Z.2.2.2.1) As.length (Ts := lw_tbl) (ws' := tbG) hts hG rfl rfl rfl (hts _ (tb_sub mf.2.1)) (hts _ (tb_sub hlk)) mf.2.2.1 hRR, hts _ (tb_sub hin.1), hts _ (tb_sub hin.2)⟩ ⟨blindG, by rw [← hq]; exact va_recv hK hP hc (wl_at hs), fun U hU hW => ⟨rfl, ⟨by rw [hU]; exact hP, va_K.moved hW.alike hK⟩, hj, nk_warm hW hnk⟩⟩ rfl rfl hl.1 rfl (lv_room hst) hd ⟨by rw [hR]; exact hnc, by rw [hR]; exact hns⟩
  intro T hT X
  obtain ⟨v, st₀, t, T', L', h0, X', hL, e1, e2, ⟨⟨hv, hP1, hK1⟩, hz, hk⟩, stp⟩ := hrun T hT X
  cases hv
  rw [h0] at hz hk
  rw [← e1] at hz hk hP1
  have hP2' : va_P G2.1 vwCl (wl L2 G2 S2) T'.heap := hP2.kept (fun k q hq => by
    obtain ⟨g1, g2⟩ := wl_get hq
    refine hk q.1 ((hP2 k q hq).lt) ?_
    rintro ⟨j, hj1, hj2⟩
    exact hdis k j g1 hj1 (by rw [← g2]; exact hj2))
  obtain ⟨t2, a1, b1⟩ := k T'.heap (locs ++ L') hP1 hP2'
    ⟨Nat.le_trans hS.1 hz, fun q h1 h2 => (hk q (Nat.lt_of_lt_of_le h1 hS.1) (fun ⟨j, hj1, hj2⟩ => h2 (by rw [hj2]; exact hA j hj1))).trans (hS.2.1 q h1 h2), fun q hq => by
      rcases List.mem_append.mp hq with h | h
      · exact hS.2.2 q h
      · obtain ⟨j, hj1, hj2⟩ := hL q h
        show _ ≤ q.base
        rw [hj2]
        exact hA j hj1⟩ T' rfl X'
  exact ⟨t2, stp t2 a1, b1⟩
theorem l_cC {ρ' : Type} {ret' : ρ' → Option Value} {y : MethodName} {b' : ByteArray} {n' d idx : Nat} {rt' : Option FieldType} {As rest : List Value} {r : ρ'} {S' : Sg} {o1 : Option (ρ' × Sg)} (X : Lx Gc Gm Z b n xs nc ns) (hM : Ct LC Gc Z.2.1 ret' y b' n' rt' d (.ref (Gc.2.1 0) :: As) Sc o1) (ho : o1 = some (r, S')) (mf : MF y b' n' rt' As.length) (hin : Cond.instanceMethod y ∈ tbG ∧ Cond.selects y.cls y y ∈ tbG) (hlk : Cond.methodLink R_law idx y ∈ tbG) (hq : y.cls = RX8) (hd60 : d ≤ 60) (hst : (rest.map fun v => v.category).sum ≤ 8) (hd : decode code pc = .ok (.invokevirtual idx, 3))
    (k : Lw Gc Gm Z b nc ns (pc + 3) lvs ((ret' r).toList ++ rest) S' Sm) : Lw Gc Gm Z b nc ns pc lvs (As.reverse ++ .ref (Gc.2.1 0) :: rest) Sc Sm := by
  subst ho
  obtain ⟨hAt, hR, ha, hK, e1, e2, hj1, hj2, hdis, hA1, hA2, h1, h2⟩ := X
  exact fun H locs ls hl hP hM2 hS => l_callW (L2 := LM) (G2 := Gm) (S2 := Sm) hAt hR ha hK hj1 (fun i j hi hj' e => hdis j i hj' hi e.symm) hA1 h1 h2 hM mf hin hlk (i := 0) (ci := 8) rfl rfl hq.symm hd60 hst hd hl hP hM2 hS (fun H1 locs1 p1 p2 p3 => k H1 locs1 ls hl p1 p2 p3)
theorem l_cM {ρ' : Type} {ret' : ρ' → Option Value} {y : MethodName} {b' : ByteArray} {n' d idx : Nat} {rt' : Option FieldType} {As rest : List Value} {r : ρ'} {S' : Sg} {o1 : Option (ρ' × Sg)} (X : Lx Gc Gm Z b n xs nc ns) (hM : Ct LM Gm Z.2.1 ret' y b' n' rt' d (.ref (Gm.2.1 0) :: As) Sm o1) (ho : o1 = some (r, S')) (mf : MF y b' n' rt' As.length) (hin : Cond.instanceMethod y ∈ tbG ∧ Cond.selects y.cls y y ∈ tbG) (hlk : Cond.methodLink R_law idx y ∈ tbG) (hq : y.cls = RX9) (hd60 : d ≤ 60) (hst : (rest.map fun v => v.category).sum ≤ 8) (hd : decode code pc = .ok (.invokevirtual idx, 3))
    (k : Lw Gc Gm Z b nc ns (pc + 3) lvs ((ret' r).toList ++ rest) Sc S') : Lw Gc Gm Z b nc ns pc lvs (As.reverse ++ .ref (Gm.2.1 0) :: rest) Sc Sm := by
  subst ho
  obtain ⟨hAt, hR, ha, hK, e1, e2, hj1, hj2, hdis, hA1, hA2, h1, h2⟩ := X
  have hKm : va_K Gm.1 vwCl (tysG Gm) Z.2.2.2.2.1 := by
    have : tysG Gm = tysG Gc := by unfold tysG; rw [e2]
    rw [e1, this]; exact hK
  exact fun H locs ls hl hP hM2 hS => l_callW (L2 := LC) (G2 := Gc) (S2 := Sc) hAt hR ha hKm hj2 (fun i j hi hj' e => hdis i j hi hj' e) hA2 h1 h2 hM mf hin hlk (i := 0) (ci := 9) rfl rfl hq.symm hd60 hst hd hl hM2 hP hS (fun H1 locs1 p1 p2 p3 => k H1 locs1 ls hl p2 p1 p3)
/-- the argument k of the call at place i -/
theorem l_arg (X : Lx Gc Gm Z b n xs nc ns) (i k : Nat) (hk : i + k < n) (hn : n ≤ 384) {kk : Int} (hkk : Int32.ofInt kk = nI k) {x1 x2 : Nat} (hl : lvs = [(0, .ref b), (1, .ref x1), (2, .ref x2), (3, .int (nI i))]) (d0 : decode code pc = .ok (.aload_n 0, 1)) (d1 : decode code (pc + 1) = .ok (.iload_n 3, 1)) (d2 : decode code (pc + 2) = .ok (.iconst kk, 1)) (d3 : decode code (pc + 3) = .ok (.iadd, 1)) (d4 : decode code (pc + 4) = .ok (.iaload, 1)) (kc : Lw Gc Gm Z b nc ns (pc + 5) lvs (.int (xs (i + k)) :: st) Sc Sm) : Lw Gc Gm Z b nc ns pc lvs st Sc Sm := by
  subst hl
  refine l_aload_n (pc + 1) X 0 d0 rfl rfl rfl ?_
  refine l_iload_n (pc + 2) X 3 d1 rfl rfl rfl ?_
  refine l_iconst (pc + 3) X d2 rfl hkk ?_
  refine l_iadd (pc + 4) X d3 rfl ?_
  rw [nI_add]
  refine l_sld (pc + 5) X (vp_in_nI hk (by omega)) d4 rfl ?_
  rw [nI_clamp (by omega)]
  exact kc
end LAW
