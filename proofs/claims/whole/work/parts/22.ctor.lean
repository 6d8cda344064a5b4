/-! constructors: worlds that grow -/
abbrev Gk : Type := va_G × (ClassId × ClassId × ClassId)
def tysK (g : Gk) : List (ClassId × FieldType) := [(g.2.1, .int), (g.2.2.1, .boolean), (g.2.2.2, .object "BoardRemembers$Sheet")]
def Ax (h sz : Nat) : Nat → Prop := fun q => q = h ∨ sz ≤ q
def Wi (g : Gk) (U : State) : Prop := va_K g.1 vwCl (tysK g) U ∧ nk U ∧ va_AO "BoardRemembers$Sheet" U
theorem Wi.warm {g : Gk} {s U : State} (hW : s.WarmedH U.vm) (h : Wi g s) : Wi g U := ⟨va_K.moved hW.alike h.1, nk_warm hW h.2.1, va_AO.moved hW.alike h.2.2⟩
theorem Wi.same {g : Gk} {s U : State} (hv : s.vm = U.vm) (h : Wi g s) : Wi g U := ⟨va_K.moved (by rw [hv]; exact Vm.Alike.refl U.vm) h.1, nk_same hv h.2.1, va_AO.moved (by rw [hv]; exact Vm.Alike.refl U.vm) h.2.2⟩
def Qn (g : Gk) (h sz : Nat) (F : va_W → Prop) : Array Value → State → Outcome → State → Prop := fun _ st oc t => (oc = .returned none ∧ ∃ ws : va_W, F ws ∧ va_P g.1 vwCl ws t.heap ∧ va_D (Ax h sz) ws) ∧ va_F (Ax h sz) st t
def rmN (d mc ms : Nat) : Room := { frames := d, cells := mc, slots := ms, locals := 40 * d }
def Cn (g : Gk) (l : Launch) (y : MethodName) (b : ByteArray) (n d mc ms h : Nat) (As : List Value) (e : va_E) (F : va_W → Prop) : Prop :=
  ∀ sz : Nat, Met l y (wsG y b n none) (rmN d mc ms) (va_Pc (.ref h :: As) (fun U => U.heap.size = sz ∧ va_P g.1 vwCl [(h, e)] U.heap ∧ Wi g U)) (Qn g h sz F) mc ms (Ax h sz)
def Xn (g : Gk) (Z : Mc) (cc : ByteArray) (nL : Nat) (own : String) (d mc ms sz : Nat) : Prop :=
  Z.1.tables.exec = Jvm.exec ∧ Z.2.2.2.2.2.2.2.2.2.code = cc ∧ Z.2.2.2.2.2.2.2.2.2.maxLocals = nL ∧ Z.2.2.2.2.1.vm.findClass own = some Z.2.2.2.2.2.1.cls ∧ (∀ w ∈ tbG, w.before Z.2.2.2.2.2.2.1 Z.2.2.2.2.1 = true) ∧ Wi g Z.2.2.2.2.1 ∧ Z.2.2.2.2.2.2.2.2.1.locks = false ∧ Z.2.2.2.2.2.2.2.2.1.sig.returnType = none ∧ Z.2.2.2.1 = rmN d mc ms ∧ Z.2.2.2.2.2.2.2.2.1.name = "<init>" ∧ Z.2.2.2.2.1.heap.size = sz
def Gn (g : Gk) (Z : Mc) (nL h sz mc ms : Nat) (F : va_W → Prop) (pc : Nat) (lvs : List (Nat × Value)) (st : List Value) (ws : va_W) (nc ns : Nat) : Prop :=
  ∀ (H : Heap) (locs : List Loc) (ls : Array Slot), lv_has ls nL lvs → va_P g.1 vwCl ws H → va_D (Ax h sz) ws → va_S (Ax h sz) Z.2.2.2.2.1.heap H locs →
    W Z.1 Z.2.1 Z.2.2.1 Z.2.2.2.1 Z.2.2.2.2.1 Z.2.2.2.2.2.1 Z.2.2.2.2.2.2.1 Z.2.2.2.2.2.2.2.1 Z.2.2.2.2.2.2.2.2.1 Z.2.2.2.2.2.2.2.2.2 H locs nc ns (MQ Z.2.2.2.2.2.2.2.1 (Qn g h sz F) Z.2.2.2.2.2.2.1 Z.2.2.2.2.1 mc ms (Ax h sz)) (F0 Z.2.2.2.2.2.1 pc ls st)
theorem Cn.of {g : Gk} {l : Launch} {y : MethodName} {b : ByteArray} {n d mc ms h : Nat} {As : List Value} {e : va_E} {F : va_W → Prop} (hy : plainName y.cls = true) (hi : y.name = "<init>") (hn : (lg_sl (.ref h :: As)).length ≤ n) (k : ∀ (Z : Mc) (sz : Nat), Z.2.1 = l → Xn g Z b n y.cls d mc ms sz → Gn g Z n h sz mc ms F 0 (lv_args 0 (.ref h :: As)) [] [(h, e)] 0 0) : Cn g l y b n d mc ms h As e F := by
  intro sz
  refine Met.ofW (cc := b) (maxL := n) (ret := none) hy rfl ?_
  intro p e' s m args below meth c s₁ B hml hv
  obtain ⟨rfl, hsz, hP, hWi⟩ := hv
  have hts := atoms_spec (ws := wsG y b n none) B.pre
  have hown : s.vm.findClass y.cls = some m.cls := findClass_of_methodNamed B.named
  have hin : meth.name = "<init>" := (name_of_methodNamed B.named B.method).1.trans hi
  have hl := lv_entry (.ref h :: As) (n := n) hn
  rw [lg_entry_eq]
  exact k (p, l, e', (headSpec (wsG y b n none) (rmN d mc ms)).room, s, m, (Value.ref h :: As).toArray, below, meth, c) sz rfl ⟨B.exec, B.bytes, hml, hown, fun w hw => hts w (List.mem_cons_of_mem _ hw), hWi, B.notSynchronized, B.returns, rfl, hin, hsz⟩ s.heap [] _ hl hP ⟨fun i j p q hi hj _ => by
    have h1 := (List.getElem?_eq_some_iff.mp hi).1
    have h2 := (List.getElem?_eq_some_iff.mp hj).1
    simp at h1 h2
    omega, fun k q hk => by
    have h1 := (List.getElem?_eq_some_iff.mp hk).1
    simp at h1
    subst h1
    cases hk
    exact Or.inl rfl⟩ va_S.rf
section CT
variable {g : Gk} {Z : Mc} {cc : ByteArray} {nL : Nat} {own : String} {d mc ms sz h : Nat} {F : va_W → Prop} {pc : Nat} {lvs : List (Nat × Value)} {st : List Value} {ws : va_W} {nc ns : Nat}
theorem Xn.hA (X : Xn g Z cc nL own d mc ms sz) : ∀ q, Z.2.2.2.2.1.heap.size ≤ q → Ax h sz q := fun q hq => Or.inr (by rw [X.2.2.2.2.2.2.2.2.2.2] at hq; exact hq)
theorem n_iconst (pc2 : Nat) (X : Xn g Z cc nL own d mc ms sz) {k : Int} {v : Int32} (hd : decode cc pc = .ok (.iconst k, 1)) (hp : pc + 1 = pc2) (hv : Int32.ofInt k = v) (k : Gn g Z nL h sz mc ms F pc2 lvs (.int v :: st) ws nc ns) : Gn g Z nL h sz mc ms F pc lvs st ws nc ns := by
  subst hp
  exact fun H locs ls hl hP hD hS => lv_iconst X.1 X.2.1 hd hv (k H locs ls hl hP hD hS)
theorem n_bipush (pc2 : Nat) (X : Xn g Z cc nL own d mc ms sz) {k : Int} {v : Int32} (hd : decode cc pc = .ok (.bipush k, 2)) (hp : pc + 2 = pc2) (hv : (Int8.ofInt k).toInt32 = v) (k : Gn g Z nL h sz mc ms F pc2 lvs (.int v :: st) ws nc ns) : Gn g Z nL h sz mc ms F pc lvs st ws nc ns := by
  subst hp
  exact fun H locs ls hl hP hD hS => lv_bipush X.1 X.2.1 hd hv (k H locs ls hl hP hD hS)
theorem n_sipush (pc2 : Nat) (X : Xn g Z cc nL own d mc ms sz) {k : Int} {v : Int32} (hd : decode cc pc = .ok (.sipush k, 3)) (hp : pc + 3 = pc2) (hv : (Int16.ofInt k).toInt32 = v) (k : Gn g Z nL h sz mc ms F pc2 lvs (.int v :: st) ws nc ns) : Gn g Z nL h sz mc ms F pc lvs st ws nc ns := by
  subst hp
  exact fun H locs ls hl hP hD hS => lv_sipush X.1 X.2.1 hd hv (k H locs ls hl hP hD hS)
theorem n_lconst (pc2 : Nat) (X : Xn g Z cc nL own d mc ms sz) {k : Fin 2} {v : Int64} (hd : decode cc pc = .ok (.lconst k, 1)) (hp : pc + 1 = pc2) (hv : Int64.ofNat (k : Nat) = v) (k : Gn g Z nL h sz mc ms F pc2 lvs (.long v :: st) ws nc ns) : Gn g Z nL h sz mc ms F pc lvs st ws nc ns := by
  subst hp
  exact fun H locs ls hl hP hD hS => lv_lconst X.1 X.2.1 hd hv (k H locs ls hl hP hD hS)
theorem n_ldc (pc2 : Nat) (X : Xn g Z cc nL own d mc ms sz) {k : Nat} {v : Int32} (hd : decode cc pc = .ok (.ldc k, 2)) (hp : pc + 2 = pc2) (hv : Cond.constant own k v ∈ tbG) (k : Gn g Z nL h sz mc ms F pc2 lvs (.int v :: st) ws nc ns) : Gn g Z nL h sz mc ms F pc lvs st ws nc ns := by
  subst hp
  exact fun H locs ls hl hP hD hS => lv_ldc X.1 X.2.1 X.2.2.2.1 (X.2.2.2.2.1 _ hv) hd (k H locs ls hl hP hD hS)
theorem n_iload_n (pc2 : Nat) (X : Xn g Z cc nL own d mc ms sz) {k : Fin 4} {i : Nat} (q : Nat) {v : Int32} (hd : decode cc pc = .ok (.iload_n k, 1)) (hp : pc + 1 = pc2) (hi : (k : Nat) = i) (hv : lvs[q]? = some (i, .int v)) (k : Gn g Z nL h sz mc ms F pc2 lvs (.int v :: st) ws nc ns) : Gn g Z nL h sz mc ms F pc lvs st ws nc ns := by
  subst hp
  exact fun H locs ls hl hP hD hS => lv_iload_n X.1 X.2.1 hd hi (lv_at hl q hv) (k H locs ls hl hP hD hS)
theorem n_aload_n (pc2 : Nat) (X : Xn g Z cc nL own d mc ms sz) {k : Fin 4} {i : Nat} (q : Nat) {v : Nat} (hd : decode cc pc = .ok (.aload_n k, 1)) (hp : pc + 1 = pc2) (hi : (k : Nat) = i) (hv : lvs[q]? = some (i, .ref v)) (k : Gn g Z nL h sz mc ms F pc2 lvs (.ref v :: st) ws nc ns) : Gn g Z nL h sz mc ms F pc lvs st ws nc ns := by
  subst hp
  exact fun H locs ls hl hP hD hS => lv_aload_n X.1 X.2.1 hd hi (lv_at hl q hv) (k H locs ls hl hP hD hS)
theorem n_dup (pc2 : Nat) (X : Xn g Z cc nL own d mc ms sz) {v : Value} (hd : decode cc pc = .ok (.dup, 1)) (hp : pc + 1 = pc2) (hc : v.category = 1) (k : Gn g Z nL h sz mc ms F pc2 lvs (v :: v :: st) ws nc ns) : Gn g Z nL h sz mc ms F pc lvs (v :: st) ws nc ns := by
  subst hp
  exact fun H locs ls hl hP hD hS => lv_dup X.1 X.2.1 hd hc (k H locs ls hl hP hD hS)
theorem n_istore_n (pc2 : Nat) (X : Xn g Z cc nL own d mc ms sz) {k : Fin 4} {i : Nat} (lvs2 : List (Nat × Value)) {v : Int32} (hd : decode cc pc = .ok (.istore_n k, 1)) (hp : pc + 1 = pc2) (hi : (k : Nat) = i) (hn : i < nL) (hl : (i, Value.int v) :: lvs.filter (fun q => !(q.1 == i) && !(q.1 + 1 == i && q.2.category == 2)) = lvs2) (kk : Gn g Z nL h sz mc ms F pc2 lvs2 st ws nc ns) : Gn g Z nL h sz mc ms F pc lvs (.int v :: st) ws nc ns := by
  subst hp
  exact fun H locs ls hls hP hD hS => lv_istore_n X.1 X.2.1 hd hi hls hn hl (fun ls' hls' => kk H locs ls' hls' hP hD hS)
theorem n_iinc (pc2 : Nat) (X : Xn g Z cc nL own d mc ms sz) {i : Nat} {k : Int} (q : Nat) (lvs2 : List (Nat × Value)) {u v : Int32} (hd : decode cc pc = .ok (.iinc i k, 3)) (hp : pc + 3 = pc2) (hq : lvs[q]? = some (i, .int u)) (hv : u + Int32.ofInt k = v) (hn : i < nL) (hl : (i, Value.int v) :: lvs.filter (fun q => !(q.1 == i) && !(q.1 + 1 == i && q.2.category == 2)) = lvs2) (kk : Gn g Z nL h sz mc ms F pc2 lvs2 st ws nc ns) : Gn g Z nL h sz mc ms F pc lvs st ws nc ns := by
  subst hp
  exact fun H locs ls hls hP hD hS => lv_iinc X.1 X.2.1 hd hls hq hv hn hl (fun ls' hls' => kk H locs ls' hls' hP hD hS)
theorem n_goto (pc2 : Nat) (X : Xn g Z cc nL own d mc ms sz) {off : Int} (hd : decode cc pc = .ok (.goto off, 3)) (ht : (pc : Int) + off = (pc2 : Int)) (k : Gn g Z nL h sz mc ms F pc2 lvs st ws nc ns) : Gn g Z nL h sz mc ms F pc lvs st ws nc ns :=
  fun H locs ls hl hP hD hS => lv_goto X.1 X.2.1 hd ht (k H locs ls hl hP hD hS)
theorem n_ge_t (pc2 : Nat) (X : Xn g Z cc nL own d mc ms sz) {u v : Int32} {off : Int} (hd : decode cc pc = .ok (.if_icmp .ge off, 3)) (ht : (pc : Int) + off = (pc2 : Int)) (hc : v ≤ u) (k : Gn g Z nL h sz mc ms F pc2 lvs st ws nc ns) : Gn g Z nL h sz mc ms F pc lvs (.int v :: .int u :: st) ws nc ns :=
  fun H locs ls hl hP hD hS => lv_icmp_ge X.1 X.2.1 hd ht (fun _ => k H locs ls hl hP hD hS) (fun hx => absurd hc hx)
theorem n_ge_f (pc2 pc3 : Nat) (X : Xn g Z cc nL own d mc ms sz) {u v : Int32} {off : Int} (hd : decode cc pc = .ok (.if_icmp .ge off, 3)) (ht : (pc : Int) + off = (pc2 : Int)) (hp : pc + 3 = pc3) (hc : ¬ v ≤ u) (k : Gn g Z nL h sz mc ms F pc3 lvs st ws nc ns) : Gn g Z nL h sz mc ms F pc lvs (.int v :: .int u :: st) ws nc ns := by
  subst hp
  exact fun H locs ls hl hP hD hS => lv_icmp_ge X.1 X.2.1 hd ht (fun hx => absurd hx hc) (fun _ => k H locs ls hl hP hD hS)
theorem n_max (pc2 : Nat) (X : Xn g Z cc nL own (d + 1) mc ms sz) {idx : Nat} {u v : Int32} (hlk : Cond.methodLink own idx Lib.Math.max.name ∈ tbG) (hst : (st.map fun v => v.category).sum ≤ 8) (hnc : nc ≤ mc) (hns : ns ≤ ms) (hd : decode cc pc = .ok (.invokestatic idx, 3)) (hp : pc + 3 = pc2) (k : Gn g Z nL h sz mc ms F pc2 lvs (.int (if u < v then v else u) :: st) ws nc ns) : Gn g Z nL h sz mc ms F pc lvs (.int v :: .int u :: st) ws nc ns := by
  subst hp
  obtain ⟨hx, hb, hml, hown, hts, hWi, hlk9, hrt9, hR, -, -⟩ := X
  intro H locs ls hl hP hD hS
  have h8 : (rmN (d + 1) mc ms).locals = 40 * (d + 1) := rfl
  exact va_mmax hx hb (hml.trans hl.1.symm) hown (hts _ hlk) (hts _ mm_max.1) (hts _ mm_max.2.1) (hts _ mm_max.2.2) (by rw [hR]; exact Nat.le_add_left 1 d) (by rw [hR, h8]; omega) (by rw [hR]; exact hnc) (by rw [hR]; exact hns) hd (k H locs ls hl hP hD hS)
theorem n_obj (pc2 : Nat) (X : Xn g Z cc nL own (d + 1) mc ms sz) {idx a : Nat} (hlk : Cond.methodLink own idx Lib.objectInit ∈ tbG) (hin : Cond.instanceMethod Lib.objectInit ∈ tbG) (hc : Cond.code Lib.objectInit ⟨#[0xb1]⟩ 1 none ∈ tbG) (hst : (st.map fun v => v.category).sum ≤ 8) (hd : decode cc pc = .ok (.invokespecial idx, 3)) (hp : pc + 3 = pc2) (k : Gn g Z nL h sz mc ms F pc2 lvs st ws nc ns) : Gn g Z nL h sz mc ms F pc lvs (.ref a :: st) ws nc ns := by
  subst hp
  obtain ⟨hx, hb, hml, hown, hts, hWi, hlk9, hrt9, hR, -, -⟩ := X
  intro H locs ls hl hP hD hS
  have h8 : (rmN (d + 1) mc ms).locals = 40 * (d + 1) := rfl
  refine W.objInit hx hb hown (hts _ hlk) (hts _ hin) (hts _ hc) rfl (by rw [hml]; exact hl.1) rfl hd (by rw [hR]; exact Nat.le_add_left 1 d) ?_ (k H locs ls hl hP hD hS)
  rw [hR, h8]
  show 2 * 0 + _ + 12 ≤ _
  omega
theorem n_ret (X : Xn g Z cc nL own d mc ms sz) (hF : F ws) (hd : decode cc pc = .ok (.return_, 1)) : Gn g Z nL h sz mc ms F pc lvs [] ws mc ms := by
  obtain ⟨hx, hb, hml, hown, hts, hWi, hlk9, hrt9, hR, -, -⟩ := X
  intro H locs ls hl hP hD hS
  exact W.vret hx hb hrt9 (fun t ht hW => ⟨⟨rfl, ws, hF, by rw [ht]; exact hP, hD⟩, hS.F ht⟩) hS.2.2 hd hlk9
/-- fields of a class under construction: final or not -/
def FN (own : String) (idx ci k : Nat) (ty : FieldType) : Prop := ∃ (C : String) (T : u_T) (N : Nat) (ty0 : Nat → FieldType), vwCl[ci]? = some (C, T, N) ∧ k < N ∧ (∀ w ∈ u_ws C T N, w ∈ tbG) ∧ Cond.fieldLink own idx (T k).1 (T k).2.1 (T k).2.2.1 ∈ tbG ∧ (∀ k, k < N → parseFieldDescriptor (T k).2.2.1 = some (ty0 k)) ∧ (∀ a, a < N → ∀ b, b < N → a ≠ b → (T a).2.1 ≠ (T b).2.1) ∧ ((T k).2.2.2 = false ∨ (T k).2.2.2 = true ∧ (T k).1 = own) ∧ parseFieldDescriptor (T k).2.2.1 = some ty
theorem n_put (pc2 : Nat) (X : Xn g Z cc nL own d mc ms sz) {a idx ci k : Nat} {fs : List Value} {v : Value} {ty : FieldType} (q0 : Nat) (ws2 : va_W) (fn : FN own idx ci k ty) (he : ws[q0]? = some (a, .inr (ci, fs))) (hn : narrow ty v = v) (hfit : fits ty v = true) (hk : k < fs.length) (hset : ws.set q0 (a, .inr (ci, fs.set k v)) = ws2) (hd : decode cc pc = .ok (.putfield idx, 3)) (hp : pc + 3 = pc2) (kk : Gn g Z nL h sz mc ms F pc2 lvs st ws2 nc ns) : Gn g Z nL h sz mc ms F pc lvs (v :: .ref a :: st) ws nc ns := by
  subst hp
  subst hset
  obtain ⟨C, T, N, ty0, hc, hkN, hin, hlk, hty, hnm, hfin, hty1⟩ := fn
  obtain ⟨hx, hb, hml, hown, hts, hWi, hlk9, hrt9, hR, hnm9, hsz⟩ := X
  intro H locs ls hl hP hD hS
  rcases hfin with hfin | ⟨hfin, hdecl⟩
  · exact va_put hx hb hts hin ty0 hty hnm hown hWi.1 hP hD hS q0 he hc k hkN (hts _ hlk) (fun _ h9 => h9) hfin hty1 hn hfit hk hd (fun H1 locs1 hP1 hD1 hS1 => kk H1 locs1 ls hl hP1 hD1 hS1)
  · exact va_putF hx hb hts hin ty0 hty hnm hown hWi.1 hP hD hS q0 he hc k hkN (hts _ hlk) (fun _ h9 => h9) hfin hnm9 hdecl hty1 hn hfit hk hd (fun H1 locs1 hP1 hD1 hS1 => kk H1 locs1 ls hl hP1 hD1 hS1)
theorem n_get (pc2 : Nat) (X : Xn g Z cc nL own d mc ms sz) {a idx ci k : Nat} {fs : List Value} {v : Value} (q0 : Nat) (fl : FL own idx ci k) (he : ws[q0]? = some (a, .inr (ci, fs))) (hv : fs[k]? = some v) (hd : decode cc pc = .ok (.getfield idx, 3)) (hp : pc + 3 = pc2) (kk : Gn g Z nL h sz mc ms F pc2 lvs (v :: st) ws nc ns) : Gn g Z nL h sz mc ms F pc lvs (.ref a :: st) ws nc ns := by
  subst hp
  obtain ⟨C, T, N, hc, hkN, hin, hlk⟩ := fl
  obtain ⟨hx, hb, hml, hown, hts, hWi, hlk9, hrt9, hR, hnm9, hsz⟩ := X
  intro H locs ls hl hP hD hS
  rcases hlk with hlk | ⟨host, hlk⟩
  · exact va_get hx hb hts hin hown hWi.1 hP q0 he hc k hkN (hts _ hlk) (fun _ h9 => h9) hv hd (kk H locs ls hl hP hD hS)
  · exact va_getN hx hb hts hin hown hWi.1 hP q0 he hc k hkN (nk_use hWi.2.1 hlk) (fun _ h9 => h9) hv hd (kk H locs ls hl hP hD hS)
theorem n_newa (pc2 : Nat) (X : Xn g Z cc nL own d mc ms sz) {n : Int32} (N : Nat) (hn : ¬ n < 0) (hN : n.toNatClampNeg = N) (hb4 : N ≤ 1000) (harr : Cond.arrayClass .int ∈ tbG) (hc : nc + 1 ≤ mc) (hs : ns + N ≤ ms) (hd : decode cc pc = .ok (.newarray .int, 2)) (hp : pc + 2 = pc2) (kk : ∀ q : Nat, Gn g Z nL h sz mc ms F pc2 lvs (.ref q :: st) (ws ++ [(q, .inl (g.2.1, N, .inl (fun _ => 0)))]) (nc + 1) (ns + N)) : Gn g Z nL h sz mc ms F pc lvs (.int n :: st) ws nc ns := by
  subst hp
  have hA := X.hA (h := h)
  obtain ⟨hx, hb, hml, hown, hts, hWi, hlk9, hrt9, hR, hnm9, hsz⟩ := X
  intro H locs ls hl hP hD hS
  refine va_newa (atype := .int) (ty := .int) (a0 := (N, .inl (fun _ => 0))) hx hb (hts _ harr) rfl hWi.1 hP hD hS hA (fun cA => by rw [vp_cell_i]; rfl) hn hN (by show N * 4 ≤ 536870912; omega) (by rw [hR]; exact hc) (by rw [hR]; exact hs) hd (fun q cA H1 hK1 hP1 hD1 hS1 => ?_)
  have e1 : cA = g.2.1 := by
    have f1 : Z.2.2.2.2.1.vm.findClass _ = some cA := (hK1.2 3 _ rfl).2
    have f2 : Z.2.2.2.2.1.vm.findClass _ = some g.2.1 := (hWi.1.2 0 _ rfl).2
    exact Option.some.inj (f1.symm.trans f2)
  subst e1
  exact kk q H1 locs ls hl hP1 hD1 hS1
theorem n_newz (pc2 : Nat) (X : Xn g Z cc nL own d mc ms sz) {n : Int32} (N : Nat) (hn : ¬ n < 0) (hN : n.toNatClampNeg = N) (hb4 : N ≤ 1000) (harr : Cond.arrayClass .boolean ∈ tbG) (hc : nc + 1 ≤ mc) (hs : ns + N ≤ ms) (hd : decode cc pc = .ok (.newarray .boolean, 2)) (hp : pc + 2 = pc2) (kk : ∀ q : Nat, Gn g Z nL h sz mc ms F pc2 lvs (.ref q :: st) (ws ++ [(q, .inl (g.2.2.1, N, .inl (fun _ => 0)))]) (nc + 1) (ns + N)) : Gn g Z nL h sz mc ms F pc lvs (.int n :: st) ws nc ns := by
  subst hp
  have hA := X.hA (h := h)
  obtain ⟨hx, hb, hml, hown, hts, hWi, hlk9, hrt9, hR, hnm9, hsz⟩ := X
  intro H locs ls hl hP hD hS
  refine va_newa (atype := .boolean) (ty := .boolean) (a0 := (N, .inl (fun _ => 0))) hx hb (hts _ harr) rfl hWi.1 hP hD hS hA (fun cA => by rw [vp_cell_i]; rfl) hn hN (by show N * 1 ≤ 536870912; omega) (by rw [hR]; exact hc) (by rw [hR]; exact hs) hd (fun q cA H1 hK1 hP1 hD1 hS1 => ?_)
  have e1 : cA = g.2.2.1 := by
    have f1 : Z.2.2.2.2.1.vm.findClass _ = some cA := (hK1.2 3 _ rfl).2
    have f2 : Z.2.2.2.2.1.vm.findClass _ = some g.2.2.1 := (hWi.1.2 1 _ rfl).2
    exact Option.some.inj (f1.symm.trans f2)
  subst e1
  exact kk q H1 locs ls hl hP1 hD1 hS1
theorem n_newq (pc2 : Nat) (X : Xn g Z cc nL own d mc ms sz) {idx : Nat} {n : Int32} (N : Nat) (hn : ¬ n < 0) (hN : n.toNatClampNeg = N) (hb4 : N ≤ 1000) (hcl : Cond.classLink own idx "BoardRemembers$Sheet" ∈ tbG) (hc : nc + 1 ≤ mc) (hs : ns + N ≤ ms) (hd : decode cc pc = .ok (.anewarray idx, 3)) (hp : pc + 3 = pc2) (kk : ∀ q : Nat, Gn g Z nL h sz mc ms F pc2 lvs (.ref q :: st) (ws ++ [(q, .inl (g.2.2.2, N, .inr (.inr (.inr (.inr (fun _ => none))))))]) (nc + 1) (ns + N)) : Gn g Z nL h sz mc ms F pc lvs (.int n :: st) ws nc ns := by
  subst hp
  have hA := X.hA (h := h)
  obtain ⟨hx, hb, hml, hown, hts, hWi, hlk9, hrt9, hR, hnm9, hsz⟩ := X
  intro H locs ls hl hP hD hS
  refine va_newq hx hb hown (hts _ hcl) hWi.2.2 hWi.1 hP hD hS hA hn hN (by omega) (by rw [hR]; exact hc) (by rw [hR]; exact hs) hd (fun q cA H1 hK1 hP1 hD1 hS1 => ?_)
  have e1 : cA = g.2.2.2 := by
    obtain ⟨_, _, _, _, _, f1⟩ := (hK1.2 3 _ rfl).2
    obtain ⟨_, _, _, _, _, f2⟩ := (hWi.1.2 2 _ rfl).2
    exact Option.some.inj (f1.symm.trans f2)
  subst e1
  exact kk q H1 locs ls hl hP1 hD1 hS1
theorem n_new (pc2 : Nat) (X : Xn g Z cc nL own d mc ms sz) {idx N : Nat} {C : String} {T : u_T} (ci : Nat) (fs : List Value) (ty : Nat → FieldType) (hc0 : vwCl[ci]? = some (C, T, N)) (hin : ∀ w ∈ u_ws C T N, w ∈ tbG) (hty : ∀ k, k < N → parseFieldDescriptor (T k).2.2.1 = some (ty k)) (hcl : Cond.classLink own idx C ∈ tbG) (hinst : Cond.instantiable C N ∈ tbG) (hini : Cond.initialized C ∈ tbG) (hfs : ∀ j, j < N → defaultValue (ty j) = vp_V fs j) (hc : nc + 1 ≤ mc) (hs : ns + N ≤ ms) (hd : decode cc pc = .ok (.new idx, 3)) (hp : pc + 3 = pc2) (kk : ∀ q : Nat, Gn g Z nL h sz mc ms F pc2 lvs (.ref q :: st) (ws ++ [(q, .inr (ci, fs))]) (nc + 1) (ns + N)) : Gn g Z nL h sz mc ms F pc lvs st ws nc ns := by
  subst hp
  have hA := X.hA (h := h)
  obtain ⟨hx, hb, hml, hown, hts, hWi, hlk9, hrt9, hR, hnm9, hsz⟩ := X
  intro H locs ls hl hP hD hS
  exact va_new hx hb hts hin ty hty hown (hts _ hcl) (hts _ hinst) (hts _ hini) hWi.1 hP hD hS hA hc0 hfs (by rw [hR]; exact hc) (by rw [hR]; exact hs) hd (fun q H1 hP1 hD1 hS1 => kk q H1 locs ls hl hP1 hD1 hS1)
theorem n_aast (pc2 : Nat) (X : Xn g Z cc nL own d mc ms sz) {a v N : Nat} {i : Int32} {f : Nat → Option Nat} {vs : List Value} (q0 qk j : Nat) (ws2 : va_W) (hj : i.toNatClampNeg = j) (ha : ws[q0]? = some (a, .inl (g.2.2.2, N, .inr (.inr (.inr (.inr f)))))) (hv : ws[qk]? = some (v, .inr (5, vs))) (hin : vp_in i N) (hset : ws.set q0 (a, .inl (g.2.2.2, N, .inr (.inr (.inr (.inr (va_up f j (some v))))))) = ws2) (hd : decode cc pc = .ok (.aastore, 1)) (hp : pc + 1 = pc2) (kk : Gn g Z nL h sz mc ms F pc2 lvs st ws2 nc ns) : Gn g Z nL h sz mc ms F pc lvs (.ref v :: .int i :: .ref a :: st) ws nc ns := by
  subst hp
  subst hj
  subst hset
  obtain ⟨hx, hb, hml, hown, hts, hWi, hlk9, hrt9, hR, hnm9, hsz⟩ := X
  intro H locs ls hl hP hD hS
  exact va_astq (r := (RX5, TX5, 4)) hx hb hWi.1 hP hD hS q0 2 qk 5 ha rfl hv rfl hin hd (fun H1 locs1 hP1 hD1 hS1 => kk H1 locs1 ls hl hP1 hD1 hS1)
theorem n_eq {ws2 : va_W} (e : ws = ws2) (k : Gn g Z nL h sz mc ms F pc lvs st ws2 nc ns) : Gn g Z nL h sz mc ms F pc lvs st ws nc ns := e ▸ k
theorem blindN {av : List Value} {ws0 : va_W} {sz0 : Nat} : FrameBlind (va_Pc av (fun U => U.heap.size = sz0 ∧ va_P g.1 vwCl ws0 U.heap ∧ Wi g U)) := by
  intro a U f mk q
  obtain ⟨q0, q1, q2, q3⟩ := q
  exact ⟨q0, q1, q2, Wi.same (s := U) (U := U.calling f mk a) rfl q3⟩
theorem n_ws {g : Gk} {A : Nat → Prop} {ws1 ws' : va_W} {a sz0 : Nat} {e : va_E} {H H1 : Heap} (hP : va_P g.1 vwCl (ws1 ++ [(a, e)]) H) (hD : va_D A (ws1 ++ [(a, e)])) (hP' : va_P g.1 vwCl ws' H1) (hD' : va_D (Ax a H.size) ws') (hA : ∀ q, H.size ≤ q → A q) (hk : ∀ q : Nat, q < H.size → ¬ Ax a H.size q → H1[q]? = H[q]?) : va_P g.1 vwCl (ws1 ++ ws') H1 ∧ va_D A (ws1 ++ ws') := by
  have hlast : (ws1 ++ [(a, e)])[ws1.length]? = some (a, e) := by simp
  have at1 : ∀ {k : Nat} {q : Nat × va_E}, ws1[k]? = some q → (ws1 ++ [(a, e)])[k]? = some q := by
    intro k q hq
    rw [List.getElem?_append_left (List.getElem?_eq_some_iff.mp hq).1]
    exact hq
  have apart : ∀ (k : Nat) (q : Nat × va_E), ws1[k]? = some q → q.1 < H.size ∧ q.1 ≠ a := by
    intro k q hq
    refine ⟨(hP k q (at1 hq)).lt, fun e1 => ?_⟩
    have := hD.1 k ws1.length q (a, e) (at1 hq) hlast e1
    have := (List.getElem?_eq_some_iff.mp hq).1
    omega
  refine ⟨va_P.app (fun k q hq => ?_) hP', va_D.app ⟨fun i j p q hi hj => hD.1 i j p q (at1 hi) (at1 hj), fun k q hq => hD.2 k q (at1 hq)⟩ (hD'.weaken (fun k q _ hx => ?_)) (fun i j p q hi hj e1 => ?_)⟩
  · obtain ⟨g1, g2⟩ := apart k q hq
    refine (hP k q (at1 hq)).kept (hk q.1 g1 ?_)
    rintro (z | z)
    · exact g2 z
    · omega
  · rcases hx with hx | hx
    · rw [hx]; exact hD.2 _ _ hlast
    · exact hA _ hx
  · obtain ⟨g1, g2⟩ := apart i p hi
    rcases hD'.2 j q hj with z | z
    · exact g2 (e1.trans z)
    · omega
theorem n_init (pc2 : Nat) {y : MethodName} {b' : ByteArray} {n' mc' ms' a idx : Nat} {As rest : List Value} {e : va_E} {F' : va_W → Prop} {ws1 : va_W} (X : Xn g Z cc nL own (d + 1) mc ms sz) (hM : Cn g Z.2.1 y b' n' d mc' ms' a As e F') (mf : MF y b' n' none As.length) (hy1 : y.name = "<init>") (hin : Cond.instanceMethod y ∈ tbG) (hlk : Cond.methodLink own idx y ∈ tbG ∨ ∃ host, Cond.methodLinkNest own idx y host ∈ nsL) (hc : nc + mc' ≤ mc) (hs : ns + ms' ≤ ms) (hst : (rest.map fun v => v.category).sum ≤ 8) (hd : decode cc pc = .ok (.invokespecial idx, 3)) (hp : pc + 3 = pc2)
    (k : ∀ ws' : va_W, F' ws' → Gn g Z nL h sz mc ms F pc2 lvs rest (ws1 ++ ws') (nc + mc') (ns + ms')) : Gn g Z nL h sz mc ms F pc lvs (As.reverse ++ .ref a :: rest) (ws1 ++ [(a, e)]) nc ns := by
  subst hp
  have hA := X.hA (h := h)
  obtain ⟨hx, hb, hml, hown, hts, hWi, hlk9, hrt9, hR, hnm9, hsz⟩ := X
  intro H locs ls hl hP hD hS
  have hG : GoodIn tbG (wsG y b' n' none) := fun w hw => by
    have hm : w ∈ tbG := by
      rcases List.mem_cons.mp hw with rfl | h1
      · exact mf.1
      · exact h1
    exact ⟨hm, good_of_word (tb_good hm)⟩
  have hRR : (rmN d mc' ms').frames + 1 ≤ Z.2.2.2.1.frames ∧ 8 + (n' + 11) + (rmN d mc' ms').locals ≤ Z.2.2.2.1.locals := by
    rw [hR]
    have h1 := mf.2.2.2
    exact ⟨Nat.le_refl _, by show 8 + (n' + 11) + 40 * d ≤ 40 * (d + 1); omega⟩
  have hlast : (ws1 ++ [(a, e)])[ws1.length]? = some (a, e) := by simp
  have hPc : va_P g.1 vwCl [(a, e)] H := fun k q hq => by
    have h1 := (List.getElem?_eq_some_iff.mp hq).1
    simp at h1
    subst h1
    cases hq
    exact hP _ _ hlast
  have hpre : PreS Z.2.2.2.2.1 H (va_Pc (.ref a :: As) (fun U => U.heap.size = H.size ∧ va_P g.1 vwCl [(a, e)] U.heap ∧ Wi g U)) (.ref a :: As) := ⟨blindN, fun U hU hW => ⟨rfl, by rw [hU], by rw [hU]; exact hPc, hWi.warm hW⟩⟩
  have hf : nc + mc' ≤ Z.2.2.2.1.cells ∧ ns + ms' ≤ Z.2.2.2.1.slots := by rw [hR]; exact ⟨hc, hs⟩
  have hrun : va_Run Z.1 Z.2.1 Z.2.2.1 Z.2.2.2.1 Z.2.2.2.2.1 Z.2.2.2.2.2.1 Z.2.2.2.2.2.2.1 Z.2.2.2.2.2.2.2.1 Z.2.2.2.2.2.2.2.2.1 Z.2.2.2.2.2.2.2.2.2 H locs nc ns mc' ms' (F0 Z.2.2.2.2.2.1 pc ls (As.reverse ++ .ref a :: rest)) rest (Qn g a H.size F' (Value.ref a :: As).toArray) (Ax a H.size) := by
    rcases hlk with hlk | ⟨host, hlk⟩
    · exact va_runI (As := As) (rest := rest) ⟨hx, hb, hml, hown, hts⟩ (hM H.size) ⟨callB_of As.length (Ts := tbG) (ws' := tbG) hts hG rfl rfl rfl (hts _ mf.2.1) (hts _ hlk) mf.2.2.1 hRR, hy1, hts _ hin⟩ hpre rfl rfl hl.1 rfl (lv_room hst) hd hf
    · have hlw : (Cond.methodLinkNest own idx y host).before Z.2.2.2.2.2.2.1 Z.2.2.2.2.1 = true := nk_use hWi.2.1 hlk
      have hcw : Cond.code y b' n' none ∈ wsG y b' n' none := List.mem_cons_self
      exact va_runIN (As := As) (rest := rest) (host := host) ⟨hx, hb, hml, hown, hts⟩ (hM H.size) ⟨⟨⟨rfl, rfl, hRR.1, hRR.2, pay_in hts hG, hcw⟩, hts _ mf.1, hts _ mf.2.1, ⟨mf.2.2.1.1, mf.2.2.1.2.1⟩, fun sig h => by
        have h2 := mf.2.2.1.2.2
        rw [h] at h2
        exact (Option.some.inj h2).symm, hlw⟩, hy1, hts _ hin⟩ hpre rfl rfl hl.1 rfl (lv_room hst) hd hf
  intro T hT X
  obtain ⟨v, st₀, t, T', L', h0, X', hL, e1, e2, ⟨⟨hv, ws', hF', hP1, hD1⟩, hz, hk⟩, stp⟩ := hrun T hT X
  cases hv
  rw [h0] at hz hk
  rw [← e1] at hz hk hP1
  have hA2 : ∀ q, H.size ≤ q → Ax h sz q := fun q hq => hA q (Nat.le_trans hS.1 hq)
  have hAa : ∀ q, Ax a H.size q → Ax h sz q := fun q hq => by
    rcases hq with z | z
    · rw [z]; exact hD.2 _ _ hlast
    · exact hA2 q z
  obtain ⟨p1, p2⟩ := n_ws (sz0 := sz) hP hD hP1 hD1 hA2 hk
  obtain ⟨t2, a1, b1⟩ := k ws' hF' T'.heap (locs ++ L') ls hl p1 p2
    ⟨Nat.le_trans hS.1 hz, fun q h1 h2 => (hk q (Nat.lt_of_lt_of_le h1 hS.1) (fun z => h2 (hAa q z))).trans (hS.2.1 q h1 h2), fun q hq => by
      rcases List.mem_append.mp hq with h | h
      · exact hS.2.2 q h
      · exact hAa _ (hL q h)⟩ T' rfl X'
  exact ⟨t2, stp t2 a1, b1⟩
end CT
