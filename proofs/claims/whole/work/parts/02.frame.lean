/-! the ground: worlds of fixed shape; a method's code against a pure program -/
def wsG (y : MethodName) (b : ByteArray) (n : Nat) (r : Option FieldType) : List Cond := .code y b n r :: tbG
theorem goodIn_G {y y' : MethodName} {b b' : ByteArray} {n n' : Nat} {r r' : Option FieldType} (h : Cond.code y' b' n' r' ∈ tbG) : GoodIn (wsG y b n r) (wsG y' b' n' r') := by
  intro w hw
  have hm : w ∈ tbG := by
    rcases List.mem_cons.mp hw with rfl | h1
    · exact h
    · exact h1
  exact ⟨List.mem_cons_of_mem _ hm, good_of_word (tb_good hm)⟩
/-- a state: ints by cell and place, longs by cell and place -/
abbrev Sg : Type := (Nat → Nat → Int32) × (Nat → Nat → Int64)
/-- a cell's shape: an array (0 int, 1 boolean, b + 2: references to the cells b, b + 2, ..) and its length; or a class's number and its fields (0 int, 1 long, j + 2: a reference to cell j) -/
abbrev Shp : Type := (Nat × Nat) ⊕ (Nat × List Nat)
/-- the ground: numbers of classes, addresses of cells, array classes -/
abbrev Gd : Type := va_G × (Nat → Nat) × (ClassId × ClassId × ClassId)
def fv (G : Gd) (S : Sg) (i k : Nat) : Nat → Value
  | 0 => .int (S.1 i k)
  | 1 => .long (S.2 i k)
  | j + 2 => .ref (G.2.1 j)
def ce (G : Gd) (S : Sg) (i : Nat) : Shp → va_E
  | .inl (0, n) => .inl (G.2.2.1, n, .inl (S.1 i))
  | .inl (1, n) => .inl (G.2.2.2.1, n, .inl (S.1 i))
  | .inl (b + 2, n) => .inl (G.2.2.2.2, n, .inr (.inr (.inr (.inr (fun j => some (G.2.1 (b + 2 * j)))))))
  | .inr (ci, ks) => .inr (ci, ks.mapIdx (fv G S i))
def wl (L : List Shp) (G : Gd) (S : Sg) : va_W := L.mapIdx (fun i sh => (G.2.1 i, ce G S i sh))
def Ar (L : List Shp) (G : Gd) : Nat → Prop := fun q => ∃ i, i < L.length ∧ q = G.2.1 i
def Ij (L : List Shp) (G : Gd) : Prop := ∀ i j, i < L.length → j < L.length → G.2.1 i = G.2.1 j → i = j
theorem wl_at {L : List Shp} {G : Gd} {S : Sg} {i : Nat} {sh : Shp} (h : L[i]? = some sh) : (wl L G S)[i]? = some (G.2.1 i, ce G S i sh) := by
  simp [wl, List.getElem?_mapIdx, h]
theorem wl_get {L : List Shp} {G : Gd} {S : Sg} {k : Nat} {q : Nat × va_E} (h : (wl L G S)[k]? = some q) : k < L.length ∧ q.1 = G.2.1 k := by
  simp only [wl, List.getElem?_mapIdx] at h
  cases hL : L[k]? with
  | none => rw [hL] at h; cases h
  | some sh =>
    rw [hL] at h
    have h2 := Option.some.inj h
    exact ⟨(List.getElem?_eq_some_iff.mp hL).1, by rw [← h2]⟩
theorem wl_D {L : List Shp} {G : Gd} (hj : Ij L G) (S : Sg) : va_D (Ar L G) (wl L G S) := by
  refine ⟨fun i j p q hi hj' hpq => ?_, fun k q hk => ?_⟩
  · obtain ⟨a1, a2⟩ := wl_get hi
    obtain ⟨b1, b2⟩ := wl_get hj'
    exact hj i j a1 b1 (by rw [← a2, ← b2]; exact hpq)
  · obtain ⟨a1, a2⟩ := wl_get hk
    exact ⟨k, a1, a2⟩
theorem wl_set {L : List Shp} {G : Gd} {S S' : Sg} {i : Nat} {sh : Shp} {e : va_E} (h : L[i]? = some sh) (he : ce G S' i sh = e) (ho : ∀ (j : Nat) (sh' : Shp), j ≠ i → ce G S' j sh' = ce G S j sh') : (wl L G S).set i (G.2.1 i, e) = wl L G S' := by
  apply List.ext_getElem?
  intro j
  by_cases hji : j = i
  · subst hji
    rw [List.getElem?_set_self (by simp [wl]; exact (List.getElem?_eq_some_iff.mp h).1), wl_at h, he]
  · rw [List.getElem?_set_ne (Ne.symm hji)]
    simp only [wl, List.getElem?_mapIdx]
    cases hL : L[j]? with
    | none => rfl
    | some sh' => simp [ho j sh' hji]
/-- one int, one long, one row of a state set -/
def sI (S : Sg) (i k : Nat) (v : Int32) : Sg := (fun a j => if a = i ∧ j = k then v else S.1 a j, S.2)
def sL (S : Sg) (i k : Nat) (v : Int64) : Sg := (S.1, fun a j => if a = i ∧ j = k then v else S.2 a j)
def sC (S : Sg) (i : Nat) (f : Nat → Int32) : Sg := (fun a j => if a = i then f j else S.1 a j, S.2)
theorem ce_I {G : Gd} {S : Sg} {i k : Nat} {v : Int32} (j : Nat) (sh : Shp) (h : j ≠ i) : ce G (sI S i k v) j sh = ce G S j sh := by
  have e1 : (sI S i k v).1 j = S.1 j := by funext x; simp [sI, h]
  have e2 : ∀ k', fv G (sI S i k v) j k' = fv G S j k' := by
    intro k'; funext d
    match d with
    | 0 => simp [fv, e1]
    | 1 => simp [fv, sI]
    | d + 2 => rfl
  match sh with
  | .inl (0, n) => simp [ce, e1]
  | .inl (1, n) => simp [ce, e1]
  | .inl (b + 2, n) => rfl
  | .inr (ci, ks) => simp only [ce]; rw [show fv G (sI S i k v) j = fv G S j from funext e2]
theorem ce_L {G : Gd} {S : Sg} {i k : Nat} {v : Int64} (j : Nat) (sh : Shp) (h : j ≠ i) : ce G (sL S i k v) j sh = ce G S j sh := by
  have e2 : ∀ k', fv G (sL S i k v) j k' = fv G S j k' := by
    intro k'; funext d
    match d with
    | 0 => simp [fv, sL]
    | 1 => simp [fv, sL, h]
    | d + 2 => rfl
  match sh with
  | .inl (0, n) => simp [ce, sL]
  | .inl (1, n) => simp [ce, sL]
  | .inl (b + 2, n) => rfl
  | .inr (ci, ks) => simp only [ce]; rw [show fv G (sL S i k v) j = fv G S j from funext e2]
theorem ce_C {G : Gd} {S : Sg} {i : Nat} {f : Nat → Int32} (j : Nat) (sh : Shp) (h : j ≠ i) : ce G (sC S i f) j sh = ce G S j sh := by
  have e1 : (sC S i f).1 j = S.1 j := by funext x; simp [sC, h]
  have e2 : ∀ k', fv G (sC S i f) j k' = fv G S j k' := by
    intro k'; funext d
    match d with
    | 0 => simp [fv, e1]
    | 1 => simp [fv, sC]
    | d + 2 => rfl
  match sh with
  | .inl (0, n) => simp [ce, e1]
  | .inl (1, n) => simp [ce, e1]
  | .inl (b + 2, n) => rfl
  | .inr (ci, ks) => simp only [ce]; rw [show fv G (sC S i f) j = fv G S j from funext e2]
theorem fs_I {G : Gd} {S : Sg} {i k : Nat} {v : Int32} {ks : List Nat} (hk : ks[k]? = some 0) : ks.mapIdx (fv G (sI S i k v) i) = (ks.mapIdx (fv G S i)).set k (.int v) := by
  apply List.ext_getElem?
  intro j
  by_cases hj : j = k
  · subst hj
    rw [List.getElem?_set_self (by simp; exact (List.getElem?_eq_some_iff.mp hk).1)]
    simp [List.getElem?_mapIdx, hk, fv, sI]
  · rw [List.getElem?_set_ne (Ne.symm hj)]
    simp only [List.getElem?_mapIdx]
    cases hL : ks[j]? with
    | none => rfl
    | some d =>
      match d with
      | 0 => simp [fv, sI, hj]
      | 1 => simp [fv, sI]
      | d + 2 => rfl
theorem fs_L {G : Gd} {S : Sg} {i k : Nat} {v : Int64} {ks : List Nat} (hk : ks[k]? = some 1) : ks.mapIdx (fv G (sL S i k v) i) = (ks.mapIdx (fv G S i)).set k (.long v) := by
  apply List.ext_getElem?
  intro j
  by_cases hj : j = k
  · subst hj
    rw [List.getElem?_set_self (by simp; exact (List.getElem?_eq_some_iff.mp hk).1)]
    simp [List.getElem?_mapIdx, hk, fv, sL]
  · rw [List.getElem?_set_ne (Ne.symm hj)]
    simp only [List.getElem?_mapIdx]
    cases hL : ks[j]? with
    | none => rfl
    | some d =>
      match d with
      | 0 => simp [fv, sL]
      | 1 => simp [fv, sL, hj]
      | d + 2 => rfl
theorem row_I {S : Sg} {i k : Nat} {v : Int32} : (sI S i k v).1 i = upd (S.1 i) k v := by
  funext j
  simp [sI, upd]
theorem row_C {S : Sg} {i : Nat} {f : Nat → Int32} : (sC S i f).1 i = f := by
  funext j
  simp [sC]
/-- pure programs: bind, guard, index in range -/
def bd {ρ τ : Type} (x : Option (ρ × Sg)) (k : ρ → Sg → Option τ) : Option τ := match x with
  | some q => k q.1 q.2
  | none => none
theorem bd_some {ρ τ : Type} {r : ρ} {S : Sg} {k : ρ → Sg → Option τ} : bd (some (r, S)) k = k r S := rfl
theorem bd_none {ρ τ : Type} {k : ρ → Sg → Option τ} : bd none k = none := rfl
def gd {τ : Type} (b : Bool) (x : Option τ) : Option τ := if b = true then x else none
theorem gd_t {τ : Type} {b : Bool} {x : Option τ} (h : b = true) : gd b x = x := if_pos h
def ix (i : Int32) (n : Nat) : Bool := decide (0 ≤ i) && decide (i.toNatClampNeg < n)
theorem ix_in {i : Int32} {n : Nat} (h : ix i n = true) : vp_in i n := by
  simp only [ix, Bool.and_eq_true, decide_eq_true_eq] at h
  rintro (q | q)
  · have h1 := Int32.le_iff_toInt_le.mp h.1
    have h2 := Int32.lt_iff_toInt_lt.mp q
    omega
  · omega
def zb (v : Int32) : Bool := v == 0 || v == 1
theorem zb_nar {v : Int32} (h : zb v = true) : narrow .boolean (.int v) = .int v := by
  simp only [zb, Bool.or_eq_true, beq_iff_eq] at h
  rcases h with rfl | rfl <;> decide +kernel
def se {α β γ : Type} (f : α → Sg → γ) (g : β → Sg → γ) (t : α ⊕ β) (S : Sg) : γ := match t with
  | .inl a => f a S
  | .inr b => g b S
theorem se_l {α β γ : Type} {f : α → Sg → γ} {g : β → Sg → γ} {a : α} {S : Sg} : se f g (.inl a) S = f a S := rfl
theorem se_r {α β γ : Type} {f : α → Sg → γ} {g : β → Sg → γ} {a : β} {S : Sg} : se f g (.inr a) S = g a S := rfl
def kz {ρ : Type} : ρ → Sg → Option (ρ × Sg) := fun r S => some (r, S)
theorem bd_kz {ρ : Type} (x : Option (ρ × Sg)) : bd x kz = x := by
  cases x with
  | none => rfl
  | some q => rfl
/-- where a method runs: program, launch, env, room, state, method, arguments, frames below, method, code -/
abbrev Mc : Type := Program × Launch × Env × Room × State × MethodId × Array Value × List Frame × Method × Code
def tysG (G : Gd) : List (ClassId × FieldType) := [(G.2.2.1, .int), (G.2.2.2.1, .boolean), (G.2.2.2.2, .object "BoardRemembers$Sheet")]
def Wd (L : List Shp) (G : Gd) (S : Sg) (U : State) : Prop := va_P G.1 vwCl (wl L G S) U.heap ∧ va_K G.1 vwCl (tysG G) U
def rmD (d : Nat) : Room := { frames := d, cells := 0, slots := 0, locals := 40 * d }
def Qz (L : List Shp) (G : Gd) {ρ : Type} (ret : ρ → Option Value) (r : ρ) (S' : Sg) : Array Value → State → Outcome → State → Prop := fun _ st oc t => (oc = .returned (ret r) ∧ Wd L G S' t) ∧ va_F (Ar L G) st t
/-- the contract of a method: it answers and leaves what the pure program says -/
def Ct (L : List Shp) (G : Gd) (l : Launch) {ρ : Type} (ret : ρ → Option Value) (y : MethodName) (b : ByteArray) (n : Nat) (rt : Option FieldType) (d : Nat) (av : List Value) (S : Sg) (o : Option (ρ × Sg)) : Prop :=
  ∀ (r : ρ) (S' : Sg), o = some (r, S') → Met l y (wsG y b n rt) (rmD d) (va_Pc av (fun U => Wd L G S U ∧ Ij L G ∧ nk U)) (Qz L G ret r S') 0 0 (Ar L G)
def Cx (L : List Shp) (G : Gd) (Z : Mc) (cc : ByteArray) (nL : Nat) (own : String) (rt : Option FieldType) (d : Nat) : Prop :=
  Z.1.tables.exec = Jvm.exec ∧ Z.2.2.2.2.2.2.2.2.2.code = cc ∧ Z.2.2.2.2.2.2.2.2.2.maxLocals = nL ∧ Z.2.2.2.2.1.vm.findClass own = some Z.2.2.2.2.2.1.cls ∧ (∀ w ∈ tbG, w.before Z.2.2.2.2.2.2.1 Z.2.2.2.2.1 = true) ∧ va_K G.1 vwCl (tysG G) Z.2.2.2.2.1 ∧ Z.2.2.2.2.2.2.2.2.1.locks = false ∧ Z.2.2.2.2.2.2.2.2.1.sig.returnType = rt ∧ Ij L G ∧ Z.2.2.2.1 = rmD d ∧ nk Z.2.2.2.2.1
abbrev Wz (Z : Mc) (H : Heap) (locs : List Loc) (Q : State → Prop) (g : JFrame) : Prop := W Z.1 Z.2.1 Z.2.2.1 Z.2.2.2.1 Z.2.2.2.2.1 Z.2.2.2.2.2.1 Z.2.2.2.2.2.2.1 Z.2.2.2.2.2.2.2.1 Z.2.2.2.2.2.2.2.2.1 Z.2.2.2.2.2.2.2.2.2 H locs 0 0 Q g
/-- from here, in world S, the code does what the pure program x, then K, says -/
def Go (L : List Shp) (G : Gd) (Z : Mc) (nL : Nat) {ρ τ : Type} (ret : ρ → Option Value) (pc : Nat) (lvs : List (Nat × Value)) (st : List Value) (S : Sg) (x : Option (τ × Sg)) (K : τ → Sg → Option (ρ × Sg)) : Prop :=
  ∀ (r : ρ) (S' : Sg), bd x K = some (r, S') → ∀ (H : Heap) (locs : List Loc) (ls : Array Slot), lv_has ls nL lvs → va_P G.1 vwCl (wl L G S) H → va_S (Ar L G) Z.2.2.2.2.1.heap H locs →
    Wz Z H locs (MQ Z.2.2.2.2.2.2.2.1 (Qz L G ret r S') Z.2.2.2.2.2.2.1 Z.2.2.2.2.1 0 0 (Ar L G)) (F0 Z.2.2.2.2.2.1 pc ls st)
def rI : Int32 → Option Value := fun v => some (.int v)
def rL : Int64 → Option Value := fun v => some (.long v)
def rV : Unit → Option Value := fun _ => none
def rR (G : Gd) : Nat → Option Value := fun a => some (.ref (G.2.1 a))
theorem Ct.of {L : List Shp} {G : Gd} {l : Launch} {ρ : Type} {ret : ρ → Option Value} {y : MethodName} {b : ByteArray} {n : Nat} {rt : Option FieldType} {d : Nat} {av : List Value} {S : Sg} {o : Option (ρ × Sg)} (hy : plainName y.cls = true) (hn : (lg_sl av).length ≤ n)
    (h : ∀ Z : Mc, Z.2.1 = l → Cx L G Z b n y.cls rt d → Go L G Z n ret 0 (lv_args 0 av) [] S o kz) : Ct L G l ret y b n rt d av S o := by
  intro r S' ho
  refine Met.ofW (cc := b) (maxL := n) (ret := rt) hy rfl ?_
  intro p e s m args below meth c s₁ B hml hv
  obtain ⟨rfl, ⟨hP, hK⟩, hj, hnk⟩ := hv
  have hts := atoms_spec (ws := wsG y b n rt) B.pre
  have hown : s.vm.findClass y.cls = some m.cls := findClass_of_methodNamed B.named
  have hl := lv_entry av (n := n) hn
  rw [lg_entry_eq]
  exact h (p, l, e, (headSpec (wsG y b n rt) (rmD d)).room, s, m, av.toArray, below, meth, c) rfl ⟨B.exec, B.bytes, hml, hown, fun w hw => hts w (List.mem_cons_of_mem _ hw), hK, B.notSynchronized, B.returns, hj, rfl, hnk⟩ r S' (by rw [bd_kz]; exact ho) s.heap [] _ hl hP va_S.rf
section GO
variable {L : List Shp} {G : Gd} {Z : Mc} {cc : ByteArray} {nL : Nat} {own : String} {rt : Option FieldType} {d : Nat} {ρ τ : Type} {ret : ρ → Option Value} {pc : Nat} {lvs : List (Nat × Value)} {st : List Value} {S : Sg} {x : Option (τ × Sg)} {K : τ → Sg → Option (ρ × Sg)}
theorem g_none : Go L G Z nL ret pc lvs st S (none : Option (τ × Sg)) K := fun r S' ho => by cases ho
theorem g_sub {lvs' : List (Nat × Value)} (ks : List Nat) (h : lv_pick lvs ks = lvs') (k : Go L G Z nL ret pc lvs' st S x K) : Go L G Z nL ret pc lvs st S x K :=
  fun r S' ho H locs ls hl hP hS => k r S' ho H locs ls (lv_sub hl ks h) hP hS
theorem g_join {σ : Type} {y : Option (σ × Sg)} {f : σ → Sg → Option (τ × Sg)} (k : Go L G Z nL ret pc lvs st S y (fun t S1 => bd (f t S1) K)) : Go L G Z nL ret pc lvs st S (bd y f) K := by
  intro r S' ho
  refine k r S' ?_
  rw [← ho]
  cases y with
  | none => rfl
  | some q => rfl
/-- an arm's end: what stands behind the join -/
theorem g_end {σ : Type} {t : σ} {f : σ → Sg → Option (τ × Sg)} (k : Go L G Z nL ret pc lvs st S (f t S) K) : Go L G Z nL ret pc lvs st S (some (t, S)) (fun t S1 => bd (f t S1) K) := k

theorem g_iconst (pc2 : Nat) (X : Cx L G Z cc nL own rt d) {n : Int} {v : Int32} (hd : decode cc pc = .ok (.iconst n, 1)) (hp : pc + 1 = pc2) (hv : Int32.ofInt n = v) (k : Go L G Z nL ret pc2 lvs (.int v :: st) S x K) : Go L G Z nL ret pc lvs st S x K := by
  subst hp
  exact fun r S' ho H locs ls hl hP hS => lv_iconst X.1 X.2.1 hd hv (k r S' ho H locs ls hl hP hS)
theorem g_bipush (pc2 : Nat) (X : Cx L G Z cc nL own rt d) {n : Int} {v : Int32} (hd : decode cc pc = .ok (.bipush n, 2)) (hp : pc + 2 = pc2) (hv : (Int8.ofInt n).toInt32 = v) (k : Go L G Z nL ret pc2 lvs (.int v :: st) S x K) : Go L G Z nL ret pc lvs st S x K := by
  subst hp
  exact fun r S' ho H locs ls hl hP hS => lv_bipush X.1 X.2.1 hd hv (k r S' ho H locs ls hl hP hS)
theorem g_sipush (pc2 : Nat) (X : Cx L G Z cc nL own rt d) {n : Int} {v : Int32} (hd : decode cc pc = .ok (.sipush n, 3)) (hp : pc + 3 = pc2) (hv : (Int16.ofInt n).toInt32 = v) (k : Go L G Z nL ret pc2 lvs (.int v :: st) S x K) : Go L G Z nL ret pc lvs st S x K := by
  subst hp
  exact fun r S' ho H locs ls hl hP hS => lv_sipush X.1 X.2.1 hd hv (k r S' ho H locs ls hl hP hS)
theorem g_lconst (pc2 : Nat) (X : Cx L G Z cc nL own rt d) {n : Fin 2} {v : Int64} (hd : decode cc pc = .ok (.lconst n, 1)) (hp : pc + 1 = pc2) (hv : Int64.ofNat (n : Nat) = v) (k : Go L G Z nL ret pc2 lvs (.long v :: st) S x K) : Go L G Z nL ret pc lvs st S x K := by
  subst hp
  exact fun r S' ho H locs ls hl hP hS => lv_lconst X.1 X.2.1 hd hv (k r S' ho H locs ls hl hP hS)
theorem g_ldc (pc2 : Nat) (X : Cx L G Z cc nL own rt d) {n : Nat} {v : Int32} (hd : decode cc pc = .ok (.ldc n, 2)) (hp : pc + 2 = pc2) (hv : Cond.constant own n v ∈ tbG) (k : Go L G Z nL ret pc2 lvs (.int v :: st) S x K) : Go L G Z nL ret pc lvs st S x K := by
  subst hp
  exact fun r S' ho H locs ls hl hP hS => lv_ldc X.1 X.2.1 X.2.2.2.1 (X.2.2.2.2.1 _ hv) hd (k r S' ho H locs ls hl hP hS)
theorem g_ldcw (pc2 : Nat) (X : Cx L G Z cc nL own rt d) {n : Nat} {v : Int32} (hd : decode cc pc = .ok (.ldc_w n, 3)) (hp : pc + 3 = pc2) (hv : Cond.constant own n v ∈ tbG) (k : Go L G Z nL ret pc2 lvs (.int v :: st) S x K) : Go L G Z nL ret pc lvs st S x K := by
  subst hp
  exact fun r S' ho H locs ls hl hP hS => lv_ldcw X.1 X.2.1 X.2.2.2.1 (X.2.2.2.2.1 _ hv) hd (k r S' ho H locs ls hl hP hS)
theorem g_ldc2 (pc2 : Nat) (X : Cx L G Z cc nL own rt d) {n : Nat} {v : Int64} (hd : decode cc pc = .ok (.ldc2_w n, 3)) (hp : pc + 3 = pc2) (hv : Cond.constantLong own n v ∈ tbG) (k : Go L G Z nL ret pc2 lvs (.long v :: st) S x K) : Go L G Z nL ret pc lvs st S x K := by
  subst hp
  exact fun r S' ho H locs ls hl hP hS => lv_ldc2 X.1 X.2.1 X.2.2.2.1 (X.2.2.2.2.1 _ hv) hd (k r S' ho H locs ls hl hP hS)
theorem g_iload_n (pc2 : Nat) (X : Cx L G Z cc nL own rt d) {k : Fin 4} {i : Nat} (q : Nat) {v : Int32} (hd : decode cc pc = .ok (.iload_n k, 1)) (hp : pc + 1 = pc2) (hi : (k : Nat) = i) (hv : lvs[q]? = some (i, .int v)) (k : Go L G Z nL ret pc2 lvs (.int v :: st) S x K) : Go L G Z nL ret pc lvs st S x K := by
  subst hp
  exact fun r S' ho H locs ls hl hP hS => lv_iload_n X.1 X.2.1 hd hi (lv_at hl q hv) (k r S' ho H locs ls hl hP hS)
theorem g_iload (pc2 : Nat) (X : Cx L G Z cc nL own rt d) {i : Nat} (q : Nat) {v : Int32} (hd : decode cc pc = .ok (.iload i, 2)) (hp : pc + 2 = pc2) (hv : lvs[q]? = some (i, .int v)) (k : Go L G Z nL ret pc2 lvs (.int v :: st) S x K) : Go L G Z nL ret pc lvs st S x K := by
  subst hp
  exact fun r S' ho H locs ls hl hP hS => lv_iload X.1 X.2.1 hd (lv_at hl q hv) (k r S' ho H locs ls hl hP hS)
theorem g_lload_n (pc2 : Nat) (X : Cx L G Z cc nL own rt d) {k : Fin 4} {i : Nat} (q : Nat) {v : Int64} (hd : decode cc pc = .ok (.lload_n k, 1)) (hp : pc + 1 = pc2) (hi : (k : Nat) = i) (hv : lvs[q]? = some (i, .long v)) (k : Go L G Z nL ret pc2 lvs (.long v :: st) S x K) : Go L G Z nL ret pc lvs st S x K := by
  subst hp
  exact fun r S' ho H locs ls hl hP hS => lv_lload_n X.1 X.2.1 hd hi (lv_at hl q hv) (k r S' ho H locs ls hl hP hS)
theorem g_lload (pc2 : Nat) (X : Cx L G Z cc nL own rt d) {i : Nat} (q : Nat) {v : Int64} (hd : decode cc pc = .ok (.lload i, 2)) (hp : pc + 2 = pc2) (hv : lvs[q]? = some (i, .long v)) (k : Go L G Z nL ret pc2 lvs (.long v :: st) S x K) : Go L G Z nL ret pc lvs st S x K := by
  subst hp
  exact fun r S' ho H locs ls hl hP hS => lv_lload X.1 X.2.1 hd (lv_at hl q hv) (k r S' ho H locs ls hl hP hS)
theorem g_aload_n (pc2 : Nat) (X : Cx L G Z cc nL own rt d) {k : Fin 4} {i : Nat} (q : Nat) {v : Nat} (hd : decode cc pc = .ok (.aload_n k, 1)) (hp : pc + 1 = pc2) (hi : (k : Nat) = i) (hv : lvs[q]? = some (i, .ref v)) (k : Go L G Z nL ret pc2 lvs (.ref v :: st) S x K) : Go L G Z nL ret pc lvs st S x K := by
  subst hp
  exact fun r S' ho H locs ls hl hP hS => lv_aload_n X.1 X.2.1 hd hi (lv_at hl q hv) (k r S' ho H locs ls hl hP hS)
theorem g_aload (pc2 : Nat) (X : Cx L G Z cc nL own rt d) {i : Nat} (q : Nat) {v : Nat} (hd : decode cc pc = .ok (.aload i, 2)) (hp : pc + 2 = pc2) (hv : lvs[q]? = some (i, .ref v)) (k : Go L G Z nL ret pc2 lvs (.ref v :: st) S x K) : Go L G Z nL ret pc lvs st S x K := by
  subst hp
  exact fun r S' ho H locs ls hl hP hS => lv_aload X.1 X.2.1 hd (lv_at hl q hv) (k r S' ho H locs ls hl hP hS)
theorem g_istore_n (pc2 : Nat) (X : Cx L G Z cc nL own rt d) {k : Fin 4} {i : Nat} (lvs2 : List (Nat × Value)) {v : Int32} (hd : decode cc pc = .ok (.istore_n k, 1)) (hp : pc + 1 = pc2) (hi : (k : Nat) = i) (hn : i < nL) (hl : (i, .int v) :: lvs.filter (fun q => !(q.1 == i) && !(q.1 + 1 == i && q.2.category == 2)) = lvs2) (k : Go L G Z nL ret pc2 lvs2 st S x K) : Go L G Z nL ret pc lvs (.int v :: st) S x K := by
  subst hp
  exact fun r S' ho H locs ls hls hP hS => lv_istore_n X.1 X.2.1 hd hi hls hn hl (fun ls' hls' => k r S' ho H locs ls' hls' hP hS)
theorem g_istore (pc2 : Nat) (X : Cx L G Z cc nL own rt d) {i : Nat} (lvs2 : List (Nat × Value)) {v : Int32} (hd : decode cc pc = .ok (.istore i, 2)) (hp : pc + 2 = pc2) (hn : i < nL) (hl : (i, .int v) :: lvs.filter (fun q => !(q.1 == i) && !(q.1 + 1 == i && q.2.category == 2)) = lvs2) (k : Go L G Z nL ret pc2 lvs2 st S x K) : Go L G Z nL ret pc lvs (.int v :: st) S x K := by
  subst hp
  exact fun r S' ho H locs ls hls hP hS => lv_istore X.1 X.2.1 hd hls hn hl (fun ls' hls' => k r S' ho H locs ls' hls' hP hS)
theorem g_astore_n (pc2 : Nat) (X : Cx L G Z cc nL own rt d) {k : Fin 4} {i : Nat} (lvs2 : List (Nat × Value)) {v : Nat} (hd : decode cc pc = .ok (.astore_n k, 1)) (hp : pc + 1 = pc2) (hi : (k : Nat) = i) (hn : i < nL) (hl : (i, .ref v) :: lvs.filter (fun q => !(q.1 == i) && !(q.1 + 1 == i && q.2.category == 2)) = lvs2) (k : Go L G Z nL ret pc2 lvs2 st S x K) : Go L G Z nL ret pc lvs (.ref v :: st) S x K := by
  subst hp
  exact fun r S' ho H locs ls hls hP hS => lv_astore_n X.1 X.2.1 hd hi hls hn hl (fun ls' hls' => k r S' ho H locs ls' hls' hP hS)
theorem g_astore (pc2 : Nat) (X : Cx L G Z cc nL own rt d) {i : Nat} (lvs2 : List (Nat × Value)) {v : Nat} (hd : decode cc pc = .ok (.astore i, 2)) (hp : pc + 2 = pc2) (hn : i < nL) (hl : (i, .ref v) :: lvs.filter (fun q => !(q.1 == i) && !(q.1 + 1 == i && q.2.category == 2)) = lvs2) (k : Go L G Z nL ret pc2 lvs2 st S x K) : Go L G Z nL ret pc lvs (.ref v :: st) S x K := by
  subst hp
  exact fun r S' ho H locs ls hls hP hS => lv_astore X.1 X.2.1 hd hls hn hl (fun ls' hls' => k r S' ho H locs ls' hls' hP hS)
theorem g_lstore_n (pc2 : Nat) (X : Cx L G Z cc nL own rt d) {k : Fin 4} {i : Nat} (lvs2 : List (Nat × Value)) {v : Int64} (hd : decode cc pc = .ok (.lstore_n k, 1)) (hp : pc + 1 = pc2) (hi : (k : Nat) = i) (hn : i + 1 < nL) (hl : (i, .long v) :: lvs.filter (fun q => !(q.1 == i) && (!(q.1 == i + 1) && !(q.1 + 1 == i && q.2.category == 2))) = lvs2) (k : Go L G Z nL ret pc2 lvs2 st S x K) : Go L G Z nL ret pc lvs (.long v :: st) S x K := by
  subst hp
  exact fun r S' ho H locs ls hls hP hS => lv_lstore_n X.1 X.2.1 hd hi hls hn hl (fun ls' hls' => k r S' ho H locs ls' hls' hP hS)
theorem g_lstore (pc2 : Nat) (X : Cx L G Z cc nL own rt d) {i : Nat} (lvs2 : List (Nat × Value)) {v : Int64} (hd : decode cc pc = .ok (.lstore i, 2)) (hp : pc + 2 = pc2) (hn : i + 1 < nL) (hl : (i, .long v) :: lvs.filter (fun q => !(q.1 == i) && (!(q.1 == i + 1) && !(q.1 + 1 == i && q.2.category == 2))) = lvs2) (k : Go L G Z nL ret pc2 lvs2 st S x K) : Go L G Z nL ret pc lvs (.long v :: st) S x K := by
  subst hp
  exact fun r S' ho H locs ls hls hP hS => lv_lstore X.1 X.2.1 hd hls hn hl (fun ls' hls' => k r S' ho H locs ls' hls' hP hS)
theorem g_iinc (pc2 : Nat) (X : Cx L G Z cc nL own rt d) {i : Nat} {n : Int} (q : Nat) (lvs2 : List (Nat × Value)) {u v : Int32} (hd : decode cc pc = .ok (.iinc i n, 3)) (hp : pc + 3 = pc2) (hq : lvs[q]? = some (i, .int u)) (hv : u + Int32.ofInt n = v) (hn : i < nL) (hl : (i, Value.int v) :: lvs.filter (fun q => !(q.1 == i) && !(q.1 + 1 == i && q.2.category == 2)) = lvs2) (k : Go L G Z nL ret pc2 lvs2 st S x K) : Go L G Z nL ret pc lvs st S x K := by
  subst hp
  exact fun r S' ho H locs ls hls hP hS => lv_iinc X.1 X.2.1 hd hls hq hv hn hl (fun ls' hls' => k r S' ho H locs ls' hls' hP hS)
theorem g_iadd (pc2 : Nat) (X : Cx L G Z cc nL own rt d) {u v : Int32} (hd : decode cc pc = .ok (.iadd, 1)) (hp : pc + 1 = pc2) (k : Go L G Z nL ret pc2 lvs (.int (u + v) :: st) S x K) : Go L G Z nL ret pc lvs (.int v :: .int u :: st) S x K := by
  subst hp
  exact fun r S' ho H locs ls hl hP hS => lv_iadd X.1 X.2.1 hd (k r S' ho H locs ls hl hP hS)
theorem g_isub (pc2 : Nat) (X : Cx L G Z cc nL own rt d) {u v : Int32} (hd : decode cc pc = .ok (.isub, 1)) (hp : pc + 1 = pc2) (k : Go L G Z nL ret pc2 lvs (.int (u - v) :: st) S x K) : Go L G Z nL ret pc lvs (.int v :: .int u :: st) S x K := by
  subst hp
  exact fun r S' ho H locs ls hl hP hS => lv_isub X.1 X.2.1 hd (k r S' ho H locs ls hl hP hS)
theorem g_imul (pc2 : Nat) (X : Cx L G Z cc nL own rt d) {u v : Int32} (hd : decode cc pc = .ok (.imul, 1)) (hp : pc + 1 = pc2) (k : Go L G Z nL ret pc2 lvs (.int (u * v) :: st) S x K) : Go L G Z nL ret pc lvs (.int v :: .int u :: st) S x K := by
  subst hp
  exact fun r S' ho H locs ls hl hP hS => lv_imul X.1 X.2.1 hd (k r S' ho H locs ls hl hP hS)
theorem g_iand (pc2 : Nat) (X : Cx L G Z cc nL own rt d) {u v : Int32} (hd : decode cc pc = .ok (.iand, 1)) (hp : pc + 1 = pc2) (k : Go L G Z nL ret pc2 lvs (.int (u &&& v) :: st) S x K) : Go L G Z nL ret pc lvs (.int v :: .int u :: st) S x K := by
  subst hp
  exact fun r S' ho H locs ls hl hP hS => lv_iand X.1 X.2.1 hd (k r S' ho H locs ls hl hP hS)
theorem g_ior (pc2 : Nat) (X : Cx L G Z cc nL own rt d) {u v : Int32} (hd : decode cc pc = .ok (.ior, 1)) (hp : pc + 1 = pc2) (k : Go L G Z nL ret pc2 lvs (.int (u ||| v) :: st) S x K) : Go L G Z nL ret pc lvs (.int v :: .int u :: st) S x K := by
  subst hp
  exact fun r S' ho H locs ls hl hP hS => lv_ior X.1 X.2.1 hd (k r S' ho H locs ls hl hP hS)
theorem g_ixor (pc2 : Nat) (X : Cx L G Z cc nL own rt d) {u v : Int32} (hd : decode cc pc = .ok (.ixor, 1)) (hp : pc + 1 = pc2) (k : Go L G Z nL ret pc2 lvs (.int (u ^^^ v) :: st) S x K) : Go L G Z nL ret pc lvs (.int v :: .int u :: st) S x K := by
  subst hp
  exact fun r S' ho H locs ls hl hP hS => lv_ixor X.1 X.2.1 hd (k r S' ho H locs ls hl hP hS)
theorem g_idiv (pc2 : Nat) (X : Cx L G Z cc nL own rt d) {u v : Int32} (hd : decode cc pc = .ok (.idiv, 1)) (hp : pc + 1 = pc2) (hne : ¬ v = 0) (k : Go L G Z nL ret pc2 lvs (.int (u / v) :: st) S x K) : Go L G Z nL ret pc lvs (.int v :: .int u :: st) S x K := by
  subst hp
  exact fun r S' ho H locs ls hl hP hS => lv_idiv X.1 X.2.1 hd hne (k r S' ho H locs ls hl hP hS)
theorem g_irem (pc2 : Nat) (X : Cx L G Z cc nL own rt d) {u v : Int32} (hd : decode cc pc = .ok (.irem, 1)) (hp : pc + 1 = pc2) (hne : ¬ v = 0) (k : Go L G Z nL ret pc2 lvs (.int (u - u / v * v) :: st) S x K) : Go L G Z nL ret pc lvs (.int v :: .int u :: st) S x K := by
  subst hp
  exact fun r S' ho H locs ls hl hP hS => lv_irem X.1 X.2.1 hd hne (k r S' ho H locs ls hl hP hS)
theorem g_ishl (pc2 : Nat) (X : Cx L G Z cc nL own rt d) {u v : Int32} (hd : decode cc pc = .ok (.ishl, 1)) (hp : pc + 1 = pc2) (k : Go L G Z nL ret pc2 lvs (.int (u <<< (v &&& 31)) :: st) S x K) : Go L G Z nL ret pc lvs (.int v :: .int u :: st) S x K := by
  subst hp
  exact fun r S' ho H locs ls hl hP hS => lv_ishl X.1 X.2.1 hd (k r S' ho H locs ls hl hP hS)
theorem g_ishr (pc2 : Nat) (X : Cx L G Z cc nL own rt d) {u v : Int32} (hd : decode cc pc = .ok (.ishr, 1)) (hp : pc + 1 = pc2) (k : Go L G Z nL ret pc2 lvs (.int (u >>> (v &&& 31)) :: st) S x K) : Go L G Z nL ret pc lvs (.int v :: .int u :: st) S x K := by
  subst hp
  exact fun r S' ho H locs ls hl hP hS => lv_ishr X.1 X.2.1 hd (k r S' ho H locs ls hl hP hS)
def ush (u v : Int32) : Int32 := (u.toUInt32 >>> (v.toUInt32 &&& Int32.toUInt32 31)).toInt32
theorem g_iushr (pc2 : Nat) (X : Cx L G Z cc nL own rt d) {u v : Int32} (hd : decode cc pc = .ok (.iushr, 1)) (hp : pc + 1 = pc2) (k : Go L G Z nL ret pc2 lvs (.int (ush u v) :: st) S x K) : Go L G Z nL ret pc lvs (.int v :: .int u :: st) S x K := by
  subst hp
  exact fun r S' ho H locs ls hl hP hS => lv_iushr X.1 X.2.1 hd rfl (k r S' ho H locs ls hl hP hS)
theorem g_ladd (pc2 : Nat) (X : Cx L G Z cc nL own rt d) {u v : Int64} (hd : decode cc pc = .ok (.ladd, 1)) (hp : pc + 1 = pc2) (k : Go L G Z nL ret pc2 lvs (.long (u + v) :: st) S x K) : Go L G Z nL ret pc lvs (.long v :: .long u :: st) S x K := by
  subst hp
  exact fun r S' ho H locs ls hl hP hS => lv_ladd X.1 X.2.1 hd (k r S' ho H locs ls hl hP hS)
theorem g_lsub (pc2 : Nat) (X : Cx L G Z cc nL own rt d) {u v : Int64} (hd : decode cc pc = .ok (.lsub, 1)) (hp : pc + 1 = pc2) (k : Go L G Z nL ret pc2 lvs (.long (u - v) :: st) S x K) : Go L G Z nL ret pc lvs (.long v :: .long u :: st) S x K := by
  subst hp
  exact fun r S' ho H locs ls hl hP hS => lv_lsub X.1 X.2.1 hd (k r S' ho H locs ls hl hP hS)
theorem g_lmul (pc2 : Nat) (X : Cx L G Z cc nL own rt d) {u v : Int64} (hd : decode cc pc = .ok (.lmul, 1)) (hp : pc + 1 = pc2) (k : Go L G Z nL ret pc2 lvs (.long (u * v) :: st) S x K) : Go L G Z nL ret pc lvs (.long v :: .long u :: st) S x K := by
  subst hp
  exact fun r S' ho H locs ls hl hP hS => lv_lmul X.1 X.2.1 hd (k r S' ho H locs ls hl hP hS)
theorem g_land (pc2 : Nat) (X : Cx L G Z cc nL own rt d) {u v : Int64} (hd : decode cc pc = .ok (.land, 1)) (hp : pc + 1 = pc2) (k : Go L G Z nL ret pc2 lvs (.long (u &&& v) :: st) S x K) : Go L G Z nL ret pc lvs (.long v :: .long u :: st) S x K := by
  subst hp
  exact fun r S' ho H locs ls hl hP hS => lv_land X.1 X.2.1 hd (k r S' ho H locs ls hl hP hS)
theorem g_lshl (pc2 : Nat) (X : Cx L G Z cc nL own rt d) {u : Int64} {v : Int32} (hd : decode cc pc = .ok (.lshl, 1)) (hp : pc + 1 = pc2) (k : Go L G Z nL ret pc2 lvs (.long (u <<< (v.toInt64 &&& 63)) :: st) S x K) : Go L G Z nL ret pc lvs (.int v :: .long u :: st) S x K := by
  subst hp
  exact fun r S' ho H locs ls hl hP hS => lv_lshl X.1 X.2.1 hd rfl (k r S' ho H locs ls hl hP hS)
theorem g_lshr (pc2 : Nat) (X : Cx L G Z cc nL own rt d) {u : Int64} {v : Int32} (hd : decode cc pc = .ok (.lshr, 1)) (hp : pc + 1 = pc2) (k : Go L G Z nL ret pc2 lvs (.long (u >>> (v.toInt64 &&& 63)) :: st) S x K) : Go L G Z nL ret pc lvs (.int v :: .long u :: st) S x K := by
  subst hp
  exact fun r S' ho H locs ls hl hP hS => lv_lshr X.1 X.2.1 hd rfl (k r S' ho H locs ls hl hP hS)
theorem g_i2l (pc2 : Nat) (X : Cx L G Z cc nL own rt d) {u : Int32} (hd : decode cc pc = .ok (.i2l, 1)) (hp : pc + 1 = pc2) (k : Go L G Z nL ret pc2 lvs (.long u.toInt64 :: st) S x K) : Go L G Z nL ret pc lvs (.int u :: st) S x K := by
  subst hp
  exact fun r S' ho H locs ls hl hP hS => lv_i2l X.1 X.2.1 hd rfl (k r S' ho H locs ls hl hP hS)
theorem g_i2b (pc2 : Nat) (X : Cx L G Z cc nL own rt d) {u : Int32} (hd : decode cc pc = .ok (.i2b, 1)) (hp : pc + 1 = pc2) (k : Go L G Z nL ret pc2 lvs (.int u.toInt8.toInt32 :: st) S x K) : Go L G Z nL ret pc lvs (.int u :: st) S x K := by
  subst hp
  exact fun r S' ho H locs ls hl hP hS => lv_i2b X.1 X.2.1 hd rfl (k r S' ho H locs ls hl hP hS)
theorem g_i2s (pc2 : Nat) (X : Cx L G Z cc nL own rt d) {u : Int32} (hd : decode cc pc = .ok (.i2s, 1)) (hp : pc + 1 = pc2) (k : Go L G Z nL ret pc2 lvs (.int u.toInt16.toInt32 :: st) S x K) : Go L G Z nL ret pc lvs (.int u :: st) S x K := by
  subst hp
  exact fun r S' ho H locs ls hl hP hS => lv_i2s X.1 X.2.1 hd rfl (k r S' ho H locs ls hl hP hS)
theorem g_lcmp (pc2 : Nat) (X : Cx L G Z cc nL own rt d) {u v : Int64} (hd : decode cc pc = .ok (.lcmp, 1)) (hp : pc + 1 = pc2) (k : Go L G Z nL ret pc2 lvs (.int (lg_cmp u v) :: st) S x K) : Go L G Z nL ret pc lvs (.long v :: .long u :: st) S x K := by
  subst hp
  exact fun r S' ho H locs ls hl hP hS => W.lcmp X.1 X.2.1 hd (k r S' ho H locs ls hl hP hS)
theorem g_dup (pc2 : Nat) (X : Cx L G Z cc nL own rt d) {v : Value} (hd : decode cc pc = .ok (.dup, 1)) (hp : pc + 1 = pc2) (hc : v.category = 1) (k : Go L G Z nL ret pc2 lvs (v :: v :: st) S x K) : Go L G Z nL ret pc lvs (v :: st) S x K := by
  subst hp
  exact fun r S' ho H locs ls hl hP hS => lv_dup X.1 X.2.1 hd hc (k r S' ho H locs ls hl hP hS)
theorem g_pop (pc2 : Nat) (X : Cx L G Z cc nL own rt d) {v : Value} (hd : decode cc pc = .ok (.pop, 1)) (hp : pc + 1 = pc2) (hc : v.category = 1) (k : Go L G Z nL ret pc2 lvs st S x K) : Go L G Z nL ret pc lvs (v :: st) S x K := by
  subst hp
  exact fun r S' ho H locs ls hl hP hS => lv_pop X.1 X.2.1 hd hc (k r S' ho H locs ls hl hP hS)
theorem g_dup2 (pc2 : Nat) (X : Cx L G Z cc nL own rt d) {u v : Value} (hd : decode cc pc = .ok (.dup2, 1)) (hp : pc + 1 = pc2) (hc : u.category = 1) (hc2 : v.category = 1) (k : Go L G Z nL ret pc2 lvs (u :: v :: u :: v :: st) S x K) : Go L G Z nL ret pc lvs (u :: v :: st) S x K := by
  subst hp
  exact fun r S' ho H locs ls hl hP hS => lv_dup2_11 X.1 X.2.1 hd hc hc2 (k r S' ho H locs ls hl hP hS)
theorem g_goto (pc2 : Nat) (X : Cx L G Z cc nL own rt d) {off : Int} (hd : decode cc pc = .ok (.goto off, 3)) (ht : (pc : Int) + off = (pc2 : Int)) (k : Go L G Z nL ret pc2 lvs st S x K) : Go L G Z nL ret pc lvs st S x K :=
  fun r S' ho H locs ls hl hP hS => lv_goto X.1 X.2.1 hd ht (k r S' ho H locs ls hl hP hS)
theorem bd_if {σ : Type} {c : Prop} [hc : Decidable c] {y z : Option (τ × Sg)} {f : τ → Sg → Option σ} : bd (if c then y else z) f = if c then bd y f else bd z f := by
  by_cases h : c
  · rw [if_pos h, if_pos h]
  · rw [if_neg h, if_neg h]
theorem g_if_eq (pc2 pc3 : Nat) (X : Cx L G Z cc nL own rt d) {u : Int32} {off : Int} {y z : Option (τ × Sg)} (hd : decode cc pc = .ok (.ifCond .eq off, 3)) (ht : (pc : Int) + off = (pc2 : Int)) (hp : pc + 3 = pc3) (k : u = 0 → Go L G Z nL ret pc2 lvs st S y K) (k' : ¬ (u = 0) → Go L G Z nL ret pc3 lvs st S z K) : Go L G Z nL ret pc lvs (.int u :: st) S (if u = 0 then y else z) K := by
  subst hp
  intro r S' ho H locs ls hl hP hS
  rw [bd_if] at ho
  refine lv_if_eq X.1 X.2.1 hd ht (fun h => ?_) (fun h => ?_)
  · exact k h r S' (by rw [if_pos h] at ho; exact ho) H locs ls hl hP hS
  · exact k' h r S' (by rw [if_neg h] at ho; exact ho) H locs ls hl hP hS
theorem g_icmp_eq (pc2 pc3 : Nat) (X : Cx L G Z cc nL own rt d) {u v : Int32} {off : Int} {y z : Option (τ × Sg)} (hd : decode cc pc = .ok (.if_icmp .eq off, 3)) (ht : (pc : Int) + off = (pc2 : Int)) (hp : pc + 3 = pc3) (k : u = v → Go L G Z nL ret pc2 lvs st S y K) (k' : ¬ (u = v) → Go L G Z nL ret pc3 lvs st S z K) : Go L G Z nL ret pc lvs (.int v :: .int u :: st) S (if u = v then y else z) K := by
  subst hp
  intro r S' ho H locs ls hl hP hS
  rw [bd_if] at ho
  refine lv_icmp_eq X.1 X.2.1 hd ht (fun h => ?_) (fun h => ?_)
  · exact k h r S' (by rw [if_pos h] at ho; exact ho) H locs ls hl hP hS
  · exact k' h r S' (by rw [if_neg h] at ho; exact ho) H locs ls hl hP hS
theorem g_if_ne (pc2 pc3 : Nat) (X : Cx L G Z cc nL own rt d) {u : Int32} {off : Int} {y z : Option (τ × Sg)} (hd : decode cc pc = .ok (.ifCond .ne off, 3)) (ht : (pc : Int) + off = (pc2 : Int)) (hp : pc + 3 = pc3) (k : ¬ (u = 0) → Go L G Z nL ret pc2 lvs st S z K) (k' : u = 0 → Go L G Z nL ret pc3 lvs st S y K) : Go L G Z nL ret pc lvs (.int u :: st) S (if u = 0 then y else z) K := by
  subst hp
  intro r S' ho H locs ls hl hP hS
  rw [bd_if] at ho
  refine lv_if_ne X.1 X.2.1 hd ht (fun h => ?_) (fun h => ?_)
  · exact k h r S' (by rw [if_neg h] at ho; exact ho) H locs ls hl hP hS
  · exact k' (Decidable.not_not.mp (fun q => absurd h q)) r S' (by rw [if_pos (Decidable.not_not.mp (fun q => absurd h q))] at ho; exact ho) H locs ls hl hP hS
theorem g_icmp_ne (pc2 pc3 : Nat) (X : Cx L G Z cc nL own rt d) {u v : Int32} {off : Int} {y z : Option (τ × Sg)} (hd : decode cc pc = .ok (.if_icmp .ne off, 3)) (ht : (pc : Int) + off = (pc2 : Int)) (hp : pc + 3 = pc3) (k : ¬ (u = v) → Go L G Z nL ret pc2 lvs st S z K) (k' : u = v → Go L G Z nL ret pc3 lvs st S y K) : Go L G Z nL ret pc lvs (.int v :: .int u :: st) S (if u = v then y else z) K := by
  subst hp
  intro r S' ho H locs ls hl hP hS
  rw [bd_if] at ho
  refine lv_icmp_ne X.1 X.2.1 hd ht (fun h => ?_) (fun h => ?_)
  · exact k h r S' (by rw [if_neg h] at ho; exact ho) H locs ls hl hP hS
  · exact k' (Decidable.not_not.mp (fun q => absurd h q)) r S' (by rw [if_pos (Decidable.not_not.mp (fun q => absurd h q))] at ho; exact ho) H locs ls hl hP hS
theorem g_if_lt (pc2 pc3 : Nat) (X : Cx L G Z cc nL own rt d) {u : Int32} {off : Int} {y z : Option (τ × Sg)} (hd : decode cc pc = .ok (.ifCond .lt off, 3)) (ht : (pc : Int) + off = (pc2 : Int)) (hp : pc + 3 = pc3) (k : u < 0 → Go L G Z nL ret pc2 lvs st S y K) (k' : ¬ (u < 0) → Go L G Z nL ret pc3 lvs st S z K) : Go L G Z nL ret pc lvs (.int u :: st) S (if u < 0 then y else z) K := by
  subst hp
  intro r S' ho H locs ls hl hP hS
  rw [bd_if] at ho
  refine lv_if_lt X.1 X.2.1 hd ht (fun h => ?_) (fun h => ?_)
  · exact k h r S' (by rw [if_pos h] at ho; exact ho) H locs ls hl hP hS
  · exact k' h r S' (by rw [if_neg h] at ho; exact ho) H locs ls hl hP hS
theorem g_icmp_lt (pc2 pc3 : Nat) (X : Cx L G Z cc nL own rt d) {u v : Int32} {off : Int} {y z : Option (τ × Sg)} (hd : decode cc pc = .ok (.if_icmp .lt off, 3)) (ht : (pc : Int) + off = (pc2 : Int)) (hp : pc + 3 = pc3) (k : u < v → Go L G Z nL ret pc2 lvs st S y K) (k' : ¬ (u < v) → Go L G Z nL ret pc3 lvs st S z K) : Go L G Z nL ret pc lvs (.int v :: .int u :: st) S (if u < v then y else z) K := by
  subst hp
  intro r S' ho H locs ls hl hP hS
  rw [bd_if] at ho
  refine lv_icmp_lt X.1 X.2.1 hd ht (fun h => ?_) (fun h => ?_)
  · exact k h r S' (by rw [if_pos h] at ho; exact ho) H locs ls hl hP hS
  · exact k' h r S' (by rw [if_neg h] at ho; exact ho) H locs ls hl hP hS
theorem g_if_ge (pc2 pc3 : Nat) (X : Cx L G Z cc nL own rt d) {u : Int32} {off : Int} {y z : Option (τ × Sg)} (hd : decode cc pc = .ok (.ifCond .ge off, 3)) (ht : (pc : Int) + off = (pc2 : Int)) (hp : pc + 3 = pc3) (k : 0 ≤ u → Go L G Z nL ret pc2 lvs st S y K) (k' : ¬ (0 ≤ u) → Go L G Z nL ret pc3 lvs st S z K) : Go L G Z nL ret pc lvs (.int u :: st) S (if 0 ≤ u then y else z) K := by
  subst hp
  intro r S' ho H locs ls hl hP hS
  rw [bd_if] at ho
  refine lv_if_ge X.1 X.2.1 hd ht (fun h => ?_) (fun h => ?_)
  · exact k h r S' (by rw [if_pos h] at ho; exact ho) H locs ls hl hP hS
  · exact k' h r S' (by rw [if_neg h] at ho; exact ho) H locs ls hl hP hS
theorem g_icmp_ge (pc2 pc3 : Nat) (X : Cx L G Z cc nL own rt d) {u v : Int32} {off : Int} {y z : Option (τ × Sg)} (hd : decode cc pc = .ok (.if_icmp .ge off, 3)) (ht : (pc : Int) + off = (pc2 : Int)) (hp : pc + 3 = pc3) (k : v ≤ u → Go L G Z nL ret pc2 lvs st S y K) (k' : ¬ (v ≤ u) → Go L G Z nL ret pc3 lvs st S z K) : Go L G Z nL ret pc lvs (.int v :: .int u :: st) S (if v ≤ u then y else z) K := by
  subst hp
  intro r S' ho H locs ls hl hP hS
  rw [bd_if] at ho
  refine lv_icmp_ge X.1 X.2.1 hd ht (fun h => ?_) (fun h => ?_)
  · exact k h r S' (by rw [if_pos h] at ho; exact ho) H locs ls hl hP hS
  · exact k' h r S' (by rw [if_neg h] at ho; exact ho) H locs ls hl hP hS
theorem g_if_gt (pc2 pc3 : Nat) (X : Cx L G Z cc nL own rt d) {u : Int32} {off : Int} {y z : Option (τ × Sg)} (hd : decode cc pc = .ok (.ifCond .gt off, 3)) (ht : (pc : Int) + off = (pc2 : Int)) (hp : pc + 3 = pc3) (k : 0 < u → Go L G Z nL ret pc2 lvs st S y K) (k' : ¬ (0 < u) → Go L G Z nL ret pc3 lvs st S z K) : Go L G Z nL ret pc lvs (.int u :: st) S (if 0 < u then y else z) K := by
  subst hp
  intro r S' ho H locs ls hl hP hS
  rw [bd_if] at ho
  refine lv_if_gt X.1 X.2.1 hd ht (fun h => ?_) (fun h => ?_)
  · exact k h r S' (by rw [if_pos h] at ho; exact ho) H locs ls hl hP hS
  · exact k' h r S' (by rw [if_neg h] at ho; exact ho) H locs ls hl hP hS
theorem g_icmp_gt (pc2 pc3 : Nat) (X : Cx L G Z cc nL own rt d) {u v : Int32} {off : Int} {y z : Option (τ × Sg)} (hd : decode cc pc = .ok (.if_icmp .gt off, 3)) (ht : (pc : Int) + off = (pc2 : Int)) (hp : pc + 3 = pc3) (k : v < u → Go L G Z nL ret pc2 lvs st S y K) (k' : ¬ (v < u) → Go L G Z nL ret pc3 lvs st S z K) : Go L G Z nL ret pc lvs (.int v :: .int u :: st) S (if v < u then y else z) K := by
  subst hp
  intro r S' ho H locs ls hl hP hS
  rw [bd_if] at ho
  refine lv_icmp_gt X.1 X.2.1 hd ht (fun h => ?_) (fun h => ?_)
  · exact k h r S' (by rw [if_pos h] at ho; exact ho) H locs ls hl hP hS
  · exact k' h r S' (by rw [if_neg h] at ho; exact ho) H locs ls hl hP hS
theorem g_if_le (pc2 pc3 : Nat) (X : Cx L G Z cc nL own rt d) {u : Int32} {off : Int} {y z : Option (τ × Sg)} (hd : decode cc pc = .ok (.ifCond .le off, 3)) (ht : (pc : Int) + off = (pc2 : Int)) (hp : pc + 3 = pc3) (k : u ≤ 0 → Go L G Z nL ret pc2 lvs st S y K) (k' : ¬ (u ≤ 0) → Go L G Z nL ret pc3 lvs st S z K) : Go L G Z nL ret pc lvs (.int u :: st) S (if u ≤ 0 then y else z) K := by
  subst hp
  intro r S' ho H locs ls hl hP hS
  rw [bd_if] at ho
  refine lv_if_le X.1 X.2.1 hd ht (fun h => ?_) (fun h => ?_)
  · exact k h r S' (by rw [if_pos h] at ho; exact ho) H locs ls hl hP hS
  · exact k' h r S' (by rw [if_neg h] at ho; exact ho) H locs ls hl hP hS
theorem g_icmp_le (pc2 pc3 : Nat) (X : Cx L G Z cc nL own rt d) {u v : Int32} {off : Int} {y z : Option (τ × Sg)} (hd : decode cc pc = .ok (.if_icmp .le off, 3)) (ht : (pc : Int) + off = (pc2 : Int)) (hp : pc + 3 = pc3) (k : u ≤ v → Go L G Z nL ret pc2 lvs st S y K) (k' : ¬ (u ≤ v) → Go L G Z nL ret pc3 lvs st S z K) : Go L G Z nL ret pc lvs (.int v :: .int u :: st) S (if u ≤ v then y else z) K := by
  subst hp
  intro r S' ho H locs ls hl hP hS
  rw [bd_if] at ho
  refine lv_icmp_le X.1 X.2.1 hd ht (fun h => ?_) (fun h => ?_)
  · exact k h r S' (by rw [if_pos h] at ho; exact ho) H locs ls hl hP hS
  · exact k' h r S' (by rw [if_neg h] at ho; exact ho) H locs ls hl hP hS
theorem bd_gd {σ : Type} {b : Bool} {y : Option (τ × Sg)} {f : τ → Sg → Option σ} {r : σ} (h : bd (gd b y) f = some r) : b = true ∧ bd y f = some r := by
  cases b with
  | false => simp [gd, bd] at h
  | true => exact ⟨rfl, h⟩
theorem g_gd {b : Bool} {y : Option (τ × Sg)} (k : b = true → Go L G Z nL ret pc lvs st S y K) : Go L G Z nL ret pc lvs st S (gd b y) K :=
  fun r S' ho => k (bd_gd ho).1 r S' (bd_gd ho).2
theorem g_ldiv (pc2 : Nat) (X : Cx L G Z cc nL own rt d) {u v : Int64} {y : Option (τ × Sg)} (hd : decode cc pc = .ok (.ldiv, 1)) (hp : pc + 1 = pc2) (k : Go L G Z nL ret pc2 lvs (.long (u / v) :: st) S y K) : Go L G Z nL ret pc lvs (.long v :: .long u :: st) S (gd (!(v == 0)) y) K := by
  subst hp
  refine g_gd (fun hg => ?_)
  exact fun r S' ho H locs ls hl hP hS => lv_ldiv X.1 X.2.1 hd (by simpa using hg) (k r S' ho H locs ls hl hP hS)
theorem g_lrem (pc2 : Nat) (X : Cx L G Z cc nL own rt d) {u v : Int64} {y : Option (τ × Sg)} (hd : decode cc pc = .ok (.lrem, 1)) (hp : pc + 1 = pc2) (k : Go L G Z nL ret pc2 lvs (.long (u - u / v * v) :: st) S y K) : Go L G Z nL ret pc lvs (.long v :: .long u :: st) S (gd (!(v == 0)) y) K := by
  subst hp
  refine g_gd (fun hg => ?_)
  exact fun r S' ho H locs ls hl hP hS => lv_lrem X.1 X.2.1 hd (by simpa using hg) (k r S' ho H locs ls hl hP hS)
/-- fields: what a link of a class's file is -/
def FL (own : String) (idx ci k : Nat) : Prop := ∃ (C : String) (T : u_T) (N : Nat), vwCl[ci]? = some (C, T, N) ∧ k < N ∧ (∀ w ∈ u_ws C T N, w ∈ tbG) ∧ (Cond.fieldLink own idx (T k).1 (T k).2.1 (T k).2.2.1 ∈ tbG ∨ ∃ host : String, Cond.fieldLinkNest own idx (T k).1 (T k).2.1 (T k).2.2.1 host ∈ nsL)
def FP (ci k : Nat) (ty : FieldType) : Prop := ∃ (C : String) (T : u_T) (N : Nat) (ty0 : Nat → FieldType), vwCl[ci]? = some (C, T, N) ∧ (∀ k, k < N → parseFieldDescriptor (T k).2.2.1 = some (ty0 k)) ∧ (∀ a, a < N → ∀ b, b < N → a ≠ b → (T a).2.1 ≠ (T b).2.1) ∧ (T k).2.2.2 = false ∧ parseFieldDescriptor (T k).2.2.1 = some ty
theorem g_get (pc2 : Nat) (X : Cx L G Z cc nL own rt d) {i ci k idx : Nat} {ks : List Nat} {v : Value} (hs : L[i]? = some (.inr (ci, ks))) (fl : FL own idx ci k) (hv : (ks.mapIdx (fv G S i))[k]? = some v) (hd : decode cc pc = .ok (.getfield idx, 3)) (hp : pc + 3 = pc2) (kk : Go L G Z nL ret pc2 lvs (v :: st) S x K) : Go L G Z nL ret pc lvs (.ref (G.2.1 i) :: st) S x K := by
  subst hp
  obtain ⟨C, T, N, hc, hk, hin, hlk⟩ := fl
  intro r S' ho H locs ls hl hP hS
  obtain ⟨hx, hb, hml, hown, hts, hK, -, -, -, -, hnk⟩ := X
  rcases hlk with hlk | ⟨host, hlk⟩
  · exact va_get hx hb hts hin hown hK hP i (wl_at hs) hc k hk (hts _ hlk) (fun _ h9 => h9) hv hd (kk r S' ho H locs ls hl hP hS)
  · exact va_getN hx hb hts hin hown hK hP i (wl_at hs) hc k hk (nk_use hnk hlk) (fun _ h9 => h9) hv hd (kk r S' ho H locs ls hl hP hS)
theorem g_geti (pc2 : Nat) (X : Cx L G Z cc nL own rt d) {i ci k idx : Nat} {ks : List Nat} (hs : L[i]? = some (.inr (ci, ks))) (fl : FL own idx ci k) (hk : ks[k]? = some 0) (hd : decode cc pc = .ok (.getfield idx, 3)) (hp : pc + 3 = pc2) (kk : Go L G Z nL ret pc2 lvs (.int (S.1 i k) :: st) S x K) : Go L G Z nL ret pc lvs (.ref (G.2.1 i) :: st) S x K :=
  g_get pc2 X hs fl (by simp [List.getElem?_mapIdx, hk, fv]) hd hp kk
theorem g_getl (pc2 : Nat) (X : Cx L G Z cc nL own rt d) {i ci k idx : Nat} {ks : List Nat} (hs : L[i]? = some (.inr (ci, ks))) (fl : FL own idx ci k) (hk : ks[k]? = some 1) (hd : decode cc pc = .ok (.getfield idx, 3)) (hp : pc + 3 = pc2) (kk : Go L G Z nL ret pc2 lvs (.long (S.2 i k) :: st) S x K) : Go L G Z nL ret pc lvs (.ref (G.2.1 i) :: st) S x K :=
  g_get pc2 X hs fl (by simp [List.getElem?_mapIdx, hk, fv]) hd hp kk
theorem g_getr (pc2 : Nat) (X : Cx L G Z cc nL own rt d) {i ci k idx : Nat} {ks : List Nat} (j : Nat) (hs : L[i]? = some (.inr (ci, ks))) (fl : FL own idx ci k) (hk : ks[k]? = some (j + 2)) (hd : decode cc pc = .ok (.getfield idx, 3)) (hp : pc + 3 = pc2) (kk : Go L G Z nL ret pc2 lvs (.ref (G.2.1 j) :: st) S x K) : Go L G Z nL ret pc lvs (.ref (G.2.1 i) :: st) S x K :=
  g_get pc2 X hs fl (by simp [List.getElem?_mapIdx, hk, fv]) hd hp kk
theorem g_put (pc2 : Nat) (X : Cx L G Z cc nL own rt d) {i ci k idx : Nat} {ks : List Nat} {v : Value} {ty : FieldType} {S1 : Sg} (hs : L[i]? = some (.inr (ci, ks))) (fl : FL own idx ci k) (fp : FP ci k ty) (hk : k < ks.length) (hn : narrow ty v = v) (hfit : fits ty v = true) (hset : (wl L G S).set i (G.2.1 i, .inr (ci, (ks.mapIdx (fv G S i)).set k v)) = wl L G S1) (hd : decode cc pc = .ok (.putfield idx, 3)) (hp : pc + 3 = pc2) (kk : Go L G Z nL ret pc2 lvs st S1 x K) : Go L G Z nL ret pc lvs (v :: .ref (G.2.1 i) :: st) S x K := by
  subst hp
  obtain ⟨C, T, N, hc, hkN, hin, hlk⟩ := fl
  obtain ⟨C', T', N', ty0, hc', hty, hnm, hfin, hty1⟩ := fp
  cases hc.symm.trans hc'
  intro r S' ho H locs ls hl hP hS
  obtain ⟨hx, hb, hml, hown, hts, hK, hlk9, hrt9, hj, -, hnk⟩ := X
  rcases hlk with hlk | ⟨host, hlk⟩
  · refine va_put hx hb hts hin ty0 hty hnm hown hK hP (wl_D hj S) hS i (wl_at hs) hc k hkN (hts _ hlk) (fun _ h9 => h9) hfin hty1 hn hfit (by simpa using hk) hd (fun H1 locs1 hP1 _ hS1 => ?_)
    rw [hset] at hP1
    exact kk r S' ho H1 locs1 ls hl hP1 hS1
  · refine va_putN hx hb hts hin ty0 hty hnm hown hK hP (wl_D hj S) hS i (wl_at hs) hc k hkN (nk_use hnk hlk) (fun _ h9 => h9) hfin hty1 hn hfit (by simpa using hk) hd (fun H1 locs1 hP1 _ hS1 => ?_)
    rw [hset] at hP1
    exact kk r S' ho H1 locs1 ls hl hP1 hS1
theorem g_puti (pc2 : Nat) (X : Cx L G Z cc nL own rt d) {i ci k idx : Nat} {ks : List Nat} {v : Int32} (hs : L[i]? = some (.inr (ci, ks))) (fl : FL own idx ci k) (fp : FP ci k .int) (hk : ks[k]? = some 0) (hd : decode cc pc = .ok (.putfield idx, 3)) (hp : pc + 3 = pc2) (kk : Go L G Z nL ret pc2 lvs st (sI S i k v) x K) : Go L G Z nL ret pc lvs (.int v :: .ref (G.2.1 i) :: st) S x K :=
  g_put pc2 X hs fl fp (List.getElem?_eq_some_iff.mp hk).1 (vp_nar_int v) rfl (wl_set hs (by simp only [ce]; rw [fs_I hk]) (fun j sh' h => ce_I j sh' h)) hd hp kk
theorem g_putz (pc2 : Nat) (X : Cx L G Z cc nL own rt d) {i ci k idx : Nat} {ks : List Nat} {v : Int32} (hs : L[i]? = some (.inr (ci, ks))) (fl : FL own idx ci k) (fp : FP ci k .boolean) (hk : ks[k]? = some 0) (hz : zb v = true) (hd : decode cc pc = .ok (.putfield idx, 3)) (hp : pc + 3 = pc2) (kk : Go L G Z nL ret pc2 lvs st (sI S i k v) x K) : Go L G Z nL ret pc lvs (.int v :: .ref (G.2.1 i) :: st) S x K :=
  g_put pc2 X hs fl fp (List.getElem?_eq_some_iff.mp hk).1 (zb_nar hz) (by
    simp only [zb, Bool.or_eq_true, beq_iff_eq] at hz
    rcases hz with rfl | rfl <;> rfl) (wl_set hs (by simp only [ce]; rw [fs_I hk]) (fun j sh' h => ce_I j sh' h)) hd hp kk
theorem g_putl (pc2 : Nat) (X : Cx L G Z cc nL own rt d) {i ci k idx : Nat} {ks : List Nat} {v : Int64} (hs : L[i]? = some (.inr (ci, ks))) (fl : FL own idx ci k) (fp : FP ci k .long) (hk : ks[k]? = some 1) (hd : decode cc pc = .ok (.putfield idx, 3)) (hp : pc + 3 = pc2) (kk : Go L G Z nL ret pc2 lvs st (sL S i k v) x K) : Go L G Z nL ret pc lvs (.long v :: .ref (G.2.1 i) :: st) S x K :=
  g_put pc2 X hs fl fp (List.getElem?_eq_some_iff.mp hk).1 rfl rfl (wl_set hs (by simp only [ce]; rw [fs_L hk]) (fun j sh' h => ce_L j sh' h)) hd hp kk
/-- arrays -/
theorem g_iald (pc2 : Nat) (X : Cx L G Z cc nL own rt d) {a n : Nat} {i : Int32} {y : Option (τ × Sg)} (hs : L[a]? = some (.inl (0, n))) (hd : decode cc pc = .ok (.iaload, 1)) (hp : pc + 1 = pc2) (kk : Go L G Z nL ret pc2 lvs (.int (S.1 a i.toNatClampNeg) :: st) S y K) : Go L G Z nL ret pc lvs (.int i :: .ref (G.2.1 a) :: st) S (gd (ix i n) y) K := by
  subst hp
  refine g_gd (fun hg => ?_)
  intro r S' ho H locs ls hl hP hS
  obtain ⟨hx, hb, hml, hown, hts, hK, -⟩ := X
  exact va_iald hx hb hK hP a 0 (wl_at hs) rfl (ix_in hg) hd (kk r S' ho H locs ls hl hP hS)
theorem g_zald (pc2 : Nat) (X : Cx L G Z cc nL own rt d) {a n : Nat} {i : Int32} {y : Option (τ × Sg)} (hs : L[a]? = some (.inl (1, n))) (hd : decode cc pc = .ok (.baload, 1)) (hp : pc + 1 = pc2) (kk : Go L G Z nL ret pc2 lvs (.int (S.1 a i.toNatClampNeg) :: st) S y K) : Go L G Z nL ret pc lvs (.int i :: .ref (G.2.1 a) :: st) S (gd (ix i n) y) K := by
  subst hp
  refine g_gd (fun hg => ?_)
  intro r S' ho H locs ls hl hP hS
  obtain ⟨hx, hb, hml, hown, hts, hK, -⟩ := X
  exact va_zald hx hb hK hP a 1 (wl_at hs) rfl (ix_in hg) hd (kk r S' ho H locs ls hl hP hS)
theorem g_aald (pc2 : Nat) (X : Cx L G Z cc nL own rt d) {a n b : Nat} {i : Int32} {y : Option (τ × Sg)} (hs : L[a]? = some (.inl (b + 2, n))) (hd : decode cc pc = .ok (.aaload, 1)) (hp : pc + 1 = pc2) (kk : ix i n = true → Go L G Z nL ret pc2 lvs (.ref (G.2.1 (b + 2 * i.toNatClampNeg)) :: st) S y K) : Go L G Z nL ret pc lvs (.int i :: .ref (G.2.1 a) :: st) S (gd (ix i n) y) K := by
  subst hp
  refine g_gd (fun hg => ?_)
  intro r S' ho H locs ls hl hP hS
  obtain ⟨hx, hb, hml, hown, hts, hK, -⟩ := X
  exact va_aldq hx hb hK hP a 2 (wl_at hs) rfl (ix_in hg) hd (kk hg r S' ho H locs ls hl hP hS)
theorem g_iast (pc2 : Nat) (X : Cx L G Z cc nL own rt d) {a n : Nat} {i v : Int32} {y : Option (τ × Sg)} (hs : L[a]? = some (.inl (0, n))) (hd : decode cc pc = .ok (.iastore, 1)) (hp : pc + 1 = pc2) (kk : Go L G Z nL ret pc2 lvs st (sI S a i.toNatClampNeg v) y K) : Go L G Z nL ret pc lvs (.int v :: .int i :: .ref (G.2.1 a) :: st) S (gd (ix i n) y) K := by
  subst hp
  refine g_gd (fun hg => ?_)
  intro r S' ho H locs ls hl hP hS
  obtain ⟨hx, hb, hml, hown, hts, hK, hlk9, hrt9, hj, -⟩ := X
  refine va_iast hx hb hK hP (wl_D hj S) hS a 0 (wl_at hs) rfl (ix_in hg) hd (fun H1 locs1 hP1 _ hS1 => ?_)
  rw [wl_set (S' := sI S a i.toNatClampNeg v) hs (by simp only [ce]; rw [row_I]) (fun j sh' h => ce_I j sh' h)] at hP1
  exact kk r S' ho H1 locs1 ls hl hP1 hS1
theorem g_zast (pc2 : Nat) (X : Cx L G Z cc nL own rt d) {a n : Nat} {i v : Int32} {y : Option (τ × Sg)} (hs : L[a]? = some (.inl (1, n))) (hz : vp_nar .boolean v = v) (hd : decode cc pc = .ok (.bastore, 1)) (hp : pc + 1 = pc2) (kk : Go L G Z nL ret pc2 lvs st (sI S a i.toNatClampNeg v) y K) : Go L G Z nL ret pc lvs (.int v :: .int i :: .ref (G.2.1 a) :: st) S (gd (ix i n) y) K := by
  subst hp
  refine g_gd (fun hg => ?_)
  intro r S' ho H locs ls hl hP hS
  obtain ⟨hx, hb, hml, hown, hts, hK, hlk9, hrt9, hj, -⟩ := X
  refine va_zast hx hb hK hP (wl_D hj S) hS a 1 (wl_at hs) rfl (ix_in hg) hd (fun H1 locs1 hP1 _ hS1 => ?_)
  rw [hz] at hP1
  rw [wl_set (S' := sI S a i.toNatClampNeg v) hs (by simp only [ce]; rw [row_I]) (fun j sh' h => ce_I j sh' h)] at hP1
  exact kk r S' ho H1 locs1 ls hl hP1 hS1
theorem g_alen (pc2 : Nat) (X : Cx L G Z cc nL own rt d) {a n : Nat} {v : Int32} (hs : L[a]? = some (.inl (0, n))) (hv : Int32.ofNat n = v) (hd : decode cc pc = .ok (.arraylength, 1)) (hp : pc + 1 = pc2) (kk : Go L G Z nL ret pc2 lvs (.int v :: st) S x K) : Go L G Z nL ret pc lvs (.ref (G.2.1 a) :: st) S x K := by
  subst hp
  intro r S' ho H locs ls hl hP hS
  obtain ⟨hx, hb, hml, hown, hts, hK, -⟩ := X
  exact va_alen hx hb hK hP a 0 (wl_at hs) (ty := .int) rfl hv hd (kk r S' ho H locs ls hl hP hS)
def cpok (sp dp n : Int32) (n0 n1 : Nat) : Bool := decide (0 ≤ sp) && decide (0 ≤ dp) && decide (0 ≤ n) && decide (sp.toNatClampNeg + n.toNatClampNeg ≤ n0) && decide (dp.toNatClampNeg + n.toNatClampNeg ≤ n1)
theorem i32_nlt {u : Int32} (h : 0 ≤ u) : ¬ u < 0 := by
  intro q
  have h1 := Int32.le_iff_toInt_le.mp h
  have h2 := Int32.lt_iff_toInt_lt.mp q
  omega
theorem g_copy (pc2 : Nat) (X : Cx L G Z cc nL own rt (d + 1)) {idx a b n0 n1 : Nat} {sp dp n : Int32} {y : Option (τ × Sg)} (hs0 : L[a]? = some (.inl (0, n0))) (hs1 : L[b]? = some (.inl (0, n1))) (hlk : Cond.methodLink own idx arraycopyName ∈ tbG) (hnat : Cond.native arraycopyName ∈ tbG) (hstat : Cond.static arraycopyName ∈ tbG) (hini : Cond.initialized "java/lang/System" ∈ tbG) (hst : (st.map fun v => v.category).sum ≤ 8) (hd : decode cc pc = .ok (.invokestatic idx, 3)) (hp : pc + 3 = pc2) (kk : Go L G Z nL ret pc2 lvs st (sC S b (va_cpy (S.1 a) (S.1 b) sp.toNatClampNeg dp.toNatClampNeg n.toNatClampNeg)) y K) : Go L G Z nL ret pc lvs (.int n :: .int dp :: .ref (G.2.1 b) :: .int sp :: .ref (G.2.1 a) :: st) S (gd (cpok sp dp n n0 n1) y) K := by
  subst hp
  refine g_gd (fun hg => ?_)
  simp only [cpok, Bool.and_eq_true, decide_eq_true_eq] at hg
  obtain ⟨⟨⟨⟨g1, g2⟩, g3⟩, g4⟩, g5⟩ := hg
  intro r S' ho H locs ls hl hP hS
  obtain ⟨hx, hb, hml, hown, hts, hK, hlk9, hrt9, hj, hR, hnk⟩ := X
  refine va_copyi hx hb (hml.trans hl.1.symm) hown (hts _ hlk) (hts _ hnat) (hts _ hstat) (hts _ hini) hK hP (wl_D hj S) hS a b 0 0 (ty := .int) (wl_at hs0) (wl_at hs1) rfl rfl rfl (i32_nlt g1) (i32_nlt g2) (i32_nlt g3) g4 g5 (fun _ _ => rfl) ?_ ?_ hd (fun H1 locs1 hP1 _ hS1 => ?_)
  · rw [hR]; exact Nat.le_add_left 1 d
  · rw [hR]
    have h9 : nativeFrameWords "java/lang/System" "arraycopy" 5 + 11 ≤ 30 := by decide +kernel
    have h8 : (rmD (d + 1)).locals = 40 * (d + 1) := rfl
    omega
  · rw [wl_set (S' := sC S b (va_cpy (S.1 a) (S.1 b) sp.toNatClampNeg dp.toNatClampNeg n.toNatClampNeg)) hs1 (by simp only [ce]; rw [row_C]) (fun j sh' h => ce_C j sh' h)] at hP1
    exact kk r S' ho H1 locs1 ls hl hP1 hS1
/-- returns -/
theorem g_iret (X : Cx L G Z cc nL own (some .int) d) {K : τ → Sg → Option (Int32 × Sg)} {t : τ} {v : Int32} (hd : decode cc pc = .ok (.ireturn, 1)) (hK0 : K t S = some (v, S)) : Go L G Z nL rI pc lvs [.int v] S (some (t, S)) K := by
  intro r S' ho H locs ls hl hP hS
  obtain ⟨hx, hb, hml, hown, hts, hK, hlk, hrt, hj, hR, hnk⟩ := X
  have e1 : K t S = some (r, S') := ho
  cases hK0.symm.trans e1
  exact W.iret hx hb hrt (fun t ht hW => ⟨⟨rfl, by rw [ht]; exact hP, va_K.moved hW.alike hK⟩, hS.F ht⟩) hS.2.2 hd hlk
theorem g_zret (X : Cx L G Z cc nL own (some .boolean) d) {K : τ → Sg → Option (Int32 × Sg)} {t : τ} {v : Int32} (hd : decode cc pc = .ok (.ireturn, 1)) (hz : zb v = true) (hK0 : K t S = some (v, S)) : Go L G Z nL rI pc lvs [.int v] S (some (t, S)) K := by
  intro r S' ho H locs ls hl hP hS
  obtain ⟨hx, hb, hml, hown, hts, hK, hlk, hrt, hj, hR, hnk⟩ := X
  have e1 : K t S = some (r, S') := ho
  cases hK0.symm.trans e1
  exact W.zret hx hb hrt (zb_nar hz) (fun t ht hW => ⟨⟨rfl, by rw [ht]; exact hP, va_K.moved hW.alike hK⟩, hS.F ht⟩) hS.2.2 hd hlk
theorem g_lret (X : Cx L G Z cc nL own (some .long) d) {K : τ → Sg → Option (Int64 × Sg)} {t : τ} {v : Int64} (hd : decode cc pc = .ok (.lreturn, 1)) (hK0 : K t S = some (v, S)) : Go L G Z nL rL pc lvs [.long v] S (some (t, S)) K := by
  intro r S' ho H locs ls hl hP hS
  obtain ⟨hx, hb, hml, hown, hts, hK, hlk, hrt, hj, hR, hnk⟩ := X
  have e1 : K t S = some (r, S') := ho
  cases hK0.symm.trans e1
  exact W.lret hx hb hrt (fun t ht hW => ⟨⟨rfl, by rw [ht]; exact hP, va_K.moved hW.alike hK⟩, hS.F ht⟩) hS.2.2 hd hlk
theorem g_vret (X : Cx L G Z cc nL own none d) {K : τ → Sg → Option (Unit × Sg)} {t : τ} (hd : decode cc pc = .ok (.return_, 1)) (hK0 : K t S = some ((), S)) : Go L G Z nL rV pc lvs [] S (some (t, S)) K := by
  intro r S' ho H locs ls hl hP hS
  obtain ⟨hx, hb, hml, hown, hts, hK, hlk, hrt, hj, hR, hnk⟩ := X
  have e1 : K t S = some (r, S') := ho
  cases hK0.symm.trans e1
  exact W.vret hx hb hrt (fun t ht hW => ⟨⟨rfl, by rw [ht]; exact hP, va_K.moved hW.alike hK⟩, hS.F ht⟩) hS.2.2 hd hlk
theorem g_aret {C : String} (X : Cx L G Z cc nL own (some (.object C)) d) {K : τ → Sg → Option (Nat × Sg)} {t : τ} {v : Nat} (hd : decode cc pc = .ok (.areturn, 1)) (hK0 : K t S = some (v, S)) : Go L G Z nL (rR G) pc lvs [.ref (G.2.1 v)] S (some (t, S)) K := by
  intro r S' ho H locs ls hl hP hS
  obtain ⟨hx, hb, hml, hown, hts, hK, hlk, hrt, hj, hR, hnk⟩ := X
  have e1 : K t S = some (r, S') := ho
  cases hK0.symm.trans e1
  exact W.aret hx hb hrt (Or.inl ⟨C, rfl⟩) (Or.inr ⟨_, rfl⟩) (fun t ht hW => ⟨⟨rfl, by rw [ht]; exact hP, va_K.moved hW.alike hK⟩, hS.F ht⟩) hS.2.2 hd hlk
/-- calls -/
def MF (y : MethodName) (b : ByteArray) (n : Nat) (r : Option FieldType) (np : Nat) : Prop := Cond.code y b n r ∈ tbG ∧ Cond.initialized y.cls ∈ tbG ∧ (y.cls ≠ "java/lang/invoke/MethodHandle" ∧ y.cls ≠ "java/lang/invoke/VarHandle" ∧ (parseMethodDescriptor y.desc).map (fun d => d.parameters.length) = some np) ∧ n ≤ 21
theorem blindG {av : List Value} : FrameBlind (va_Pc av (fun U => Wd L G S U ∧ Ij L G ∧ nk U)) := by
  intro a U g mk q
  obtain ⟨q0, ⟨qP, qK⟩, qj, qn⟩ := q
  exact ⟨q0, ⟨qP, va_K.moved (u := U) (U := U.calling g mk a) (Vm.Alike.refl U.vm) qK⟩, qj, nk_same (s := U) (U := U.calling g mk a) rfl qn⟩
theorem run_go {ρ' : Type} {ret' : ρ' → Option Value} {o1 : Option (ρ' × Sg)} {f : ρ' → Sg → Option (τ × Sg)} {stk rest : List Value} {a : Array Value}
    (hr : ∀ (r1 : ρ') (S1 : Sg), o1 = some (r1, S1) → ∀ (H : Heap) (locs : List Loc) (ls : Array Slot), lv_has ls nL lvs → va_P G.1 vwCl (wl L G S) H → va_Run Z.1 Z.2.1 Z.2.2.1 Z.2.2.2.1 Z.2.2.2.2.1 Z.2.2.2.2.2.1 Z.2.2.2.2.2.2.1 Z.2.2.2.2.2.2.2.1 Z.2.2.2.2.2.2.2.2.1 Z.2.2.2.2.2.2.2.2.2 H locs 0 0 0 0 (F0 Z.2.2.2.2.2.1 pc ls stk) rest (Qz L G ret' r1 S1 a) (Ar L G))
    (k : ∀ (r1 : ρ') (S1 : Sg), Go L G Z nL ret (pc + 3) lvs ((ret' r1).toList ++ rest) S1 (f r1 S1) K) : Go L G Z nL ret pc lvs stk S (bd o1 f) K := by
  intro r S' ho H locs ls hl hP hS
  cases o1 with
  | none => cases ho
  | some q =>
    obtain ⟨r1, S1⟩ := q
    intro T hT X
    obtain ⟨v, st₀, t, T', L', h0, X', hL, e1, e2, ⟨⟨hv, hP1, hK1⟩, hz, hk⟩, stp⟩ := hr r1 S1 rfl H locs ls hl hP T hT X
    cases hv
    rw [h0] at hz hk
    rw [← e1] at hz hk hP1
    obtain ⟨t2, a1, b1⟩ := k r1 S1 r S' ho T'.heap (locs ++ L') ls hl hP1
      ⟨Nat.le_trans hS.1 hz, fun q h1 h2 => (hk q (Nat.lt_of_lt_of_le h1 hS.1) h2).trans (hS.2.1 q h1 h2), fun q hq => by
        rcases List.mem_append.mp hq with h | h
        · exact hS.2.2 q h
        · exact hL q h⟩ T' rfl X'
    exact ⟨t2, stp t2 a1, b1⟩
theorem g_callV {ρ' : Type} {ret' : ρ' → Option Value} {y : MethodName} {b : ByteArray} {n : Nat} {rt' : Option FieldType} {o1 : Option (ρ' × Sg)} {f : ρ' → Sg → Option (τ × Sg)} {As rest : List Value} {i ci idx : Nat} {ks : List Nat} {q : vw_C} (X : Cx L G Z cc nL own rt (d + 1)) (hM : Ct L G Z.2.1 ret' y b n rt' d (.ref (G.2.1 i) :: As) S o1) (mf : MF y b n rt' As.length) (hin : Cond.instanceMethod y ∈ tbG ∧ Cond.selects y.cls y y ∈ tbG) (hlk : Cond.methodLink own idx y ∈ tbG) (hs : L[i]? = some (.inr (ci, ks))) (hc : vwCl[ci]? = some q) (hq : q.1 = y.cls) (hst : (rest.map fun v => v.category).sum ≤ 8) (hd : decode cc pc = .ok (.invokevirtual idx, 3))
    (k : ∀ (r1 : ρ') (S1 : Sg), Go L G Z nL ret (pc + 3) lvs ((ret' r1).toList ++ rest) S1 (f r1 S1) K) : Go L G Z nL ret pc lvs (As.reverse ++ .ref (G.2.1 i) :: rest) S (bd o1 f) K := by
  refine run_go (a := (Value.ref (G.2.1 i) :: As).toArray) (fun r1 S1 ho H locs ls hl hP => ?_) k
  obtain ⟨hx, hb, hml, hown, hts, hK, hlk9, hrt9, hj, hR, hnk⟩ := X
  refine va_runV (As := As) (rest := rest) (C := y.cls) ⟨hx, hb, hml, hown, hts⟩ (hM r1 S1 ho) ⟨callB_of As.length (Ts := tbG) (ws' := tbG) hts (fun w hw => ?_) rfl rfl rfl (hts _ mf.2.1) (hts _ hlk) mf.2.2.1 ?_, hts _ hin.1, hts _ hin.2⟩ ⟨blindG, ?_, fun U hU hW => ⟨rfl, ⟨by rw [hU]; exact hP, va_K.moved hW.alike hK⟩, hj, nk_warm hW hnk⟩⟩ rfl rfl hl.1 rfl (lv_room hst) hd ⟨by rw [hR]; exact Nat.le_refl _, by rw [hR]; exact Nat.le_refl _⟩
  · have hm : w ∈ tbG := by
      rcases List.mem_cons.mp hw with rfl | h1
      · exact mf.1
      · exact h1
    exact ⟨hm, good_of_word (tb_good hm)⟩
  · rw [hR]
    have h1 := mf.2.2.2
    exact ⟨Nat.le_refl _, by show 8 + (n + 11) + 40 * d ≤ 40 * (d + 1); omega⟩
  · rw [← hq]
    exact va_recv hK hP hc (wl_at hs)
theorem g_callS {ρ' : Type} {ret' : ρ' → Option Value} {y : MethodName} {b : ByteArray} {n : Nat} {rt' : Option FieldType} {o1 : Option (ρ' × Sg)} {f : ρ' → Sg → Option (τ × Sg)} {As rest : List Value} {idx : Nat} (X : Cx L G Z cc nL own rt (d + 1)) (hM : Ct L G Z.2.1 ret' y b n rt' d As S o1) (mf : MF y b n rt' As.length) (hin : Cond.static y ∈ tbG) (hlk : Cond.methodLink own idx y ∈ tbG ∨ ∃ host, Cond.methodLinkNest own idx y host ∈ nsL) (hst : (rest.map fun v => v.category).sum ≤ 8) (hd : decode cc pc = .ok (.invokestatic idx, 3))
    (k : ∀ (r1 : ρ') (S1 : Sg), Go L G Z nL ret (pc + 3) lvs ((ret' r1).toList ++ rest) S1 (f r1 S1) K) : Go L G Z nL ret pc lvs (As.reverse ++ rest) S (bd o1 f) K := by
  refine run_go (a := As.toArray) (fun r1 S1 ho H locs ls hl hP => ?_) k
  obtain ⟨hx, hb, hml, hown, hts, hK, hlk9, hrt9, hj, hR, hnk⟩ := X
  have hG : GoodIn tbG (wsG y b n rt') := fun w hw => by
    have hm : w ∈ tbG := by
      rcases List.mem_cons.mp hw with rfl | h1
      · exact mf.1
      · exact h1
    exact ⟨hm, good_of_word (tb_good hm)⟩
  have hRR : (rmD d).frames + 1 ≤ Z.2.2.2.1.frames ∧ 8 + (n + 11) + (rmD d).locals ≤ Z.2.2.2.1.locals := by
    rw [hR]
    have h1 := mf.2.2.2
    exact ⟨Nat.le_refl _, by show 8 + (n + 11) + 40 * d ≤ 40 * (d + 1); omega⟩
  rcases hlk with hlk | ⟨host, hlk⟩
  · exact va_runS (As := As) (rest := rest) ⟨hx, hb, hml, hown, hts⟩ (hM r1 S1 ho) ⟨callB_of As.length (Ts := tbG) (ws' := tbG) hts hG rfl rfl rfl (hts _ mf.2.1) (hts _ hlk) mf.2.2.1 hRR, hts _ hin⟩ ⟨blindG, fun U hU hW => ⟨rfl, ⟨by rw [hU]; exact hP, va_K.moved hW.alike hK⟩, hj, nk_warm hW hnk⟩⟩ rfl rfl hl.1 rfl (lv_room hst) hd ⟨by rw [hR]; exact Nat.le_refl _, by rw [hR]; exact Nat.le_refl _⟩
  · have hlw : (Cond.methodLinkNest own idx y host).before Z.2.2.2.2.2.2.1 Z.2.2.2.2.1 = true := nk_use hnk hlk
    have hcw : Cond.code y b n rt' ∈ wsG y b n rt' := List.mem_cons_self
    exact va_runSN (As := As) (rest := rest) (host := host) ⟨hx, hb, hml, hown, hts⟩ (hM r1 S1 ho) ⟨⟨⟨rfl, rfl, hRR.1, hRR.2, pay_in hts hG, hcw⟩, hts _ mf.1, hts _ mf.2.1, ⟨mf.2.2.1.1, mf.2.2.1.2.1⟩, fun sig h => by
      have h2 := mf.2.2.1.2.2
      rw [h] at h2
      exact (Option.some.inj h2).symm, hlw⟩, hts _ hin, trivial⟩ ⟨blindG, fun U hU hW => ⟨rfl, ⟨by rw [hU]; exact hP, va_K.moved hW.alike hK⟩, hj, nk_warm hW hnk⟩⟩ rfl rfl hl.1 rfl (lv_room hst) hd ⟨by rw [hR]; exact Nat.le_refl _, by rw [hR]; exact Nat.le_refl _⟩

theorem g_cVi0 (pc2 : Nat) {y : MethodName} {b : ByteArray} {n : Nat} {rt' : Option FieldType} {o1 : Option (Int32 × Sg)} {f : Int32 → Sg → Option (τ × Sg)} {rest : List Value} {i ci idx : Nat} {ks : List Nat} {q : vw_C} (X : Cx L G Z cc nL own rt (d + 1)) (hM : Ct L G Z.2.1 rI y b n rt' d (.ref (G.2.1 i) :: []) S o1) (mf : MF y b n rt' 0) (hin : Cond.instanceMethod y ∈ tbG ∧ Cond.selects y.cls y y ∈ tbG) (hlk : Cond.methodLink own idx y ∈ tbG) (hs : L[i]? = some (.inr (ci, ks))) (hc : vwCl[ci]? = some q) (hq : q.1 = y.cls) (hst : (rest.map fun v => v.category).sum ≤ 8) (hd : decode cc pc = .ok (.invokevirtual idx, 3)) (hp : pc + 3 = pc2)
    (k : ∀ (r1 : Int32) (S1 : Sg), Go L G Z nL ret pc2 lvs (.int r1 :: rest) S1 (f r1 S1) K) : Go L G Z nL ret pc lvs (.ref (G.2.1 i) :: rest) S (bd o1 f) K := by
  subst hp
  exact g_callV (As := []) X hM mf hin hlk hs hc hq hst hd k
theorem g_cSi0 (pc2 : Nat) {y : MethodName} {b : ByteArray} {n : Nat} {rt' : Option FieldType} {o1 : Option (Int32 × Sg)} {f : Int32 → Sg → Option (τ × Sg)} {rest : List Value} {idx : Nat} (X : Cx L G Z cc nL own rt (d + 1)) (hM : Ct L G Z.2.1 rI y b n rt' d [] S o1) (mf : MF y b n rt' 0) (hin : Cond.static y ∈ tbG) (hlk : Cond.methodLink own idx y ∈ tbG ∨ ∃ host, Cond.methodLinkNest own idx y host ∈ nsL) (hst : (rest.map fun v => v.category).sum ≤ 8) (hd : decode cc pc = .ok (.invokestatic idx, 3)) (hp : pc + 3 = pc2)
    (k : ∀ (r1 : Int32) (S1 : Sg), Go L G Z nL ret pc2 lvs (.int r1 :: rest) S1 (f r1 S1) K) : Go L G Z nL ret pc lvs (rest) S (bd o1 f) K := by
  subst hp
  exact g_callS (As := []) X hM mf hin hlk hst hd k
theorem g_cVi1 (pc2 : Nat) {y : MethodName} {b : ByteArray} {n : Nat} {rt' : Option FieldType} {o1 : Option (Int32 × Sg)} {f : Int32 → Sg → Option (τ × Sg)} {v1 : Value} {rest : List Value} {i ci idx : Nat} {ks : List Nat} {q : vw_C} (X : Cx L G Z cc nL own rt (d + 1)) (hM : Ct L G Z.2.1 rI y b n rt' d (.ref (G.2.1 i) :: [v1]) S o1) (mf : MF y b n rt' 1) (hin : Cond.instanceMethod y ∈ tbG ∧ Cond.selects y.cls y y ∈ tbG) (hlk : Cond.methodLink own idx y ∈ tbG) (hs : L[i]? = some (.inr (ci, ks))) (hc : vwCl[ci]? = some q) (hq : q.1 = y.cls) (hst : (rest.map fun v => v.category).sum ≤ 8) (hd : decode cc pc = .ok (.invokevirtual idx, 3)) (hp : pc + 3 = pc2)
    (k : ∀ (r1 : Int32) (S1 : Sg), Go L G Z nL ret pc2 lvs (.int r1 :: rest) S1 (f r1 S1) K) : Go L G Z nL ret pc lvs (v1 :: .ref (G.2.1 i) :: rest) S (bd o1 f) K := by
  subst hp
  exact g_callV (As := [v1]) X hM mf hin hlk hs hc hq hst hd k
theorem g_cSi1 (pc2 : Nat) {y : MethodName} {b : ByteArray} {n : Nat} {rt' : Option FieldType} {o1 : Option (Int32 × Sg)} {f : Int32 → Sg → Option (τ × Sg)} {v1 : Value} {rest : List Value} {idx : Nat} (X : Cx L G Z cc nL own rt (d + 1)) (hM : Ct L G Z.2.1 rI y b n rt' d [v1] S o1) (mf : MF y b n rt' 1) (hin : Cond.static y ∈ tbG) (hlk : Cond.methodLink own idx y ∈ tbG ∨ ∃ host, Cond.methodLinkNest own idx y host ∈ nsL) (hst : (rest.map fun v => v.category).sum ≤ 8) (hd : decode cc pc = .ok (.invokestatic idx, 3)) (hp : pc + 3 = pc2)
    (k : ∀ (r1 : Int32) (S1 : Sg), Go L G Z nL ret pc2 lvs (.int r1 :: rest) S1 (f r1 S1) K) : Go L G Z nL ret pc lvs (v1 :: rest) S (bd o1 f) K := by
  subst hp
  exact g_callS (As := [v1]) X hM mf hin hlk hst hd k
theorem g_cVi2 (pc2 : Nat) {y : MethodName} {b : ByteArray} {n : Nat} {rt' : Option FieldType} {o1 : Option (Int32 × Sg)} {f : Int32 → Sg → Option (τ × Sg)} {v1 v2 : Value} {rest : List Value} {i ci idx : Nat} {ks : List Nat} {q : vw_C} (X : Cx L G Z cc nL own rt (d + 1)) (hM : Ct L G Z.2.1 rI y b n rt' d (.ref (G.2.1 i) :: [v1, v2]) S o1) (mf : MF y b n rt' 2) (hin : Cond.instanceMethod y ∈ tbG ∧ Cond.selects y.cls y y ∈ tbG) (hlk : Cond.methodLink own idx y ∈ tbG) (hs : L[i]? = some (.inr (ci, ks))) (hc : vwCl[ci]? = some q) (hq : q.1 = y.cls) (hst : (rest.map fun v => v.category).sum ≤ 8) (hd : decode cc pc = .ok (.invokevirtual idx, 3)) (hp : pc + 3 = pc2)
    (k : ∀ (r1 : Int32) (S1 : Sg), Go L G Z nL ret pc2 lvs (.int r1 :: rest) S1 (f r1 S1) K) : Go L G Z nL ret pc lvs (v2 :: v1 :: .ref (G.2.1 i) :: rest) S (bd o1 f) K := by
  subst hp
  exact g_callV (As := [v1, v2]) X hM mf hin hlk hs hc hq hst hd k
theorem g_cSi2 (pc2 : Nat) {y : MethodName} {b : ByteArray} {n : Nat} {rt' : Option FieldType} {o1 : Option (Int32 × Sg)} {f : Int32 → Sg → Option (τ × Sg)} {v1 v2 : Value} {rest : List Value} {idx : Nat} (X : Cx L G Z cc nL own rt (d + 1)) (hM : Ct L G Z.2.1 rI y b n rt' d [v1, v2] S o1) (mf : MF y b n rt' 2) (hin : Cond.static y ∈ tbG) (hlk : Cond.methodLink own idx y ∈ tbG ∨ ∃ host, Cond.methodLinkNest own idx y host ∈ nsL) (hst : (rest.map fun v => v.category).sum ≤ 8) (hd : decode cc pc = .ok (.invokestatic idx, 3)) (hp : pc + 3 = pc2)
    (k : ∀ (r1 : Int32) (S1 : Sg), Go L G Z nL ret pc2 lvs (.int r1 :: rest) S1 (f r1 S1) K) : Go L G Z nL ret pc lvs (v2 :: v1 :: rest) S (bd o1 f) K := by
  subst hp
  exact g_callS (As := [v1, v2]) X hM mf hin hlk hst hd k
theorem g_cVi3 (pc2 : Nat) {y : MethodName} {b : ByteArray} {n : Nat} {rt' : Option FieldType} {o1 : Option (Int32 × Sg)} {f : Int32 → Sg → Option (τ × Sg)} {v1 v2 v3 : Value} {rest : List Value} {i ci idx : Nat} {ks : List Nat} {q : vw_C} (X : Cx L G Z cc nL own rt (d + 1)) (hM : Ct L G Z.2.1 rI y b n rt' d (.ref (G.2.1 i) :: [v1, v2, v3]) S o1) (mf : MF y b n rt' 3) (hin : Cond.instanceMethod y ∈ tbG ∧ Cond.selects y.cls y y ∈ tbG) (hlk : Cond.methodLink own idx y ∈ tbG) (hs : L[i]? = some (.inr (ci, ks))) (hc : vwCl[ci]? = some q) (hq : q.1 = y.cls) (hst : (rest.map fun v => v.category).sum ≤ 8) (hd : decode cc pc = .ok (.invokevirtual idx, 3)) (hp : pc + 3 = pc2)
    (k : ∀ (r1 : Int32) (S1 : Sg), Go L G Z nL ret pc2 lvs (.int r1 :: rest) S1 (f r1 S1) K) : Go L G Z nL ret pc lvs (v3 :: v2 :: v1 :: .ref (G.2.1 i) :: rest) S (bd o1 f) K := by
  subst hp
  exact g_callV (As := [v1, v2, v3]) X hM mf hin hlk hs hc hq hst hd k
theorem g_cSi3 (pc2 : Nat) {y : MethodName} {b : ByteArray} {n : Nat} {rt' : Option FieldType} {o1 : Option (Int32 × Sg)} {f : Int32 → Sg → Option (τ × Sg)} {v1 v2 v3 : Value} {rest : List Value} {idx : Nat} (X : Cx L G Z cc nL own rt (d + 1)) (hM : Ct L G Z.2.1 rI y b n rt' d [v1, v2, v3] S o1) (mf : MF y b n rt' 3) (hin : Cond.static y ∈ tbG) (hlk : Cond.methodLink own idx y ∈ tbG ∨ ∃ host, Cond.methodLinkNest own idx y host ∈ nsL) (hst : (rest.map fun v => v.category).sum ≤ 8) (hd : decode cc pc = .ok (.invokestatic idx, 3)) (hp : pc + 3 = pc2)
    (k : ∀ (r1 : Int32) (S1 : Sg), Go L G Z nL ret pc2 lvs (.int r1 :: rest) S1 (f r1 S1) K) : Go L G Z nL ret pc lvs (v3 :: v2 :: v1 :: rest) S (bd o1 f) K := by
  subst hp
  exact g_callS (As := [v1, v2, v3]) X hM mf hin hlk hst hd k
theorem g_cVi4 (pc2 : Nat) {y : MethodName} {b : ByteArray} {n : Nat} {rt' : Option FieldType} {o1 : Option (Int32 × Sg)} {f : Int32 → Sg → Option (τ × Sg)} {v1 v2 v3 v4 : Value} {rest : List Value} {i ci idx : Nat} {ks : List Nat} {q : vw_C} (X : Cx L G Z cc nL own rt (d + 1)) (hM : Ct L G Z.2.1 rI y b n rt' d (.ref (G.2.1 i) :: [v1, v2, v3, v4]) S o1) (mf : MF y b n rt' 4) (hin : Cond.instanceMethod y ∈ tbG ∧ Cond.selects y.cls y y ∈ tbG) (hlk : Cond.methodLink own idx y ∈ tbG) (hs : L[i]? = some (.inr (ci, ks))) (hc : vwCl[ci]? = some q) (hq : q.1 = y.cls) (hst : (rest.map fun v => v.category).sum ≤ 8) (hd : decode cc pc = .ok (.invokevirtual idx, 3)) (hp : pc + 3 = pc2)
    (k : ∀ (r1 : Int32) (S1 : Sg), Go L G Z nL ret pc2 lvs (.int r1 :: rest) S1 (f r1 S1) K) : Go L G Z nL ret pc lvs (v4 :: v3 :: v2 :: v1 :: .ref (G.2.1 i) :: rest) S (bd o1 f) K := by
  subst hp
  exact g_callV (As := [v1, v2, v3, v4]) X hM mf hin hlk hs hc hq hst hd k
theorem g_cSi4 (pc2 : Nat) {y : MethodName} {b : ByteArray} {n : Nat} {rt' : Option FieldType} {o1 : Option (Int32 × Sg)} {f : Int32 → Sg → Option (τ × Sg)} {v1 v2 v3 v4 : Value} {rest : List Value} {idx : Nat} (X : Cx L G Z cc nL own rt (d + 1)) (hM : Ct L G Z.2.1 rI y b n rt' d [v1, v2, v3, v4] S o1) (mf : MF y b n rt' 4) (hin : Cond.static y ∈ tbG) (hlk : Cond.methodLink own idx y ∈ tbG ∨ ∃ host, Cond.methodLinkNest own idx y host ∈ nsL) (hst : (rest.map fun v => v.category).sum ≤ 8) (hd : decode cc pc = .ok (.invokestatic idx, 3)) (hp : pc + 3 = pc2)
    (k : ∀ (r1 : Int32) (S1 : Sg), Go L G Z nL ret pc2 lvs (.int r1 :: rest) S1 (f r1 S1) K) : Go L G Z nL ret pc lvs (v4 :: v3 :: v2 :: v1 :: rest) S (bd o1 f) K := by
  subst hp
  exact g_callS (As := [v1, v2, v3, v4]) X hM mf hin hlk hst hd k
theorem g_cVi5 (pc2 : Nat) {y : MethodName} {b : ByteArray} {n : Nat} {rt' : Option FieldType} {o1 : Option (Int32 × Sg)} {f : Int32 → Sg → Option (τ × Sg)} {v1 v2 v3 v4 v5 : Value} {rest : List Value} {i ci idx : Nat} {ks : List Nat} {q : vw_C} (X : Cx L G Z cc nL own rt (d + 1)) (hM : Ct L G Z.2.1 rI y b n rt' d (.ref (G.2.1 i) :: [v1, v2, v3, v4, v5]) S o1) (mf : MF y b n rt' 5) (hin : Cond.instanceMethod y ∈ tbG ∧ Cond.selects y.cls y y ∈ tbG) (hlk : Cond.methodLink own idx y ∈ tbG) (hs : L[i]? = some (.inr (ci, ks))) (hc : vwCl[ci]? = some q) (hq : q.1 = y.cls) (hst : (rest.map fun v => v.category).sum ≤ 8) (hd : decode cc pc = .ok (.invokevirtual idx, 3)) (hp : pc + 3 = pc2)
    (k : ∀ (r1 : Int32) (S1 : Sg), Go L G Z nL ret pc2 lvs (.int r1 :: rest) S1 (f r1 S1) K) : Go L G Z nL ret pc lvs (v5 :: v4 :: v3 :: v2 :: v1 :: .ref (G.2.1 i) :: rest) S (bd o1 f) K := by
  subst hp
  exact g_callV (As := [v1, v2, v3, v4, v5]) X hM mf hin hlk hs hc hq hst hd k
theorem g_cSi5 (pc2 : Nat) {y : MethodName} {b : ByteArray} {n : Nat} {rt' : Option FieldType} {o1 : Option (Int32 × Sg)} {f : Int32 → Sg → Option (τ × Sg)} {v1 v2 v3 v4 v5 : Value} {rest : List Value} {idx : Nat} (X : Cx L G Z cc nL own rt (d + 1)) (hM : Ct L G Z.2.1 rI y b n rt' d [v1, v2, v3, v4, v5] S o1) (mf : MF y b n rt' 5) (hin : Cond.static y ∈ tbG) (hlk : Cond.methodLink own idx y ∈ tbG ∨ ∃ host, Cond.methodLinkNest own idx y host ∈ nsL) (hst : (rest.map fun v => v.category).sum ≤ 8) (hd : decode cc pc = .ok (.invokestatic idx, 3)) (hp : pc + 3 = pc2)
    (k : ∀ (r1 : Int32) (S1 : Sg), Go L G Z nL ret pc2 lvs (.int r1 :: rest) S1 (f r1 S1) K) : Go L G Z nL ret pc lvs (v5 :: v4 :: v3 :: v2 :: v1 :: rest) S (bd o1 f) K := by
  subst hp
  exact g_callS (As := [v1, v2, v3, v4, v5]) X hM mf hin hlk hst hd k
theorem g_cVl0 (pc2 : Nat) {y : MethodName} {b : ByteArray} {n : Nat} {rt' : Option FieldType} {o1 : Option (Int64 × Sg)} {f : Int64 → Sg → Option (τ × Sg)} {rest : List Value} {i ci idx : Nat} {ks : List Nat} {q : vw_C} (X : Cx L G Z cc nL own rt (d + 1)) (hM : Ct L G Z.2.1 rL y b n rt' d (.ref (G.2.1 i) :: []) S o1) (mf : MF y b n rt' 0) (hin : Cond.instanceMethod y ∈ tbG ∧ Cond.selects y.cls y y ∈ tbG) (hlk : Cond.methodLink own idx y ∈ tbG) (hs : L[i]? = some (.inr (ci, ks))) (hc : vwCl[ci]? = some q) (hq : q.1 = y.cls) (hst : (rest.map fun v => v.category).sum ≤ 8) (hd : decode cc pc = .ok (.invokevirtual idx, 3)) (hp : pc + 3 = pc2)
    (k : ∀ (r1 : Int64) (S1 : Sg), Go L G Z nL ret pc2 lvs (.long r1 :: rest) S1 (f r1 S1) K) : Go L G Z nL ret pc lvs (.ref (G.2.1 i) :: rest) S (bd o1 f) K := by
  subst hp
  exact g_callV (As := []) X hM mf hin hlk hs hc hq hst hd k
theorem g_cSl0 (pc2 : Nat) {y : MethodName} {b : ByteArray} {n : Nat} {rt' : Option FieldType} {o1 : Option (Int64 × Sg)} {f : Int64 → Sg → Option (τ × Sg)} {rest : List Value} {idx : Nat} (X : Cx L G Z cc nL own rt (d + 1)) (hM : Ct L G Z.2.1 rL y b n rt' d [] S o1) (mf : MF y b n rt' 0) (hin : Cond.static y ∈ tbG) (hlk : Cond.methodLink own idx y ∈ tbG ∨ ∃ host, Cond.methodLinkNest own idx y host ∈ nsL) (hst : (rest.map fun v => v.category).sum ≤ 8) (hd : decode cc pc = .ok (.invokestatic idx, 3)) (hp : pc + 3 = pc2)
    (k : ∀ (r1 : Int64) (S1 : Sg), Go L G Z nL ret pc2 lvs (.long r1 :: rest) S1 (f r1 S1) K) : Go L G Z nL ret pc lvs (rest) S (bd o1 f) K := by
  subst hp
  exact g_callS (As := []) X hM mf hin hlk hst hd k
theorem g_cVl1 (pc2 : Nat) {y : MethodName} {b : ByteArray} {n : Nat} {rt' : Option FieldType} {o1 : Option (Int64 × Sg)} {f : Int64 → Sg → Option (τ × Sg)} {v1 : Value} {rest : List Value} {i ci idx : Nat} {ks : List Nat} {q : vw_C} (X : Cx L G Z cc nL own rt (d + 1)) (hM : Ct L G Z.2.1 rL y b n rt' d (.ref (G.2.1 i) :: [v1]) S o1) (mf : MF y b n rt' 1) (hin : Cond.instanceMethod y ∈ tbG ∧ Cond.selects y.cls y y ∈ tbG) (hlk : Cond.methodLink own idx y ∈ tbG) (hs : L[i]? = some (.inr (ci, ks))) (hc : vwCl[ci]? = some q) (hq : q.1 = y.cls) (hst : (rest.map fun v => v.category).sum ≤ 8) (hd : decode cc pc = .ok (.invokevirtual idx, 3)) (hp : pc + 3 = pc2)
    (k : ∀ (r1 : Int64) (S1 : Sg), Go L G Z nL ret pc2 lvs (.long r1 :: rest) S1 (f r1 S1) K) : Go L G Z nL ret pc lvs (v1 :: .ref (G.2.1 i) :: rest) S (bd o1 f) K := by
  subst hp
  exact g_callV (As := [v1]) X hM mf hin hlk hs hc hq hst hd k
theorem g_cSl1 (pc2 : Nat) {y : MethodName} {b : ByteArray} {n : Nat} {rt' : Option FieldType} {o1 : Option (Int64 × Sg)} {f : Int64 → Sg → Option (τ × Sg)} {v1 : Value} {rest : List Value} {idx : Nat} (X : Cx L G Z cc nL own rt (d + 1)) (hM : Ct L G Z.2.1 rL y b n rt' d [v1] S o1) (mf : MF y b n rt' 1) (hin : Cond.static y ∈ tbG) (hlk : Cond.methodLink own idx y ∈ tbG ∨ ∃ host, Cond.methodLinkNest own idx y host ∈ nsL) (hst : (rest.map fun v => v.category).sum ≤ 8) (hd : decode cc pc = .ok (.invokestatic idx, 3)) (hp : pc + 3 = pc2)
    (k : ∀ (r1 : Int64) (S1 : Sg), Go L G Z nL ret pc2 lvs (.long r1 :: rest) S1 (f r1 S1) K) : Go L G Z nL ret pc lvs (v1 :: rest) S (bd o1 f) K := by
  subst hp
  exact g_callS (As := [v1]) X hM mf hin hlk hst hd k
theorem g_cVl2 (pc2 : Nat) {y : MethodName} {b : ByteArray} {n : Nat} {rt' : Option FieldType} {o1 : Option (Int64 × Sg)} {f : Int64 → Sg → Option (τ × Sg)} {v1 v2 : Value} {rest : List Value} {i ci idx : Nat} {ks : List Nat} {q : vw_C} (X : Cx L G Z cc nL own rt (d + 1)) (hM : Ct L G Z.2.1 rL y b n rt' d (.ref (G.2.1 i) :: [v1, v2]) S o1) (mf : MF y b n rt' 2) (hin : Cond.instanceMethod y ∈ tbG ∧ Cond.selects y.cls y y ∈ tbG) (hlk : Cond.methodLink own idx y ∈ tbG) (hs : L[i]? = some (.inr (ci, ks))) (hc : vwCl[ci]? = some q) (hq : q.1 = y.cls) (hst : (rest.map fun v => v.category).sum ≤ 8) (hd : decode cc pc = .ok (.invokevirtual idx, 3)) (hp : pc + 3 = pc2)
    (k : ∀ (r1 : Int64) (S1 : Sg), Go L G Z nL ret pc2 lvs (.long r1 :: rest) S1 (f r1 S1) K) : Go L G Z nL ret pc lvs (v2 :: v1 :: .ref (G.2.1 i) :: rest) S (bd o1 f) K := by
  subst hp
  exact g_callV (As := [v1, v2]) X hM mf hin hlk hs hc hq hst hd k
theorem g_cSl2 (pc2 : Nat) {y : MethodName} {b : ByteArray} {n : Nat} {rt' : Option FieldType} {o1 : Option (Int64 × Sg)} {f : Int64 → Sg → Option (τ × Sg)} {v1 v2 : Value} {rest : List Value} {idx : Nat} (X : Cx L G Z cc nL own rt (d + 1)) (hM : Ct L G Z.2.1 rL y b n rt' d [v1, v2] S o1) (mf : MF y b n rt' 2) (hin : Cond.static y ∈ tbG) (hlk : Cond.methodLink own idx y ∈ tbG ∨ ∃ host, Cond.methodLinkNest own idx y host ∈ nsL) (hst : (rest.map fun v => v.category).sum ≤ 8) (hd : decode cc pc = .ok (.invokestatic idx, 3)) (hp : pc + 3 = pc2)
    (k : ∀ (r1 : Int64) (S1 : Sg), Go L G Z nL ret pc2 lvs (.long r1 :: rest) S1 (f r1 S1) K) : Go L G Z nL ret pc lvs (v2 :: v1 :: rest) S (bd o1 f) K := by
  subst hp
  exact g_callS (As := [v1, v2]) X hM mf hin hlk hst hd k
theorem g_cVl3 (pc2 : Nat) {y : MethodName} {b : ByteArray} {n : Nat} {rt' : Option FieldType} {o1 : Option (Int64 × Sg)} {f : Int64 → Sg → Option (τ × Sg)} {v1 v2 v3 : Value} {rest : List Value} {i ci idx : Nat} {ks : List Nat} {q : vw_C} (X : Cx L G Z cc nL own rt (d + 1)) (hM : Ct L G Z.2.1 rL y b n rt' d (.ref (G.2.1 i) :: [v1, v2, v3]) S o1) (mf : MF y b n rt' 3) (hin : Cond.instanceMethod y ∈ tbG ∧ Cond.selects y.cls y y ∈ tbG) (hlk : Cond.methodLink own idx y ∈ tbG) (hs : L[i]? = some (.inr (ci, ks))) (hc : vwCl[ci]? = some q) (hq : q.1 = y.cls) (hst : (rest.map fun v => v.category).sum ≤ 8) (hd : decode cc pc = .ok (.invokevirtual idx, 3)) (hp : pc + 3 = pc2)
    (k : ∀ (r1 : Int64) (S1 : Sg), Go L G Z nL ret pc2 lvs (.long r1 :: rest) S1 (f r1 S1) K) : Go L G Z nL ret pc lvs (v3 :: v2 :: v1 :: .ref (G.2.1 i) :: rest) S (bd o1 f) K := by
  subst hp
  exact g_callV (As := [v1, v2, v3]) X hM mf hin hlk hs hc hq hst hd k
theorem g_cSl3 (pc2 : Nat) {y : MethodName} {b : ByteArray} {n : Nat} {rt' : Option FieldType} {o1 : Option (Int64 × Sg)} {f : Int64 → Sg → Option (τ × Sg)} {v1 v2 v3 : Value} {rest : List Value} {idx : Nat} (X : Cx L G Z cc nL own rt (d + 1)) (hM : Ct L G Z.2.1 rL y b n rt' d [v1, v2, v3] S o1) (mf : MF y b n rt' 3) (hin : Cond.static y ∈ tbG) (hlk : Cond.methodLink own idx y ∈ tbG ∨ ∃ host, Cond.methodLinkNest own idx y host ∈ nsL) (hst : (rest.map fun v => v.category).sum ≤ 8) (hd : decode cc pc = .ok (.invokestatic idx, 3)) (hp : pc + 3 = pc2)
    (k : ∀ (r1 : Int64) (S1 : Sg), Go L G Z nL ret pc2 lvs (.long r1 :: rest) S1 (f r1 S1) K) : Go L G Z nL ret pc lvs (v3 :: v2 :: v1 :: rest) S (bd o1 f) K := by
  subst hp
  exact g_callS (As := [v1, v2, v3]) X hM mf hin hlk hst hd k
theorem g_cVl4 (pc2 : Nat) {y : MethodName} {b : ByteArray} {n : Nat} {rt' : Option FieldType} {o1 : Option (Int64 × Sg)} {f : Int64 → Sg → Option (τ × Sg)} {v1 v2 v3 v4 : Value} {rest : List Value} {i ci idx : Nat} {ks : List Nat} {q : vw_C} (X : Cx L G Z cc nL own rt (d + 1)) (hM : Ct L G Z.2.1 rL y b n rt' d (.ref (G.2.1 i) :: [v1, v2, v3, v4]) S o1) (mf : MF y b n rt' 4) (hin : Cond.instanceMethod y ∈ tbG ∧ Cond.selects y.cls y y ∈ tbG) (hlk : Cond.methodLink own idx y ∈ tbG) (hs : L[i]? = some (.inr (ci, ks))) (hc : vwCl[ci]? = some q) (hq : q.1 = y.cls) (hst : (rest.map fun v => v.category).sum ≤ 8) (hd : decode cc pc = .ok (.invokevirtual idx, 3)) (hp : pc + 3 = pc2)
    (k : ∀ (r1 : Int64) (S1 : Sg), Go L G Z nL ret pc2 lvs (.long r1 :: rest) S1 (f r1 S1) K) : Go L G Z nL ret pc lvs (v4 :: v3 :: v2 :: v1 :: .ref (G.2.1 i) :: rest) S (bd o1 f) K := by
  subst hp
  exact g_callV (As := [v1, v2, v3, v4]) X hM mf hin hlk hs hc hq hst hd k
theorem g_cSl4 (pc2 : Nat) {y : MethodName} {b : ByteArray} {n : Nat} {rt' : Option FieldType} {o1 : Option (Int64 × Sg)} {f : Int64 → Sg → Option (τ × Sg)} {v1 v2 v3 v4 : Value} {rest : List Value} {idx : Nat} (X : Cx L G Z cc nL own rt (d + 1)) (hM : Ct L G Z.2.1 rL y b n rt' d [v1, v2, v3, v4] S o1) (mf : MF y b n rt' 4) (hin : Cond.static y ∈ tbG) (hlk : Cond.methodLink own idx y ∈ tbG ∨ ∃ host, Cond.methodLinkNest own idx y host ∈ nsL) (hst : (rest.map fun v => v.category).sum ≤ 8) (hd : decode cc pc = .ok (.invokestatic idx, 3)) (hp : pc + 3 = pc2)
    (k : ∀ (r1 : Int64) (S1 : Sg), Go L G Z nL ret pc2 lvs (.long r1 :: rest) S1 (f r1 S1) K) : Go L G Z nL ret pc lvs (v4 :: v3 :: v2 :: v1 :: rest) S (bd o1 f) K := by
  subst hp
  exact g_callS (As := [v1, v2, v3, v4]) X hM mf hin hlk hst hd k
theorem g_cVl5 (pc2 : Nat) {y : MethodName} {b : ByteArray} {n : Nat} {rt' : Option FieldType} {o1 : Option (Int64 × Sg)} {f : Int64 → Sg → Option (τ × Sg)} {v1 v2 v3 v4 v5 : Value} {rest : List Value} {i ci idx : Nat} {ks : List Nat} {q : vw_C} (X : Cx L G Z cc nL own rt (d + 1)) (hM : Ct L G Z.2.1 rL y b n rt' d (.ref (G.2.1 i) :: [v1, v2, v3, v4, v5]) S o1) (mf : MF y b n rt' 5) (hin : Cond.instanceMethod y ∈ tbG ∧ Cond.selects y.cls y y ∈ tbG) (hlk : Cond.methodLink own idx y ∈ tbG) (hs : L[i]? = some (.inr (ci, ks))) (hc : vwCl[ci]? = some q) (hq : q.1 = y.cls) (hst : (rest.map fun v => v.category).sum ≤ 8) (hd : decode cc pc = .ok (.invokevirtual idx, 3)) (hp : pc + 3 = pc2)
    (k : ∀ (r1 : Int64) (S1 : Sg), Go L G Z nL ret pc2 lvs (.long r1 :: rest) S1 (f r1 S1) K) : Go L G Z nL ret pc lvs (v5 :: v4 :: v3 :: v2 :: v1 :: .ref (G.2.1 i) :: rest) S (bd o1 f) K := by
  subst hp
  exact g_callV (As := [v1, v2, v3, v4, v5]) X hM mf hin hlk hs hc hq hst hd k
theorem g_cSl5 (pc2 : Nat) {y : MethodName} {b : ByteArray} {n : Nat} {rt' : Option FieldType} {o1 : Option (Int64 × Sg)} {f : Int64 → Sg → Option (τ × Sg)} {v1 v2 v3 v4 v5 : Value} {rest : List Value} {idx : Nat} (X : Cx L G Z cc nL own rt (d + 1)) (hM : Ct L G Z.2.1 rL y b n rt' d [v1, v2, v3, v4, v5] S o1) (mf : MF y b n rt' 5) (hin : Cond.static y ∈ tbG) (hlk : Cond.methodLink own idx y ∈ tbG ∨ ∃ host, Cond.methodLinkNest own idx y host ∈ nsL) (hst : (rest.map fun v => v.category).sum ≤ 8) (hd : decode cc pc = .ok (.invokestatic idx, 3)) (hp : pc + 3 = pc2)
    (k : ∀ (r1 : Int64) (S1 : Sg), Go L G Z nL ret pc2 lvs (.long r1 :: rest) S1 (f r1 S1) K) : Go L G Z nL ret pc lvs (v5 :: v4 :: v3 :: v2 :: v1 :: rest) S (bd o1 f) K := by
  subst hp
  exact g_callS (As := [v1, v2, v3, v4, v5]) X hM mf hin hlk hst hd k
theorem g_cVv0 (pc2 : Nat) {y : MethodName} {b : ByteArray} {n : Nat} {rt' : Option FieldType} {o1 : Option (Unit × Sg)} {f : Unit → Sg → Option (τ × Sg)} {rest : List Value} {i ci idx : Nat} {ks : List Nat} {q : vw_C} (X : Cx L G Z cc nL own rt (d + 1)) (hM : Ct L G Z.2.1 rV y b n rt' d (.ref (G.2.1 i) :: []) S o1) (mf : MF y b n rt' 0) (hin : Cond.instanceMethod y ∈ tbG ∧ Cond.selects y.cls y y ∈ tbG) (hlk : Cond.methodLink own idx y ∈ tbG) (hs : L[i]? = some (.inr (ci, ks))) (hc : vwCl[ci]? = some q) (hq : q.1 = y.cls) (hst : (rest.map fun v => v.category).sum ≤ 8) (hd : decode cc pc = .ok (.invokevirtual idx, 3)) (hp : pc + 3 = pc2)
    (k : ∀ (r1 : Unit) (S1 : Sg), Go L G Z nL ret pc2 lvs rest S1 (f r1 S1) K) : Go L G Z nL ret pc lvs (.ref (G.2.1 i) :: rest) S (bd o1 f) K := by
  subst hp
  exact g_callV (As := []) X hM mf hin hlk hs hc hq hst hd k
theorem g_cSv0 (pc2 : Nat) {y : MethodName} {b : ByteArray} {n : Nat} {rt' : Option FieldType} {o1 : Option (Unit × Sg)} {f : Unit → Sg → Option (τ × Sg)} {rest : List Value} {idx : Nat} (X : Cx L G Z cc nL own rt (d + 1)) (hM : Ct L G Z.2.1 rV y b n rt' d [] S o1) (mf : MF y b n rt' 0) (hin : Cond.static y ∈ tbG) (hlk : Cond.methodLink own idx y ∈ tbG ∨ ∃ host, Cond.methodLinkNest own idx y host ∈ nsL) (hst : (rest.map fun v => v.category).sum ≤ 8) (hd : decode cc pc = .ok (.invokestatic idx, 3)) (hp : pc + 3 = pc2)
    (k : ∀ (r1 : Unit) (S1 : Sg), Go L G Z nL ret pc2 lvs rest S1 (f r1 S1) K) : Go L G Z nL ret pc lvs (rest) S (bd o1 f) K := by
  subst hp
  exact g_callS (As := []) X hM mf hin hlk hst hd k
theorem g_cVv1 (pc2 : Nat) {y : MethodName} {b : ByteArray} {n : Nat} {rt' : Option FieldType} {o1 : Option (Unit × Sg)} {f : Unit → Sg → Option (τ × Sg)} {v1 : Value} {rest : List Value} {i ci idx : Nat} {ks : List Nat} {q : vw_C} (X : Cx L G Z cc nL own rt (d + 1)) (hM : Ct L G Z.2.1 rV y b n rt' d (.ref (G.2.1 i) :: [v1]) S o1) (mf : MF y b n rt' 1) (hin : Cond.instanceMethod y ∈ tbG ∧ Cond.selects y.cls y y ∈ tbG) (hlk : Cond.methodLink own idx y ∈ tbG) (hs : L[i]? = some (.inr (ci, ks))) (hc : vwCl[ci]? = some q) (hq : q.1 = y.cls) (hst : (rest.map fun v => v.category).sum ≤ 8) (hd : decode cc pc = .ok (.invokevirtual idx, 3)) (hp : pc + 3 = pc2)
    (k : ∀ (r1 : Unit) (S1 : Sg), Go L G Z nL ret pc2 lvs rest S1 (f r1 S1) K) : Go L G Z nL ret pc lvs (v1 :: .ref (G.2.1 i) :: rest) S (bd o1 f) K := by
  subst hp
  exact g_callV (As := [v1]) X hM mf hin hlk hs hc hq hst hd k
theorem g_cSv1 (pc2 : Nat) {y : MethodName} {b : ByteArray} {n : Nat} {rt' : Option FieldType} {o1 : Option (Unit × Sg)} {f : Unit → Sg → Option (τ × Sg)} {v1 : Value} {rest : List Value} {idx : Nat} (X : Cx L G Z cc nL own rt (d + 1)) (hM : Ct L G Z.2.1 rV y b n rt' d [v1] S o1) (mf : MF y b n rt' 1) (hin : Cond.static y ∈ tbG) (hlk : Cond.methodLink own idx y ∈ tbG ∨ ∃ host, Cond.methodLinkNest own idx y host ∈ nsL) (hst : (rest.map fun v => v.category).sum ≤ 8) (hd : decode cc pc = .ok (.invokestatic idx, 3)) (hp : pc + 3 = pc2)
    (k : ∀ (r1 : Unit) (S1 : Sg), Go L G Z nL ret pc2 lvs rest S1 (f r1 S1) K) : Go L G Z nL ret pc lvs (v1 :: rest) S (bd o1 f) K := by
  subst hp
  exact g_callS (As := [v1]) X hM mf hin hlk hst hd k
theorem g_cVv2 (pc2 : Nat) {y : MethodName} {b : ByteArray} {n : Nat} {rt' : Option FieldType} {o1 : Option (Unit × Sg)} {f : Unit → Sg → Option (τ × Sg)} {v1 v2 : Value} {rest : List Value} {i ci idx : Nat} {ks : List Nat} {q : vw_C} (X : Cx L G Z cc nL own rt (d + 1)) (hM : Ct L G Z.2.1 rV y b n rt' d (.ref (G.2.1 i) :: [v1, v2]) S o1) (mf : MF y b n rt' 2) (hin : Cond.instanceMethod y ∈ tbG ∧ Cond.selects y.cls y y ∈ tbG) (hlk : Cond.methodLink own idx y ∈ tbG) (hs : L[i]? = some (.inr (ci, ks))) (hc : vwCl[ci]? = some q) (hq : q.1 = y.cls) (hst : (rest.map fun v => v.category).sum ≤ 8) (hd : decode cc pc = .ok (.invokevirtual idx, 3)) (hp : pc + 3 = pc2)
    (k : ∀ (r1 : Unit) (S1 : Sg), Go L G Z nL ret pc2 lvs rest S1 (f r1 S1) K) : Go L G Z nL ret pc lvs (v2 :: v1 :: .ref (G.2.1 i) :: rest) S (bd o1 f) K := by
  subst hp
  exact g_callV (As := [v1, v2]) X hM mf hin hlk hs hc hq hst hd k
theorem g_cSv2 (pc2 : Nat) {y : MethodName} {b : ByteArray} {n : Nat} {rt' : Option FieldType} {o1 : Option (Unit × Sg)} {f : Unit → Sg → Option (τ × Sg)} {v1 v2 : Value} {rest : List Value} {idx : Nat} (X : Cx L G Z cc nL own rt (d + 1)) (hM : Ct L G Z.2.1 rV y b n rt' d [v1, v2] S o1) (mf : MF y b n rt' 2) (hin : Cond.static y ∈ tbG) (hlk : Cond.methodLink own idx y ∈ tbG ∨ ∃ host, Cond.methodLinkNest own idx y host ∈ nsL) (hst : (rest.map fun v => v.category).sum ≤ 8) (hd : decode cc pc = .ok (.invokestatic idx, 3)) (hp : pc + 3 = pc2)
    (k : ∀ (r1 : Unit) (S1 : Sg), Go L G Z nL ret pc2 lvs rest S1 (f r1 S1) K) : Go L G Z nL ret pc lvs (v2 :: v1 :: rest) S (bd o1 f) K := by
  subst hp
  exact g_callS (As := [v1, v2]) X hM mf hin hlk hst hd k
theorem g_cVv3 (pc2 : Nat) {y : MethodName} {b : ByteArray} {n : Nat} {rt' : Option FieldType} {o1 : Option (Unit × Sg)} {f : Unit → Sg → Option (τ × Sg)} {v1 v2 v3 : Value} {rest : List Value} {i ci idx : Nat} {ks : List Nat} {q : vw_C} (X : Cx L G Z cc nL own rt (d + 1)) (hM : Ct L G Z.2.1 rV y b n rt' d (.ref (G.2.1 i) :: [v1, v2, v3]) S o1) (mf : MF y b n rt' 3) (hin : Cond.instanceMethod y ∈ tbG ∧ Cond.selects y.cls y y ∈ tbG) (hlk : Cond.methodLink own idx y ∈ tbG) (hs : L[i]? = some (.inr (ci, ks))) (hc : vwCl[ci]? = some q) (hq : q.1 = y.cls) (hst : (rest.map fun v => v.category).sum ≤ 8) (hd : decode cc pc = .ok (.invokevirtual idx, 3)) (hp : pc + 3 = pc2)
    (k : ∀ (r1 : Unit) (S1 : Sg), Go L G Z nL ret pc2 lvs rest S1 (f r1 S1) K) : Go L G Z nL ret pc lvs (v3 :: v2 :: v1 :: .ref (G.2.1 i) :: rest) S (bd o1 f) K := by
  subst hp
  exact g_callV (As := [v1, v2, v3]) X hM mf hin hlk hs hc hq hst hd k
theorem g_cSv3 (pc2 : Nat) {y : MethodName} {b : ByteArray} {n : Nat} {rt' : Option FieldType} {o1 : Option (Unit × Sg)} {f : Unit → Sg → Option (τ × Sg)} {v1 v2 v3 : Value} {rest : List Value} {idx : Nat} (X : Cx L G Z cc nL own rt (d + 1)) (hM : Ct L G Z.2.1 rV y b n rt' d [v1, v2, v3] S o1) (mf : MF y b n rt' 3) (hin : Cond.static y ∈ tbG) (hlk : Cond.methodLink own idx y ∈ tbG ∨ ∃ host, Cond.methodLinkNest own idx y host ∈ nsL) (hst : (rest.map fun v => v.category).sum ≤ 8) (hd : decode cc pc = .ok (.invokestatic idx, 3)) (hp : pc + 3 = pc2)
    (k : ∀ (r1 : Unit) (S1 : Sg), Go L G Z nL ret pc2 lvs rest S1 (f r1 S1) K) : Go L G Z nL ret pc lvs (v3 :: v2 :: v1 :: rest) S (bd o1 f) K := by
  subst hp
  exact g_callS (As := [v1, v2, v3]) X hM mf hin hlk hst hd k
theorem g_cVv4 (pc2 : Nat) {y : MethodName} {b : ByteArray} {n : Nat} {rt' : Option FieldType} {o1 : Option (Unit × Sg)} {f : Unit → Sg → Option (τ × Sg)} {v1 v2 v3 v4 : Value} {rest : List Value} {i ci idx : Nat} {ks : List Nat} {q : vw_C} (X : Cx L G Z cc nL own rt (d + 1)) (hM : Ct L G Z.2.1 rV y b n rt' d (.ref (G.2.1 i) :: [v1, v2, v3, v4]) S o1) (mf : MF y b n rt' 4) (hin : Cond.instanceMethod y ∈ tbG ∧ Cond.selects y.cls y y ∈ tbG) (hlk : Cond.methodLink own idx y ∈ tbG) (hs : L[i]? = some (.inr (ci, ks))) (hc : vwCl[ci]? = some q) (hq : q.1 = y.cls) (hst : (rest.map fun v => v.category).sum ≤ 8) (hd : decode cc pc = .ok (.invokevirtual idx, 3)) (hp : pc + 3 = pc2)
    (k : ∀ (r1 : Unit) (S1 : Sg), Go L G Z nL ret pc2 lvs rest S1 (f r1 S1) K) : Go L G Z nL ret pc lvs (v4 :: v3 :: v2 :: v1 :: .ref (G.2.1 i) :: rest) S (bd o1 f) K := by
  subst hp
  exact g_callV (As := [v1, v2, v3, v4]) X hM mf hin hlk hs hc hq hst hd k
theorem g_cSv4 (pc2 : Nat) {y : MethodName} {b : ByteArray} {n : Nat} {rt' : Option FieldType} {o1 : Option (Unit × Sg)} {f : Unit → Sg → Option (τ × Sg)} {v1 v2 v3 v4 : Value} {rest : List Value} {idx : Nat} (X : Cx L G Z cc nL own rt (d + 1)) (hM : Ct L G Z.2.1 rV y b n rt' d [v1, v2, v3, v4] S o1) (mf : MF y b n rt' 4) (hin : Cond.static y ∈ tbG) (hlk : Cond.methodLink own idx y ∈ tbG ∨ ∃ host, Cond.methodLinkNest own idx y host ∈ nsL) (hst : (rest.map fun v => v.category).sum ≤ 8) (hd : decode cc pc = .ok (.invokestatic idx, 3)) (hp : pc + 3 = pc2)
    (k : ∀ (r1 : Unit) (S1 : Sg), Go L G Z nL ret pc2 lvs rest S1 (f r1 S1) K) : Go L G Z nL ret pc lvs (v4 :: v3 :: v2 :: v1 :: rest) S (bd o1 f) K := by
  subst hp
  exact g_callS (As := [v1, v2, v3, v4]) X hM mf hin hlk hst hd k
theorem g_cVv5 (pc2 : Nat) {y : MethodName} {b : ByteArray} {n : Nat} {rt' : Option FieldType} {o1 : Option (Unit × Sg)} {f : Unit → Sg → Option (τ × Sg)} {v1 v2 v3 v4 v5 : Value} {rest : List Value} {i ci idx : Nat} {ks : List Nat} {q : vw_C} (X : Cx L G Z cc nL own rt (d + 1)) (hM : Ct L G Z.2.1 rV y b n rt' d (.ref (G.2.1 i) :: [v1, v2, v3, v4, v5]) S o1) (mf : MF y b n rt' 5) (hin : Cond.instanceMethod y ∈ tbG ∧ Cond.selects y.cls y y ∈ tbG) (hlk : Cond.methodLink own idx y ∈ tbG) (hs : L[i]? = some (.inr (ci, ks))) (hc : vwCl[ci]? = some q) (hq : q.1 = y.cls) (hst : (rest.map fun v => v.category).sum ≤ 8) (hd : decode cc pc = .ok (.invokevirtual idx, 3)) (hp : pc + 3 = pc2)
    (k : ∀ (r1 : Unit) (S1 : Sg), Go L G Z nL ret pc2 lvs rest S1 (f r1 S1) K) : Go L G Z nL ret pc lvs (v5 :: v4 :: v3 :: v2 :: v1 :: .ref (G.2.1 i) :: rest) S (bd o1 f) K := by
  subst hp
  exact g_callV (As := [v1, v2, v3, v4, v5]) X hM mf hin hlk hs hc hq hst hd k
theorem g_cSv5 (pc2 : Nat) {y : MethodName} {b : ByteArray} {n : Nat} {rt' : Option FieldType} {o1 : Option (Unit × Sg)} {f : Unit → Sg → Option (τ × Sg)} {v1 v2 v3 v4 v5 : Value} {rest : List Value} {idx : Nat} (X : Cx L G Z cc nL own rt (d + 1)) (hM : Ct L G Z.2.1 rV y b n rt' d [v1, v2, v3, v4, v5] S o1) (mf : MF y b n rt' 5) (hin : Cond.static y ∈ tbG) (hlk : Cond.methodLink own idx y ∈ tbG ∨ ∃ host, Cond.methodLinkNest own idx y host ∈ nsL) (hst : (rest.map fun v => v.category).sum ≤ 8) (hd : decode cc pc = .ok (.invokestatic idx, 3)) (hp : pc + 3 = pc2)
    (k : ∀ (r1 : Unit) (S1 : Sg), Go L G Z nL ret pc2 lvs rest S1 (f r1 S1) K) : Go L G Z nL ret pc lvs (v5 :: v4 :: v3 :: v2 :: v1 :: rest) S (bd o1 f) K := by
  subst hp
  exact g_callS (As := [v1, v2, v3, v4, v5]) X hM mf hin hlk hst hd k
theorem g_cVr0 (pc2 : Nat) {y : MethodName} {b : ByteArray} {n : Nat} {rt' : Option FieldType} {o1 : Option (Nat × Sg)} {f : Nat → Sg → Option (τ × Sg)} {rest : List Value} {i ci idx : Nat} {ks : List Nat} {q : vw_C} (X : Cx L G Z cc nL own rt (d + 1)) (hM : Ct L G Z.2.1 (rR G) y b n rt' d (.ref (G.2.1 i) :: []) S o1) (mf : MF y b n rt' 0) (hin : Cond.instanceMethod y ∈ tbG ∧ Cond.selects y.cls y y ∈ tbG) (hlk : Cond.methodLink own idx y ∈ tbG) (hs : L[i]? = some (.inr (ci, ks))) (hc : vwCl[ci]? = some q) (hq : q.1 = y.cls) (hst : (rest.map fun v => v.category).sum ≤ 8) (hd : decode cc pc = .ok (.invokevirtual idx, 3)) (hp : pc + 3 = pc2)
    (k : ∀ (r1 : Nat) (S1 : Sg), Go L G Z nL ret pc2 lvs (.ref (G.2.1 r1) :: rest) S1 (f r1 S1) K) : Go L G Z nL ret pc lvs (.ref (G.2.1 i) :: rest) S (bd o1 f) K := by
  subst hp
  exact g_callV (As := []) X hM mf hin hlk hs hc hq hst hd k
theorem g_cSr0 (pc2 : Nat) {y : MethodName} {b : ByteArray} {n : Nat} {rt' : Option FieldType} {o1 : Option (Nat × Sg)} {f : Nat → Sg → Option (τ × Sg)} {rest : List Value} {idx : Nat} (X : Cx L G Z cc nL own rt (d + 1)) (hM : Ct L G Z.2.1 (rR G) y b n rt' d [] S o1) (mf : MF y b n rt' 0) (hin : Cond.static y ∈ tbG) (hlk : Cond.methodLink own idx y ∈ tbG ∨ ∃ host, Cond.methodLinkNest own idx y host ∈ nsL) (hst : (rest.map fun v => v.category).sum ≤ 8) (hd : decode cc pc = .ok (.invokestatic idx, 3)) (hp : pc + 3 = pc2)
    (k : ∀ (r1 : Nat) (S1 : Sg), Go L G Z nL ret pc2 lvs (.ref (G.2.1 r1) :: rest) S1 (f r1 S1) K) : Go L G Z nL ret pc lvs (rest) S (bd o1 f) K := by
  subst hp
  exact g_callS (As := []) X hM mf hin hlk hst hd k
theorem g_cVr1 (pc2 : Nat) {y : MethodName} {b : ByteArray} {n : Nat} {rt' : Option FieldType} {o1 : Option (Nat × Sg)} {f : Nat → Sg → Option (τ × Sg)} {v1 : Value} {rest : List Value} {i ci idx : Nat} {ks : List Nat} {q : vw_C} (X : Cx L G Z cc nL own rt (d + 1)) (hM : Ct L G Z.2.1 (rR G) y b n rt' d (.ref (G.2.1 i) :: [v1]) S o1) (mf : MF y b n rt' 1) (hin : Cond.instanceMethod y ∈ tbG ∧ Cond.selects y.cls y y ∈ tbG) (hlk : Cond.methodLink own idx y ∈ tbG) (hs : L[i]? = some (.inr (ci, ks))) (hc : vwCl[ci]? = some q) (hq : q.1 = y.cls) (hst : (rest.map fun v => v.category).sum ≤ 8) (hd : decode cc pc = .ok (.invokevirtual idx, 3)) (hp : pc + 3 = pc2)
    (k : ∀ (r1 : Nat) (S1 : Sg), Go L G Z nL ret pc2 lvs (.ref (G.2.1 r1) :: rest) S1 (f r1 S1) K) : Go L G Z nL ret pc lvs (v1 :: .ref (G.2.1 i) :: rest) S (bd o1 f) K := by
  subst hp
  exact g_callV (As := [v1]) X hM mf hin hlk hs hc hq hst hd k
theorem g_cSr1 (pc2 : Nat) {y : MethodName} {b : ByteArray} {n : Nat} {rt' : Option FieldType} {o1 : Option (Nat × Sg)} {f : Nat → Sg → Option (τ × Sg)} {v1 : Value} {rest : List Value} {idx : Nat} (X : Cx L G Z cc nL own rt (d + 1)) (hM : Ct L G Z.2.1 (rR G) y b n rt' d [v1] S o1) (mf : MF y b n rt' 1) (hin : Cond.static y ∈ tbG) (hlk : Cond.methodLink own idx y ∈ tbG ∨ ∃ host, Cond.methodLinkNest own idx y host ∈ nsL) (hst : (rest.map fun v => v.category).sum ≤ 8) (hd : decode cc pc = .ok (.invokestatic idx, 3)) (hp : pc + 3 = pc2)
    (k : ∀ (r1 : Nat) (S1 : Sg), Go L G Z nL ret pc2 lvs (.ref (G.2.1 r1) :: rest) S1 (f r1 S1) K) : Go L G Z nL ret pc lvs (v1 :: rest) S (bd o1 f) K := by
  subst hp
  exact g_callS (As := [v1]) X hM mf hin hlk hst hd k
theorem g_cVr2 (pc2 : Nat) {y : MethodName} {b : ByteArray} {n : Nat} {rt' : Option FieldType} {o1 : Option (Nat × Sg)} {f : Nat → Sg → Option (τ × Sg)} {v1 v2 : Value} {rest : List Value} {i ci idx : Nat} {ks : List Nat} {q : vw_C} (X : Cx L G Z cc nL own rt (d + 1)) (hM : Ct L G Z.2.1 (rR G) y b n rt' d (.ref (G.2.1 i) :: [v1, v2]) S o1) (mf : MF y b n rt' 2) (hin : Cond.instanceMethod y ∈ tbG ∧ Cond.selects y.cls y y ∈ tbG) (hlk : Cond.methodLink own idx y ∈ tbG) (hs : L[i]? = some (.inr (ci, ks))) (hc : vwCl[ci]? = some q) (hq : q.1 = y.cls) (hst : (rest.map fun v => v.category).sum ≤ 8) (hd : decode cc pc = .ok (.invokevirtual idx, 3)) (hp : pc + 3 = pc2)
    (k : ∀ (r1 : Nat) (S1 : Sg), Go L G Z nL ret pc2 lvs (.ref (G.2.1 r1) :: rest) S1 (f r1 S1) K) : Go L G Z nL ret pc lvs (v2 :: v1 :: .ref (G.2.1 i) :: rest) S (bd o1 f) K := by
  subst hp
  exact g_callV (As := [v1, v2]) X hM mf hin hlk hs hc hq hst hd k
theorem g_cSr2 (pc2 : Nat) {y : MethodName} {b : ByteArray} {n : Nat} {rt' : Option FieldType} {o1 : Option (Nat × Sg)} {f : Nat → Sg → Option (τ × Sg)} {v1 v2 : Value} {rest : List Value} {idx : Nat} (X : Cx L G Z cc nL own rt (d + 1)) (hM : Ct L G Z.2.1 (rR G) y b n rt' d [v1, v2] S o1) (mf : MF y b n rt' 2) (hin : Cond.static y ∈ tbG) (hlk : Cond.methodLink own idx y ∈ tbG ∨ ∃ host, Cond.methodLinkNest own idx y host ∈ nsL) (hst : (rest.map fun v => v.category).sum ≤ 8) (hd : decode cc pc = .ok (.invokestatic idx, 3)) (hp : pc + 3 = pc2)
    (k : ∀ (r1 : Nat) (S1 : Sg), Go L G Z nL ret pc2 lvs (.ref (G.2.1 r1) :: rest) S1 (f r1 S1) K) : Go L G Z nL ret pc lvs (v2 :: v1 :: rest) S (bd o1 f) K := by
  subst hp
  exact g_callS (As := [v1, v2]) X hM mf hin hlk hst hd k
theorem g_cVr3 (pc2 : Nat) {y : MethodName} {b : ByteArray} {n : Nat} {rt' : Option FieldType} {o1 : Option (Nat × Sg)} {f : Nat → Sg → Option (τ × Sg)} {v1 v2 v3 : Value} {rest : List Value} {i ci idx : Nat} {ks : List Nat} {q : vw_C} (X : Cx L G Z cc nL own rt (d + 1)) (hM : Ct L G Z.2.1 (rR G) y b n rt' d (.ref (G.2.1 i) :: [v1, v2, v3]) S o1) (mf : MF y b n rt' 3) (hin : Cond.instanceMethod y ∈ tbG ∧ Cond.selects y.cls y y ∈ tbG) (hlk : Cond.methodLink own idx y ∈ tbG) (hs : L[i]? = some (.inr (ci, ks))) (hc : vwCl[ci]? = some q) (hq : q.1 = y.cls) (hst : (rest.map fun v => v.category).sum ≤ 8) (hd : decode cc pc = .ok (.invokevirtual idx, 3)) (hp : pc + 3 = pc2)
    (k : ∀ (r1 : Nat) (S1 : Sg), Go L G Z nL ret pc2 lvs (.ref (G.2.1 r1) :: rest) S1 (f r1 S1) K) : Go L G Z nL ret pc lvs (v3 :: v2 :: v1 :: .ref (G.2.1 i) :: rest) S (bd o1 f) K := by
  subst hp
  exact g_callV (As := [v1, v2, v3]) X hM mf hin hlk hs hc hq hst hd k
theorem g_cSr3 (pc2 : Nat) {y : MethodName} {b : ByteArray} {n : Nat} {rt' : Option FieldType} {o1 : Option (Nat × Sg)} {f : Nat → Sg → Option (τ × Sg)} {v1 v2 v3 : Value} {rest : List Value} {idx : Nat} (X : Cx L G Z cc nL own rt (d + 1)) (hM : Ct L G Z.2.1 (rR G) y b n rt' d [v1, v2, v3] S o1) (mf : MF y b n rt' 3) (hin : Cond.static y ∈ tbG) (hlk : Cond.methodLink own idx y ∈ tbG ∨ ∃ host, Cond.methodLinkNest own idx y host ∈ nsL) (hst : (rest.map fun v => v.category).sum ≤ 8) (hd : decode cc pc = .ok (.invokestatic idx, 3)) (hp : pc + 3 = pc2)
    (k : ∀ (r1 : Nat) (S1 : Sg), Go L G Z nL ret pc2 lvs (.ref (G.2.1 r1) :: rest) S1 (f r1 S1) K) : Go L G Z nL ret pc lvs (v3 :: v2 :: v1 :: rest) S (bd o1 f) K := by
  subst hp
  exact g_callS (As := [v1, v2, v3]) X hM mf hin hlk hst hd k
theorem g_cVr4 (pc2 : Nat) {y : MethodName} {b : ByteArray} {n : Nat} {rt' : Option FieldType} {o1 : Option (Nat × Sg)} {f : Nat → Sg → Option (τ × Sg)} {v1 v2 v3 v4 : Value} {rest : List Value} {i ci idx : Nat} {ks : List Nat} {q : vw_C} (X : Cx L G Z cc nL own rt (d + 1)) (hM : Ct L G Z.2.1 (rR G) y b n rt' d (.ref (G.2.1 i) :: [v1, v2, v3, v4]) S o1) (mf : MF y b n rt' 4) (hin : Cond.instanceMethod y ∈ tbG ∧ Cond.selects y.cls y y ∈ tbG) (hlk : Cond.methodLink own idx y ∈ tbG) (hs : L[i]? = some (.inr (ci, ks))) (hc : vwCl[ci]? = some q) (hq : q.1 = y.cls) (hst : (rest.map fun v => v.category).sum ≤ 8) (hd : decode cc pc = .ok (.invokevirtual idx, 3)) (hp : pc + 3 = pc2)
    (k : ∀ (r1 : Nat) (S1 : Sg), Go L G Z nL ret pc2 lvs (.ref (G.2.1 r1) :: rest) S1 (f r1 S1) K) : Go L G Z nL ret pc lvs (v4 :: v3 :: v2 :: v1 :: .ref (G.2.1 i) :: rest) S (bd o1 f) K := by
  subst hp
  exact g_callV (As := [v1, v2, v3, v4]) X hM mf hin hlk hs hc hq hst hd k
theorem g_cSr4 (pc2 : Nat) {y : MethodName} {b : ByteArray} {n : Nat} {rt' : Option FieldType} {o1 : Option (Nat × Sg)} {f : Nat → Sg → Option (τ × Sg)} {v1 v2 v3 v4 : Value} {rest : List Value} {idx : Nat} (X : Cx L G Z cc nL own rt (d + 1)) (hM : Ct L G Z.2.1 (rR G) y b n rt' d [v1, v2, v3, v4] S o1) (mf : MF y b n rt' 4) (hin : Cond.static y ∈ tbG) (hlk : Cond.methodLink own idx y ∈ tbG ∨ ∃ host, Cond.methodLinkNest own idx y host ∈ nsL) (hst : (rest.map fun v => v.category).sum ≤ 8) (hd : decode cc pc = .ok (.invokestatic idx, 3)) (hp : pc + 3 = pc2)
    (k : ∀ (r1 : Nat) (S1 : Sg), Go L G Z nL ret pc2 lvs (.ref (G.2.1 r1) :: rest) S1 (f r1 S1) K) : Go L G Z nL ret pc lvs (v4 :: v3 :: v2 :: v1 :: rest) S (bd o1 f) K := by
  subst hp
  exact g_callS (As := [v1, v2, v3, v4]) X hM mf hin hlk hst hd k
theorem g_cVr5 (pc2 : Nat) {y : MethodName} {b : ByteArray} {n : Nat} {rt' : Option FieldType} {o1 : Option (Nat × Sg)} {f : Nat → Sg → Option (τ × Sg)} {v1 v2 v3 v4 v5 : Value} {rest : List Value} {i ci idx : Nat} {ks : List Nat} {q : vw_C} (X : Cx L G Z cc nL own rt (d + 1)) (hM : Ct L G Z.2.1 (rR G) y b n rt' d (.ref (G.2.1 i) :: [v1, v2, v3, v4, v5]) S o1) (mf : MF y b n rt' 5) (hin : Cond.instanceMethod y ∈ tbG ∧ Cond.selects y.cls y y ∈ tbG) (hlk : Cond.methodLink own idx y ∈ tbG) (hs : L[i]? = some (.inr (ci, ks))) (hc : vwCl[ci]? = some q) (hq : q.1 = y.cls) (hst : (rest.map fun v => v.category).sum ≤ 8) (hd : decode cc pc = .ok (.invokevirtual idx, 3)) (hp : pc + 3 = pc2)
    (k : ∀ (r1 : Nat) (S1 : Sg), Go L G Z nL ret pc2 lvs (.ref (G.2.1 r1) :: rest) S1 (f r1 S1) K) : Go L G Z nL ret pc lvs (v5 :: v4 :: v3 :: v2 :: v1 :: .ref (G.2.1 i) :: rest) S (bd o1 f) K := by
  subst hp
  exact g_callV (As := [v1, v2, v3, v4, v5]) X hM mf hin hlk hs hc hq hst hd k
theorem g_cSr5 (pc2 : Nat) {y : MethodName} {b : ByteArray} {n : Nat} {rt' : Option FieldType} {o1 : Option (Nat × Sg)} {f : Nat → Sg → Option (τ × Sg)} {v1 v2 v3 v4 v5 : Value} {rest : List Value} {idx : Nat} (X : Cx L G Z cc nL own rt (d + 1)) (hM : Ct L G Z.2.1 (rR G) y b n rt' d [v1, v2, v3, v4, v5] S o1) (mf : MF y b n rt' 5) (hin : Cond.static y ∈ tbG) (hlk : Cond.methodLink own idx y ∈ tbG ∨ ∃ host, Cond.methodLinkNest own idx y host ∈ nsL) (hst : (rest.map fun v => v.category).sum ≤ 8) (hd : decode cc pc = .ok (.invokestatic idx, 3)) (hp : pc + 3 = pc2)
    (k : ∀ (r1 : Nat) (S1 : Sg), Go L G Z nL ret pc2 lvs (.ref (G.2.1 r1) :: rest) S1 (f r1 S1) K) : Go L G Z nL ret pc lvs (v5 :: v4 :: v3 :: v2 :: v1 :: rest) S (bd o1 f) K := by
  subst hp
  exact g_callS (As := [v1, v2, v3, v4, v5]) X hM mf hin hlk hst hd k
/-- joins and loops -/
theorem g_joinK {σ : Type} {y : Option (σ × Sg)} {f : σ → Sg → Option (τ × Sg)} (pcJ : Nat) (lv : σ → List (Nat × Value)) (sk : σ → List Value) (J : ∀ (t : σ) (S1 : Sg), Go L G Z nL ret pcJ (lv t) (sk t) S1 (f t S1) K) (k : (∀ (t : σ) (S1 : Sg), Go L G Z nL ret pcJ (lv t) (sk t) S1 (some (t, S1)) (fun t S1 => bd (f t S1) K)) → Go L G Z nL ret pc lvs st S y (fun t S1 => bd (f t S1) K)) : Go L G Z nL ret pc lvs st S (bd y f) K :=
  g_join (k (fun t S1 => g_end (J t S1)))
/-- a loop with returns in it: the state behind it, or the answer -/
theorem g_joinR {σ ω : Type} {y : Option ((σ ⊕ ω) × Sg)} {f : σ → Sg → Option (τ × Sg)} {g : ω → Sg → Option (τ × Sg)} (pcJ : Nat) (lv : σ → List (Nat × Value)) (sk : σ → List Value) (J : ∀ (t : σ) (S1 : Sg), Go L G Z nL ret pcJ (lv t) (sk t) S1 (f t S1) K) (k : (∀ (t : σ) (S1 : Sg), Go L G Z nL ret pcJ (lv t) (sk t) S1 (some ((.inl t : σ ⊕ ω), S1)) (fun t S1 => bd (se f g t S1) K)) → Go L G Z nL ret pc lvs st S y (fun t S1 => bd (se f g t S1) K)) : Go L G Z nL ret pc lvs st S (bd y (se f g)) K :=
  g_join (k (fun t S1 => g_end (J t S1)))
def lp {α τ : Type} (B : (α → Sg → Option (τ × Sg)) → α → Sg → Option (τ × Sg)) : Nat → α → Sg → Option (τ × Sg)
  | 0, _, _ => none
  | n + 1, a, S => B (lp B n) a S
def fl : Nat := 4096
theorem g_lp {α : Type} {B : (α → Sg → Option (τ × Sg)) → α → Sg → Option (τ × Sg)} (lv : α → List (Nat × Value)) (hs : ∀ rec : α → Sg → Option (τ × Sg), (∀ (a : α) (S1 : Sg), Go L G Z nL ret pc (lv a) [] S1 (rec a S1) K) → ∀ (a : α) (S1 : Sg), Go L G Z nL ret pc (lv a) [] S1 (B rec a S1) K) (n : Nat) : ∀ (a : α) (S1 : Sg), Go L G Z nL ret pc (lv a) [] S1 (lp B n a S1) K := by
  induction n with
  | zero => exact fun a S1 => g_none
  | succ n ih => exact fun a S1 => hs (lp B n) ih a S1
theorem g_ite {c : Prop} [hc : Decidable c] {y z : Option (τ × Sg)} (k : c → Go L G Z nL ret pc lvs st S y K) (k' : ¬ c → Go L G Z nL ret pc lvs st S z K) : Go L G Z nL ret pc lvs st S (if c then y else z) K := by
  by_cases h : c
  · rw [if_pos h]; exact k h
  · rw [if_neg h]; exact k' h
theorem g_tin (pc2 : Nat) (X : Cx L G Z cc nL own rt d) {u : Int32} (c : Int32) (h : u = c) {dflt lo hi off : Int} {offs : Array Int} {len : Nat} (hd : decode cc pc = .ok (.tableswitch dflt lo hi offs, len)) (h1 : ¬ c.toInt < lo) (h2 : ¬ hi < c.toInt) (ho : offs[(c.toInt - lo).toNat]? = some off) (ht : (pc : Int) + off = (pc2 : Int)) (k : Go L G Z nL ret pc2 lvs st S x K) : Go L G Z nL ret pc lvs (.int u :: st) S x K := by
  subst h
  exact fun r S' ho' H locs ls hl hP hS => lv_tableIn X.1 X.2.1 hd h1 h2 ho ht (k r S' ho' H locs ls hl hP hS)
theorem sw_out {u : Int32} {lo hi : Int} (h : ∀ k : Nat, lo + (k : Int) ≤ hi → ¬ u.toInt = lo + (k : Int)) : u.toInt < lo ∨ hi < u.toInt := by
  rcases Int.lt_or_le u.toInt lo with q | q
  · exact Or.inl q
  · rcases Int.lt_or_le hi u.toInt with q2 | q2
    · exact Or.inr q2
    · have h1 : lo + ((u.toInt - lo).toNat : Int) = u.toInt := by omega
      exact absurd h1.symm (h _ (by omega))
theorem g_tout (pc2 : Nat) (X : Cx L G Z cc nL own rt d) {u : Int32} {dflt lo hi : Int} {offs : Array Int} {len : Nat} (hd : decode cc pc = .ok (.tableswitch dflt lo hi offs, len)) (h : u.toInt < lo ∨ hi < u.toInt) (ht : (pc : Int) + dflt = (pc2 : Int)) (k : Go L G Z nL ret pc2 lvs st S x K) : Go L G Z nL ret pc lvs (.int u :: st) S x K :=
  fun r S' ho' H locs ls hl hP hS => lv_tableOut X.1 X.2.1 hd h ht (k r S' ho' H locs ls hl hP hS)
theorem g_lks (pc2 : Nat) (X : Cx L G Z cc nL own rt d) {u : Int32} {dflt off : Int} {ps : Array (Int × Int)} {len : Nat} (hd : decode cc pc = .ok (.lookupswitch dflt ps, len)) (hp : (ps.toList.zip (ps.toList.drop 1)).all (fun (a, next) => a.1 < next.1) = true) (ho : Op.lookupswitch.offset ps.toList dflt u.toInt = off) (ht : (pc : Int) + off = (pc2 : Int)) (k : Go L G Z nL ret pc2 lvs st S x K) : Go L G Z nL ret pc lvs (.int u :: st) S x K :=
  fun r S' ho' H locs ls hl hP hS => lv_lookup X.1 X.2.1 hd hp ho ht (k r S' ho' H locs ls hl hP hS)
end GO
/-! the shapes: the class's cells, the reference's cells -/
def boardS (t : Nat) : Shp := .inr (0, [0, t + 3, t + 4, t + 5, t + 6, t + 7, t + 8, t + 9, t + 10])
def LC : List Shp := [
  .inr (8, [3, 5, 7, 8, 9, 14, 23, 26, 35, 38, 42, 43, 44, 45, 0, 0, 0, 0]),
  .inr (7, [4, 0]), .inl (0, 20), .inr (7, [6, 0]), .inl (0, 55),
  .inl (0, 20), .inl (0, 20),
  .inr (1, [10, 11, 12, 13, 0, 0]), .inl (0, 8), .inl (0, 8), .inl (0, 4), .inl (0, 4),
  .inr (0, [0, 15, 16, 17, 18, 19, 20, 21, 22]), .inl (0, 8), .inl (0, 8), .inl (0, 8), .inl (0, 8), .inl (0, 8), .inl (0, 20), .inl (0, 20), .inl (0, 20),
  .inr (3, [24, 25]), .inl (0, 20), .inl (0, 20),
  .inr (0, [0, 27, 28, 29, 30, 31, 32, 33, 34]), .inl (0, 8), .inl (0, 8), .inl (0, 8), .inl (0, 8), .inl (0, 8), .inl (0, 20), .inl (0, 20), .inl (0, 20),
  .inr (3, [36, 37]), .inl (0, 20), .inl (0, 20),
  .inr (6, [39, 40, 41, 0]), .inl (0, 8), .inl (0, 8), .inl (0, 8),
  .inr (4, [0, 0]),
  .inr (2, [0, 0, 0, 0, 1, 1]),
  .inl (46, 4), .inl (0, 160),
  .inr (5, [47, 0, 0, 0]), .inl (0, 60), .inr (5, [49, 0, 0, 0]), .inl (0, 60), .inr (5, [51, 0, 0, 0]), .inl (0, 60), .inr (5, [53, 0, 0, 0]), .inl (0, 60)]
def LM : List Shp := [
  .inr (9, [3, 4, 0, 5, 0, 6, 7, 8, 9, 0, 0, 10, 11, 0, 12, 13, 14, 0, 0, 15, 16, 0, 17, 18, 19, 0, 20, 21, 22, 23, 24, 25, 26, 27, 28, 0]),
  .inl (0, 2), .inl (0, 110), .inl (0, 20), .inl (0, 9), .inl (0, 9), .inl (0, 9), .inl (0, 9), .inl (0, 8), .inl (0, 8), .inl (0, 4), .inl (0, 4),
  .inl (0, 20), .inl (0, 8), .inl (0, 8), .inl (0, 20), .inl (0, 160), .inl (0, 160), .inl (0, 8), .inl (0, 8), .inl (0, 8), .inl (0, 160), .inl (1, 4), .inl (0, 4), .inl (0, 4), .inl (0, 240), .inl (0, 60)]
def isBoard (t : Nat) : Prop := t = 12 ∨ t = 24
def isText (t : Nat) : Prop := t = 1 ∨ t = 3
def isCourse (t : Nat) : Prop := t = 21 ∨ t = 33
def isSheet (t : Nat) : Prop := t = 44 ∨ t = 46 ∨ t = 48 ∨ t = 50
def isDamps (t : Nat) : Prop := t = 5 ∨ t = 6
def tlen (t : Nat) : Nat := if t = 1 then 20 else 55
theorem sBoard {t : Nat} (h : isBoard t) : LC[t]? = some (boardS t) := by rcases h with rfl | rfl <;> rfl
theorem sB8 {t : Nat} (h : isBoard t) (k : Nat) (hk : 1 ≤ k ∧ k ≤ 5) : LC[t + k]? = some (.inl (0, 8)) := by
  have h1 : k = 1 ∨ k = 2 ∨ k = 3 ∨ k = 4 ∨ k = 5 := by omega
  rcases h with rfl | rfl <;> rcases h1 with rfl | rfl | rfl | rfl | rfl <;> rfl
theorem sB20 {t : Nat} (h : isBoard t) (k : Nat) (hk : 6 ≤ k ∧ k ≤ 8) : LC[t + k]? = some (.inl (0, 20)) := by
  have h1 : k = 6 ∨ k = 7 ∨ k = 8 := by omega
  rcases h with rfl | rfl <;> rcases h1 with rfl | rfl | rfl <;> rfl
theorem sText {t : Nat} (h : isText t) : LC[t]? = some (.inr (7, [t + 3, 0])) := by rcases h with rfl | rfl <;> rfl
theorem sTextA {t : Nat} (h : isText t) : LC[t + 1]? = some (.inl (0, tlen t)) := by rcases h with rfl | rfl <;> rfl
theorem sCourse {t : Nat} (h : isCourse t) : LC[t]? = some (.inr (3, [t + 3, t + 4])) := by rcases h with rfl | rfl <;> rfl
theorem sC20 {t : Nat} (h : isCourse t) (k : Nat) (hk : 1 ≤ k ∧ k ≤ 2) : LC[t + k]? = some (.inl (0, 20)) := by
  have h1 : k = 1 ∨ k = 2 := by omega
  rcases h with rfl | rfl <;> rcases h1 with rfl | rfl <;> rfl
theorem sSheet {t : Nat} (h : isSheet t) : LC[t]? = some (.inr (5, [t + 3, 0, 0, 0])) := by rcases h with rfl | rfl | rfl | rfl <;> rfl
theorem sSheetA {t : Nat} (h : isSheet t) : LC[t + 1]? = some (.inl (0, 60)) := by rcases h with rfl | rfl | rfl | rfl <;> rfl
theorem sDamps {t : Nat} (h : isDamps t) : LC[t]? = some (.inl (0, 20)) := by rcases h with rfl | rfl <;> rfl
def txb (t : Nat) : Bool := t == 1 || t == 3
theorem isText_b {t : Nat} (h : txb t = true) : isText t := by simpa [txb, isText] using h
theorem isSheet_i {i : Int32} (h : ix i 4 = true) : isSheet (44 + 2 * i.toNatClampNeg) := by
  simp only [ix, Bool.and_eq_true, decide_eq_true_eq] at h
  have h2 := h.2
  unfold isSheet
  omega
