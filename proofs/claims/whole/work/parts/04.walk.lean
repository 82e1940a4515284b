/-! THE WALK: a judgement over the kit's W with the method's own numbers hidden, a row an instruction; ints and longs are told by Lean's whole numbers -/
def lvp : Nat → List (Option Value) → List (Nat × Value)
  | _, [] => []
  | i, none :: t => lvp (i + 1) t
  | i, some v :: t => (i, v) :: lvp (i + 1) t
theorem lvp_mem : ∀ (l : List (Option Value)) (i j : Nat) (v : Value), (j, v) ∈ lvp i l ↔ ∃ k, j = i + k ∧ l[k]? = some (some v)
  | [], i, j, v => by simp [lvp]
  | none :: t, i, j, v => by
    rw [show lvp i (none :: t) = lvp (i + 1) t from rfl, lvp_mem t (i + 1) j v]
    constructor
    · rintro ⟨k, h1, h2⟩; exact ⟨k + 1, by omega, by simpa using h2⟩
    · rintro ⟨k, h1, h2⟩
      cases k with
      | zero => simp at h2
      | succ k => exact ⟨k, by omega, by simpa using h2⟩
  | some u :: t, i, j, v => by
    rw [show lvp i (some u :: t) = (i, u) :: lvp (i + 1) t from rfl, List.mem_cons, lvp_mem t (i + 1) j v]
    constructor
    · rintro (h | ⟨k, h1, h2⟩)
      · cases h; exact ⟨0, rfl, rfl⟩
      · exact ⟨k + 1, by omega, by simpa using h2⟩
    · rintro ⟨k, h1, h2⟩
      cases k with
      | zero => left; simp at h2; rw [h1, h2]; rfl
      | succ k => right; exact ⟨k, by omega, by simpa using h2⟩
theorem lvp_at {ls : Array Slot} {nL : Nat} {lv : List (Option Value)} (h : lv_has ls nL (lvp 0 lv)) {i : Nat} {v : Value} (hi : lv[i]? = some (some v)) : ls[i]? = some (.val v) := h.2.2 (i, v) ((lvp_mem lv 0 i v).mpr ⟨i, by omega, hi⟩)
def okst (lv : List (Option Value)) (i : Nat) : Bool := match i with
  | 0 => true
  | j + 1 => match lv[j]? with
    | some (some v) => v.category != 2
    | _ => true
theorem lvp_set {ls : Array Slot} {nL : Nat} {lv : List (Option Value)} {i : Nat} {v : Value} (hk : okst lv i = true) (h : lv_has ls nL ((i, v) :: (lvp 0 lv).filter (fun q => !(q.1 == i) && !(q.1 + 1 == i && q.2.category == 2)))) : lv_has ls nL (lvp 0 (lv.set i (some v))) := by
  refine ⟨h.1, h.2.1, fun q hq => ?_⟩
  obtain ⟨j, u⟩ := q
  obtain ⟨k, h1, h2⟩ := (lvp_mem _ 0 j u).mp hq
  have e : j = k := by omega
  subst e
  by_cases hj : i = j
  · subst hj
    rw [List.getElem?_set] at h2
    split at h2
    · split at h2
      · cases h2; exact h.2.2 _ List.mem_cons_self
      · cases h2
    · exact absurd rfl ‹_›
  · rw [List.getElem?_set_ne hj] at h2
    refine h.2.2 (j, u) (List.mem_cons_of_mem _ (List.mem_filter.mpr ⟨(lvp_mem lv 0 j u).mpr ⟨j, by omega, h2⟩, ?_⟩))
    have c1 : (j == i) = false := by simpa using fun e => hj e.symm
    rw [Bool.and_eq_true]
    refine ⟨by simp [c1], ?_⟩
    by_cases c2 : j + 1 = i
    · subst c2
      rw [show okst lv (j + 1) = (match lv[j]? with | some (some v) => v.category != 2 | _ => true) from rfl, h2] at hk
      simp at hk
      simp [hk]
    · simp [c2]
theorem lvp_setL {ls : Array Slot} {nL : Nat} {lv : List (Option Value)} {i : Nat} {v : Value} (hk : okst lv i = true) (h : lv_has ls nL ((i, v) :: (lvp 0 lv).filter (fun q => !(q.1 == i) && (!(q.1 == i + 1) && !(q.1 + 1 == i && q.2.category == 2))))) : lv_has ls nL (lvp 0 ((lv.set i (some v)).set (i + 1) none)) := by
  refine ⟨h.1, h.2.1, fun q hq => ?_⟩
  obtain ⟨j, u⟩ := q
  obtain ⟨k, h1, h2⟩ := (lvp_mem _ 0 j u).mp hq
  have e : j = k := by omega
  subst e
  by_cases hj1 : i + 1 = j
  · subst hj1
    rw [List.getElem?_set] at h2
    split at h2
    · split at h2 <;> cases h2
    · exact absurd rfl ‹_›
  rw [List.getElem?_set_ne hj1] at h2
  by_cases hj : i = j
  · subst hj
    rw [List.getElem?_set] at h2
    split at h2
    · split at h2
      · cases h2; exact h.2.2 _ List.mem_cons_self
      · cases h2
    · exact absurd rfl ‹_›
  · rw [List.getElem?_set_ne hj] at h2
    refine h.2.2 (j, u) (List.mem_cons_of_mem _ (List.mem_filter.mpr ⟨(lvp_mem lv 0 j u).mpr ⟨j, by omega, h2⟩, ?_⟩))
    have c1 : (j == i) = false := by simpa using fun e => hj e.symm
    have c3 : (j == i + 1) = false := by simpa using fun e => hj1 e.symm
    rw [Bool.and_eq_true, Bool.and_eq_true]
    refine ⟨by simp [c1], by simp [c3], ?_⟩
    by_cases c2 : j + 1 = i
    · subst c2
      rw [show okst lv (j + 1) = (match lv[j]? with | some (some v) => v.category != 2 | _ => true) from rfl, h2] at hk
      simp at hk
      simp [hk]
    · simp [c2]
/-- some locals forgotten -/
def mask : List Bool → List (Option Value) → List (Option Value)
  | b :: bs, o :: os => (if b then o else none) :: mask bs os
  | _, [] => []
  | [], o :: os => o :: mask [] os
theorem mask_len : ∀ (bs : List Bool) (l : List (Option Value)), (mask bs l).length = l.length
  | _ :: bs, _ :: os => by simp [mask, mask_len bs os]
  | _ :: _, [] => by simp [mask]
  | [], [] => by simp [mask]
  | [], _ :: os => by simp [mask, mask_len [] os]
theorem mask_get : ∀ (bs : List Bool) (l : List (Option Value)) (k : Nat) (v : Value), (mask bs l)[k]? = some (some v) → l[k]? = some (some v)
  | b :: bs, o :: os, 0, v => by
    cases b <;> simp [mask]
  | b :: bs, o :: os, k + 1, v => by simpa [mask] using mask_get bs os k v
  | _ :: _, [], k, v => by simp [mask]
  | [], [], k, v => by simp [mask]
  | [], o :: os, 0, v => by simp [mask]
  | [], o :: os, k + 1, v => by simpa [mask] using mask_get [] os k v
theorem lvp_mask {ls : Array Slot} {nL : Nat} {lv : List (Option Value)} (bs : List Bool) (h : lv_has ls nL (lvp 0 lv)) : lv_has ls nL (lvp 0 (mask bs lv)) := by
  refine ⟨h.1, h.2.1, fun q hq => ?_⟩
  obtain ⟨j, u⟩ := q
  obtain ⟨k, h1, h2⟩ := (lvp_mem _ 0 j u).mp hq
  exact h.2.2 (j, u) ((lvp_mem lv 0 j u).mpr ⟨k, h1, mask_get bs lv k u h2⟩)
/-- the words that every method rests on -/
def lw_G : List Cond := lw_tbl.filter goodWord
theorem lw_G_good : ∀ w ∈ lw_G, goodWord w = true := fun w h => (List.mem_filter.mp h).2
theorem lw_G_in {w : Cond} (h : w ∈ lw_tbl) (hg : goodWord w = true) : w ∈ lw_G := List.mem_filter.mpr ⟨h, hg⟩
theorem lw_G_sub : ∀ w ∈ lw_G, w ∈ lw_tbl := fun _ h => (List.mem_filter.mp h).1
def isNest : Cond → Bool
  | .methodLinkNest .. => true
  | _ => false
def lw_nest : List Cond := lw_tbl.filter isNest
abbrev u_X : Type := va_G × List (ClassId × FieldType)
abbrev u_K : Type := Nat → Nat → Nat → List (Option Value) → List Value → va_W → Prop
def KX (X : u_X) (U : State) : Prop := va_K X.1 vwCl X.2 U ∧ ∀ w ∈ lw_nest, va_Nw w U
theorem nest_warm {w : Cond} (hw : w ∈ lw_nest) {s U : State} (hW : s.WarmedH U.vm) (h : va_Nw w s) : va_Nw w U := by
  have h1 := (List.mem_filter.mp hw).2
  cases w <;> first | exact va_Nw.warmM hW h | cases h1
theorem nest_same {w : Cond} (hw : w ∈ lw_nest) {s U : State} (he : s.vm = U.vm) (h : va_Nw w s) : va_Nw w U := by
  have h1 := (List.mem_filter.mp hw).2
  cases w <;> first | exact va_Nw.same rfl he h | cases h1
theorem KX.warm {X : u_X} {s U : State} (hW : s.WarmedH U.vm) (h : KX X s) : KX X U := ⟨va_K.moved hW.alike h.1, fun w hw => nest_warm hw hW (h.2 w hw)⟩
theorem KX.same {X : u_X} {s U : State} (he : s.vm = U.vm) (h : KX X s) : KX X U := ⟨va_K.moved (by rw [he]; exact Vm.Alike.refl _) h.1, fun w hw => nest_same hw he (h.2 w hw)⟩
def wsG (y : MethodName) (cc : ByteArray) (nL : Nat) (ret : Option FieldType) : List Cond := .code y cc nL ret :: lw_G
/-- how a method ends -/
def QG (X : u_X) (Rt : Option Value → va_W → Prop) (A : Nat → Prop) : Array Value → State → Outcome → State → Prop := fun _ st oc t => (∃ (v : Option Value) (w : va_W), oc = .returned v ∧ Rt v w ∧ va_P X.1 vwCl w t.heap ∧ va_D A w) ∧ va_F A st t
def PG (X : u_X) (args : List Value) (w : va_W) (sz : Nat) : Array Value → State → Prop := va_Pc args (fun U => U.heap.size = sz ∧ va_P X.1 vwCl w U.heap ∧ KX X U ∧ va_D (fun _ => True) w)
/-- a method's contract -/
def Con (l : Launch) (X : u_X) (y : MethodName) (cc : ByteArray) (nL : Nat) (ret : Option FieldType) (rf rl mc ms : Nat) (args : List Value) (w : va_W) (Rt : Option Value → va_W → Prop) : Prop :=
  ∀ sz : Nat, Met l y (wsG y cc nL ret) { frames := rf, cells := mc, slots := ms, locals := rl } (PG X args w sz) (QG X Rt (va_A w sz)) mc ms (va_A w sz)
theorem PG_blind (X : u_X) (args : List Value) (w : va_W) (sz : Nat) : FrameBlind (PG X args w sz) := fun a U g mk q => by
  obtain ⟨q0, q1, qP, qK, qD⟩ := q
  exact ⟨q0, q1, qP, KX.same (U := U.calling g mk a) (s := U) rfl qK, qD⟩
def MW (X : u_X) (p : Program) (l : Launch) (e : Env) (R : Room) (s : State) (m : MethodId) (args : Array Value) (below : List Frame) (meth : Method) (c : Code) (nL : Nat) (A : Nat → Prop) (H0 : Heap) (Q : State → Prop) : u_K :=
  fun nc ns pc lv st w => lv.length = nL → ∀ (H : Heap) (locs : List Loc) (ls : Array Slot), lv_has ls nL (lvp 0 lv) → va_P X.1 vwCl w H → va_D A w → va_S A H0 H locs → W p l e R s m args below meth c H locs nc ns Q (F0 m pc ls st)
/-- what a walk rests on -/
def Wk0 (l : Launch) (X : u_X) (R : Room) (cc : ByteArray) (nL : Nat) (own : String) (nm : String) (K : u_K) : Prop :=
  ∃ (p : Program) (e : Env) (s : State) (m : MethodId) (args : Array Value) (below : List Frame) (meth : Method) (c : Code) (A : Nat → Prop) (H0 : Heap) (Q : State → Prop), K = MW X p l e R s m args below meth c nL A H0 Q ∧ p.tables.exec = Jvm.exec ∧ c.code = cc ∧ c.maxLocals = nL ∧ s.vm.findClass own = some m.cls ∧ (∀ w ∈ lw_G, w.before args s = true) ∧ KX X s ∧ (∀ q, H0.size ≤ q → A q) ∧ meth.name = nm
/-- .. and its end -/
def Wk (l : Launch) (X : u_X) (R : Room) (cc : ByteArray) (nL : Nat) (own nm : String) (ret : Option FieldType) (Rt : Option Value → va_W → Prop) (K : u_K) : Prop :=
  ∃ (p : Program) (e : Env) (s : State) (m : MethodId) (args : Array Value) (below : List Frame) (meth : Method) (c : Code) (A : Nat → Prop), K = MW X p l e R s m args below meth c nL A s.heap (MQ below (QG X Rt A) args s R.cells R.slots A) ∧ p.tables.exec = Jvm.exec ∧ c.code = cc ∧ c.maxLocals = nL ∧ s.vm.findClass own = some m.cls ∧ (∀ w ∈ lw_G, w.before args s = true) ∧ KX X s ∧ (∀ q, s.heap.size ≤ q → A q) ∧ meth.name = nm ∧ meth.sig.returnType = ret ∧ meth.locks = false
theorem Wk.wk {l : Launch} {X : u_X} {R : Room} {cc : ByteArray} {nL : Nat} {own nm : String} {ret : Option FieldType} {Rt : Option Value → va_W → Prop} {K : u_K} (g : Wk l X R cc nL own nm ret Rt K) : Wk0 l X R cc nL own nm K := by
  obtain ⟨p, e, s, m, args, below, meth, c, A, h1, h2, h3, h4, h5, h6, h7, h8, h9, -⟩ := g
  exact ⟨p, e, s, m, args, below, meth, c, A, s.heap, _, h1, h2, h3, h4, h5, h6, h7, h8, h9⟩
theorem Con.of {l : Launch} {X : u_X} {y : MethodName} {cc : ByteArray} {nL : Nat} {ret : Option FieldType} {rf rl mc ms : Nat} {args : List Value} {w : va_W} {Rt : Option Value → va_W → Prop} (lv : List (Option Value)) (hy : plainName y.cls = true) (hlv : lvp 0 lv = lv_args 0 args) (hln : lv.length = nL) (hsl : (lg_sl args).length ≤ nL)
    (body : ∀ K, Wk l X { frames := rf, cells := mc, slots := ms, locals := rl } cc nL y.cls y.name ret Rt K → K 0 0 0 lv [] w) : Con l X y cc nL ret rf rl mc ms args w Rt := by
  intro sz
  refine Met.ofW (cc := cc) (maxL := nL) (ret := ret) hy rfl ?_
  intro p e s m a below meth c s₁ B hml hv
  obtain ⟨rfl, hsz, hP, hK, hD0⟩ := hv
  have hts := atoms_spec (ws := wsG y cc nL ret) B.pre
  have hown : s.vm.findClass y.cls = some m.cls := findClass_of_methodNamed B.named
  subst hsz
  have hD := hD0.self (sz := s.heap.size)
  have hl := lv_entry args (n := nL) hsl
  rw [lg_entry_eq]
  rw [← hlv] at hl
  exact body _ ⟨p, e, s, m, args.toArray, below, meth, c, va_A w s.heap.size, rfl, B.exec, B.bytes, hml, hown, fun w h => hts w (List.mem_cons_of_mem _ h), hK, fun q h => Or.inr h, (name_of_methodNamed B.named B.method).1, B.returns, B.notSynchronized⟩ hln s.heap [] _ hl hP hD va_S.rf
section ROWS
variable {l : Launch} {X : u_X} {R : Room} {cc : ByteArray} {nL : Nat} {own nm : String} {K : u_K} {nc ns pc : Nat} {lv : List (Option Value)} {st : List Value} {w : va_W}
theorem r_mask (g : Wk0 l X R cc nL own nm K) (bs : List Bool) {lv' : List (Option Value)} (h : mask bs lv = lv') (k : K nc ns pc lv' st w) : K nc ns pc lv st w := by
  obtain ⟨p, e, s, m, args, below, meth, c, A, H0, Q, rfl, hx, hb, hml, hown, hts, hK, hA, hnm⟩ := g
  intro hln H locs ls hl hP hD hS
  subst h
  exact k (by rw [mask_len]; exact hln) H locs ls (lvp_mask bs hl) hP hD hS
theorem r_iconst (g : Wk0 l X R cc nL own nm K) {n : Int} (d : decode cc pc = .ok (.iconst n, 1))  (k : K nc ns (pc + 1) lv (.int (J n) :: st) w) : K nc ns pc lv (st) w := by
  obtain ⟨p, e, s, m, args, below, meth, c, A, H0, Q, rfl, hx, hb, hml, hown, hts, hK, hA, hnm⟩ := g
  intro hln H locs ls hl hP hD hS
  exact lv_iconst (v := J n) hx hb d rfl (k hln H locs ls hl hP hD hS)
theorem r_bipush (g : Wk0 l X R cc nL own nm K) {n : Int} (d : decode cc pc = .ok (.bipush n, 2)) (hn : (Int8.ofInt n).toInt32 = J n) (k : K nc ns (pc + 2) lv (.int (J n) :: st) w) : K nc ns pc lv (st) w := by
  obtain ⟨p, e, s, m, args, below, meth, c, A, H0, Q, rfl, hx, hb, hml, hown, hts, hK, hA, hnm⟩ := g
  intro hln H locs ls hl hP hD hS
  exact lv_bipush (v := J n) hx hb d hn (k hln H locs ls hl hP hD hS)
theorem r_sipush (g : Wk0 l X R cc nL own nm K) {n : Int} (d : decode cc pc = .ok (.sipush n, 3)) (hn : (Int16.ofInt n).toInt32 = J n) (k : K nc ns (pc + 3) lv (.int (J n) :: st) w) : K nc ns pc lv (st) w := by
  obtain ⟨p, e, s, m, args, below, meth, c, A, H0, Q, rfl, hx, hb, hml, hown, hts, hK, hA, hnm⟩ := g
  intro hln H locs ls hl hP hD hS
  exact lv_sipush (v := J n) hx hb d hn (k hln H locs ls hl hP hD hS)
theorem r_lconst (g : Wk0 l X R cc nL own nm K) {n : Fin 2} {v : Int} (d : decode cc pc = .ok (.lconst n, 1)) (hv : Int64.ofNat (n : Nat) = JL v) (k : K nc ns (pc + 1) lv (.long (JL v) :: st) w) : K nc ns pc lv (st) w := by
  obtain ⟨p, e, s, m, args, below, meth, c, A, H0, Q, rfl, hx, hb, hml, hown, hts, hK, hA, hnm⟩ := g
  intro hln H locs ls hl hP hD hS
  exact lv_lconst (v := JL v) hx hb d hv (k hln H locs ls hl hP hD hS)
theorem r_ldc (g : Wk0 l X R cc nL own nm K) {i : Nat} {v : Int} (d : decode cc pc = .ok (.ldc i, 2)) (hc : Cond.constant own i (J v) ∈ lw_G) (k : K nc ns (pc + 2) lv (.int (J v) :: st) w) : K nc ns pc lv (st) w := by
  obtain ⟨p, e, s, m, args, below, meth, c, A, H0, Q, rfl, hx, hb, hml, hown, hts, hK, hA, hnm⟩ := g
  intro hln H locs ls hl hP hD hS
  exact lv_ldc hx hb hown (hts _ hc) d (k hln H locs ls hl hP hD hS)
theorem r_ldc2 (g : Wk0 l X R cc nL own nm K) {i : Nat} {v : Int} (d : decode cc pc = .ok (.ldc2_w i, 3)) (hc : Cond.constantLong own i (JL v) ∈ lw_G) (k : K nc ns (pc + 3) lv (.long (JL v) :: st) w) : K nc ns pc lv (st) w := by
  obtain ⟨p, e, s, m, args, below, meth, c, A, H0, Q, rfl, hx, hb, hml, hown, hts, hK, hA, hnm⟩ := g
  intro hln H locs ls hl hP hD hS
  exact lv_ldc2 hx hb hown (hts _ hc) d (k hln H locs ls hl hP hD hS)
theorem r_iload (g : Wk0 l X R cc nL own nm K) {i : Nat} {x : Int32} (d : decode cc pc = .ok (.iload i, 2)) (hi : lv[i]? = some (some (.int x))) (k : K nc ns (pc + 2) lv (.int x :: st) w) : K nc ns pc lv (st) w := by
  obtain ⟨p, e, s, m, args, below, meth, c, A, H0, Q, rfl, hx, hb, hml, hown, hts, hK, hA, hnm⟩ := g
  intro hln H locs ls hl hP hD hS
  exact lv_iload hx hb d (lvp_at hl hi) (k hln H locs ls hl hP hD hS)
theorem r_iload_n (g : Wk0 l X R cc nL own nm K) {i : Fin 4} {x : Int32} (d : decode cc pc = .ok (.iload_n i, 1)) (hi : lv[(i : Nat)]? = some (some (.int x))) (k : K nc ns (pc + 1) lv (.int x :: st) w) : K nc ns pc lv (st) w := by
  obtain ⟨p, e, s, m, args, below, meth, c, A, H0, Q, rfl, hx, hb, hml, hown, hts, hK, hA, hnm⟩ := g
  intro hln H locs ls hl hP hD hS
  exact lv_iload_n hx hb d rfl (lvp_at hl hi) (k hln H locs ls hl hP hD hS)
theorem r_istore (g : Wk0 l X R cc nL own nm K) {i : Nat} {x : Int32} {lv' : List (Option Value)} (d : decode cc pc = .ok (.istore i, 2)) (hi : i < nL) (ho : okst lv i = true) (hs : lv.set i (some (.int x)) = lv') (k : K nc ns (pc + 2) lv' st w) : K nc ns pc lv (.int x :: st) w := by
  obtain ⟨p, e, s, m, args, below, meth, c, A, H0, Q, rfl, hx, hb, hml, hown, hts, hK, hA, hnm⟩ := g
  intro hln H locs ls hl hP hD hS
  subst hs
  exact lv_istore hx hb d hl hi rfl (fun ls' hl' => k (by simpa using hln) H locs ls' (lvp_set ho hl') hP hD hS)
theorem r_istore_n (g : Wk0 l X R cc nL own nm K) {i : Fin 4} {x : Int32} {lv' : List (Option Value)} (d : decode cc pc = .ok (.istore_n i, 1)) (hi : (i : Nat) < nL) (ho : okst lv (i : Nat) = true) (hs : lv.set (i : Nat) (some (.int x)) = lv') (k : K nc ns (pc + 1) lv' st w) : K nc ns pc lv (.int x :: st) w := by
  obtain ⟨p, e, s, m, args, below, meth, c, A, H0, Q, rfl, hx, hb, hml, hown, hts, hK, hA, hnm⟩ := g
  intro hln H locs ls hl hP hD hS
  subst hs
  exact lv_istore_n hx hb d rfl hl hi rfl (fun ls' hl' => k (by simpa using hln) H locs ls' (lvp_set ho hl') hP hD hS)
theorem r_lload (g : Wk0 l X R cc nL own nm K) {i : Nat} {x : Int64} (d : decode cc pc = .ok (.lload i, 2)) (hi : lv[i]? = some (some (.long x))) (k : K nc ns (pc + 2) lv (.long x :: st) w) : K nc ns pc lv (st) w := by
  obtain ⟨p, e, s, m, args, below, meth, c, A, H0, Q, rfl, hx, hb, hml, hown, hts, hK, hA, hnm⟩ := g
  intro hln H locs ls hl hP hD hS
  exact lv_lload hx hb d (lvp_at hl hi) (k hln H locs ls hl hP hD hS)
theorem r_lload_n (g : Wk0 l X R cc nL own nm K) {i : Fin 4} {x : Int64} (d : decode cc pc = .ok (.lload_n i, 1)) (hi : lv[(i : Nat)]? = some (some (.long x))) (k : K nc ns (pc + 1) lv (.long x :: st) w) : K nc ns pc lv (st) w := by
  obtain ⟨p, e, s, m, args, below, meth, c, A, H0, Q, rfl, hx, hb, hml, hown, hts, hK, hA, hnm⟩ := g
  intro hln H locs ls hl hP hD hS
  exact lv_lload_n hx hb d rfl (lvp_at hl hi) (k hln H locs ls hl hP hD hS)
theorem r_lstore (g : Wk0 l X R cc nL own nm K) {i : Nat} {x : Int64} {lv' : List (Option Value)} (d : decode cc pc = .ok (.lstore i, 2)) (hi : i + 1 < nL) (ho : okst lv i = true) (hs : (lv.set i (some (.long x))).set (i + 1) none = lv') (k : K nc ns (pc + 2) lv' st w) : K nc ns pc lv (.long x :: st) w := by
  obtain ⟨p, e, s, m, args, below, meth, c, A, H0, Q, rfl, hx, hb, hml, hown, hts, hK, hA, hnm⟩ := g
  intro hln H locs ls hl hP hD hS
  subst hs
  exact lv_lstore hx hb d hl hi rfl (fun ls' hl' => k (by simpa using hln) H locs ls' (lvp_setL ho hl') hP hD hS)
theorem r_lstore_n (g : Wk0 l X R cc nL own nm K) {i : Fin 4} {x : Int64} {lv' : List (Option Value)} (d : decode cc pc = .ok (.lstore_n i, 1)) (hi : (i : Nat) + 1 < nL) (ho : okst lv (i : Nat) = true) (hs : (lv.set (i : Nat) (some (.long x))).set ((i : Nat) + 1) none = lv') (k : K nc ns (pc + 1) lv' st w) : K nc ns pc lv (.long x :: st) w := by
  obtain ⟨p, e, s, m, args, below, meth, c, A, H0, Q, rfl, hx, hb, hml, hown, hts, hK, hA, hnm⟩ := g
  intro hln H locs ls hl hP hD hS
  subst hs
  exact lv_lstore_n hx hb d rfl hl hi rfl (fun ls' hl' => k (by simpa using hln) H locs ls' (lvp_setL ho hl') hP hD hS)
theorem r_aload (g : Wk0 l X R cc nL own nm K) {i : Nat} {x : Nat} (d : decode cc pc = .ok (.aload i, 2)) (hi : lv[i]? = some (some (.ref x))) (k : K nc ns (pc + 2) lv (.ref x :: st) w) : K nc ns pc lv (st) w := by
  obtain ⟨p, e, s, m, args, below, meth, c, A, H0, Q, rfl, hx, hb, hml, hown, hts, hK, hA, hnm⟩ := g
  intro hln H locs ls hl hP hD hS
  exact lv_aload hx hb d (lvp_at hl hi) (k hln H locs ls hl hP hD hS)
theorem r_aload_n (g : Wk0 l X R cc nL own nm K) {i : Fin 4} {x : Nat} (d : decode cc pc = .ok (.aload_n i, 1)) (hi : lv[(i : Nat)]? = some (some (.ref x))) (k : K nc ns (pc + 1) lv (.ref x :: st) w) : K nc ns pc lv (st) w := by
  obtain ⟨p, e, s, m, args, below, meth, c, A, H0, Q, rfl, hx, hb, hml, hown, hts, hK, hA, hnm⟩ := g
  intro hln H locs ls hl hP hD hS
  exact lv_aload_n hx hb d rfl (lvp_at hl hi) (k hln H locs ls hl hP hD hS)
theorem r_astore (g : Wk0 l X R cc nL own nm K) {i : Nat} {x : Nat} {lv' : List (Option Value)} (d : decode cc pc = .ok (.astore i, 2)) (hi : i < nL) (ho : okst lv i = true) (hs : lv.set i (some (.ref x)) = lv') (k : K nc ns (pc + 2) lv' st w) : K nc ns pc lv (.ref x :: st) w := by
  obtain ⟨p, e, s, m, args, below, meth, c, A, H0, Q, rfl, hx, hb, hml, hown, hts, hK, hA, hnm⟩ := g
  intro hln H locs ls hl hP hD hS
  subst hs
  exact lv_astore hx hb d hl hi rfl (fun ls' hl' => k (by simpa using hln) H locs ls' (lvp_set ho hl') hP hD hS)
theorem r_astore_n (g : Wk0 l X R cc nL own nm K) {i : Fin 4} {x : Nat} {lv' : List (Option Value)} (d : decode cc pc = .ok (.astore_n i, 1)) (hi : (i : Nat) < nL) (ho : okst lv (i : Nat) = true) (hs : lv.set (i : Nat) (some (.ref x)) = lv') (k : K nc ns (pc + 1) lv' st w) : K nc ns pc lv (.ref x :: st) w := by
  obtain ⟨p, e, s, m, args, below, meth, c, A, H0, Q, rfl, hx, hb, hml, hown, hts, hK, hA, hnm⟩ := g
  intro hln H locs ls hl hP hD hS
  subst hs
  exact lv_astore_n hx hb d rfl hl hi rfl (fun ls' hl' => k (by simpa using hln) H locs ls' (lvp_set ho hl') hP hD hS)
theorem r_iinc (g : Wk0 l X R cc nL own nm K) {i : Nat} {n a : Int} {lv' : List (Option Value)} (d : decode cc pc = .ok (.iinc i n, 3)) (hi : i < nL) (hv : lv[i]? = some (some (.int (J a)))) (ho : okst lv i = true) (hs : lv.set i (some (.int (J (wr (a + n))))) = lv') (k : K nc ns (pc + 3) lv' st w) : K nc ns pc lv st w := by
  obtain ⟨p, e, s, m, args, below, meth, c, A, H0, Q, rfl, hx, hb, hml, hown, hts, hK, hA, hnm⟩ := g
  intro hln H locs ls hl hP hD hS
  subst hs
  obtain ⟨j, hj⟩ := List.getElem?_of_mem ((lvp_mem lv 0 i _).mpr ⟨i, by omega, hv⟩)
  exact lv_iinc hx hb d hl hj (v := J (wr (a + n))) (by rw [← J_add]; rfl) hi rfl (fun ls' hl' => k (by simpa using hln) H locs ls' (lvp_set ho hl') hP hD hS)
theorem r_iadd (g : Wk0 l X R cc nL own nm K) {a b : Int} (d : decode cc pc = .ok (.iadd, 1)) (k : K nc ns (pc + 1) lv (.int (J (wr (a + b))) :: st) w) : K nc ns pc lv (.int (J b) :: .int (J a) :: st) w := by
  obtain ⟨p, e, s, m, args, below, meth, c, A, H0, Q, rfl, hx, hb, hml, hown, hts, hK, hA, hnm⟩ := g
  intro hln H locs ls hl hP hD hS
  rw [← J_add] at k
  exact lv_iadd hx hb d (k hln H locs ls hl hP hD hS)
theorem r_isub (g : Wk0 l X R cc nL own nm K) {a b : Int} (d : decode cc pc = .ok (.isub, 1)) (k : K nc ns (pc + 1) lv (.int (J (wr (a - b))) :: st) w) : K nc ns pc lv (.int (J b) :: .int (J a) :: st) w := by
  obtain ⟨p, e, s, m, args, below, meth, c, A, H0, Q, rfl, hx, hb, hml, hown, hts, hK, hA, hnm⟩ := g
  intro hln H locs ls hl hP hD hS
  rw [← J_sub] at k
  exact lv_isub hx hb d (k hln H locs ls hl hP hD hS)
theorem r_imul (g : Wk0 l X R cc nL own nm K) {a b : Int} (d : decode cc pc = .ok (.imul, 1)) (k : K nc ns (pc + 1) lv (.int (J (wr (a * b))) :: st) w) : K nc ns pc lv (.int (J b) :: .int (J a) :: st) w := by
  obtain ⟨p, e, s, m, args, below, meth, c, A, H0, Q, rfl, hx, hb, hml, hown, hts, hK, hA, hnm⟩ := g
  intro hln H locs ls hl hP hD hS
  rw [← J_mul] at k
  exact lv_imul hx hb d (k hln H locs ls hl hP hD hS)
theorem r_ineg (g : Wk0 l X R cc nL own nm K) {a : Int} (d : decode cc pc = .ok (.ineg, 1)) (k : K nc ns (pc + 1) lv (.int (J (wr (- a))) :: st) w) : K nc ns pc lv (.int (J a) :: st) w := by
  obtain ⟨p, e, s, m, args, below, meth, c, A, H0, Q, rfl, hx, hb, hml, hown, hts, hK, hA, hnm⟩ := g
  intro hln H locs ls hl hP hD hS
  rw [← J_neg] at k
  exact lv_ineg hx hb d (k hln H locs ls hl hP hD hS)
theorem r_ladd (g : Wk0 l X R cc nL own nm K) {a b : Int} (d : decode cc pc = .ok (.ladd, 1)) (k : K nc ns (pc + 1) lv (.long (JL (wl (a + b))) :: st) w) : K nc ns pc lv (.long (JL b) :: .long (JL a) :: st) w := by
  obtain ⟨p, e, s, m, args, below, meth, c, A, H0, Q, rfl, hx, hb, hml, hown, hts, hK, hA, hnm⟩ := g
  intro hln H locs ls hl hP hD hS
  rw [← JL_add] at k
  exact lv_ladd hx hb d (k hln H locs ls hl hP hD hS)
theorem r_lsub (g : Wk0 l X R cc nL own nm K) {a b : Int} (d : decode cc pc = .ok (.lsub, 1)) (k : K nc ns (pc + 1) lv (.long (JL (wl (a - b))) :: st) w) : K nc ns pc lv (.long (JL b) :: .long (JL a) :: st) w := by
  obtain ⟨p, e, s, m, args, below, meth, c, A, H0, Q, rfl, hx, hb, hml, hown, hts, hK, hA, hnm⟩ := g
  intro hln H locs ls hl hP hD hS
  rw [← JL_sub] at k
  exact lv_lsub hx hb d (k hln H locs ls hl hP hD hS)
theorem r_lmul (g : Wk0 l X R cc nL own nm K) {a b : Int} (d : decode cc pc = .ok (.lmul, 1)) (k : K nc ns (pc + 1) lv (.long (JL (wl (a * b))) :: st) w) : K nc ns pc lv (.long (JL b) :: .long (JL a) :: st) w := by
  obtain ⟨p, e, s, m, args, below, meth, c, A, H0, Q, rfl, hx, hb, hml, hown, hts, hK, hA, hnm⟩ := g
  intro hln H locs ls hl hP hD hS
  rw [← JL_mul] at k
  exact lv_lmul hx hb d (k hln H locs ls hl hP hD hS)
theorem r_idiv (g : Wk0 l X R cc nL own nm K) {a b : Int} (d : decode cc pc = .ok (.idiv, 1)) (ha0 : InR a) (hb0 : InR b) (hne : ¬ b = 0) (k : K nc ns (pc + 1) lv (.int (J (wr (a.tdiv b))) :: st) w) : K nc ns pc lv (.int (J b) :: .int (J a) :: st) w := by
  obtain ⟨p, e, s, m, args, below, meth, c, A, H0, Q, rfl, hx, hb, hml, hown, hts, hK, hA, hnm⟩ := g
  intro hln H locs ls hl hP hD hS
  rw [← J_div ha0 hb0] at k
  exact lv_idiv hx hb d (fun h => hne ((J_eq hb0 InR_0).mp h)) (k hln H locs ls hl hP hD hS)
theorem r_ldiv (g : Wk0 l X R cc nL own nm K) {a b : Int} (d : decode cc pc = .ok (.ldiv, 1)) (ha0 : InL a) (hb0 : InL b) (hne : ¬ b = 0) (k : K nc ns (pc + 1) lv (.long (JL (wl (a.tdiv b))) :: st) w) : K nc ns pc lv (.long (JL b) :: .long (JL a) :: st) w := by
  obtain ⟨p, e, s, m, args, below, meth, c, A, H0, Q, rfl, hx, hb, hml, hown, hts, hK, hA, hnm⟩ := g
  intro hln H locs ls hl hP hD hS
  rw [← JL_div ha0 hb0] at k
  exact lv_ldiv hx hb d (fun h => hne ((JL_eq hb0 (InL_i InR_0)).mp h)) (k hln H locs ls hl hP hD hS)
theorem r_irem (g : Wk0 l X R cc nL own nm K) {a b : Int} (d : decode cc pc = .ok (.irem, 1)) (ha0 : InR a) (hb0 : InR b) (hne : ¬ b = 0) (k : K nc ns (pc + 1) lv (.int (J (a.tmod b)) :: st) w) : K nc ns pc lv (.int (J b) :: .int (J a) :: st) w := by
  obtain ⟨p, e, s, m, args, below, meth, c, A, H0, Q, rfl, hx, hb, hml, hown, hts, hK, hA, hnm⟩ := g
  intro hln H locs ls hl hP hD hS
  rw [← J_rem ha0 hb0] at k
  exact lv_irem hx hb d (fun h => hne ((J_eq hb0 InR_0).mp h)) (k hln H locs ls hl hP hD hS)
theorem r_lrem (g : Wk0 l X R cc nL own nm K) {a b : Int} (d : decode cc pc = .ok (.lrem, 1)) (ha0 : InL a) (hb0 : InL b) (hne : ¬ b = 0) (k : K nc ns (pc + 1) lv (.long (JL (a.tmod b)) :: st) w) : K nc ns pc lv (.long (JL b) :: .long (JL a) :: st) w := by
  obtain ⟨p, e, s, m, args, below, meth, c, A, H0, Q, rfl, hx, hb, hml, hown, hts, hK, hA, hnm⟩ := g
  intro hln H locs ls hl hP hD hS
  rw [← JL_rem ha0 hb0] at k
  exact lv_lrem hx hb d (fun h => hne ((JL_eq hb0 (InL_i InR_0)).mp h)) (k hln H locs ls hl hP hD hS)
theorem r_ishl (g : Wk0 l X R cc nL own nm K) {a b : Int} (d : decode cc pc = .ok (.ishl, 1)) (k : K nc ns (pc + 1) lv (.int (J (ishl a b)) :: st) w) : K nc ns pc lv (.int (J b) :: .int (J a) :: st) w := by
  obtain ⟨p, e, s, m, args, below, meth, c, A, H0, Q, rfl, hx, hb, hml, hown, hts, hK, hA, hnm⟩ := g
  intro hln H locs ls hl hP hD hS
  unfold ishl at k
  rw [J_to] at k
  exact lv_ishl hx hb d (k hln H locs ls hl hP hD hS)
theorem r_ishr (g : Wk0 l X R cc nL own nm K) {a b : Int} (d : decode cc pc = .ok (.ishr, 1)) (k : K nc ns (pc + 1) lv (.int (J (ishr a b)) :: st) w) : K nc ns pc lv (.int (J b) :: .int (J a) :: st) w := by
  obtain ⟨p, e, s, m, args, below, meth, c, A, H0, Q, rfl, hx, hb, hml, hown, hts, hK, hA, hnm⟩ := g
  intro hln H locs ls hl hP hD hS
  unfold ishr at k
  rw [J_to] at k
  exact lv_ishr hx hb d (k hln H locs ls hl hP hD hS)
theorem r_iand (g : Wk0 l X R cc nL own nm K) {a b : Int} (d : decode cc pc = .ok (.iand, 1)) (k : K nc ns (pc + 1) lv (.int (J (iand a b)) :: st) w) : K nc ns pc lv (.int (J b) :: .int (J a) :: st) w := by
  obtain ⟨p, e, s, m, args, below, meth, c, A, H0, Q, rfl, hx, hb, hml, hown, hts, hK, hA, hnm⟩ := g
  intro hln H locs ls hl hP hD hS
  unfold iand at k
  rw [J_to] at k
  exact lv_iand hx hb d (k hln H locs ls hl hP hD hS)
theorem r_ior (g : Wk0 l X R cc nL own nm K) {a b : Int} (d : decode cc pc = .ok (.ior, 1)) (k : K nc ns (pc + 1) lv (.int (J (ior a b)) :: st) w) : K nc ns pc lv (.int (J b) :: .int (J a) :: st) w := by
  obtain ⟨p, e, s, m, args, below, meth, c, A, H0, Q, rfl, hx, hb, hml, hown, hts, hK, hA, hnm⟩ := g
  intro hln H locs ls hl hP hD hS
  unfold ior at k
  rw [J_to] at k
  exact lv_ior hx hb d (k hln H locs ls hl hP hD hS)
theorem r_ixor (g : Wk0 l X R cc nL own nm K) {a b : Int} (d : decode cc pc = .ok (.ixor, 1)) (k : K nc ns (pc + 1) lv (.int (J (ixor a b)) :: st) w) : K nc ns pc lv (.int (J b) :: .int (J a) :: st) w := by
  obtain ⟨p, e, s, m, args, below, meth, c, A, H0, Q, rfl, hx, hb, hml, hown, hts, hK, hA, hnm⟩ := g
  intro hln H locs ls hl hP hD hS
  unfold ixor at k
  rw [J_to] at k
  exact lv_ixor hx hb d (k hln H locs ls hl hP hD hS)
theorem r_lor (g : Wk0 l X R cc nL own nm K) {a b : Int} (d : decode cc pc = .ok (.lor, 1)) (k : K nc ns (pc + 1) lv (.long (JL (lor a b)) :: st) w) : K nc ns pc lv (.long (JL b) :: .long (JL a) :: st) w := by
  obtain ⟨p, e, s, m, args, below, meth, c, A, H0, Q, rfl, hx, hb, hml, hown, hts, hK, hA, hnm⟩ := g
  intro hln H locs ls hl hP hD hS
  unfold lor at k
  rw [JL_to] at k
  exact lv_lor hx hb d (k hln H locs ls hl hP hD hS)
theorem r_lshl (g : Wk0 l X R cc nL own nm K) {a b : Int} (d : decode cc pc = .ok (.lshl, 1)) (k : K nc ns (pc + 1) lv (.long (JL (lshl a b)) :: st) w) : K nc ns pc lv (.int (J b) :: .long (JL a) :: st) w := by
  obtain ⟨p, e, s, m, args, below, meth, c, A, H0, Q, rfl, hx, hb, hml, hown, hts, hK, hA, hnm⟩ := g
  intro hln H locs ls hl hP hD hS
  unfold lshl at k
  rw [JL_to] at k
  exact lv_lshl hx hb d rfl (k hln H locs ls hl hP hD hS)
theorem r_lcmp (g : Wk0 l X R cc nL own nm K) {a b : Int} (d : decode cc pc = .ok (.lcmp, 1)) (ha0 : InL a) (hb0 : InL b) (k : K nc ns (pc + 1) lv (.int (J (lcm3 a b)) :: st) w) : K nc ns pc lv (.long (JL b) :: .long (JL a) :: st) w := by
  obtain ⟨p, e, s, m, args, below, meth, c, A, H0, Q, rfl, hx, hb, hml, hown, hts, hK, hA, hnm⟩ := g
  intro hln H locs ls hl hP hD hS
  have e : lg_cmp (JL a) (JL b) = J (lcm3 a b) := by
    unfold lg_cmp lcm3
    have c1 : (JL a > JL b) ↔ b < a := JL_lt hb0 ha0
    have c2 := JL_eq ha0 hb0
    simp only [c1, c2]
    split
    · rfl
    · split <;> rfl
  rw [← e] at k
  exact W.lcmp hx hb d (k hln H locs ls hl hP hD hS)
theorem r_i2l (g : Wk0 l X R cc nL own nm K) {a : Int} (d : decode cc pc = .ok (.i2l, 1)) (ha0 : InR a) (k : K nc ns (pc + 1) lv (.long (JL a) :: st) w) : K nc ns pc lv (.int (J a) :: st) w := by
  obtain ⟨p, e, s, m, args, below, meth, c, A, H0, Q, rfl, hx, hb, hml, hown, hts, hK, hA, hnm⟩ := g
  intro hln H locs ls hl hP hD hS
  exact lv_i2l hx hb d (J_l ha0) (k hln H locs ls hl hP hD hS)
theorem r_l2i (g : Wk0 l X R cc nL own nm K) {a : Int} (d : decode cc pc = .ok (.l2i, 1)) (k : K nc ns (pc + 1) lv (.int (J (wr a)) :: st) w) : K nc ns pc lv (.long (JL a) :: st) w := by
  obtain ⟨p, e, s, m, args, below, meth, c, A, H0, Q, rfl, hx, hb, hml, hown, hts, hK, hA, hnm⟩ := g
  intro hln H locs ls hl hP hD hS
  exact lv_l2i hx hb d (JL_i a) (k hln H locs ls hl hP hD hS)
theorem r_dup (g : Wk0 l X R cc nL own nm K) {v : Value} (d : decode cc pc = .ok (.dup, 1)) (hv : v.category = 1) (k : K nc ns (pc + 1) lv (v :: v :: st) w) : K nc ns pc lv (v :: st) w := by
  obtain ⟨p, e, s, m, args, below, meth, c, A, H0, Q, rfl, hx, hb, hml, hown, hts, hK, hA, hnm⟩ := g
  intro hln H locs ls hl hP hD hS
  exact lv_dup hx hb d hv (k hln H locs ls hl hP hD hS)
theorem r_dup2 (g : Wk0 l X R cc nL own nm K) {u v : Value} (d : decode cc pc = .ok (.dup2, 1)) (hu : u.category = 1) (hv : v.category = 1) (k : K nc ns (pc + 1) lv (u :: v :: u :: v :: st) w) : K nc ns pc lv (u :: v :: st) w := by
  obtain ⟨p, e, s, m, args, below, meth, c, A, H0, Q, rfl, hx, hb, hml, hown, hts, hK, hA, hnm⟩ := g
  intro hln H locs ls hl hP hD hS
  exact lv_dup2_11 hx hb d hu hv (k hln H locs ls hl hP hD hS)
theorem r_pop (g : Wk0 l X R cc nL own nm K) {v : Value} (d : decode cc pc = .ok (.pop, 1)) (hv : v.category = 1) (k : K nc ns (pc + 1) lv st w) : K nc ns pc lv (v :: st) w := by
  obtain ⟨p, e, s, m, args, below, meth, c, A, H0, Q, rfl, hx, hb, hml, hown, hts, hK, hA, hnm⟩ := g
  intro hln H locs ls hl hP hD hS
  exact lv_pop hx hb d hv (k hln H locs ls hl hP hD hS)
theorem r_goto (g : Wk0 l X R cc nL own nm K) {off : Int} (tgt : Nat) (d : decode cc pc = .ok (.goto off, 3)) (ht : (pc : Int) + off = (tgt : Int)) (k : K nc ns tgt lv st w) : K nc ns pc lv st w := by
  obtain ⟨p, e, s, m, args, below, meth, c, A, H0, Q, rfl, hx, hb, hml, hown, hts, hK, hA, hnm⟩ := g
  intro hln H locs ls hl hP hD hS
  exact lv_goto hx hb d ht (k hln H locs ls hl hP hD hS)
theorem r_icmp_lt (g : Wk0 l X R cc nL own nm K) {a b : Int} {off : Int} (tgt : Nat) (d : decode cc pc = .ok (.if_icmp .lt off, 3)) (ht : (pc : Int) + off = (tgt : Int)) (ha0 : InR a) (hb0 : InR b) (kt : a < b → K nc ns tgt lv st w) (kf : ¬ a < b → K nc ns (pc + 3) lv st w) : K nc ns pc lv (.int (J b) :: .int (J a) :: st) w := by
  obtain ⟨p, e, s, m, args, below, meth, c, A, H0, Q, rfl, hx, hb, hml, hown, hts, hK, hA, hnm⟩ := g
  intro hln H locs ls hl hP hD hS
  exact lv_icmp_lt hx hb d ht (fun h => (kt ((J_lt ha0 hb0).mp h) hln H locs ls hl hP hD hS)) (fun h => (kf (fun z => h ((J_lt ha0 hb0).mpr z)) hln H locs ls hl hP hD hS))
theorem r_if_lt (g : Wk0 l X R cc nL own nm K) {a : Int} {off : Int} (tgt : Nat) (d : decode cc pc = .ok (.ifCond .lt off, 3)) (ht : (pc : Int) + off = (tgt : Int)) (ha0 : InR a) (kt : a < 0 → K nc ns tgt lv st w) (kf : ¬ a < 0 → K nc ns (pc + 3) lv st w) : K nc ns pc lv (.int (J a) :: st) w := by
  obtain ⟨p, e, s, m, args, below, meth, c, A, H0, Q, rfl, hx, hb, hml, hown, hts, hK, hA, hnm⟩ := g
  intro hln H locs ls hl hP hD hS
  have hb0 : InR 0 := InR_0
  exact lv_if_lt hx hb d ht (fun h => (kt ((J_lt ha0 hb0).mp h) hln H locs ls hl hP hD hS)) (fun h => (kf (fun z => h ((J_lt ha0 hb0).mpr z)) hln H locs ls hl hP hD hS))
theorem r_icmp_ge (g : Wk0 l X R cc nL own nm K) {a b : Int} {off : Int} (tgt : Nat) (d : decode cc pc = .ok (.if_icmp .ge off, 3)) (ht : (pc : Int) + off = (tgt : Int)) (ha0 : InR a) (hb0 : InR b) (kt : ¬ a < b → K nc ns tgt lv st w) (kf : a < b → K nc ns (pc + 3) lv st w) : K nc ns pc lv (.int (J b) :: .int (J a) :: st) w := by
  obtain ⟨p, e, s, m, args, below, meth, c, A, H0, Q, rfl, hx, hb, hml, hown, hts, hK, hA, hnm⟩ := g
  intro hln H locs ls hl hP hD hS
  exact lv_icmp_ge hx hb d ht (fun h => (kt (fun z => by have := (J_le hb0 ha0).mp h; omega) hln H locs ls hl hP hD hS)) (fun h => (kf (by have := mt (J_le hb0 ha0).mpr h; omega) hln H locs ls hl hP hD hS))
theorem r_if_ge (g : Wk0 l X R cc nL own nm K) {a : Int} {off : Int} (tgt : Nat) (d : decode cc pc = .ok (.ifCond .ge off, 3)) (ht : (pc : Int) + off = (tgt : Int)) (ha0 : InR a) (kt : ¬ a < 0 → K nc ns tgt lv st w) (kf : a < 0 → K nc ns (pc + 3) lv st w) : K nc ns pc lv (.int (J a) :: st) w := by
  obtain ⟨p, e, s, m, args, below, meth, c, A, H0, Q, rfl, hx, hb, hml, hown, hts, hK, hA, hnm⟩ := g
  intro hln H locs ls hl hP hD hS
  have hb0 : InR 0 := InR_0
  exact lv_if_ge hx hb d ht (fun h => (kt (fun z => by have := (J_le hb0 ha0).mp h; omega) hln H locs ls hl hP hD hS)) (fun h => (kf (by have := mt (J_le hb0 ha0).mpr h; omega) hln H locs ls hl hP hD hS))
theorem r_icmp_le (g : Wk0 l X R cc nL own nm K) {a b : Int} {off : Int} (tgt : Nat) (d : decode cc pc = .ok (.if_icmp .le off, 3)) (ht : (pc : Int) + off = (tgt : Int)) (ha0 : InR a) (hb0 : InR b) (kt : a ≤ b → K nc ns tgt lv st w) (kf : ¬ a ≤ b → K nc ns (pc + 3) lv st w) : K nc ns pc lv (.int (J b) :: .int (J a) :: st) w := by
  obtain ⟨p, e, s, m, args, below, meth, c, A, H0, Q, rfl, hx, hb, hml, hown, hts, hK, hA, hnm⟩ := g
  intro hln H locs ls hl hP hD hS
  exact lv_icmp_le hx hb d ht (fun h => (kt ((J_le ha0 hb0).mp h) hln H locs ls hl hP hD hS)) (fun h => (kf (fun z => h ((J_le ha0 hb0).mpr z)) hln H locs ls hl hP hD hS))
theorem r_if_le (g : Wk0 l X R cc nL own nm K) {a : Int} {off : Int} (tgt : Nat) (d : decode cc pc = .ok (.ifCond .le off, 3)) (ht : (pc : Int) + off = (tgt : Int)) (ha0 : InR a) (kt : a ≤ 0 → K nc ns tgt lv st w) (kf : ¬ a ≤ 0 → K nc ns (pc + 3) lv st w) : K nc ns pc lv (.int (J a) :: st) w := by
  obtain ⟨p, e, s, m, args, below, meth, c, A, H0, Q, rfl, hx, hb, hml, hown, hts, hK, hA, hnm⟩ := g
  intro hln H locs ls hl hP hD hS
  have hb0 : InR 0 := InR_0
  exact lv_if_le hx hb d ht (fun h => (kt ((J_le ha0 hb0).mp h) hln H locs ls hl hP hD hS)) (fun h => (kf (fun z => h ((J_le ha0 hb0).mpr z)) hln H locs ls hl hP hD hS))
theorem r_icmp_gt (g : Wk0 l X R cc nL own nm K) {a b : Int} {off : Int} (tgt : Nat) (d : decode cc pc = .ok (.if_icmp .gt off, 3)) (ht : (pc : Int) + off = (tgt : Int)) (ha0 : InR a) (hb0 : InR b) (kt : ¬ a ≤ b → K nc ns tgt lv st w) (kf : a ≤ b → K nc ns (pc + 3) lv st w) : K nc ns pc lv (.int (J b) :: .int (J a) :: st) w := by
  obtain ⟨p, e, s, m, args, below, meth, c, A, H0, Q, rfl, hx, hb, hml, hown, hts, hK, hA, hnm⟩ := g
  intro hln H locs ls hl hP hD hS
  exact lv_icmp_gt hx hb d ht (fun h => (kt (fun z => by have := (J_lt hb0 ha0).mp h; omega) hln H locs ls hl hP hD hS)) (fun h => (kf (by have := mt (J_lt hb0 ha0).mpr h; omega) hln H locs ls hl hP hD hS))
theorem r_if_gt (g : Wk0 l X R cc nL own nm K) {a : Int} {off : Int} (tgt : Nat) (d : decode cc pc = .ok (.ifCond .gt off, 3)) (ht : (pc : Int) + off = (tgt : Int)) (ha0 : InR a) (kt : ¬ a ≤ 0 → K nc ns tgt lv st w) (kf : a ≤ 0 → K nc ns (pc + 3) lv st w) : K nc ns pc lv (.int (J a) :: st) w := by
  obtain ⟨p, e, s, m, args, below, meth, c, A, H0, Q, rfl, hx, hb, hml, hown, hts, hK, hA, hnm⟩ := g
  intro hln H locs ls hl hP hD hS
  have hb0 : InR 0 := InR_0
  exact lv_if_gt hx hb d ht (fun h => (kt (fun z => by have := (J_lt hb0 ha0).mp h; omega) hln H locs ls hl hP hD hS)) (fun h => (kf (by have := mt (J_lt hb0 ha0).mpr h; omega) hln H locs ls hl hP hD hS))
theorem r_icmp_eq (g : Wk0 l X R cc nL own nm K) {a b : Int} {off : Int} (tgt : Nat) (d : decode cc pc = .ok (.if_icmp .eq off, 3)) (ht : (pc : Int) + off = (tgt : Int)) (ha0 : InR a) (hb0 : InR b) (kt : a = b → K nc ns tgt lv st w) (kf : ¬ a = b → K nc ns (pc + 3) lv st w) : K nc ns pc lv (.int (J b) :: .int (J a) :: st) w := by
  obtain ⟨p, e, s, m, args, below, meth, c, A, H0, Q, rfl, hx, hb, hml, hown, hts, hK, hA, hnm⟩ := g
  intro hln H locs ls hl hP hD hS
  exact lv_icmp_eq hx hb d ht (fun h => (kt ((J_eq ha0 hb0).mp h) hln H locs ls hl hP hD hS)) (fun h => (kf (fun z => h ((J_eq ha0 hb0).mpr z)) hln H locs ls hl hP hD hS))
theorem r_if_eq (g : Wk0 l X R cc nL own nm K) {a : Int} {off : Int} (tgt : Nat) (d : decode cc pc = .ok (.ifCond .eq off, 3)) (ht : (pc : Int) + off = (tgt : Int)) (ha0 : InR a) (kt : a = 0 → K nc ns tgt lv st w) (kf : ¬ a = 0 → K nc ns (pc + 3) lv st w) : K nc ns pc lv (.int (J a) :: st) w := by
  obtain ⟨p, e, s, m, args, below, meth, c, A, H0, Q, rfl, hx, hb, hml, hown, hts, hK, hA, hnm⟩ := g
  intro hln H locs ls hl hP hD hS
  have hb0 : InR 0 := InR_0
  exact lv_if_eq hx hb d ht (fun h => (kt ((J_eq ha0 hb0).mp h) hln H locs ls hl hP hD hS)) (fun h => (kf (fun z => h ((J_eq ha0 hb0).mpr z)) hln H locs ls hl hP hD hS))
theorem r_icmp_ne (g : Wk0 l X R cc nL own nm K) {a b : Int} {off : Int} (tgt : Nat) (d : decode cc pc = .ok (.if_icmp .ne off, 3)) (ht : (pc : Int) + off = (tgt : Int)) (ha0 : InR a) (hb0 : InR b) (kt : ¬ a = b → K nc ns tgt lv st w) (kf : a = b → K nc ns (pc + 3) lv st w) : K nc ns pc lv (.int (J b) :: .int (J a) :: st) w := by
  obtain ⟨p, e, s, m, args, below, meth, c, A, H0, Q, rfl, hx, hb, hml, hown, hts, hK, hA, hnm⟩ := g
  intro hln H locs ls hl hP hD hS
  exact lv_icmp_ne hx hb d ht (fun h => (kt (fun z => h ((J_eq ha0 hb0).mpr z)) hln H locs ls hl hP hD hS)) (fun h => (kf ((J_eq ha0 hb0).mp h) hln H locs ls hl hP hD hS))
theorem r_if_ne (g : Wk0 l X R cc nL own nm K) {a : Int} {off : Int} (tgt : Nat) (d : decode cc pc = .ok (.ifCond .ne off, 3)) (ht : (pc : Int) + off = (tgt : Int)) (ha0 : InR a) (kt : ¬ a = 0 → K nc ns tgt lv st w) (kf : a = 0 → K nc ns (pc + 3) lv st w) : K nc ns pc lv (.int (J a) :: st) w := by
  obtain ⟨p, e, s, m, args, below, meth, c, A, H0, Q, rfl, hx, hb, hml, hown, hts, hK, hA, hnm⟩ := g
  intro hln H locs ls hl hP hD hS
  have hb0 : InR 0 := InR_0
  exact lv_if_ne hx hb d ht (fun h => (kt (fun z => h ((J_eq ha0 hb0).mpr z)) hln H locs ls hl hP hD hS)) (fun h => (kf ((J_eq ha0 hb0).mp h) hln H locs ls hl hP hD hS))
end ROWS
