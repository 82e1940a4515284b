/-- as Con.of, for a method of a class that is not plainly named -/
theorem Con.ofF {l : Launch} {X : u_X} {y : MethodName} {cc : ByteArray} {nL : Nat} {ret : Option FieldType} {rf rl mc ms : Nat} {args : List Value} {w : va_W} {Rt : Option Value → va_W → Prop} (lv : List (Option Value)) (hy : plainFor y = true) (hlv : lvp 0 lv = lv_args 0 args) (hln : lv.length = nL) (hsl : (lg_sl args).length ≤ nL)
    (body : ∀ K, Wk l X { frames := rf, cells := mc, slots := ms, locals := rl } cc nL y.cls y.name ret Rt K → K 0 0 0 lv [] w) : Con l X y cc nL ret rf rl mc ms args w Rt := by
  intro sz
  refine MetFree.of_bodySF (code := cc) (maxLocals := nL) (ret := ret) hy ?_ ?_
  · intro args s m h hn
    obtain ⟨meth, c, h1, h2, h3, h4, h5, h6, -, -⟩ := Cond.code_spec hn (atoms_spec (ws := wsG y cc nL ret) h _ List.mem_cons_self)
    exact ⟨meth, c, h1, h2, h3, h4, h5, h6⟩
  · intro p e s m a below meth c s₁ B hml hv _
    have hh0 : s₁.heap = s.heap := by rw [B.state]; rfl
    obtain ⟨rfl, hsz, hP, hK, hD0⟩ := hv
    have hts := atoms_spec (ws := wsG y cc nL ret) B.pre
    have hown : s.vm.findClass y.cls = some m.cls := findClass_of_methodNamed B.named
    subst hsz
    have hD := hD0.self (sz := s.heap.size)
    have hl := lv_entry args (n := nL) hsl
    rw [lg_entry_eq]
    rw [← hlv] at hl
    have K := body _ ⟨p, e, s, m, args.toArray, below, meth, c, va_A w s.heap.size, rfl, B.exec, B.bytes, hml, hown, fun w h => hts w (List.mem_cons_of_mem _ h), hK, fun q h => Or.inr h, (name_of_methodNamed B.named B.method).1, B.returns, B.notSynchronized⟩ hln s.heap [] _ hl hP hD va_S.rf
    obtain ⟨t, a1, o, b1, b2, b3⟩ := K s₁ hh0 (Stand.of_body B)
    exact ⟨t, o, a1, b1, b2, ⟨b3.1, b3.2⟩⟩
/-! THE POSTS of typed methods, and the small words of their functions -/
def RI (E : u_E) (r : Int) (s : u_S) : Option Value → va_W → Prop := fun v w => v = some (.int (J r)) ∧ w = Wd E s ∧ InR r
def RZ (E : u_E) (r : Int) (s : u_S) : Option Value → va_W → Prop := fun v w => v = some (.int (J r)) ∧ w = Wd E s ∧ B01 r
def RJ (E : u_E) (r : Int) (s : u_S) : Option Value → va_W → Prop := fun v w => v = some (.long (JL r)) ∧ w = Wd E s ∧ InL r
def RV (E : u_E) (_ : Int) (s : u_S) : Option Value → va_W → Prop := fun v w => v = none ∧ w = Wd E s
/-- a run's result handed on -/
def bd {α : Type} (x : Option (Int × u_S)) (k : Int → u_S → Option α) : Option α := match x with
  | some (v, s) => k v s
  | none => none
theorem bd_some {α : Type} {x : Option (Int × u_S)} {k : Int → u_S → Option α} {r : α} (h : bd x k = some r) : ∃ v s, x = some (v, s) ∧ k v s = some r := by
  cases x with
  | none => cases h
  | some q => exact ⟨q.1, q.2, rfl, h⟩
theorem bd_eq {α : Type} (v : Int) (s : u_S) (k : Int → u_S → Option α) : bd (some (v, s)) k = k v s := rfl
/-- a place where ways join -/
def jn {α β : Type} (k : α) (b : α → β) : β := b k
theorem jn_some {α β : Type} {k : α} {b : α → Option β} {r : β} (h : jn k b = some r) : ∃ jp, jp = k ∧ b jp = some r := ⟨k, rfl, h⟩
def nz {α : Type} (b : Int) (k : Option α) : Option α := if b = 0 then none else k
theorem nz_some {α : Type} {b : Int} {k : Option α} {r : α} (h : nz b k = some r) : ¬ b = 0 ∧ k = some r := by
  unfold nz at h
  split at h
  · cases h
  · exact ⟨‹_›, h⟩
theorem if_t {α : Type} {c : Prop} [Decidable c] {a b x : α} (hc : c) (h : (if c then a else b) = x) : a = x := by rw [if_pos hc] at h; exact h
theorem if_f {α : Type} {c : Prop} [Decidable c] {a b x : α} (hc : ¬ c) (h : (if c then a else b) = x) : b = x := by rw [if_neg hc] at h; exact h
/-- turns enough for any loop -/
def FU : Nat := 100000
section TYPED
variable {l : Launch} {E : u_E} {R : Room} {cc : ByteArray} {nL : Nat} {own nm : String} {K : u_K} {nc ns pc : Nat} {lv : List (Option Value)} {st : List Value} {s s1 : u_S} {v : Int}
variable {y : MethodName} {cy : ByteArray} {nY idx rf rl n : Nat} {b : Nat} {As rest : List Value}
theorem r_cVI (g : Wk0 l (XE E) R cc nL own nm K) (hc : Con l (XE E) y cy nY (some .int) rf rl 0 0 (.ref b :: As) (Wd E s) (RI E v s1)) (ho : OKc y cy nY (some .int) n) (hv : OKV own idx y) (hrecv : Recv (Wd E s) b y.cls) (d : decode cc pc = .ok (.invokevirtual idx, 3)) (hR : rf + 1 ≤ R.frames ∧ 8 + (nY + 11) + rl ≤ R.locals) (hroom : nc ≤ R.cells ∧ ns ≤ R.slots) (hn : As.length = n) (hrest : (rest.map fun v => v.category).sum ≤ 8) (hst : As.reverse ++ .ref b :: rest = st) (k : InR v → K nc ns (pc + 3) lv ( .int (J v) :: rest) (Wd E s1)) : K nc ns pc lv st (Wd E s) :=
  r_callV g hc ho hv hrecv d hR hroom hn hrest hst (fun v' w' hq => by
    obtain ⟨rfl, rfl, hi⟩ := hq
    exact k hi)
theorem r_cVZ (g : Wk0 l (XE E) R cc nL own nm K) (hc : Con l (XE E) y cy nY (some .boolean) rf rl 0 0 (.ref b :: As) (Wd E s) (RZ E v s1)) (ho : OKc y cy nY (some .boolean) n) (hv : OKV own idx y) (hrecv : Recv (Wd E s) b y.cls) (d : decode cc pc = .ok (.invokevirtual idx, 3)) (hR : rf + 1 ≤ R.frames ∧ 8 + (nY + 11) + rl ≤ R.locals) (hroom : nc ≤ R.cells ∧ ns ≤ R.slots) (hn : As.length = n) (hrest : (rest.map fun v => v.category).sum ≤ 8) (hst : As.reverse ++ .ref b :: rest = st) (k : B01 v → K nc ns (pc + 3) lv ( .int (J v) :: rest) (Wd E s1)) : K nc ns pc lv st (Wd E s) :=
  r_callV g hc ho hv hrecv d hR hroom hn hrest hst (fun v' w' hq => by
    obtain ⟨rfl, rfl, hi⟩ := hq
    exact k hi)
theorem r_cVJ (g : Wk0 l (XE E) R cc nL own nm K) (hc : Con l (XE E) y cy nY (some .long) rf rl 0 0 (.ref b :: As) (Wd E s) (RJ E v s1)) (ho : OKc y cy nY (some .long) n) (hv : OKV own idx y) (hrecv : Recv (Wd E s) b y.cls) (d : decode cc pc = .ok (.invokevirtual idx, 3)) (hR : rf + 1 ≤ R.frames ∧ 8 + (nY + 11) + rl ≤ R.locals) (hroom : nc ≤ R.cells ∧ ns ≤ R.slots) (hn : As.length = n) (hrest : (rest.map fun v => v.category).sum ≤ 8) (hst : As.reverse ++ .ref b :: rest = st) (k : InL v → K nc ns (pc + 3) lv ( .long (JL v) :: rest) (Wd E s1)) : K nc ns pc lv st (Wd E s) :=
  r_callV g hc ho hv hrecv d hR hroom hn hrest hst (fun v' w' hq => by
    obtain ⟨rfl, rfl, hi⟩ := hq
    exact k hi)
theorem r_cVV (g : Wk0 l (XE E) R cc nL own nm K) (hc : Con l (XE E) y cy nY none rf rl 0 0 (.ref b :: As) (Wd E s) (RV E v s1)) (ho : OKc y cy nY none n) (hv : OKV own idx y) (hrecv : Recv (Wd E s) b y.cls) (d : decode cc pc = .ok (.invokevirtual idx, 3)) (hR : rf + 1 ≤ R.frames ∧ 8 + (nY + 11) + rl ≤ R.locals) (hroom : nc ≤ R.cells ∧ ns ≤ R.slots) (hn : As.length = n) (hrest : (rest.map fun v => v.category).sum ≤ 8) (hst : As.reverse ++ .ref b :: rest = st) (k : K nc ns (pc + 3) lv rest (Wd E s1)) : K nc ns pc lv st (Wd E s) :=
  r_callV g hc ho hv hrecv d hR hroom hn hrest hst (fun v' w' hq => by
    obtain ⟨rfl, rfl⟩ := hq
    exact k)
theorem r_cSI (g : Wk0 l (XE E) R cc nL own nm K) (hc : Con l (XE E) y cy nY (some .int) rf rl 0 0 (As) (Wd E s) (RI E v s1)) (ho : OKc y cy nY (some .int) n) (hv : OKS own idx y) (d : decode cc pc = .ok (.invokestatic idx, 3)) (hR : rf + 1 ≤ R.frames ∧ 8 + (nY + 11) + rl ≤ R.locals) (hroom : nc ≤ R.cells ∧ ns ≤ R.slots) (hn : As.length = n) (hrest : (rest.map fun v => v.category).sum ≤ 8) (hst : As.reverse ++ rest = st) (k : InR v → K nc ns (pc + 3) lv ( .int (J v) :: rest) (Wd E s1)) : K nc ns pc lv st (Wd E s) :=
  r_callS g hc ho hv d hR hroom hn hrest hst (fun v' w' hq => by
    obtain ⟨rfl, rfl, hi⟩ := hq
    exact k hi)
theorem r_cSZ (g : Wk0 l (XE E) R cc nL own nm K) (hc : Con l (XE E) y cy nY (some .boolean) rf rl 0 0 (As) (Wd E s) (RZ E v s1)) (ho : OKc y cy nY (some .boolean) n) (hv : OKS own idx y) (d : decode cc pc = .ok (.invokestatic idx, 3)) (hR : rf + 1 ≤ R.frames ∧ 8 + (nY + 11) + rl ≤ R.locals) (hroom : nc ≤ R.cells ∧ ns ≤ R.slots) (hn : As.length = n) (hrest : (rest.map fun v => v.category).sum ≤ 8) (hst : As.reverse ++ rest = st) (k : B01 v → K nc ns (pc + 3) lv ( .int (J v) :: rest) (Wd E s1)) : K nc ns pc lv st (Wd E s) :=
  r_callS g hc ho hv d hR hroom hn hrest hst (fun v' w' hq => by
    obtain ⟨rfl, rfl, hi⟩ := hq
    exact k hi)
theorem r_cSJ (g : Wk0 l (XE E) R cc nL own nm K) (hc : Con l (XE E) y cy nY (some .long) rf rl 0 0 (As) (Wd E s) (RJ E v s1)) (ho : OKc y cy nY (some .long) n) (hv : OKS own idx y) (d : decode cc pc = .ok (.invokestatic idx, 3)) (hR : rf + 1 ≤ R.frames ∧ 8 + (nY + 11) + rl ≤ R.locals) (hroom : nc ≤ R.cells ∧ ns ≤ R.slots) (hn : As.length = n) (hrest : (rest.map fun v => v.category).sum ≤ 8) (hst : As.reverse ++ rest = st) (k : InL v → K nc ns (pc + 3) lv ( .long (JL v) :: rest) (Wd E s1)) : K nc ns pc lv st (Wd E s) :=
  r_callS g hc ho hv d hR hroom hn hrest hst (fun v' w' hq => by
    obtain ⟨rfl, rfl, hi⟩ := hq
    exact k hi)
theorem r_cSV (g : Wk0 l (XE E) R cc nL own nm K) (hc : Con l (XE E) y cy nY none rf rl 0 0 (As) (Wd E s) (RV E v s1)) (ho : OKc y cy nY none n) (hv : OKS own idx y) (d : decode cc pc = .ok (.invokestatic idx, 3)) (hR : rf + 1 ≤ R.frames ∧ 8 + (nY + 11) + rl ≤ R.locals) (hroom : nc ≤ R.cells ∧ ns ≤ R.slots) (hn : As.length = n) (hrest : (rest.map fun v => v.category).sum ≤ 8) (hst : As.reverse ++ rest = st) (k : K nc ns (pc + 3) lv rest (Wd E s1)) : K nc ns pc lv st (Wd E s) :=
  r_callS g hc ho hv d hR hroom hn hrest hst (fun v' w' hq => by
    obtain ⟨rfl, rfl⟩ := hq
    exact k)
theorem r_cNI (g : Wk0 l (XE E) R cc nL own nm K) {host : String} (hc : Con l (XE E) y cy nY (some .int) rf rl 0 0 (As) (Wd E s) (RI E v s1)) (ho : OKc y cy nY (some .int) n) (hv : OKSN own host idx y) (d : decode cc pc = .ok (.invokestatic idx, 3)) (hR : rf + 1 ≤ R.frames ∧ 8 + (nY + 11) + rl ≤ R.locals) (hroom : nc ≤ R.cells ∧ ns ≤ R.slots) (hn : As.length = n) (hrest : (rest.map fun v => v.category).sum ≤ 8) (hst : As.reverse ++ rest = st) (k : InR v → K nc ns (pc + 3) lv ( .int (J v) :: rest) (Wd E s1)) : K nc ns pc lv st (Wd E s) :=
  r_callSN g hc ho hv d hR hroom hn hrest hst (fun v' w' hq => by
    obtain ⟨rfl, rfl, hi⟩ := hq
    exact k hi)
theorem r_cNZ (g : Wk0 l (XE E) R cc nL own nm K) {host : String} (hc : Con l (XE E) y cy nY (some .boolean) rf rl 0 0 (As) (Wd E s) (RZ E v s1)) (ho : OKc y cy nY (some .boolean) n) (hv : OKSN own host idx y) (d : decode cc pc = .ok (.invokestatic idx, 3)) (hR : rf + 1 ≤ R.frames ∧ 8 + (nY + 11) + rl ≤ R.locals) (hroom : nc ≤ R.cells ∧ ns ≤ R.slots) (hn : As.length = n) (hrest : (rest.map fun v => v.category).sum ≤ 8) (hst : As.reverse ++ rest = st) (k : B01 v → K nc ns (pc + 3) lv ( .int (J v) :: rest) (Wd E s1)) : K nc ns pc lv st (Wd E s) :=
  r_callSN g hc ho hv d hR hroom hn hrest hst (fun v' w' hq => by
    obtain ⟨rfl, rfl, hi⟩ := hq
    exact k hi)
theorem r_cNJ (g : Wk0 l (XE E) R cc nL own nm K) {host : String} (hc : Con l (XE E) y cy nY (some .long) rf rl 0 0 (As) (Wd E s) (RJ E v s1)) (ho : OKc y cy nY (some .long) n) (hv : OKSN own host idx y) (d : decode cc pc = .ok (.invokestatic idx, 3)) (hR : rf + 1 ≤ R.frames ∧ 8 + (nY + 11) + rl ≤ R.locals) (hroom : nc ≤ R.cells ∧ ns ≤ R.slots) (hn : As.length = n) (hrest : (rest.map fun v => v.category).sum ≤ 8) (hst : As.reverse ++ rest = st) (k : InL v → K nc ns (pc + 3) lv ( .long (JL v) :: rest) (Wd E s1)) : K nc ns pc lv st (Wd E s) :=
  r_callSN g hc ho hv d hR hroom hn hrest hst (fun v' w' hq => by
    obtain ⟨rfl, rfl, hi⟩ := hq
    exact k hi)
theorem r_cNV (g : Wk0 l (XE E) R cc nL own nm K) {host : String} (hc : Con l (XE E) y cy nY none rf rl 0 0 (As) (Wd E s) (RV E v s1)) (ho : OKc y cy nY none n) (hv : OKSN own host idx y) (d : decode cc pc = .ok (.invokestatic idx, 3)) (hR : rf + 1 ≤ R.frames ∧ 8 + (nY + 11) + rl ≤ R.locals) (hroom : nc ≤ R.cells ∧ ns ≤ R.slots) (hn : As.length = n) (hrest : (rest.map fun v => v.category).sum ≤ 8) (hst : As.reverse ++ rest = st) (k : K nc ns (pc + 3) lv rest (Wd E s1)) : K nc ns pc lv st (Wd E s) :=
  r_callSN g hc ho hv d hR hroom hn hrest hst (fun v' w' hq => by
    obtain ⟨rfl, rfl⟩ := hq
    exact k)
variable {s' : u_S} {r e : Int} {rfm rlm : Nat}
theorem z_I (g : Wk l (XE E) { frames := rfm, cells := 0, slots := 0, locals := rlm } cc nL own nm (some .int) (RI E r s') K) (d : decode cc pc = .ok (.ireturn, 1)) (he : InR e) (h : some (e, s) = some (r, s')) : K 0 0 pc lv [.int (J e)] (Wd E s) := by
  cases h
  exact r_ireturn g d ⟨rfl, rfl, he⟩
theorem z_Z (g : Wk l (XE E) { frames := rfm, cells := 0, slots := 0, locals := rlm } cc nL own nm (some .boolean) (RZ E r s') K) (d : decode cc pc = .ok (.ireturn, 1)) (he : B01 e) (h : some (e, s) = some (r, s')) : K 0 0 pc lv [.int (J e)] (Wd E s) := by
  cases h
  exact r_zreturn g d he ⟨rfl, rfl, he⟩
theorem z_J (g : Wk l (XE E) { frames := rfm, cells := 0, slots := 0, locals := rlm } cc nL own nm (some .long) (RJ E r s') K) (d : decode cc pc = .ok (.lreturn, 1)) (he : InL e) (h : some (e, s) = some (r, s')) : K 0 0 pc lv [.long (JL e)] (Wd E s) := by
  cases h
  exact r_lreturn g d ⟨rfl, rfl, he⟩
theorem z_V (g : Wk l (XE E) { frames := rfm, cells := 0, slots := 0, locals := rlm } cc nL own nm none (RV E r s') K) (d : decode cc pc = .ok (.return_, 1)) (h : some (e, s) = some (r, s')) : K 0 0 pc lv [] (Wd E s) := by
  cases h
  exact r_vreturn g d ⟨rfl, rfl⟩
end TYPED
