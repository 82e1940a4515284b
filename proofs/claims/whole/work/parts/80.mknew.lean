/-! MAKING OBJECTS: what constructors rest on -/
/-- the tables' words of arrays of references -/
def AO (U : State) : Prop := va_AO RX2 U ∧ va_AO RX5 U ∧ va_AO RX6 U ∧ va_AO RX8 U
theorem AO.moved {u U : State} (h : u.vm.Alike U.vm) (a : AO u) : AO U := ⟨a.1.moved h, a.2.1.moved h, a.2.2.1.moved h, a.2.2.2.moved h⟩
theorem AO.same {u U : State} (he : u.vm = U.vm) (a : AO u) : AO U := a.moved (by rw [he]; exact Vm.Alike.refl _)
/-- as Wk0, with the words of arrays -/
def WN (l : Launch) (X : u_X) (R : Room) (cc : ByteArray) (nL : Nat) (own : String) (nm : String) (K : u_K) : Prop :=
  ∃ (p : Program) (e : Env) (s : State) (m : MethodId) (args : Array Value) (below : List Frame) (meth : Method) (c : Code) (A : Nat → Prop) (H0 : Heap) (Q : State → Prop), K = MW X p l e R s m args below meth c nL A H0 Q ∧ p.tables.exec = Jvm.exec ∧ c.code = cc ∧ c.maxLocals = nL ∧ s.vm.findClass own = some m.cls ∧ (∀ w ∈ lw_G, w.before args s = true) ∧ KX X s ∧ (∀ q, H0.size ≤ q → A q) ∧ meth.name = nm ∧ AO s
theorem WN.wk0 {l : Launch} {X : u_X} {R : Room} {cc : ByteArray} {nL : Nat} {own nm : String} {K : u_K} (g : WN l X R cc nL own nm K) : Wk0 l X R cc nL own nm K := by
  obtain ⟨p, e, s, m, args, below, meth, c, A, H0, Q, h1, h2, h3, h4, h5, h6, h7, h8, h9, -⟩ := g
  exact ⟨p, e, s, m, args, below, meth, c, A, H0, Q, h1, h2, h3, h4, h5, h6, h7, h8, h9⟩
def PGN (X : u_X) (args : List Value) (w : va_W) (sz : Nat) : Array Value → State → Prop := va_Pc args (fun U => U.heap.size = sz ∧ va_P X.1 vwCl w U.heap ∧ (KX X U ∧ AO U) ∧ va_D (fun _ => True) w)
/-- a constructor's contract -/
def ConN (l : Launch) (X : u_X) (y : MethodName) (cc : ByteArray) (nL : Nat) (rf rl mc ms : Nat) (args : List Value) (w : va_W) (Rt : Option Value → va_W → Prop) : Prop :=
  ∀ sz : Nat, Met l y (wsG y cc nL none) { frames := rf, cells := mc, slots := ms, locals := rl } (PGN X args w sz) (QG X Rt (va_A w sz)) mc ms (va_A w sz)
theorem PGN_blind (X : u_X) (args : List Value) (w : va_W) (sz : Nat) : FrameBlind (PGN X args w sz) := fun a U g mk q => by
  obtain ⟨q0, q1, qP, qK, qD⟩ := q
  exact ⟨q0, q1, qP, ⟨KX.same (U := U.calling g mk a) (s := U) rfl qK.1, AO.same (U := U.calling g mk a) (u := U) rfl qK.2⟩, qD⟩
theorem ConN.of {l : Launch} {X : u_X} {y : MethodName} {cc : ByteArray} {nL : Nat} {rf rl mc ms : Nat} {args : List Value} {w : va_W} {Rt : Option Value → va_W → Prop} (lv : List (Option Value)) (hy : plainName y.cls = true) (hlv : lvp 0 lv = lv_args 0 args) (hln : lv.length = nL) (hsl : (lg_sl args).length ≤ nL)
    (body : ∀ K, Wk l X { frames := rf, cells := mc, slots := ms, locals := rl } cc nL y.cls y.name none Rt K → WN l X { frames := rf, cells := mc, slots := ms, locals := rl } cc nL y.cls y.name K → K 0 0 0 lv [] w) : ConN l X y cc nL rf rl mc ms args w Rt := by
  intro sz
  refine Met.ofW (cc := cc) (maxL := nL) (ret := none) hy rfl ?_
  intro p e s m a below meth c s₁ B hml hv
  obtain ⟨rfl, hsz, hP, ⟨hK, hO⟩, hD0⟩ := hv
  have hts := atoms_spec (ws := wsG y cc nL none) B.pre
  have hown : s.vm.findClass y.cls = some m.cls := findClass_of_methodNamed B.named
  subst hsz
  have hD := hD0.self (sz := s.heap.size)
  have hl := lv_entry args (n := nL) hsl
  rw [lg_entry_eq]
  rw [← hlv] at hl
  exact body _ ⟨p, e, s, m, args.toArray, below, meth, c, va_A w s.heap.size, rfl, B.exec, B.bytes, hml, hown, fun w h => hts w (List.mem_cons_of_mem _ h), hK, fun q h => Or.inr h, (name_of_methodNamed B.named B.method).1, B.returns, B.notSynchronized⟩ ⟨p, e, s, m, args.toArray, below, meth, c, va_A w s.heap.size, s.heap, _, rfl, B.exec, B.bytes, hml, hown, fun w h => hts w (List.mem_cons_of_mem _ h), hK, fun q h => Or.inr h, (name_of_methodNamed B.named B.method).1, hO⟩ hln s.heap [] _ hl hP hD va_S.rf
section NROWS
variable {l : Launch} {X : u_X} {R : Room} {cc : ByteArray} {nL : Nat} {own nm : String} {K : u_K} {nc ns pc : Nat} {lv : List (Option Value)} {st : List Value} {w : va_W}
variable {y : MethodName} {cy : ByteArray} {nY idx rf rl mc ms n : Nat} {b : Nat} {As rest : List Value} {Rt : Option Value → va_W → Prop}
theorem r_callN (g : WN l X R cc nL own nm K) (hc : ConN l X y cy nY rf rl mc ms (.ref b :: As) w Rt) (ho : OKc y cy nY none n) (hv : OKI own idx y) (d : decode cc pc = .ok (.invokespecial idx, 3))
    (hR : rf + 1 ≤ R.frames ∧ 8 + (nY + 11) + rl ≤ R.locals) (hroom : nc + mc ≤ R.cells ∧ ns + ms ≤ R.slots) (hn : As.length = n) (hrest : (rest.map fun v => v.category).sum ≤ 8) (hst : As.reverse ++ .ref b :: rest = st)
    (k : ∀ v w', Rt v w' → K (nc + mc) (ns + ms) (pc + 3) lv (v.toList ++ rest) w') : K nc ns pc lv st w := by
  obtain ⟨p, e, s, m, args, below, meth, c, A, H0, Q, rfl, hx, hb, hml, hown, hts, hK, hA, hnm, hO⟩ := g
  intro hln H locs ls hl hP hD hS
  refine K_run (va_runI (As := As) (rest := rest) ⟨hx, hb, hml, hown, hts⟩ (hc H.size) ⟨callB_of n hts (goodG ho.2.1) rfl rfl rfl (hts _ ho.1) (hts _ hv.1) ho.2.2 hR, hv.2.2, hts _ hv.2.1⟩ ⟨PGN_blind _ _ _ _, fun U hU hW => ⟨rfl, by rw [hU], by rw [hU]; exact hP, ⟨hK.warm hW, hO.moved hW.alike⟩, hD.weaken (fun _ _ _ _ => trivial)⟩⟩ rfl hn hl.1 hst.symm (lv_room hrest) d hroom) hS (A_lt hD) (A_all hD hS hA) (fun v w' H1 locs1 hv hP1 hD1 hS1 => k v w' hv hln H1 locs1 ls hl hP1 (hD1.weaken (fun _ _ _ h => A_all hD hS hA _ h)) hS1)
theorem r_callNN (g : WN l X R cc nL own nm K) {host : String} (hc : ConN l X y cy nY rf rl mc ms (.ref b :: As) w Rt) (ho : OKc y cy nY none n) (hv : OKIN own host idx y) (d : decode cc pc = .ok (.invokespecial idx, 3))
    (hR : rf + 1 ≤ R.frames ∧ 8 + (nY + 11) + rl ≤ R.locals) (hroom : nc + mc ≤ R.cells ∧ ns + ms ≤ R.slots) (hn : As.length = n) (hrest : (rest.map fun v => v.category).sum ≤ 8) (hst : As.reverse ++ .ref b :: rest = st)
    (k : ∀ v w', Rt v w' → K (nc + mc) (ns + ms) (pc + 3) lv (v.toList ++ rest) w') : K nc ns pc lv st w := by
  obtain ⟨p, e, s, m, args, below, meth, c, A, H0, Q, rfl, hx, hb, hml, hown, hts, hK, hA, hnm, hO⟩ := g
  intro hln H locs ls hl hP hD hS
  refine K_run (va_runIN (As := As) (rest := rest) (host := host) ⟨hx, hb, hml, hown, hts⟩ (hc H.size) ⟨va_cnB n hts (goodG ho.2.1) rfl rfl rfl (hK.2 _ hv.1) (hts _ ho.1) ho.2.2 hR, hv.2.2, hts _ hv.2.1⟩ ⟨PGN_blind _ _ _ _, fun U hU hW => ⟨rfl, by rw [hU], by rw [hU]; exact hP, ⟨hK.warm hW, hO.moved hW.alike⟩, hD.weaken (fun _ _ _ _ => trivial)⟩⟩ rfl hn hl.1 hst.symm (lv_room hrest) d hroom) hS (A_lt hD) (A_all hD hS hA) (fun v w' H1 locs1 hv hP1 hD1 hS1 => k v w' hv hln H1 locs1 ls hl hP1 (hD1.weaken (fun _ _ _ h => A_all hD hS hA _ h)) hS1)
theorem r_new (g : Wk0 l X R cc nL own nm K) {C : String} {T : u_T} {N ci : Nat} (hin : ∀ w ∈ u_ws C T N, w ∈ lw_G) (hc : vwCl[ci]? = some (C, T, N)) (ty : Nat → FieldType) (hty : ∀ k, k < N → parseFieldDescriptor (T k).2.2.1 = some (ty k)) (hcl : Cond.classLink own idx C ∈ lw_G) (hins : Cond.instantiable C N ∈ lw_G) (hini : Cond.initialized C ∈ lw_G) {fs : List Value} (hfs : ∀ j, j < N → defaultValue (ty j) = vp_V fs j) (hroom : nc + 1 ≤ R.cells ∧ ns + N ≤ R.slots) (d : decode cc pc = .ok (.new idx, 3)) (kk : ∀ q : Nat, K (nc + 1) (ns + N) (pc + 3) lv (.ref q :: st) (w ++ [(q, .inr (ci, fs))])) : K nc ns pc lv st w := by
  obtain ⟨p, e, s, m, args, below, meth, c, A, H0, Q, rfl, hx, hb, hml, hown, hts, hK, hA, hnm⟩ := g
  intro hln H locs ls hl hP hD hS
  exact va_new hx hb hts hin ty hty hown (hts _ hcl) (hts _ hins) (hts _ hini) hK.1 hP hD hS hA hc hfs hroom.1 hroom.2 d (fun q H1 hP1 hD1 hS1 => kk q hln H1 locs ls hl hP1 hD1 hS1)
theorem r_newa (g : Wk0 l X R cc nL own nm K) (t0 : Nat) {cA : ClassId} (ht : X.2[t0]? = some (cA, .int)) (harr : Cond.arrayClass .int ∈ lw_G) {i : Int} {N : Nat} (hi : i = (N : Int)) (hr : InR i) (hbytes : N * 4 ≤ 536870912) (hroom : nc + 1 ≤ R.cells ∧ ns + N ≤ R.slots) (d : decode cc pc = .ok (.newarray .int, 2)) (kk : ∀ q : Nat, K (nc + 1) (ns + N) (pc + 2) lv (.ref q :: st) (w ++ [(q, .inl (cA, N, .inl (fun _ => 0)))])) : K nc ns pc lv (.int (J i) :: st) w := by
  obtain ⟨p, e, s, m, args, below, meth, c, A, H0, Q, rfl, hx, hb, hml, hown, hts, hK, hA, hnm⟩ := g
  intro hln H locs ls hl hP hD hS
  refine va_newa (atype := .int) (ty := .int) (a0 := (N, .inl (fun _ => 0))) hx hb (hts _ harr) rfl hK.1 hP hD hS hA (fun cA => rfl) (fun h => ?_) (by rw [clamp_J hr]; omega) hbytes hroom.1 hroom.2 d (fun q cA' H1 hK1 hP1 hD1 hS1 => ?_)
  · have := (J_lt hr InR_0).mp h
    omega
  · have e1 : s.vm.findClass ("[" ++ FieldType.int.toString) = some cA' := (hK1.2 X.2.length (cA', .int) (by simp)).2
    have e2 : s.vm.findClass ("[" ++ FieldType.int.toString) = some cA := (hK.1.2 t0 _ ht).2
    have e3 : cA' = cA := Option.some.inj (e1.symm.trans e2)
    subst e3
    exact kk q hln H1 locs ls hl hP1 hD1 hS1
theorem r_newq (g : WN l X R cc nL own nm K) (t0 : Nat) {cA : ClassId} {C : String} (ht : X.2[t0]? = some (cA, .object C)) (hao : ∀ U, AO U → va_AO C U) (hcl : Cond.classLink own idx C ∈ lw_G) {i : Int} {N : Nat} (hi : i = (N : Int)) (hr : InR i) (hbytes : N * 4 ≤ 536870912) (hroom : nc + 1 ≤ R.cells ∧ ns + N ≤ R.slots) (d : decode cc pc = .ok (.anewarray idx, 3)) (kk : ∀ q : Nat, K (nc + 1) (ns + N) (pc + 3) lv (.ref q :: st) (w ++ [(q, .inl (cA, N, .inr (.inr (.inr (.inr (fun _ => none))))))])) : K nc ns pc lv (.int (J i) :: st) w := by
  obtain ⟨p, e, s, m, args, below, meth, c, A, H0, Q, rfl, hx, hb, hml, hown, hts, hK, hA, hnm, hO⟩ := g
  intro hln H locs ls hl hP hD hS
  refine va_newq hx hb hown (hts _ hcl) (hao _ hO) hK.1 hP hD hS hA (N' := N) (fun h => ?_) (by rw [clamp_J hr]; omega) hbytes hroom.1 hroom.2 d (fun q cA' H1 hK1 hP1 hD1 hS1 => ?_)
  · have := (J_lt hr InR_0).mp h
    omega
  · obtain ⟨_, _, _, _, _, e1⟩ : va_RA s cA' (.object C) := (hK1.2 X.2.length (cA', .object C) (by simp)).2
    obtain ⟨_, _, _, _, _, e2⟩ : va_RA s cA (.object C) := (hK.1.2 t0 _ ht).2
    have e3 : cA' = cA := Option.some.inj (e1.symm.trans e2)
    subst e3
    exact kk q hln H1 locs ls hl hP1 hD1 hS1
theorem r_putF (g : Wk0 l X R cc nL own nm K) {C : String} {T : u_T} {N ci : Nat} (hin : ∀ w ∈ u_ws C T N, w ∈ lw_G) (hc : vwCl[ci]? = some (C, T, N)) (ty0 : Nat → FieldType) (hty : ∀ k, k < N → parseFieldDescriptor (T k).2.2.1 = some (ty0 k)) (hnmm : ∀ a, a < N → ∀ b, b < N → a ≠ b → (T a).2.1 ≠ (T b).2.1) {a : Nat} {fs : List Value} (q0 : Nat) (he : w[q0]? = some (a, .inr (ci, fs))) (k : Nat) (hk : k < N) (hfin : (T k).2.2.2 = true) (hinit : nm = "<init>") (hdecl : (T k).1 = own) {ty : FieldType} {x : Nat} (hti : parseFieldDescriptor (T k).2.2.1 = some ty) (hnar : narrow ty (.ref x) = .ref x) (hfit : fits ty (.ref x) = true) (hlen : k < fs.length) (hl0 : Cond.fieldLink own idx (T k).1 (T k).2.1 (T k).2.2.1 ∈ lw_G) (d : decode cc pc = .ok (.putfield idx, 3)) (kk : K nc ns (pc + 3) lv st (w.set q0 (a, .inr (ci, fs.set k (.ref x))))) : K nc ns pc lv (.ref x :: .ref a :: st) w := by
  obtain ⟨p, e, s, m, args, below, meth, c, A, H0, Q, rfl, hx, hb, hml, hown, hts, hK, hA, hnm⟩ := g
  intro hln H locs ls hl hP hD hS
  exact va_putF hx hb hts hin ty0 hty hnmm hown hK.1 hP hD hS q0 he hc k hk (hts _ hl0) (fun _ h => h) hfin (hnm.trans hinit) hdecl hti hnar hfit hlen d (fun H1 locs1 hP1 hD1 hS1 => kk hln H1 locs1 ls hl hP1 hD1 hS1)
theorem r_astq (g : Wk0 l X R cc nL own nm K) {a v : Nat} (q0 t0 qk ci : Nat) {cA : ClassId} {r : vw_C} {N : Nat} {vs : List Value} {f : Nat → Option Nat} (ha : w[q0]? = some (a, .inl (cA, N, .inr (.inr (.inr (.inr f)))))) (ht : X.2[t0]? = some (cA, .object r.1)) (hv : w[qk]? = some (v, .inr (ci, vs))) (hc : vwCl[ci]? = some r) {i : Int} (hi : InR i) (hin : 0 ≤ i ∧ i < (N : Int)) (d : decode cc pc = .ok (.aastore, 1)) (kk : K nc ns (pc + 1) lv st (w.set q0 (a, .inl (cA, N, .inr (.inr (.inr (.inr (va_up f i.toNat (some v))))))))) : K nc ns pc lv (.ref v :: .int (J i) :: .ref a :: st) w := by
  obtain ⟨p, e, s, m, args, below, meth, c, A, H0, Q, rfl, hx, hb, hml, hown, hts, hK, hA, hnm⟩ := g
  intro hln H locs ls hl hP hD hS
  exact va_astq hx hb hK.1 hP hD hS q0 t0 qk ci ha ht hv hc (vp_in_J hi hin.1 hin.2) d (fun H1 locs1 hP1 hD1 hS1 => kk hln H1 locs1 ls hl (by rw [clamp_J hi] at hP1; exact hP1) (by rw [clamp_J hi] at hD1; exact hD1) hS1)
theorem r_obj (g : Wk0 l X R cc nL own nm K) {a : Nat} (h1 : Cond.methodLink own idx objectInit ∈ lw_G) (h2 : Cond.instanceMethod objectInit ∈ lw_G) (h3 : Cond.code objectInit ⟨#[0xb1]⟩ 1 none ∈ lw_G) (hR : 1 ≤ R.frames ∧ 20 ≤ R.locals) (hrest : (st.map fun v => v.category).sum ≤ 8) (d : decode cc pc = .ok (.invokespecial idx, 3)) (kk : K nc ns (pc + 3) lv st w) : K nc ns pc lv (.ref a :: st) w := by
  obtain ⟨p, e, s, m, args, below, meth, c, A, H0, Q, rfl, hx, hb, hml, hown, hts, hK, hA, hnm⟩ := g
  intro hln H locs ls hl hP hD hS
  have hroom : 2 * (F0 m pc ls (.ref a :: st)).monitorRoom + (st.map fun v => v.category).sum ≤ 8 := lv_room hrest
  refine W.objInit hx hb hown (hts _ h1) (hts _ h2) (hts _ h3) rfl (by rw [hml]; exact hl.1) rfl d hR.1 (Nat.le_trans (Nat.add_le_add_right hroom 12) hR.2) ?_
  exact kk hln H locs ls hl hP hD hS
theorem r_widen (g : Wk0 l X R cc nL own nm K) {nc' ns' : Nat} (h1 : nc ≤ nc') (h2 : ns ≤ ns') (kk : K nc' ns' pc lv st w) : K nc ns pc lv st w := by
  obtain ⟨p, e, s, m, args, below, meth, c, A, H0, Q, rfl, hx, hb, hml, hown, hts, hK, hA, hnm⟩ := g
  intro hln H locs ls hl hP hD hS
  exact W.widen h1 h2 (kk hln H locs ls hl hP hD hS)
end NROWS
