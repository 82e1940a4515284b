/-! CALLS AND ENDS -/
def MHVH (y : MethodName) : Prop := y.cls ≠ "java/lang/invoke/MethodHandle" ∧ y.cls ≠ "java/lang/invoke/VarHandle"
def OKc (y : MethodName) (cc : ByteArray) (nL : Nat) (ret : Option FieldType) (n : Nat) : Prop := Cond.initialized y.cls ∈ lw_G ∧ Cond.code y cc nL ret ∈ lw_G ∧ (y.cls ≠ "java/lang/invoke/MethodHandle" ∧ y.cls ≠ "java/lang/invoke/VarHandle" ∧ (parseMethodDescriptor y.desc).map (fun d => d.parameters.length) = some n)
/-- what links a call of an instance method -/
def OKV (own : String) (idx : Nat) (y : MethodName) : Prop := Cond.methodLink own idx y ∈ lw_G ∧ Cond.instanceMethod y ∈ lw_G ∧ Cond.selects y.cls y y ∈ lw_G
def OKS (own : String) (idx : Nat) (y : MethodName) : Prop := Cond.methodLink own idx y ∈ lw_G ∧ Cond.static y ∈ lw_G
def OKI (own : String) (idx : Nat) (y : MethodName) : Prop := Cond.methodLink own idx y ∈ lw_G ∧ Cond.instanceMethod y ∈ lw_G ∧ y.name = "<init>"
def OKSN (own host : String) (idx : Nat) (y : MethodName) : Prop := Cond.methodLinkNest own idx y host ∈ lw_nest ∧ Cond.static y ∈ lw_G
def OKIN (own host : String) (idx : Nat) (y : MethodName) : Prop := Cond.methodLinkNest own idx y host ∈ lw_nest ∧ Cond.instanceMethod y ∈ lw_G ∧ y.name = "<init>"
def Recv (w : va_W) (b : Nat) (C : String) : Prop := ∃ (k ci : Nat) (q : vw_C) (fs : List Value), vwCl[ci]? = some q ∧ q.1 = C ∧ w[k]? = some (b, .inr (ci, fs))
theorem goodG {y : MethodName} {cc : ByteArray} {nL : Nat} {ret : Option FieldType} (h : Cond.code y cc nL ret ∈ lw_G) : GoodIn lw_G (wsG y cc nL ret) := fun w hw => by
  have hm : w ∈ lw_G := by
    rcases List.mem_cons.mp hw with rfl | h2
    · exact h
    · exact h2
  exact ⟨hm, good_of_word (lw_G_good w hm)⟩
section CALLS
variable {p : Program} {l : Launch} {e : Env} {R : Room} {s : State} {m : MethodId} {args : Array Value} {below : List Frame} {meth : Method} {c : Code} {H : Heap} {locs : List Loc} {nc ns mc ms : Nat} {Q : State → Prop}
variable {pc : Nat} {ls : Array Slot} {rest st0 : List Value} {a : Array Value} {A0 A1 : Nat → Prop} {H0 : Heap} {free : Addr → Prop} {X : u_X} {Rt : Option Value → va_W → Prop}
theorem K_run (hr : va_Run p l e R s m args below meth c H locs nc ns mc ms (F0 m pc ls st0) rest (QG X Rt A1 a) free) (hS : va_S A0 H0 H locs) (hA : ∀ q, q < H.size → A1 q → A0 q) (hf : ∀ q, free q → A0 q)
    (kk : ∀ (v : Option Value) (w : va_W) (H1 : Heap) (locs1 : List Loc), Rt v w → va_P X.1 vwCl w H1 → va_D A1 w → va_S A0 H0 H1 locs1 → W p l e R s m args below meth c H1 locs1 (nc + mc) (ns + ms) Q (F0 m (pc + 3) ls (v.toList ++ rest))) : W p l e R s m args below meth c H locs nc ns Q (F0 m pc ls st0) := by
  intro T hT Y
  obtain ⟨v, st₀, t, T', L, h0, Y', hL, e1, e2, ⟨⟨v', w, hv, hp, hPw, hDw⟩, hz, hk⟩, st⟩ := hr T hT Y
  cases hv
  rw [h0] at hz hk
  obtain ⟨t2, a1, b1⟩ := kk v w T'.heap (locs ++ L) hp (by rw [e1]; exact hPw) hDw
    ⟨Nat.le_trans hS.1 (by rw [e1]; exact hz), fun q h1 h2 => by rw [e1, hk q (Nat.lt_of_lt_of_le h1 hS.1) (fun z => h2 (hA q (Nat.lt_of_lt_of_le h1 hS.1) z))]; exact hS.2.1 q h1 h2, fun q hq => by
      rcases List.mem_append.mp hq with h | h
      · exact hS.2.2 q h
      · exact hf _ (hL q h)⟩ T' rfl Y'
  exact ⟨t2, st t2 a1, b1⟩
end CALLS
theorem A_lt {w : va_W} {A0 : Nat → Prop} {n : Nat} (hD : va_D A0 w) (q : Nat) (h : q < n) (h2 : va_A w n q) : A0 q := by
  rcases h2 with ⟨k, e, h2⟩ | h2
  · exact hD.2 k _ h2
  · omega
theorem A_all {w : va_W} {A0 : Nat → Prop} {H0 H : Heap} {locs : List Loc} (hD : va_D A0 w) (hS : va_S A0 H0 H locs) (hA : ∀ q, H0.size ≤ q → A0 q) (q : Nat) (h2 : va_A w H.size q) : A0 q := by
  rcases h2 with ⟨k, e, h2⟩ | h2
  · exact hD.2 k _ h2
  · exact hA q (Nat.le_trans hS.1 h2)
section CROWS
variable {l : Launch} {X : u_X} {R : Room} {cc : ByteArray} {nL : Nat} {own nm : String} {K : u_K} {nc ns pc : Nat} {lv : List (Option Value)} {st : List Value} {w : va_W}
variable {y : MethodName} {cy : ByteArray} {nY idx rf rl mc ms n : Nat} {ry : Option FieldType} {b : Nat} {As rest : List Value} {Rt : Option Value → va_W → Prop}
theorem r_callV (g : Wk0 l X R cc nL own nm K) (hc : Con l X y cy nY ry rf rl mc ms (.ref b :: As) w Rt) (ho : OKc y cy nY ry n) (hv : OKV own idx y) (hrecv : Recv w b y.cls) (d : decode cc pc = .ok (.invokevirtual idx, 3))
    (hR : rf + 1 ≤ R.frames ∧ 8 + (nY + 11) + rl ≤ R.locals) (hroom : nc + mc ≤ R.cells ∧ ns + ms ≤ R.slots) (hn : As.length = n) (hrest : (rest.map fun v => v.category).sum ≤ 8) (hst : As.reverse ++ .ref b :: rest = st)
    (k : ∀ v w', Rt v w' → K (nc + mc) (ns + ms) (pc + 3) lv (v.toList ++ rest) w') : K nc ns pc lv st w := by
  obtain ⟨p, e, s, m, args, below, meth, c, A, H0, Q, rfl, hx, hb, hml, hown, hts, hK, hA, hnm⟩ := g
  intro hln H locs ls hl hP hD hS
  obtain ⟨k0, ci, q, fs, hq, hqc, hw⟩ := hrecv
  refine K_run (va_runV (As := As) (rest := rest) (C := y.cls) ⟨hx, hb, hml, hown, hts⟩ (hc H.size) ⟨callB_of n hts (goodG ho.2.1) rfl rfl rfl (hts _ ho.1) (hts _ hv.1) ho.2.2 hR, hts _ hv.2.1, hts _ hv.2.2⟩ ⟨PG_blind _ _ _ _, hqc ▸ va_recv hK.1 hP hq hw, fun U hU hW => ⟨rfl, by rw [hU], by rw [hU]; exact hP, hK.warm hW, hD.weaken (fun _ _ _ _ => trivial)⟩⟩ rfl hn hl.1 hst.symm (lv_room hrest) d hroom) hS (A_lt hD) (A_all hD hS hA) (fun v w' H1 locs1 hv hP1 hD1 hS1 => k v w' hv hln H1 locs1 ls hl hP1 (hD1.weaken (fun _ _ _ h => A_all hD hS hA _ h)) hS1)
theorem r_callS (g : Wk0 l X R cc nL own nm K) (hc : Con l X y cy nY ry rf rl mc ms As w Rt) (ho : OKc y cy nY ry n) (hv : OKS own idx y) (d : decode cc pc = .ok (.invokestatic idx, 3))
    (hR : rf + 1 ≤ R.frames ∧ 8 + (nY + 11) + rl ≤ R.locals) (hroom : nc + mc ≤ R.cells ∧ ns + ms ≤ R.slots) (hn : As.length = n) (hrest : (rest.map fun v => v.category).sum ≤ 8) (hst : As.reverse ++ rest = st)
    (k : ∀ v w', Rt v w' → K (nc + mc) (ns + ms) (pc + 3) lv (v.toList ++ rest) w') : K nc ns pc lv st w := by
  obtain ⟨p, e, s, m, args, below, meth, c, A, H0, Q, rfl, hx, hb, hml, hown, hts, hK, hA, hnm⟩ := g
  intro hln H locs ls hl hP hD hS
  refine K_run (va_runS (As := As) (rest := rest) ⟨hx, hb, hml, hown, hts⟩ (hc H.size) ⟨callB_of n hts (goodG ho.2.1) rfl rfl rfl (hts _ ho.1) (hts _ hv.1) ho.2.2 hR, hts _ hv.2⟩ ⟨PG_blind _ _ _ _, fun U hU hW => ⟨rfl, by rw [hU], by rw [hU]; exact hP, hK.warm hW, hD.weaken (fun _ _ _ _ => trivial)⟩⟩ rfl hn hl.1 hst.symm (lv_room hrest) d hroom) hS (A_lt hD) (A_all hD hS hA) (fun v w' H1 locs1 hv hP1 hD1 hS1 => k v w' hv hln H1 locs1 ls hl hP1 (hD1.weaken (fun _ _ _ h => A_all hD hS hA _ h)) hS1)
theorem r_callI (g : Wk0 l X R cc nL own nm K) (hc : Con l X y cy nY none rf rl mc ms (.ref b :: As) w Rt) (ho : OKc y cy nY none n) (hv : OKI own idx y) (d : decode cc pc = .ok (.invokespecial idx, 3))
    (hR : rf + 1 ≤ R.frames ∧ 8 + (nY + 11) + rl ≤ R.locals) (hroom : nc + mc ≤ R.cells ∧ ns + ms ≤ R.slots) (hn : As.length = n) (hrest : (rest.map fun v => v.category).sum ≤ 8) (hst : As.reverse ++ .ref b :: rest = st)
    (k : ∀ v w', Rt v w' → K (nc + mc) (ns + ms) (pc + 3) lv (v.toList ++ rest) w') : K nc ns pc lv st w := by
  obtain ⟨p, e, s, m, args, below, meth, c, A, H0, Q, rfl, hx, hb, hml, hown, hts, hK, hA, hnm⟩ := g
  intro hln H locs ls hl hP hD hS
  refine K_run (va_runI (As := As) (rest := rest) ⟨hx, hb, hml, hown, hts⟩ (hc H.size) ⟨callB_of n hts (goodG ho.2.1) rfl rfl rfl (hts _ ho.1) (hts _ hv.1) ho.2.2 hR, hv.2.2, hts _ hv.2.1⟩ ⟨PG_blind _ _ _ _, fun U hU hW => ⟨rfl, by rw [hU], by rw [hU]; exact hP, hK.warm hW, hD.weaken (fun _ _ _ _ => trivial)⟩⟩ rfl hn hl.1 hst.symm (lv_room hrest) d hroom) hS (A_lt hD) (A_all hD hS hA) (fun v w' H1 locs1 hv hP1 hD1 hS1 => k v w' hv hln H1 locs1 ls hl hP1 (hD1.weaken (fun _ _ _ h => A_all hD hS hA _ h)) hS1)
theorem r_callSN (g : Wk0 l X R cc nL own nm K) {host : String} (hc : Con l X y cy nY ry rf rl mc ms As w Rt) (ho : OKc y cy nY ry n) (hv : OKSN own host idx y) (d : decode cc pc = .ok (.invokestatic idx, 3))
    (hR : rf + 1 ≤ R.frames ∧ 8 + (nY + 11) + rl ≤ R.locals) (hroom : nc + mc ≤ R.cells ∧ ns + ms ≤ R.slots) (hn : As.length = n) (hrest : (rest.map fun v => v.category).sum ≤ 8) (hst : As.reverse ++ rest = st)
    (k : ∀ v w', Rt v w' → K (nc + mc) (ns + ms) (pc + 3) lv (v.toList ++ rest) w') : K nc ns pc lv st w := by
  obtain ⟨p, e, s, m, args, below, meth, c, A, H0, Q, rfl, hx, hb, hml, hown, hts, hK, hA, hnm⟩ := g
  intro hln H locs ls hl hP hD hS
  refine K_run (va_runSN (As := As) (rest := rest) (host := host) ⟨hx, hb, hml, hown, hts⟩ (hc H.size) ⟨va_cnB n hts (goodG ho.2.1) rfl rfl rfl (hK.2 _ hv.1) (hts _ ho.1) ho.2.2 hR, hts _ hv.2, trivial⟩ ⟨PG_blind _ _ _ _, fun U hU hW => ⟨rfl, by rw [hU], by rw [hU]; exact hP, hK.warm hW, hD.weaken (fun _ _ _ _ => trivial)⟩⟩ rfl hn hl.1 hst.symm (lv_room hrest) d hroom) hS (A_lt hD) (A_all hD hS hA) (fun v w' H1 locs1 hv hP1 hD1 hS1 => k v w' hv hln H1 locs1 ls hl hP1 (hD1.weaken (fun _ _ _ h => A_all hD hS hA _ h)) hS1)
theorem r_callIN (g : Wk0 l X R cc nL own nm K) {host : String} (hc : Con l X y cy nY none rf rl mc ms (.ref b :: As) w Rt) (ho : OKc y cy nY none n) (hv : OKIN own host idx y) (d : decode cc pc = .ok (.invokespecial idx, 3))
    (hR : rf + 1 ≤ R.frames ∧ 8 + (nY + 11) + rl ≤ R.locals) (hroom : nc + mc ≤ R.cells ∧ ns + ms ≤ R.slots) (hn : As.length = n) (hrest : (rest.map fun v => v.category).sum ≤ 8) (hst : As.reverse ++ .ref b :: rest = st)
    (k : ∀ v w', Rt v w' → K (nc + mc) (ns + ms) (pc + 3) lv (v.toList ++ rest) w') : K nc ns pc lv st w := by
  obtain ⟨p, e, s, m, args, below, meth, c, A, H0, Q, rfl, hx, hb, hml, hown, hts, hK, hA, hnm⟩ := g
  intro hln H locs ls hl hP hD hS
  refine K_run (va_runIN (As := As) (rest := rest) (host := host) ⟨hx, hb, hml, hown, hts⟩ (hc H.size) ⟨va_cnB n hts (goodG ho.2.1) rfl rfl rfl (hK.2 _ hv.1) (hts _ ho.1) ho.2.2 hR, hv.2.2, hts _ hv.2.1⟩ ⟨PG_blind _ _ _ _, fun U hU hW => ⟨rfl, by rw [hU], by rw [hU]; exact hP, hK.warm hW, hD.weaken (fun _ _ _ _ => trivial)⟩⟩ rfl hn hl.1 hst.symm (lv_room hrest) d hroom) hS (A_lt hD) (A_all hD hS hA) (fun v w' H1 locs1 hv hP1 hD1 hS1 => k v w' hv hln H1 locs1 ls hl hP1 (hD1.weaken (fun _ _ _ h => A_all hD hS hA _ h)) hS1)
variable {ret : Option FieldType}
theorem r_ireturn (g : Wk l X R cc nL own nm (some .int) Rt K) {v : Int32} (d : decode cc pc = .ok (.ireturn, 1)) (hR : Rt (some (.int v)) w) : K R.cells R.slots pc lv [.int v] w := by
  obtain ⟨p, e, s, m, args, below, meth, c, A, rfl, hx, hb, hml, hown, hts, hK, hA, hnm, hr, hlk⟩ := g
  intro hln H locs ls hl hP hD hS
  exact W.iret hx hb hr (fun t ht hW => ⟨⟨_, w, rfl, hR, by rw [ht]; exact hP, hD⟩, hS.F ht⟩) hS.2.2 d hlk
theorem r_zreturn (g : Wk l X R cc nL own nm (some .boolean) Rt K) {r : Int} (d : decode cc pc = .ok (.ireturn, 1)) (h01 : B01 r) (hR : Rt (some (.int (J r))) w) : K R.cells R.slots pc lv [.int (J r)] w := by
  obtain ⟨p, e, s, m, args, below, meth, c, A, rfl, hx, hb, hml, hown, hts, hK, hA, hnm, hr, hlk⟩ := g
  intro hln H locs ls hl hP hD hS
  exact W.zret hx hb hr (by rcases h01 with rfl | rfl <;> rfl) (fun t ht hW => ⟨⟨_, w, rfl, hR, by rw [ht]; exact hP, hD⟩, hS.F ht⟩) hS.2.2 d hlk
theorem r_lreturn (g : Wk l X R cc nL own nm (some .long) Rt K) {v : Int64} (d : decode cc pc = .ok (.lreturn, 1)) (hR : Rt (some (.long v)) w) : K R.cells R.slots pc lv [.long v] w := by
  obtain ⟨p, e, s, m, args, below, meth, c, A, rfl, hx, hb, hml, hown, hts, hK, hA, hnm, hr, hlk⟩ := g
  intro hln H locs ls hl hP hD hS
  exact W.lret hx hb hr (fun t ht hW => ⟨⟨_, w, rfl, hR, by rw [ht]; exact hP, hD⟩, hS.F ht⟩) hS.2.2 d hlk
theorem r_vreturn (g : Wk l X R cc nL own nm none Rt K) (d : decode cc pc = .ok (.return_, 1)) (hR : Rt none w) : K R.cells R.slots pc lv [] w := by
  obtain ⟨p, e, s, m, args, below, meth, c, A, rfl, hx, hb, hml, hown, hts, hK, hA, hnm, hr, hlk⟩ := g
  intro hln H locs ls hl hP hD hS
  exact W.vret hx hb hr (fun t ht hW => ⟨⟨_, w, rfl, hR, by rw [ht]; exact hP, hD⟩, hS.F ht⟩) hS.2.2 d hlk
theorem r_tsIn (g : Wk0 l X R cc nL own nm K) {x lo hi dflt off : Int} {offs : Array Int} {len : Nat} (tgt : Nat) (d : decode cc pc = .ok (.tableswitch dflt lo hi offs, len)) (hx0 : InR x) (h1 : ¬ x < lo) (h2 : ¬ hi < x) (ho : offs[(x - lo).toNat]? = some off) (ht : (pc : Int) + off = (tgt : Int)) (k : K nc ns tgt lv st w) : K nc ns pc lv (.int (J x) :: st) w := by
  obtain ⟨p, e, s, m, args, below, meth, c, A, H0, Q, rfl, hx, hb, hml, hown, hts, hK, hA, hnm⟩ := g
  intro hln H locs ls hl hP hD hS
  exact lv_tableIn hx hb d (by rw [J_int hx0]; exact h1) (by rw [J_int hx0]; exact h2) (by rw [J_int hx0]; exact ho) ht (k hln H locs ls hl hP hD hS)
theorem r_tsOut (g : Wk0 l X R cc nL own nm K) {x lo hi dflt : Int} {offs : Array Int} {len : Nat} (tgt : Nat) (d : decode cc pc = .ok (.tableswitch dflt lo hi offs, len)) (hx0 : InR x) (h : x < lo ∨ hi < x) (ht : (pc : Int) + dflt = (tgt : Int)) (k : K nc ns tgt lv st w) : K nc ns pc lv (.int (J x) :: st) w := by
  obtain ⟨p, e, s, m, args, below, meth, c, A, H0, Q, rfl, hx, hb, hml, hown, hts, hK, hA, hnm⟩ := g
  intro hln H locs ls hl hP hD hS
  exact lv_tableOut hx hb d (by rw [J_int hx0]; exact h) ht (k hln H locs ls hl hP hD hS)
theorem r_lsw (g : Wk0 l X R cc nL own nm K) {x dflt off : Int} {ps : Array (Int × Int)} {len : Nat} (tgt : Nat) (d : decode cc pc = .ok (.lookupswitch dflt ps, len)) (hx0 : InR x) (hp : (ps.toList.zip (ps.toList.drop 1)).all (fun (a, next) => a.1 < next.1) = true) (ho : Op.lookupswitch.offset ps.toList dflt x = off) (ht : (pc : Int) + off = (tgt : Int)) (k : K nc ns tgt lv st w) : K nc ns pc lv (.int (J x) :: st) w := by
  obtain ⟨p, e, s, m, args, below, meth, c, A, H0, Q, rfl, hx, hb, hml, hown, hts, hK, hA, hnm⟩ := g
  intro hln H locs ls hl hP hD hS
  exact lv_lookup hx hb d hp (by rw [J_int hx0]; exact ho) ht (k hln H locs ls hl hP hD hS)
end CROWS
