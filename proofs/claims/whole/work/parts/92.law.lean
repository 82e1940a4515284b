/-! THE LAW: the skeleton's words (pasted), the judgement of its walk, its invariant -/
def R_law : String := "FuguePlanLaw"
def lw_P (b : Addr) (xs : List Int32) (args : Array Value) (s : State) : Prop := args = #[.ref b] ∧ s.IntsAt b xs ∧ xs.length ≤ 3072 ∧ (Jvm.Cond.and given_1 narrow_1).before args s = true
def lw_Q (_ : Array Value) (s : State) (o : Outcome) (t : State) : Prop := o = .returned (some (.int 1)) ∧ Framed s o t [] 600000 7302250
def lw_Z (below : List Frame) (a : Array Value) (s : State) : State → Prop := fun t => ∃ o, t.status = .running ∧ Ended t below o ∧ lw_Q a s o t
/-- the law's own end, with 1 on the stack, nothing written that was there before, its room as the claim has it -/
theorem lw_ret {p : Program} {l : Launch} {e : Env} {s : State} {m : MethodId} {below : List Frame} {meth : Method} {c : Code} {b : Nat} (hx : p.tables.exec = Jvm.exec) (hb : c.code = code) (hr : meth.sig.returnType = ret) (hlocks : meth.locks = false) {pc : Nat} {H : Heap} {ls : Array Slot} (hdg : decode code pc = .ok (.ireturn, 1)) : W p l e room_1 s m #[Value.ref b] below meth c H [] 600000 7302250 (lw_Z below #[Value.ref b] s) (F0 m pc ls [.int 1]) := by
  intro T hT X
  obtain ⟨fs, hret, hrun, hended, hW, hframe⟩ := X.leave (v := some (.int 1)) (hlocks := hlocks) (fun h => by rw [hr] at h; cases h)
  have hmeth' : T.vm.method? m = some meth := X.method'
  refine ⟨T.setFrames fs, ?_, .returned (some (.int 1)), hrun, hended, rfl, ⟨_, rfl⟩, hW, hframe⟩
  jvm_step X.here [X.here.top, hx, hb, hdg, hmeth', hr, ret, narrow_b1]
  (try refine ⟨rfl, ?_⟩); (try refine ⟨rfl, ?_⟩)
  first | (intro acts; rw [hret _ acts rfl rfl rfl]) | rw [hret _ _ rfl rfl rfl]
  exact Steps.refl _
/-- what holds at the law's entry: the machine, the code, the tables' words (any of lw_tbl by 'hts w (by decide +kernel)'), the script of L ints xs at the cell b, what the Statement gives of the start (any of its parts by flat_of_before) -/
def lw_At (p : Program) (s : State) (m : MethodId) (meth : Method) (c : Code) (b L : Nat) (xs : Nat → Int32) : Prop :=
  p.tables.exec = Jvm.exec ∧ c.code = code ∧ meth.sig.returnType = ret ∧ c.maxLocals = 4 ∧ s.vm.findClass R_law = some m.cls ∧ (∀ w ∈ lw_tbl, w.before #[Value.ref b] s = true) ∧ va_X b L xs s s.heap ∧ b < s.heap.size ∧ meth.locks = false ∧ (Jvm.Cond.and given_1 narrow_1).before #[Value.ref b] s = true

def sv (xs : Nat → Int32) (i : Int) : Int := (xs i.toNat).toInt
abbrev lvL (E : u_E) (b : Nat) (i : Int) : List (Option Value) := [some (.ref b), some (.ref (E.1 oF)), some (.ref (E.1 oM)), some (.int (J i))]
def LW (l : Launch) (X : u_X) (b L : Nat) (xs : Nat → Int32) (nm : String) (K : u_K) : Prop :=
  ∃ (p : Program) (e : Env) (s : State) (m : MethodId) (below : List Frame) (meth : Method) (c : Code), K = MW X p l e room_1 s m #[Value.ref b] below meth c 4 (fun q => s.heap.size ≤ q) s.heap (lw_Z below #[Value.ref b] s) ∧ lw_At p s m meth c b L xs ∧ KX X s ∧ AO s ∧ meth.name = nm
section LAWR
variable {l : Launch} {X : u_X} {E : u_E} {b L : Nat} {xs : Nat → Int32} {nm : String} {K : u_K} {nc ns pc : Nat} {lv : List (Option Value)} {st : List Value} {w : va_W}
theorem LW.wn (g : LW l X b L xs nm K) : WN l X room_1 code 4 RL nm K := by
  obtain ⟨p, e, s, m, below, meth, c, hK, hat, hX, hO, hnm⟩ := g
  obtain ⟨hx, hb, hr, hml, hown, hts, hXs, hbl, hlocks, hgv⟩ := hat
  exact ⟨p, e, s, m, #[Value.ref b], below, meth, c, fun q => s.heap.size ≤ q, s.heap, lw_Z below #[Value.ref b] s, hK, hx, hb, hml, hown, fun w h => hts w (lw_G_sub w h), hX, fun _ h => h, hnm, hO⟩
theorem r_sld (g : LW l X b L xs nm K) {i : Int} (hi : InR i) (hin : 0 ≤ i ∧ i < (L : Int)) (d : decode code pc = .ok (.iaload, 1)) (kk : K nc ns (pc + 1) lv (.int (J (sv xs i)) :: st) w) : K nc ns pc lv (.int (J i) :: .ref b :: st) w := by
  obtain ⟨p, e, s, m, below, meth, c, rfl, hat, hX, hO, hnm⟩ := g
  obtain ⟨hx, hb, hr, hml, hown, hts, hXs, hbl, hlocks, hgv⟩ := hat
  intro hln H locs ls hl hP hD hS
  unfold sv at kk
  rw [J_to] at kk
  exact va_sld hx hb hXs hbl (Nat.not_le.mpr hbl) hS (vp_in_J hi hin.1 hin.2) d (by rw [clamp_J hi]; exact kk hln H locs ls hl hP hD hS)
theorem r_slen (g : LW l X b L xs nm K) (d : decode code pc = .ok (.arraylength, 1)) (kk : K nc ns (pc + 1) lv (.int (J (L : Int)) :: st) w) : K nc ns pc lv (.ref b :: st) w := by
  obtain ⟨p, e, s, m, below, meth, c, rfl, hat, hX, hO, hnm⟩ := g
  obtain ⟨hx, hb, hr, hml, hown, hts, hXs, hbl, hlocks, hgv⟩ := hat
  intro hln H locs ls hl hP hD hS
  have e1 : Int32.ofNat L = J (L : Int) := Int32.ofInt_eq_ofNat.symm
  refine va_slen hx hb hXs hbl (Nat.not_le.mpr hbl) hS d ?_
  rw [e1]
  exact kk hln H locs ls hl hP hD hS
theorem r_lend (g : LW l X b L xs nm K) (d : decode code pc = .ok (.ireturn, 1)) : K 600000 7302250 pc lv [.int (J 1)] w := by
  obtain ⟨p, e, s, m, below, meth, c, rfl, hat, hX, hO, hnm⟩ := g
  obtain ⟨hx, hb, hr, hml, hown, hts, hXs, hbl, hlocks, hgv⟩ := hat
  intro hln H locs ls hl hP hD hS
  exact va_forget (fun q hq => hS.2.2 q hq) (lw_ret hx hb hr hlocks d)
theorem r_arg (g : LW l (XE E) b L xs nm K) {i k : Int} (h0 : 0 ≤ i) (h5 : i + k < (L : Int)) (hL : L ≤ 3072) (hk : 0 ≤ k ∧ k ≤ 5) (d0 : decode code pc = .ok (.aload_n 0, 1)) (d1 : decode code (pc + 1) = .ok (.iload_n 3, 1)) (d2 : decode code (pc + 2) = .ok (.iconst k, 1)) (d3 : decode code (pc + 3) = .ok (.iadd, 1)) (d4 : decode code (pc + 4) = .ok (.iaload, 1)) (kk : K nc ns (pc + 5) (lvL E b i) (.int (J (sv xs (i + k))) :: st) w) : K nc ns pc (lvL E b i) st w := by
  have g0 := g.wn.wk0
  refine r_aload_n g0 d0 rfl ?_
  refine r_iload_n g0 d1 rfl ?_
  refine r_iconst g0 d2 ?_
  refine r_iadd g0 d3 ?_
  rw [wr_of (by omega) (by omega)]
  exact r_sld g (InR_iff.mpr ⟨by omega, by omega⟩) ⟨by omega, h5⟩ d4 kk
end LAWR
theorem isFP0 : is_FP oF := ⟨rfl, by decide, by decide⟩
theorem isMo0 : is_Mo oM := ⟨rfl, by decide, by decide⟩
/-- between two calls -/
def Inv (s : u_S) : Prop := ∃ (A : Int → Int) (H : Int → Int → Int) (n : Int) (T : Int → Int) (tl : Int) (c : Int → Int), WS A H n T tl c ∧ CS s A H n T tl c ∧ MT s A H n T tl c
theorem CS.keepM {s s' : u_S} {A : Int → Int} {H : Int → Int → Int} {n : Int} {T : Int → Int} {tl : Int} {c : Int → Int} (h : CS s A H n T tl c) (ho : Only mdo s s') : CS s' A H n T tl c := by
  refine ⟨h.1.keep ho (fun o h1 h2 => ?_), h.2.keep ho (fun o h1 => Or.inl ?_)⟩
  · have e1 := h1.2
    have e2 : 23 ≤ o.1 := h2
    omega
  · have e2 : 23 ≤ o.1 := h1
    omega
theorem MT.keepC {s s' : u_S} {A : Int → Int} {H : Int → Int → Int} {n : Int} {T : Int → Int} {tl : Int} {c : Int → Int} (h : MT s A H n T tl c) (ho : Only clo s s') : MT s' A H n T tl c := ⟨h.1.keep ho (by simp [clo]), h.2.keep ho (by simp [clo]) (by simp [clo]) (by simp [clo]) (by simp [clo])⟩
theorem Inv_step {f g : u_S → Option (Int × u_S)} (h : Call f g) {s : u_S} (hI : Inv s) : ∃ r s1 s2, f s = some (r, s1) ∧ g s1 = some (r, s2) ∧ Inv s2 := by
  obtain ⟨A, H, n, T, tl, c, hw, hc, hm⟩ := hI
  obtain ⟨r, A', H', n', T', tl', c', hw', hf, hg⟩ := h A H n T tl c hw
  obtain ⟨s1, a1, a2, a3⟩ := hf s hc
  obtain ⟨s2, b1, b2, b3⟩ := hg s1 (hm.keepC a3)
  exact ⟨r, s1, s2, a1, b1, A', H', n', T', tl', c', hw', a2.keepM b3, b2⟩
