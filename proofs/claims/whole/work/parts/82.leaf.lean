/-! THE OBJECTS MADE: the start state, worlds put together out of lists of objects, the small constructors -/
theorem lset (w t : va_W) (k : Nat) (z : Nat × va_E) : (w ++ t).set (w.length + k) z = w ++ t.set k z := by
  induction w with
  | nil => simp
  | cons x w ih =>
    rw [List.cons_append, List.length_cons, Nat.add_right_comm, List.set_cons_succ, ih]
    rfl
theorem lget {w t : va_W} {k : Nat} {z : Nat × va_E} (h : t[k]? = some z) : (w ++ t)[w.length + k]? = some z := by
  rw [List.getElem?_append_right (Nat.le_add_right _ _), Nat.add_sub_cancel_left]
  exact h
/-- the start -/
def s00 : u_S := fun o k => if o.1 = 1 ∧ k = 4 then 3 else if o.1 = 1 ∧ k = 6 then 4 else if o = (24, 0, 0) ∧ k = 135 then 3 else if o = (24, 0, 0) ∧ k = 137 then 4 else 0
def Wo (a : u_O → Nat) (G : va_G × (Nat → ClassId)) (os : List u_O) : va_W := os.map fun o => (a o, cell (a, G) o (s00 o))
theorem Wo_app (a : u_O → Nat) (G : va_G × (Nat → ClassId)) (o1 o2 : List u_O) : Wo a G (o1 ++ o2) = Wo a G o1 ++ Wo a G o2 := by simp [Wo]
theorem Wo_cons (a : u_O → Nat) (G : va_G × (Nat → ClassId)) (o : u_O) (os : List u_O) : Wo a G (o :: os) = (a o, cell (a, G) o (s00 o)) :: Wo a G os := rfl
theorem Wo_nil (a : u_O → Nat) (G : va_G × (Nat → ClassId)) : Wo a G [] = [] := rfl
/-- an address put in -/
def ua (a : u_O → Nat) (o : u_O) (v : Nat) : u_O → Nat := fun o' => if o' = o then v else a o'
theorem ua_eq (a : u_O → Nat) (o : u_O) (v : Nat) : ua a o v o = v := by simp [ua]
theorem ua_ne (a : u_O → Nat) {o o' : u_O} (v : Nat) (h : o' ≠ o) : ua a o v o' = a o' := by simp [ua, h]
/-- what a constructor leaves -/
def PN (a : u_O → Nat) (G : va_G × (Nat → ClassId)) (os : List u_O) (o0 : u_O) (b : Nat) (w0 : va_W) : Option Value → va_W → Prop := fun v w => v = none ∧ ∃ a' : u_O → Nat, (∀ o, o ∉ os → a' o = a o) ∧ a' o0 = b ∧ w = w0 ++ Wo a' G os
section LROWS
variable {l : Launch} {X : u_X} {R : Room} {cc : ByteArray} {nL : Nat} {own nm : String} {K : u_K} {nc ns pc idx : Nat} {lv : List (Option Value)} {st : List Value} {w0 t : va_W}
theorem n_newa (g : Wk0 l X R cc nL own nm K) (t0 : Nat) {cA : ClassId} (ht : X.2[t0]? = some (cA, .int)) {i : Int} (N : Nat) (hi : i = (N : Int)) (hr : InR i) (hbytes : N * 4 ≤ 536870912) (hroom : nc + 1 ≤ R.cells ∧ ns + N ≤ R.slots) (d : decode cc pc = .ok (.newarray .int, 2)) (kk : ∀ q : Nat, K (nc + 1) (ns + N) (pc + 2) lv (.ref q :: st) (w0 ++ (t ++ [(q, .inl (cA, N, .inl (fun _ => 0)))]))) : K nc ns pc lv (.int (J i) :: st) (w0 ++ t) :=
  r_newa g t0 ht arr_i hi hr hbytes hroom d (fun q => by rw [List.append_assoc]; exact kk q)
theorem n_putF (g : Wk0 l X R cc nL own nm K) {C : String} {T : u_T} {N ci : Nat} (hin : ∀ w ∈ u_ws C T N, w ∈ lw_G) (hc : vwCl[ci]? = some (C, T, N)) (ty0 : Nat → FieldType) (hty : ∀ k, k < N → parseFieldDescriptor (T k).2.2.1 = some (ty0 k)) (hnmm : ∀ a, a < N → ∀ b, b < N → a ≠ b → (T a).2.1 ≠ (T b).2.1) {a : Nat} {fs : List Value} (k0 : Nat) (he : t[k0]? = some (a, .inr (ci, fs))) (k : Nat) (hk : k < N) (hfin : (T k).2.2.2 = true) (hinit : nm = "<init>") (hdecl : (T k).1 = own) {x : Nat} (hnar : narrow (ty0 k) (.ref x) = .ref x) (hfit : fits (ty0 k) (.ref x) = true) (hlen : k < fs.length) (hl0 : Cond.fieldLink own idx (T k).1 (T k).2.1 (T k).2.2.1 ∈ lw_G) (d : decode cc pc = .ok (.putfield idx, 3)) (kk : K nc ns (pc + 3) lv st (w0 ++ t.set k0 (a, .inr (ci, fs.set k (.ref x))))) : K nc ns pc lv (.ref x :: .ref a :: st) (w0 ++ t) :=
  r_putF g hin hc ty0 hty hnmm (w0.length + k0) (lget he) k hk hfin hinit hdecl (hty k hk) hnar hfit hlen hl0 d (by rw [lset]; exact kk)
theorem n_putI (g : Wk0 l X R cc nL own nm K) {C : String} {T : u_T} {N ci : Nat} (hin : ∀ w ∈ u_ws C T N, w ∈ lw_G) (hc : vwCl[ci]? = some (C, T, N)) (ty0 : Nat → FieldType) (hty : ∀ k, k < N → parseFieldDescriptor (T k).2.2.1 = some (ty0 k)) (hnmm : ∀ a, a < N → ∀ b, b < N → a ≠ b → (T a).2.1 ≠ (T b).2.1) {a : Nat} {fs : List Value} (k0 : Nat) (he : t[k0]? = some (a, .inr (ci, fs))) (k : Nat) (hk : k < N) (hfin : (T k).2.2.2 = false) {x : Int32} (hti : parseFieldDescriptor (T k).2.2.1 = some .int) (hlen : k < fs.length) (hl0 : Cond.fieldLink own idx (T k).1 (T k).2.1 (T k).2.2.1 ∈ lw_G) (d : decode cc pc = .ok (.putfield idx, 3)) (kk : K nc ns (pc + 3) lv st (w0 ++ t.set k0 (a, .inr (ci, fs.set k (.int x))))) : K nc ns pc lv (.int x :: .ref a :: st) (w0 ++ t) :=
  r_put g hin hc ty0 hty hnmm (w0.length + k0) (lget he) k hk hfin hti hlen hl0 d (by rw [lset]; exact kk)
theorem n_get (g : Wk0 l X R cc nL own nm K) {C : String} {T : u_T} {N ci : Nat} (hin : ∀ w ∈ u_ws C T N, w ∈ lw_G) (hc : vwCl[ci]? = some (C, T, N)) {a : Nat} {fs : List Value} (k0 : Nat) (he : t[k0]? = some (a, .inr (ci, fs))) (k : Nat) (hk : k < N) {v : Value} (hv : fs[k]? = some v) (hl0 : Cond.fieldLink own idx (T k).1 (T k).2.1 (T k).2.2.1 ∈ lw_G) (d : decode cc pc = .ok (.getfield idx, 3)) (kk : K nc ns (pc + 3) lv (v :: st) (w0 ++ t)) : K nc ns pc lv (.ref a :: st) (w0 ++ t) :=
  r_get g hin hc (w0.length + k0) (lget he) k hk hv hl0 d kk
/-- a row of references is told by its length's places alone -/
theorem r_refs (g : Wk0 l X R cc nL own nm K) {wA wB : va_W} {q n : Nat} {cA : ClassId} {f f' : Nat → Option Nat} (h : ∀ j, j < n → f j = f' j) (kk : K nc ns pc lv st (wA ++ (q, .inl (cA, n, .inr (.inr (.inr (.inr f'))))) :: wB)) : K nc ns pc lv st (wA ++ (q, .inl (cA, n, .inr (.inr (.inr (.inr f))))) :: wB) := by
  obtain ⟨p, e, s, m, args, below, meth, c, A, H0, Q, rfl, hx, hb, hml, hown, hts, hK, hA, hnm⟩ := g
  intro hln H locs ls hl hP hD hS
  have key : ∀ (k : Nat) (x' : Nat × va_E), (wA ++ (q, .inl (cA, n, .inr (.inr (.inr (.inr f'))))) :: wB)[k]? = some x' → ∃ x : Nat × va_E, (wA ++ (q, .inl (cA, n, .inr (.inr (.inr (.inr f))))) :: wB)[k]? = some x ∧ x.1 = x'.1 ∧ (va_at X.1 vwCl x H → va_at X.1 vwCl x' H) := by
    intro k x' hx'
    by_cases h1 : k < wA.length
    · rw [List.getElem?_append_left h1] at hx' ⊢
      exact ⟨x', hx', rfl, fun z => z⟩
    · rw [List.getElem?_append_right (by omega)] at hx' ⊢
      cases h2 : k - wA.length with
      | zero =>
        rw [h2] at hx'
        cases hx'
        refine ⟨_, rfl, rfl, fun z => ?_⟩
        show H[q]? = some (vp_cell _ _)
        rw [show H[q]? = some (vp_cell _ _) from z, vp_cell_q, vp_cell_q]
        have e : (Array.ofFn (n := n) fun j => va_rf (f j.val)) = Array.ofFn (n := n) fun j => va_rf (f' j.val) := by
          congr 1
          funext j
          rw [h j.val j.isLt]
        show some (arrV cA n _) = some (arrV cA n _)
        unfold arrV
        rw [e]
      | succ k' =>
        rw [h2] at hx'
        exact ⟨x', hx', rfl, fun z => z⟩
  refine kk hln H locs ls hl (fun k x' hx' => ?_) ⟨fun i j x y hi hj he => ?_, fun k x' hx' => ?_⟩ hS
  · obtain ⟨x, h1, h2, h3⟩ := key k x' hx'
    exact h3 (hP k x h1)
  · obtain ⟨x1, h1, h2, -⟩ := key i x hi
    obtain ⟨y1, h3, h4, -⟩ := key j y hj
    exact hD.1 i j x1 y1 h1 h3 (by rw [h2, h4, he])
  · obtain ⟨x, h1, h2, -⟩ := key k x' hx'
    rw [← h2]
    exact hD.2 k x h1
end LROWS
section LEAVES
variable {l : Launch} {G : va_G × (Nat → ClassId)} {a0 : u_O → Nat}
theorem n_Entry {p i : Nat} (a : u_O → Nat) (b : Nat) (w0 : va_W) : ConN l (XE (a0, G)) yX2_init cX2_init 1 1 20 0 0 [.ref b] (w0 ++ [(b, .inr (2, [.int 0, .int 0, .int 0, .int 0, .int 0]))]) (PN a G [(8, p, i)] (8, p, i) b w0) := by
  refine ConN.of [some (.ref b)] (by decide +kernel) rfl rfl (Nat.le_of_ble_eq_true rfl) (fun K g gn => ?_)
  have g0 := g.wk
  refine r_aload_n g0 dX2_init_0 rfl ?_
  refine r_obj g0 obX2 ob_i ob_c ⟨Nat.le_refl _, Nat.le_refl _⟩ (Nat.le_of_ble_eq_true rfl) dX2_init_1 ?_
  refine r_vreturn g dX2_init_4 ⟨rfl, ua a (8, p, i) b, fun o ho => ?_, ua_eq _ _ _, ?_⟩
  · simp at ho
    simp [ua, ho]
  · simp [Wo, cell, ua, s00]
theorem n_Line {p i : Nat} (a : u_O → Nat) (b : Nat) (w0 : va_W) : ConN l (XE (a0, G)) yX5_init cX5_init 1 1 20 2 20 [.ref b] (w0 ++ [(b, .inr (5, [.null, .null, .int 0]))]) (PN a G [(3, p, i), (4, p, i), (5, p, i)] (3, p, i) b w0) := by
  refine ConN.of [some (.ref b)] (by decide +kernel) rfl rfl (Nat.le_of_ble_eq_true rfl) (fun K g gn => ?_)
  have g0 := g.wk
  refine r_aload_n g0 dX5_init_0 rfl ?_
  refine r_obj g0 obX5 ob_i ob_c ⟨Nat.le_refl _, Nat.le_refl _⟩ (Nat.le_of_ble_eq_true rfl) dX5_init_1 ?_
  refine r_aload_n g0 dX5_init_4 rfl ?_
  refine r_bipush g0 dX5_init_5 rfl ?_
  refine n_newa g0 0 rfl 10 rfl (InR_lit rfl) (Nat.le_of_ble_eq_true rfl) ⟨Nat.le_of_ble_eq_true rfl, Nat.le_of_ble_eq_true rfl⟩ dX5_init_7 (fun q1 => ?_)
  refine n_putF g0 in_Line rfl tyX5 tyX5_ok nmX5 0 rfl 0 (by decide) rfl rfl rfl rfl rfl (Nat.le_of_ble_eq_true rfl) qX5_9 dX5_init_9 ?_
  refine r_aload_n g0 dX5_init_12 rfl ?_
  refine r_bipush g0 dX5_init_13 rfl ?_
  refine n_newa g0 0 rfl 10 rfl (InR_lit rfl) (Nat.le_of_ble_eq_true rfl) ⟨Nat.le_of_ble_eq_true rfl, Nat.le_of_ble_eq_true rfl⟩ dX5_init_15 (fun q2 => ?_)
  refine n_putF g0 in_Line rfl tyX5 tyX5_ok nmX5 0 rfl 1 (by decide) rfl rfl rfl rfl rfl (Nat.le_of_ble_eq_true rfl) qX5_15 dX5_init_17 ?_
  refine r_vreturn g dX5_init_20 ⟨rfl, ua (ua (ua a (3, p, i) b) (4, p, i) q1) (5, p, i) q2, fun o ho => ?_, ?_, ?_⟩
  · simp at ho
    simp [ua, ho]
  · simp [ua]
  · simp [Wo, cell, ua, s00, a_Line_steps, a_Line_ticks]
end LEAVES
