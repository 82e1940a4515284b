/-! THE LAW'S LOOP AND ITS START -/
theorem r_perm {l : Launch} {X : u_X} {R : Room} {cc : ByteArray} {nL : Nat} {own nm : String} {K : u_K} {nc ns pc : Nat} {lv : List (Option Value)} {st : List Value} (g : Wk0 l X R cc nL own nm K) {f : u_O → Nat × va_E} {os os' : List u_O} (hsub : ∀ o ∈ os', o ∈ os) (hnd : os'.Nodup) (kk : K nc ns pc lv st (os'.map f)) : K nc ns pc lv st (os.map f) := by
  obtain ⟨p, e, s, m, args, below, meth, c, A, H0, Q, rfl, hx, hb, hml, hown, hts, hK, hA, hnm⟩ := g
  intro hln H locs ls hl hP hD hS
  have key : ∀ (k : Nat) (x : Nat × va_E), (os'.map f)[k]? = some x → ∃ o, os'[k]? = some o ∧ x = f o ∧ ∃ j : Nat, os[j]? = some o ∧ (os.map f)[j]? = some x := by
    intro k x hx
    rw [List.getElem?_map] at hx
    cases ho : os'[k]? with
    | none => rw [ho] at hx; cases hx
    | some o =>
      rw [ho] at hx
      have ex : f o = x := Option.some.inj hx
      obtain ⟨j, hj⟩ := List.getElem?_of_mem (hsub o (List.mem_of_getElem? ho))
      exact ⟨o, rfl, ex.symm, j, hj, by rw [List.getElem?_map, hj, ← ex]; rfl⟩
  refine kk hln H locs ls hl (fun k x hx => ?_) ⟨fun i j x y hi hj he => ?_, fun k x hx => ?_⟩ hS
  · obtain ⟨o, h1, h2, j, h3, h4⟩ := key k x hx
    exact hP j x h4
  · obtain ⟨o1, h1, h2, j1, h3, h4⟩ := key i x hi
    obtain ⟨o2, g1, g2, j2, g3, g4⟩ := key j y hj
    have ej : j1 = j2 := hD.1 j1 j2 x y h4 g4 he
    subst ej
    have eo : o1 = o2 := Option.some.inj (h3.symm.trans g3)
    subst eo
    obtain ⟨l1, e1⟩ := List.getElem?_eq_some_iff.mp h1
    obtain ⟨l2, e2⟩ := List.getElem?_eq_some_iff.mp g1
    have hp := List.pairwise_iff_getElem.mp hnd
    rcases Nat.lt_trichotomy i j with hlt | heq | hlt
    · exact absurd (e1.trans e2.symm) (hp i j l1 l2 hlt)
    · exact heq
    · exact absurd (e2.trans e1.symm) (hp j i l2 l1 hlt)
  · obtain ⟨o, h1, h2, j, h3, h4⟩ := key k x hx
    exact hD.2 j x h4
theorem objs_made : ∀ o ∈ objs, o ∈ osFP ++ osMo := by decide +kernel
set_option maxHeartbeats 4000000 in
set_option maxRecDepth 100000 in
theorem law_loop {l : Launch} {E : u_E} {b L : Nat} {xs : Nat → Int32} {nm : String} {K : u_K} (g : LW l (XE E) b L xs nm K) (hL : L ≤ 3072) : ∀ (n : Nat) (i : Int) (s : u_S), 0 ≤ i → i ≤ (L : Int) + 6 → (L : Int) < i + n → Inv s → K 256 4175 18 (lvL E b i) [] (Wd E s) := by
  have g0 := g.wn.wk0
  intro n
  induction n with
  | zero =>
    intro i s h0 h1 h2 hI
    have hR : InR i := InR_iff.mpr ⟨by omega, by omega⟩
    refine r_iload_n g0 dL_18 rfl ?_
    refine r_aload_n g0 dL_19 rfl ?_
    refine r_slen g dL_20 ?_
    refine r_bipush g0 dL_21 rfl ?_
    refine r_isub g0 dL_23 ?_
    rw [wr_of (by omega) (by omega)]
    refine r_icmp_gt g0 1284 dL_24 (by decide) hR (InR_iff.mpr ⟨by omega, by omega⟩) (fun _ => ?_) (fun h => absurd h (by omega))
    refine r_widen g0 (nc' := 600000) (ns' := 7302250) (Nat.le_of_ble_eq_true rfl) (Nat.le_of_ble_eq_true rfl) ?_
    refine r_iconst g0 dL_1284 ?_
    exact r_lend g dL_1285
  | succ n ih =>
    intro i s h0 h1 h2 hI
    have hR : InR i := InR_iff.mpr ⟨by omega, by omega⟩
    refine r_iload_n g0 dL_18 rfl ?_
    refine r_aload_n g0 dL_19 rfl ?_
    refine r_slen g dL_20 ?_
    refine r_bipush g0 dL_21 rfl ?_
    refine r_isub g0 dL_23 ?_
    rw [wr_of (by omega) (by omega)]
    refine r_icmp_gt g0 1284 dL_24 (by decide) hR (InR_iff.mpr ⟨by omega, by omega⟩) (fun _ => ?_) (fun hle => ?_)
    · refine r_widen g0 (nc' := 600000) (ns' := 7302250) (Nat.le_of_ble_eq_true rfl) (Nat.le_of_ble_eq_true rfl) ?_
      refine r_iconst g0 dL_1284 ?_
      exact r_lend g dL_1285
    have next : ∀ s', Inv s' → K 256 4175 1278 (lvL E b i) [] (Wd E s') := by
      intro s' hI'
      refine r_iinc g0 dL_1278 (by decide) rfl rfl rfl ?_
      refine r_goto g0 18 dL_1281 (by decide) ?_
      rw [wr_of (by omega) (by omega)]
      exact ih (i + 6) s' (by omega) (by omega) (by omega) hI'
    refine r_aload_n g0 dL_27 rfl ?_
    refine r_iload_n g0 dL_28 rfl ?_
    refine r_sld g hR ⟨h0, by omega⟩ dL_29 ?_
    refine r_bipush g0 dL_30 rfl ?_
    refine r_iand g0 dL_32 ?_
    have hxR : InR (iand (sv xs i) 63) := InR_to _
    generalize iand (sv xs i) 63 = x at hxR ⊢
    by_cases hin : x < 0 ∨ 33 < x
    · exact r_tsOut g0 1278 dL_33 hxR hin (by decide) (next s hI)
    have hx : x = 0 ∨ x = 1 ∨ x = 2 ∨ x = 3 ∨ x = 4 ∨ x = 5 ∨ x = 6 ∨ x = 7 ∨ x = 8 ∨ x = 9 ∨ x = 10 ∨ x = 11 ∨ x = 12 ∨ x = 13 ∨ x = 14 ∨ x = 15 ∨ x = 16 ∨ x = 17 ∨ x = 18 ∨ x = 19 ∨ x = 20 ∨ x = 21 ∨ x = 22 ∨ x = 23 ∨ x = 24 ∨ x = 25 ∨ x = 26 ∨ x = 27 ∨ x = 28 ∨ x = 29 ∨ x = 30 ∨ x = 31 ∨ x = 32 ∨ x = 33 := by omega
    rcases hx with hx | hx | hx | hx | hx | hx | hx | hx | hx | hx | hx | hx | hx | hx | hx | hx | hx | hx | hx | hx | hx | hx | hx | hx | hx | hx | hx | hx | hx | hx | hx | hx | hx | hx
    · rw [hx]
      exact r_tsIn g0 184 dL_33 (InR_lit rfl) (by decide) (by decide) rfl (by decide) (L_0 g h0 (by omega) hL ⟨by decide, by decide⟩ hI next)
    · rw [hx]
      exact r_tsIn g0 227 dL_33 (InR_lit rfl) (by decide) (by decide) rfl (by decide) (L_1 g h0 (by omega) hL ⟨by decide, by decide⟩ hI next)
    · rw [hx]
      exact r_tsIn g0 260 dL_33 (InR_lit rfl) (by decide) (by decide) rfl (by decide) (L_2 g h0 (by omega) hL ⟨by decide, by decide⟩ hI next)
    · rw [hx]
      exact r_tsIn g0 283 dL_33 (InR_lit rfl) (by decide) (by decide) rfl (by decide) (L_3 g h0 (by omega) hL ⟨by decide, by decide⟩ hI next)
    · rw [hx]
      exact r_tsIn g0 326 dL_33 (InR_lit rfl) (by decide) (by decide) rfl (by decide) (L_4 g h0 (by omega) hL ⟨by decide, by decide⟩ hI next)
    · rw [hx]
      exact r_tsIn g0 359 dL_33 (InR_lit rfl) (by decide) (by decide) rfl (by decide) (L_5 g h0 (by omega) hL ⟨by decide, by decide⟩ hI next)
    · rw [hx]
      exact r_tsIn g0 402 dL_33 (InR_lit rfl) (by decide) (by decide) rfl (by decide) (L_6 g h0 (by omega) hL ⟨by decide, by decide⟩ hI next)
    · rw [hx]
      exact r_tsIn g0 435 dL_33 (InR_lit rfl) (by decide) (by decide) rfl (by decide) (L_7 g h0 (by omega) hL ⟨by decide, by decide⟩ hI next)
    · rw [hx]
      exact r_tsIn g0 488 dL_33 (InR_lit rfl) (by decide) (by decide) rfl (by decide) (L_8 g h0 (by omega) hL ⟨by decide, by decide⟩ hI next)
    · rw [hx]
      exact r_tsIn g0 551 dL_33 (InR_lit rfl) (by decide) (by decide) rfl (by decide) (L_9 g h0 (by omega) hL ⟨by decide, by decide⟩ hI next)
    · rw [hx]
      exact r_tsIn g0 574 dL_33 (InR_lit rfl) (by decide) (by decide) rfl (by decide) (L_10 g h0 (by omega) hL ⟨by decide, by decide⟩ hI next)
    · rw [hx]
      exact r_tsIn g0 607 dL_33 (InR_lit rfl) (by decide) (by decide) rfl (by decide) (L_11 g h0 (by omega) hL ⟨by decide, by decide⟩ hI next)
    · rw [hx]
      exact r_tsIn g0 640 dL_33 (InR_lit rfl) (by decide) (by decide) rfl (by decide) (L_12 g h0 (by omega) hL ⟨by decide, by decide⟩ hI next)
    · rw [hx]
      exact r_tsIn g0 683 dL_33 (InR_lit rfl) (by decide) (by decide) rfl (by decide) (L_13 g h0 (by omega) hL ⟨by decide, by decide⟩ hI next)
    · rw [hx]
      exact r_tsIn g0 706 dL_33 (InR_lit rfl) (by decide) (by decide) rfl (by decide) (L_14 g h0 (by omega) hL ⟨by decide, by decide⟩ hI next)
    · rw [hx]
      exact r_tsIn g0 729 dL_33 (InR_lit rfl) (by decide) (by decide) rfl (by decide) (L_15 g h0 (by omega) hL ⟨by decide, by decide⟩ hI next)
    · rw [hx]
      exact r_tsIn g0 792 dL_33 (InR_lit rfl) (by decide) (by decide) rfl (by decide) (L_16 g h0 (by omega) hL ⟨by decide, by decide⟩ hI next)
    · rw [hx]
      exact r_tsIn g0 836 dL_33 (InR_lit rfl) (by decide) (by decide) rfl (by decide) (L_17 g h0 (by omega) hL ⟨by decide, by decide⟩ hI next)
    · rw [hx]
      exact r_tsIn g0 869 dL_33 (InR_lit rfl) (by decide) (by decide) rfl (by decide) (L_18 g h0 (by omega) hL ⟨by decide, by decide⟩ hI next)
    · rw [hx]
      exact r_tsIn g0 922 dL_33 (InR_lit rfl) (by decide) (by decide) rfl (by decide) (L_19 g h0 (by omega) hL ⟨by decide, by decide⟩ hI next)
    · rw [hx]
      exact r_tsIn g0 955 dL_33 (InR_lit rfl) (by decide) (by decide) rfl (by decide) (L_20 g h0 (by omega) hL ⟨by decide, by decide⟩ hI next)
    · rw [hx]
      exact r_tsIn g0 988 dL_33 (InR_lit rfl) (by decide) (by decide) rfl (by decide) (L_21 g h0 (by omega) hL ⟨by decide, by decide⟩ hI next)
    · rw [hx]
      exact r_tsIn g0 1021 dL_33 (InR_lit rfl) (by decide) (by decide) rfl (by decide) (L_22 g h0 (by omega) hL ⟨by decide, by decide⟩ hI next)
    · rw [hx]
      exact r_tsIn g0 1044 dL_33 (InR_lit rfl) (by decide) (by decide) rfl (by decide) (L_23 g h0 (by omega) hL ⟨by decide, by decide⟩ hI next)
    · rw [hx]
      exact r_tsIn g0 1077 dL_33 (InR_lit rfl) (by decide) (by decide) rfl (by decide) (L_24 g h0 (by omega) hL ⟨by decide, by decide⟩ hI next)
    · rw [hx]
      exact r_tsIn g0 1110 dL_33 (InR_lit rfl) (by decide) (by decide) rfl (by decide) (L_25 g h0 (by omega) hL ⟨by decide, by decide⟩ hI next)
    · rw [hx]
      exact r_tsIn g0 1133 dL_33 (InR_lit rfl) (by decide) (by decide) rfl (by decide) (L_26 g h0 (by omega) hL ⟨by decide, by decide⟩ hI next)
    · rw [hx]
      exact r_tsIn g0 1156 dL_33 (InR_lit rfl) (by decide) (by decide) rfl (by decide) (L_27 g h0 (by omega) hL ⟨by decide, by decide⟩ hI next)
    · rw [hx]
      exact r_tsIn g0 1179 dL_33 (InR_lit rfl) (by decide) (by decide) rfl (by decide) (L_28 g h0 (by omega) hL ⟨by decide, by decide⟩ hI next)
    · rw [hx]
      exact r_tsIn g0 1202 dL_33 (InR_lit rfl) (by decide) (by decide) rfl (by decide) (L_29 g h0 (by omega) hL ⟨by decide, by decide⟩ hI next)
    · rw [hx]
      exact r_tsIn g0 1215 dL_33 (InR_lit rfl) (by decide) (by decide) rfl (by decide) (L_30 g h0 (by omega) hL ⟨by decide, by decide⟩ hI next)
    · rw [hx]
      exact r_tsIn g0 1228 dL_33 (InR_lit rfl) (by decide) (by decide) rfl (by decide) (L_31 g h0 (by omega) hL ⟨by decide, by decide⟩ hI next)
    · rw [hx]
      exact r_tsIn g0 1241 dL_33 (InR_lit rfl) (by decide) (by decide) rfl (by decide) (L_32 g h0 (by omega) hL ⟨by decide, by decide⟩ hI next)
    · rw [hx]
      exact r_tsIn g0 1264 dL_33 (InR_lit rfl) (by decide) (by decide) rfl (by decide) (L_33 g h0 (by omega) hL ⟨by decide, by decide⟩ hI next)

set_option maxHeartbeats 4000000 in
set_option maxRecDepth 100000 in
theorem law_made {l : Launch} {G : va_G × (Nat → ClassId)} {b L : Nat} {xs : Nat → Int32} {nm : String} {K : u_K} (g : LW l (XE (fun _ => 0, G)) b L xs nm K) (hL : L ≤ 3072) : K 0 0 0 [some (.ref b), none, none, none] [] [] := by
  have gn := g.wn
  have g0 := gn.wk0
  refine r_new g0 (ci := 10) in_FP rfl tyX10 tyX10_ok clL_7 insX10 iniX10 (fs := [.null, .null, .null, .null, .int 0, .int 0, .int 0, .null, .null, .null, .null, .null, .null, .null]) (by decide) ⟨Nat.le_of_ble_eq_true rfl, Nat.le_of_ble_eq_true rfl⟩ dL_0 (fun b1 => ?_)
  refine r_dup g0 dL_3 rfl ?_
  refine r_callN gn (n_FP (fun _ => 0) b1 []) oiX10 miL_9 dL_4 ⟨Nat.le_of_ble_eq_true rfl, Nat.le_of_ble_eq_true rfl⟩ ⟨Nat.le_of_ble_eq_true rfl, Nat.le_of_ble_eq_true rfl⟩ rfl (Nat.le_of_ble_eq_true rfl) rfl (fun v w' hq => ?_)
  obtain ⟨rfl, a1, h1, h2, rfl⟩ := hq
  refine r_astore_n g0 (lv' := [some (.ref b), some (.ref b1), none, none]) dL_7 (by decide) rfl rfl ?_
  rw [List.nil_append]
  refine r_new g0 (ci := 11) in_Mo rfl tyX11 tyX11_ok clL_10 insX11 iniX11 (fs := [.null, .null, .null, .int 0, .null, .null, .null, .null, .null, .null, .int 0, .null, .null, .null, .null, .null, .int 0, .int 0, .int 0, .int 0, .null]) (by decide) ⟨Nat.le_of_ble_eq_true rfl, Nat.le_of_ble_eq_true rfl⟩ dL_8 (fun b2 => ?_)
  refine r_dup g0 dL_11 rfl ?_
  refine r_callN gn (n_Mo a1 b2 _) oiX11 miL_12 dL_12 ⟨Nat.le_of_ble_eq_true rfl, Nat.le_of_ble_eq_true rfl⟩ ⟨Nat.le_of_ble_eq_true rfl, Nat.le_of_ble_eq_true rfl⟩ rfl (Nat.le_of_ble_eq_true rfl) rfl (fun v w' hq => ?_)
  obtain ⟨rfl, a2, h3, h4, rfl⟩ := hq
  refine r_astore_n g0 (lv' := [some (.ref b), some (.ref b1), some (.ref b2), none]) dL_15 (by decide) rfl rfl ?_
  refine r_iconst g0 dL_16 ?_
  refine r_istore_n g0 (lv' := [some (.ref b), some (.ref b1), some (.ref b2), some (.int (J 0))]) dL_17 (by decide) rfl rfl ?_
  have hag : agr a1 a2 osMo := h3
  rw [hag.Wo (G := G) (os := osFP) (by decide +kernel) (by decide +kernel) (by decide +kernel), ← Wo_app]
  have e1 : a2 oF = b1 := (h3 oF (by decide +kernel)).trans h2
  have e2 : a2 oM = b2 := h4
  rw [← e1, ← e2]
  refine r_perm g0 objs_made objs_nodup ?_
  exact law_loop (E := (a2, G)) g hL (L + 1) 0 s00 (by omega) (by omega) (by omega) Inv_0
/-- from the entry -/
theorem whole_start {p : Program} {e : Env} {s : State} {m : MethodId} {below : List Frame} {meth : Method} {c : Code} (l : Launch) (hflags : l.flags = flags0) {b L : Nat} {xs : Nat → Int32} (hL : L ≤ 3072) (C0 : lw_At p s m meth c b L xs) : W p l e room_1 s m #[Value.ref b] below meth c s.heap [] 0 0 (lw_Z below #[Value.ref b] s) (entryFrame m ([Value.ref b] : List Value).toArray 4) := by
  obtain ⟨hx, hb, hr, hml, hown, hts, hX, hbl, hlocks, hgv⟩ := id C0
  have hG : ∀ w ∈ lw_G, w.before #[Value.ref b] s = true := fun w h => hts w (lw_G_sub w h)
  obtain ⟨c0, iS0, hKn0⟩ := u_known (C := RX0) (T := TX0) (N := 2) (n := 2) hG in_Chorus (hG _ insX0)
  obtain ⟨c1, iS1, hKn1⟩ := u_known (C := RX1) (T := TX1) (N := 2) (n := 2) hG in_Entries (hG _ insX1)
  obtain ⟨c2, iS2, hKn2⟩ := u_known (C := RX2) (T := TX2) (N := 5) (n := 5) hG in_Entry (hG _ insX2)
  obtain ⟨c3, iS3, hKn3⟩ := u_known (C := RX3) (T := TX3) (N := 3) (n := 3) hG in_Faults (hG _ insX3)
  obtain ⟨c4, iS4, hKn4⟩ := u_known (C := RX4) (T := TX4) (N := 3) (n := 3) hG in_History (hG _ insX4)
  obtain ⟨c5, iS5, hKn5⟩ := u_known (C := RX5) (T := TX5) (N := 3) (n := 3) hG in_Line (hG _ insX5)
  obtain ⟨c6, iS6, hKn6⟩ := u_known (C := RX6) (T := TX6) (N := 8) (n := 8) hG in_Plan (hG _ insX6)
  obtain ⟨c7, iS7, hKn7⟩ := u_known (C := RX7) (T := TX7) (N := 9) (n := 9) hG in_Reader (hG _ insX7)
  obtain ⟨c8, iS8, hKn8⟩ := u_known (C := RX8) (T := TX8) (N := 4) (n := 4) hG in_Sound (hG _ insX8)
  obtain ⟨c9, iS9, hKn9⟩ := u_known (C := RX9) (T := TX9) (N := 3) (n := 3) hG in_Tour (hG _ insX9)
  obtain ⟨c10, iS10, hKn10⟩ := u_known (C := RX10) (T := TX10) (N := 14) (n := 14) hG in_FP (hG _ insX10)
  obtain ⟨c11, iS11, hKn11⟩ := u_known (C := RX11) (T := TX11) (N := 21) (n := 21) hG in_Mo (hG _ insX11)
  have hc : ∀ k : Nat, ∃ z : ClassId × (Nat → Nat), ∀ q, vwCl[k]? = some q → u_Kn s q.1 q.2.1 q.2.2 z.1 z.2 := by
    intro k
    match k with
    | 0 => exact ⟨(c0, iS0), fun q hq => by cases hq; exact hKn0⟩
    | 1 => exact ⟨(c1, iS1), fun q hq => by cases hq; exact hKn1⟩
    | 2 => exact ⟨(c2, iS2), fun q hq => by cases hq; exact hKn2⟩
    | 3 => exact ⟨(c3, iS3), fun q hq => by cases hq; exact hKn3⟩
    | 4 => exact ⟨(c4, iS4), fun q hq => by cases hq; exact hKn4⟩
    | 5 => exact ⟨(c5, iS5), fun q hq => by cases hq; exact hKn5⟩
    | 6 => exact ⟨(c6, iS6), fun q hq => by cases hq; exact hKn6⟩
    | 7 => exact ⟨(c7, iS7), fun q hq => by cases hq; exact hKn7⟩
    | 8 => exact ⟨(c8, iS8), fun q hq => by cases hq; exact hKn8⟩
    | 9 => exact ⟨(c9, iS9), fun q hq => by cases hq; exact hKn9⟩
    | 10 => exact ⟨(c10, iS10), fun q hq => by cases hq; exact hKn10⟩
    | 11 => exact ⟨(c11, iS11), fun q hq => by cases hq; exact hKn11⟩
    | k + 12 => exact ⟨(c0, iS0), fun q hq => by simp [vwCl] at hq⟩
  obtain ⟨D, hD⟩ := Classical.axiomOfChoice hc
  obtain ⟨cI, kI, compI, f1, f2, f3⟩ := Cond.arrayClass_spec (hG _ arr_i)
  have o2 : (Cond.arrayOver (.object RX2)).before #[Value.ref b] s = true := hts _ (List.mem_of_getElem? (i := 133) (by decide +kernel))
  have o5 : (Cond.arrayOver (.object RX5)).before #[Value.ref b] s = true := hts _ (List.mem_of_getElem? (i := 125) (by decide +kernel))
  have o6 : (Cond.arrayOver (.object RX6)).before #[Value.ref b] s = true := hts _ (List.mem_of_getElem? (i := 243) (by decide +kernel))
  have o8 : (Cond.arrayOver (.object RX8)).before #[Value.ref b] s = true := hts _ (List.mem_of_getElem? (i := 338) (by decide +kernel))
  obtain ⟨z2, x2, k2, p21, p22, p23, p24, p25⟩ := Cond.arrayOver_spec o2
  obtain ⟨z5, x5, k5, p51, p52, p53, p54, p55⟩ := Cond.arrayOver_spec o5
  obtain ⟨z6, x6, k6, p61, p62, p63, p64, p65⟩ := Cond.arrayOver_spec o6
  obtain ⟨z8, x8, k8, p81, p82, p83, p84, p85⟩ := Cond.arrayOver_spec o8
  have hO : AO s := ⟨va_AO.of o2, va_AO.of o5, va_AO.of o6, va_AO.of o8⟩
  obtain ⟨Dn, hDn⟩ : ∃ Dn : Nat → ClassId, Dn = fun k => if k = 0 then cI else if k = 1 then x2 else if k = 2 then x5 else if k = 3 then x6 else x8 := ⟨_, rfl⟩
  have hK : va_K (fun k => (D k).1, fun k => (D k).2) vwCl (XE (fun _ => 0, (fun k => (D k).1, fun k => (D k).2), Dn)).2 s := by
    refine ⟨fun k q hq => hD k q hq, fun k q hq => ?_⟩
    subst hDn
    match k with
    | 0 =>
      cases hq
      exact ⟨fun n z => ⟨fun k h => (by cases h), kI, f2, compI, f3⟩, f1⟩
    | 1 =>
      cases hq
      exact ⟨fun n z => ⟨fun k h => (by cases h), k2, p23, z2, p24⟩, k2, z2, p23, p24, p21, p25⟩
    | 2 =>
      cases hq
      exact ⟨fun n z => ⟨fun k h => (by cases h), k5, p53, z5, p54⟩, k5, z5, p53, p54, p51, p55⟩
    | 3 =>
      cases hq
      exact ⟨fun n z => ⟨fun k h => (by cases h), k6, p63, z6, p64⟩, k6, z6, p63, p64, p61, p65⟩
    | 4 =>
      cases hq
      exact ⟨fun n z => ⟨fun k h => (by cases h), k8, p83, z8, p84⟩, k8, z8, p83, p84, p81, p85⟩
    | k + 5 => simp [XE] at hq
  have hKX : KX (XE (fun _ => 0, (fun k => (D k).1, fun k => (D k).2), Dn)) s := by
    refine ⟨hK, fun w hw => ?_⟩
    have h1 := hts w (List.mem_filter.mp hw).1
    have h2 := (List.mem_filter.mp hw).2
    cases w <;> first | exact va_Nw.of rfl h1 | cases h2
  have main := law_made (l := l) (G := ((fun k => (D k).1, fun k => (D k).2), Dn)) ⟨p, e, s, m, below, meth, c, rfl, C0, hKX, hO, rfl⟩ hL
  have hl := lv_entry ([.ref b]) (n := 4) (Nat.le_of_ble_eq_true rfl)
  rw [lg_entry_eq]
  exact main rfl s.heap [] _ hl (fun k q h => by simp at h) ⟨fun i j p q h => by simp at h, fun k q h => by simp at h⟩ va_S.rf
