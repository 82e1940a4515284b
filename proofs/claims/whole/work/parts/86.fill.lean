/-! A ROW OF REFERENCES FILLED with new objects -/
/-- the objects that an object's references name; `farO`: places that no row has -/
def kids (o : u_O) : List u_O := match o.1 with
  | 0 => [(1, 0, 0), (1, 1, 0), (10, 0, 0), (12, 0, 0), (14, 0, 0), (14, 1, 0), (16, 0, 0), (17, 0, 0), (6, 7, 0), (19, 0, 0), (20, 0, 0)]
  | 1 => [(2, o.2.1, 0), (6, o.2.1, 0), (9, o.2.1, 0)]
  | 2 => [(3, o.2.1, 0), (3, o.2.1, 1), (3, o.2.1, 2), (3, o.2.1, 3)]
  | 3 => [(4, o.2.1, o.2.2), (5, o.2.1, o.2.2)]
  | 6 => [(7, o.2.1, 0)]
  | 7 => [(8, o.2.1, 0), (8, o.2.1, 1), (8, o.2.1, 2), (8, o.2.1, 3), (8, o.2.1, 4), (8, o.2.1, 5), (8, o.2.1, 6), (8, o.2.1, 7), (8, o.2.1, 8), (8, o.2.1, 9)]
  | 10 => [(11, 0, 0)]
  | 11 => [(1, 2, 0), (1, 3, 0), (1, 4, 0), (1, 5, 0), (1, 6, 0)]
  | 12 => [(13, 0, 0), (13, 1, 0), (13, 2, 0), (13, 3, 0)]
  | 14 => [(15, o.2.1, 0)]
  | 17 => [(18, 0, 0)]
  | 18 => [(14, 2, 0), (14, 3, 0), (14, 4, 0), (14, 5, 0), (14, 6, 0), (14, 7, 0), (14, 8, 0), (14, 9, 0), (14, 10, 0), (14, 11, 0)]
  | 20 => [(21, 0, 0), (22, 0, 0)]
  | 23 => [(24, 0, 0), (24, 1, 0), (24, 2, 0), (24, 4, 0), (24, 5, 0), (24, 6, 0), (24, 7, 0), (24, 8, 0), (24, 9, 0), (24, 11, 0), (24, 12, 0), (24, 13, 0), (24, 14, 0), (24, 15, 0), (24, 20, 0)]
  | _ => []
def farO (o : u_O) : Bool := (o.1 == 3 && decide (4 ≤ o.2.2)) || (o.1 == 8 && decide (10 ≤ o.2.2)) || (o.1 == 1 && decide (7 ≤ o.2.1)) || (o.1 == 14 && decide (12 ≤ o.2.1))
theorem lt4 {P : Nat → Prop} (h0 : P 0) (h1 : P 1) (h2 : P 2) (h3 : P 3) (hr : ∀ j, 4 ≤ j → P j) (j : Nat) : P j := by
  match j with
  | 0 => exact h0
  | 1 => exact h1
  | 2 => exact h2
  | 3 => exact h3
  | j + 4 => exact hr _ (by omega)
theorem lt5 {P : Nat → Prop} (h0 : P 0) (h1 : P 1) (h2 : P 2) (h3 : P 3) (h4 : P 4) (hr : ∀ j, 5 ≤ j → P j) (j : Nat) : P j := by
  match j with
  | 0 => exact h0
  | 1 => exact h1
  | 2 => exact h2
  | 3 => exact h3
  | 4 => exact h4
  | j + 5 => exact hr _ (by omega)
theorem lt10 {P : Nat → Prop} (h0 : P 0) (h1 : P 1) (h2 : P 2) (h3 : P 3) (h4 : P 4) (h5 : P 5) (h6 : P 6) (h7 : P 7) (h8 : P 8) (h9 : P 9) (hr : ∀ j, 10 ≤ j → P j) (j : Nat) : P j := by
  match j with
  | 0 => exact h0
  | 1 => exact h1
  | 2 => exact h2
  | 3 => exact h3
  | 4 => exact h4
  | 5 => exact h5
  | 6 => exact h6
  | 7 => exact h7
  | 8 => exact h8
  | 9 => exact h9
  | j + 10 => exact hr _ (by omega)
set_option maxHeartbeats 4000000 in
theorem cell_kids {G : va_G × (Nat → ClassId)} {a a' : u_O → Nat} (hf : ∀ o, farO o = true → a' o = a o) (o : u_O) (h : ∀ o' ∈ kids o, a' o' = a o') (f : Int → Int32) : cell (a', G) o f = cell (a, G) o f := by
  obtain ⟨k, p, l⟩ := o
  have fa : ∀ {g g' : Nat → Option Nat} {c : ClassId} {n : Nat}, (∀ j, g j = g' j) → (Sum.inl (c, n, .inr (.inr (.inr (.inr g)))) : va_E) = Sum.inl (c, n, .inr (.inr (.inr (.inr g')))) := fun hh => by rw [funext hh]
  match k with
  | 0 =>
    simp only [kids, List.forall_mem_cons] at h
    obtain ⟨h1, h2, h3, h4, h5, h6, h7, h8, h9, h10, h11, -⟩ := h
    simp only [cell, a_FP_plan, a_FP_before, a_FP_history, a_FP_text, a_FP_upper, a_FP_lower, a_FP_faults, a_FP_chorus, a_FP_rowEntries, a_FP_row, a_FP_tour, h1, h2, h3, h4, h5, h6, h7, h8, h9, h10, h11]
  | 1 =>
    simp only [kids, List.forall_mem_cons] at h
    obtain ⟨h1, h2, h3, -⟩ := h
    simp only [cell, a_Plan_lines, a_Plan_entries, a_Plan_toVisit, h1, h2, h3]
  | 2 =>
    simp only [kids, List.forall_mem_cons] at h
    obtain ⟨h1, h2, h3, h4, -⟩ := h
    exact fa (lt4 (congrArg some h1) (congrArg some h2) (congrArg some h3) (congrArg some h4) (fun j hj => congrArg some (hf (3, p, j) (by simp [farO, hj]))))
  | 3 =>
    simp only [kids, List.forall_mem_cons] at h
    obtain ⟨h1, h2, -⟩ := h
    simp only [cell, a_Line_steps, a_Line_ticks, h1, h2]
  | 4 => rfl
  | 5 => rfl
  | 6 =>
    simp only [kids, List.forall_mem_cons] at h
    obtain ⟨h1, -⟩ := h
    simp only [cell, a_Entries_items, h1]
  | 7 =>
    simp only [kids, List.forall_mem_cons] at h
    obtain ⟨h1, h2, h3, h4, h5, h6, h7, h8, h9, h10, -⟩ := h
    exact fa (lt10 (congrArg some h1) (congrArg some h2) (congrArg some h3) (congrArg some h4) (congrArg some h5) (congrArg some h6) (congrArg some h7) (congrArg some h8) (congrArg some h9) (congrArg some h10) (fun j hj => congrArg some (hf (8, p, j) (by simp [farO, hj]))))
  | 8 => rfl
  | 9 => rfl
  | 10 =>
    simp only [kids, List.forall_mem_cons] at h
    obtain ⟨h1, -⟩ := h
    simp only [cell, a_History_kept, h1]
  | 11 =>
    simp only [kids, List.forall_mem_cons] at h
    obtain ⟨h1, h2, h3, h4, h5, -⟩ := h
    exact fa (lt5 (congrArg some h1) (congrArg some h2) (congrArg some h3) (congrArg some h4) (congrArg some h5) (fun j hj => congrArg some (hf (1, 2 + j, 0) (by simp [farO]; omega))))
  | 12 =>
    simp only [kids, List.forall_mem_cons] at h
    obtain ⟨h1, h2, h3, h4, -⟩ := h
    simp only [cell, a_Reader_bytes, a_Reader_letters, a_Reader_starts, a_Reader_numbers, h1, h2, h3, h4]
  | 13 => rfl
  | 14 =>
    simp only [kids, List.forall_mem_cons] at h
    obtain ⟨h1, -⟩ := h
    simp only [cell, a_Sound_steps, h1]
  | 15 => rfl
  | 16 => rfl
  | 17 =>
    simp only [kids, List.forall_mem_cons] at h
    obtain ⟨h1, -⟩ := h
    simp only [cell, a_Chorus_items, h1]
  | 18 =>
    simp only [kids, List.forall_mem_cons] at h
    obtain ⟨h1, h2, h3, h4, h5, h6, h7, h8, h9, h10, -⟩ := h
    exact fa (lt10 (congrArg some h1) (congrArg some h2) (congrArg some h3) (congrArg some h4) (congrArg some h5) (congrArg some h6) (congrArg some h7) (congrArg some h8) (congrArg some h9) (congrArg some h10) (fun j hj => congrArg some (hf (14, 2 + j, 0) (by simp [farO]; omega))))
  | 19 => rfl
  | 20 =>
    simp only [kids, List.forall_mem_cons] at h
    obtain ⟨h1, h2, -⟩ := h
    simp only [cell, a_Tour_best, a_Tour_tried, h1, h2]
  | 21 => rfl
  | 22 => rfl
  | 23 =>
    simp only [kids, List.forall_mem_cons] at h
    obtain ⟨h1, h2, h3, h4, h5, h6, h7, h8, h9, h10, h11, h12, h13, h14, h15, -⟩ := h
    simp only [cell, a_Mo_all, a_Mo_past, a_Mo_aside, a_Mo_refused, a_Mo_upper, a_Mo_lower, a_Mo_counted, a_Mo_plainRow, a_Mo_formRow, a_Mo_far, a_Mo_between, a_Mo_bestRow, a_Mo_tried, a_Mo_text, a_Mo_numbers, h1, h2, h3, h4, h5, h6, h7, h8, h9, h10, h11, h12, h13, h14, h15]
  | k + 24 => rfl
theorem Wo_closed {G : va_G × (Nat → ClassId)} {a a' : u_O → Nat} {os : List u_O} (hc : ∀ o ∈ os, ∀ o' ∈ kids o, o' ∈ os) (hf : ∀ o, farO o = true → a' o = a o) (h : ∀ o ∈ os, a' o = a o) : Wo a' G os = Wo a G os := by
  unfold Wo
  refine List.map_congr_left fun o ho => ?_
  rw [h o ho, cell_kids hf o (fun o' ho' => h o' (hc o ho o' ho'))]
theorem fm_range (os : Nat → List u_O) (i : Nat) : (List.range (i + 1)).flatMap os = (List.range i).flatMap os ++ os i := by
  rw [List.range_succ, List.flatMap_append]
  simp
theorem Wo_fm {G : va_G × (Nat → ClassId)} {os : Nat → List u_O} {N : Nat} (hcl : ∀ i, i < N → ∀ o ∈ os i, ∀ o' ∈ kids o, o' ∈ os i) {a a' : u_O → Nat} (hf : ∀ o, farO o = true → a' o = a o) : ∀ i, i ≤ N → (∀ j, j < i → ∀ o ∈ os j, a' o = a o) → Wo a' G ((List.range i).flatMap os) = Wo a G ((List.range i).flatMap os)
  | 0, _, _ => rfl
  | i + 1, hi, h => by
    rw [fm_range, Wo_app, Wo_app, Wo_fm hcl hf i (by omega) (fun j hj => h j (by omega)), Wo_closed (hcl i (by omega)) hf (h i (by omega))]
def rfs (N : Nat) (oc : Nat → u_O) (a : u_O → Nat) (i : Nat) : Nat → Option Nat := fun j => if j < i then some (a (oc j)) else none
theorem lset0 (w t : va_W) (z : Nat × va_E) : (w ++ t).set w.length z = w ++ t.set 0 z := lset w t 0 z
theorem fill {l : Launch} {G : va_G × (Nat → ClassId)} {a0 : u_O → Nat} {R : Room} {cc : ByteArray} {own nm : String} {K : u_K} (g : Wk0 l (XE (a0, G)) R cc 2 own nm K)
    {nc0 ns0 mc ms nf pc0 pc1 pcE idx inew t0 : Nat} {wA tB : va_W} {b q kA ci cj kf N : Nat} {fs fs0 : List Value} {cA : ClassId} {C Cj : String} {T Tj : u_T} {NC : Nat} {offE offB : Int} (oc : Nat → u_O) (os : Nat → List u_O)
    (hN : N < 1000) (hoc : ∀ i, oc i ∈ os i) (hdis : ∀ j, j < N → ∀ i, i < j → ∀ o ∈ os i, o ∉ os j) (hcl : ∀ i, i < N → ∀ o ∈ os i, ∀ o' ∈ kids o, o' ∈ os i) (hnf : ∀ i, i < N → ∀ o ∈ os i, farO o = false)
    (hA : wA[kA]? = some (b, .inr (ci, fs))) (hin : ∀ w ∈ u_ws C T NC, w ∈ lw_G) (hc : vwCl[ci]? = some (C, T, NC)) (hkf : kf < NC) (hv : fs[kf]? = some (.ref q)) (hl0 : Cond.fieldLink own idx (T kf).1 (T kf).2.1 (T kf).2.2.1 ∈ lw_G)
    (ht : (XE (a0, G)).2[t0]? = some (cA, .object Cj)) (hinj : ∀ w ∈ u_ws Cj Tj nf, w ∈ lw_G) (hcj : vwCl[cj]? = some (Cj, Tj, nf)) (tyj : Nat → FieldType) (htyj : ∀ k, k < nf → parseFieldDescriptor (Tj k).2.2.1 = some (tyj k)) (hclj : Cond.classLink own inew Cj ∈ lw_G) (hins : Cond.instantiable Cj nf ∈ lw_G) (hini : Cond.initialized Cj ∈ lw_G) (hfs : ∀ j, j < nf → defaultValue (tyj j) = vp_V fs0 j)
    (hpush : ∀ (lv : List (Option Value)) (st : List Value) (w : va_W) (nc ns : Nat), K nc ns pc1 lv (.int (J (N : Int)) :: st) w → K nc ns (pc0 + 1) lv st w)
    (hcall : ∀ (a : u_O → Nat) (i b' : Nat) (w1 : va_W) (nc ns : Nat) (lv : List (Option Value)), i < N → nc + mc ≤ R.cells ∧ ns + ms ≤ R.slots → (∀ a' : u_O → Nat, (∀ o, o ∉ os i → a' o = a o) → a' (oc i) = b' → K (nc + mc) (ns + ms) (pc1 + 15) lv [.ref b', .int (J (i : Int)), .ref q] (w1 ++ Wo a' G (os i))) → K nc ns (pc1 + 12) lv [.ref b', .ref b', .int (J (i : Int)), .ref q] (w1 ++ [(b', .inr (cj, fs0))]))
    (hhead : ∀ (a : u_O → Nat) (i : Nat), ∃ vs tl, Wo a G (os i) = (a (oc i), .inr (cj, vs)) :: tl)
    (d0 : decode cc pc0 = .ok (.iload_n 1, 1)) (d1 : decode cc pc1 = .ok (.if_icmp .ge offE, 3)) (hE : (pc1 : Int) + offE = (pcE : Int)) (d2 : decode cc (pc1 + 3) = .ok (.aload_n 0, 1)) (d3 : decode cc (pc1 + 4) = .ok (.getfield idx, 3)) (d4 : decode cc (pc1 + 7) = .ok (.iload_n 1, 1)) (d5 : decode cc (pc1 + 8) = .ok (.new inew, 3)) (d6 : decode cc (pc1 + 11) = .ok (.dup, 1)) (d7 : decode cc (pc1 + 15) = .ok (.aastore, 1)) (d8 : decode cc (pc1 + 16) = .ok (.iinc 1 1, 3)) (d9 : decode cc (pc1 + 19) = .ok (.goto offB, 3)) (hB : ((pc1 + 19 : Nat) : Int) + offB = (pc0 : Int))
    (hroom : nc0 + N * (1 + mc) ≤ R.cells ∧ ns0 + N * (nf + ms) ≤ R.slots) (a : u_O → Nat)
    (kk : ∀ a' : u_O → Nat, (∀ o, (∀ i, i < N → o ∉ os i) → a' o = a o) → K (nc0 + N * (1 + mc)) (ns0 + N * (nf + ms)) pcE [some (.ref b), some (.int (J (N : Int)))] [] (wA ++ (q, .inl (cA, N, .inr (.inr (.inr (.inr (rfs N oc a' N)))))) :: (tB ++ Wo a' G ((List.range N).flatMap os)))) :
    K nc0 ns0 pc0 [some (.ref b), some (.int (J 0))] [] (wA ++ (q, .inl (cA, N, .inr (.inr (.inr (.inr (fun _ => none)))))) :: tB) := by
  have main : ∀ n i (a1 : u_O → Nat), i + n = N → (∀ o, (∀ i, i < N → o ∉ os i) → a1 o = a o) → K (nc0 + i * (1 + mc)) (ns0 + i * (nf + ms)) pc0 [some (.ref b), some (.int (J (i : Int)))] [] (wA ++ (q, .inl (cA, N, .inr (.inr (.inr (.inr (rfs N oc a1 i)))))) :: (tB ++ Wo a1 G ((List.range i).flatMap os))) := by
    intro n
    induction n with
    | zero =>
      intro i a1 hi ha1
      have hiN : i = N := by omega
      subst hiN
      refine r_iload_n g d0 rfl ?_
      refine hpush _ _ _ _ _ ?_
      refine r_icmp_ge g pcE d1 hE (InR_iff.mpr ⟨by omega, by omega⟩) (InR_iff.mpr ⟨by omega, by omega⟩) (fun _ => ?_) (fun h => absurd h (by omega))
      exact kk a1 ha1
    | succ n ih =>
      intro i a1 hi ha1
      have hiR : InR (i : Int) := InR_iff.mpr ⟨by omega, by omega⟩
      have hlt : i < N := by omega
      have hm1 : (i + 1) * (1 + mc) ≤ N * (1 + mc) := Nat.mul_le_mul_right _ hlt
      have hm2 : (i + 1) * (nf + ms) ≤ N * (nf + ms) := Nat.mul_le_mul_right _ hlt
      rw [Nat.succ_mul] at hm1 hm2
      refine r_iload_n g d0 rfl ?_
      refine hpush _ _ _ _ _ ?_
      refine r_icmp_ge g pcE d1 hE hiR (InR_iff.mpr ⟨by omega, by omega⟩) (fun h => absurd (show (i : Int) < (N : Int) by omega) h) (fun _ => ?_)
      refine r_aload_n g d2 rfl ?_
      refine r_get g hin hc kA ?_ kf hkf hv hl0 d3 ?_
      · rw [List.getElem?_append_left (List.getElem?_eq_some_iff.mp hA).1]
        exact hA
      refine r_iload_n g d4 rfl ?_
      refine r_new g hinj hcj tyj htyj hclj hins hini hfs ⟨by omega, by omega⟩ d5 (fun b' => ?_)
      refine r_dup g d6 rfl ?_
      refine hcall a1 i b' _ _ _ _ hlt ⟨by omega, by omega⟩ (fun a' h1 h2 => ?_)
      have hk1 : ∀ j, j < i → ∀ o ∈ os j, a' o = a1 o := fun j hj o ho => h1 o (hdis i hlt j hj o ho)
      have hkf1 : ∀ o, farO o = true → a' o = a1 o := fun o ho => h1 o (fun hm => by rw [hnf i hlt o hm] at ho; cases ho)
      have e1 : rfs N oc a1 i = rfs N oc a' i := by
        funext j
        unfold rfs
        by_cases hj : j < i
        · rw [if_pos hj, if_pos hj, hk1 j hj _ (hoc j)]
        · rw [if_neg hj, if_neg hj]
      rw [e1, ← Wo_fm hcl hkf1 i (by omega) hk1]
      obtain ⟨vs, tl, hh⟩ := hhead a' i
      have e2 : (wA ++ (q, Sum.inl (cA, N, Sum.inr (Sum.inr (Sum.inr (Sum.inr (rfs N oc a' i)))))) :: (tB ++ Wo a' G ((List.range i).flatMap os)) ++ Wo a' G (os i) : va_W) = wA ++ (q, Sum.inl (cA, N, Sum.inr (Sum.inr (Sum.inr (Sum.inr (rfs N oc a' i)))))) :: (tB ++ Wo a' G ((List.range (i + 1)).flatMap os)) := by
        rw [fm_range, Wo_app]
        simp [List.append_assoc]
      rw [e2]
      have hv' : (wA ++ (q, Sum.inl (cA, N, Sum.inr (Sum.inr (Sum.inr (Sum.inr (rfs N oc a' i)))))) :: (tB ++ Wo a' G ((List.range (i + 1)).flatMap os)) : va_W)[wA.length + (1 + (tB.length + (Wo a' G ((List.range i).flatMap os)).length))]? = some (b', .inr (cj, vs)) := by
        refine lget ?_
        rw [Nat.add_comm 1, List.getElem?_cons_succ]
        refine lget ?_
        rw [fm_range, Wo_app, hh, h2, List.getElem?_append_right (Nat.le_refl _), Nat.sub_self]
        rfl
      refine r_astq g wA.length t0 _ cj (lget (k := 0) rfl) ht hv' hcj hiR ⟨by omega, by omega⟩ d7 ?_
      have e3 : va_up (rfs N oc a' i) ((i : Int)).toNat (some b') = rfs N oc a' (i + 1) := by
        funext j
        rw [Int.toNat_natCast]
        unfold va_up rfs
        by_cases hj : j = i
        · subst hj
          rw [if_pos rfl, if_pos (by omega), h2]
        · rw [if_neg hj]
          by_cases hj2 : j < i
          · rw [if_pos hj2, if_pos (by omega)]
          · rw [if_neg hj2, if_neg (by omega)]
      rw [e3]
      rw [lset0]
      refine r_iinc g d8 (by decide) rfl rfl rfl ?_
      refine r_goto g pc0 d9 hB ?_
      have e5 : wr ((i : Int) + 1) = ((i + 1 : Nat) : Int) := by
        rw [wr_of (by omega) (by omega)]
        omega
      rw [e5]
      have e6 : nc0 + i * (1 + mc) + 1 + mc = nc0 + (i + 1) * (1 + mc) := by rw [Nat.succ_mul]; omega
      have e7 : ns0 + i * (nf + ms) + nf + ms = ns0 + (i + 1) * (nf + ms) := by rw [Nat.succ_mul]; omega
      rw [e6, e7]
      refine ih (i + 1) a' (by omega) (fun o ho => ?_)
      rw [h1 o (ho i hlt), ha1 o ho]
  have h0 := main N 0 a (by omega) (fun _ _ => rfl)
  have e0 : rfs N oc a 0 = fun _ => none := funext fun j => if_neg (Nat.not_lt_zero j)
  simp only [e0, Nat.zero_mul, Nat.add_zero, List.range_zero, List.flatMap_nil, Wo_nil, List.append_nil] at h0
  exact h0
