/-! ORDERS OF WORK: done by the class -/
def RSD (s : u_S) (L : List (Int × List Int)) : Prop := SO s L ∧ rd s oR 6 = ((flN L).length : Int) ∧ (∀ i : Nat, i < (flN L).length → rd s (13, 3, 0) i = (flN L).getD i 0) ∧ L.length ≤ 120 ∧ (flN L).length ≤ 120
theorem RSD.keep {s s' : u_S} {L : List (Int × List Int)} (h : RSD s L) {P : u_O → Prop} (ho : Only P s s') (hp : ∀ o, P o → o.1 ≠ 12 ∧ o.1 ≠ 13) : RSD s' L := by
  have n12 : ¬ P (12, 0, 0) := fun z => (hp _ z).1 rfl
  have n13 : ∀ q, ¬ P (13, q, 0) := fun q z => (hp _ z).2 rfl
  obtain ⟨⟨a, b⟩, c, d, e⟩ := h
  exact ⟨⟨by rw [ho.rd n12]; exact a, fun i hi => by rw [ho.rd (n13 1), ho.rd (n13 2)]; exact b i hi⟩, by rw [ho.rd n12]; exact c, fun i hi => by rw [ho.rd (n13 3)]; exact d i hi, e⟩
theorem fl_get : ∀ {L : List (Int × List Int)} {i j : Nat}, i < L.length → j < (L.getD i (0, [])).2.length → (flN L).getD (stN L i + j) 0 = (L.getD i (0, [])).2.getD j 0 ∧ stN L i + j < (flN L).length
  | [], i, j, hi, _ => by simp at hi
  | o :: L, 0, j, hi, hj => by
    have hj' : j < o.2.length := hj
    have e : flN (o :: L) = o.2 ++ flN L := by unfold flN; rw [List.flatMap_cons]
    have e0 : stN (o :: L) 0 = 0 := rfl
    rw [e, e0, Nat.zero_add, List.length_append]
    refine ⟨?_, by omega⟩
    rw [List.getD_eq_getElem?_getD, List.getElem?_append_left hj', ← List.getD_eq_getElem?_getD]
    rfl
  | o :: L, i + 1, j, hi, hj => by
    rw [List.length_cons] at hi
    have hj' : j < (L.getD i (0, [])).2.length := hj
    obtain ⟨h1, h2⟩ := fl_get (L := L) (i := i) (j := j) (by omega) hj'
    have e : flN (o :: L) = o.2 ++ flN L := by unfold flN; rw [List.flatMap_cons]
    have e0 : stN (o :: L) (i + 1) = o.2.length + stN L i := by
      unfold stN
      rw [List.take_succ_cons]
      have : flN (o :: L.take i) = o.2 ++ flN (L.take i) := by unfold flN; rw [List.flatMap_cons]
      rw [this, List.length_append]
    rw [e, e0, List.length_append]
    refine ⟨?_, by omega⟩
    rw [List.getD_eq_getElem?_getD, List.getElem?_append_right (by omega), show o.2.length + stN L i + j - o.2.length = stN L i + j by omega, ← List.getD_eq_getElem?_getD]
    exact h1
theorem st_succ : ∀ {L : List (Int × List Int)} {i : Nat}, i < L.length → stN L (i + 1) = stN L i + (L.getD i (0, [])).2.length
  | [], i, hi => by simp at hi
  | o :: L, 0, hi => by
    unfold stN
    rw [List.take_succ_cons, List.take_zero, List.take_zero]
    unfold flN
    simp
  | o :: L, i + 1, hi => by
    rw [List.length_cons] at hi
    have := st_succ (L := L) (i := i) (by omega)
    have e : ∀ j, stN (o :: L) (j + 1) = o.2.length + stN L j := by
      intro j
      unfold stN
      rw [List.take_succ_cons]
      have : flN (o :: L.take j) = o.2 ++ flN (L.take j) := by unfold flN; rw [List.flatMap_cons]
      rw [this, List.length_append]
    rw [e, e, this]
    show o.2.length + (stN L i + (L.getD i (0, [])).2.length) = o.2.length + stN L i + (L.getD i (0, [])).2.length
    omega
theorem exN_none (l : Int) : ∀ t : List Int, exN l none t = none
  | [] => rfl
  | [_] => rfl
  | _ :: _ :: t => by rw [exN]; exact exN_none l t
theorem exV_none : ∀ t : List Int, exV none t = none
  | [] => rfl
  | _ :: t => by rw [exV]; exact exV_none t
def ordOK (o : Int × List Int) : Prop := (o.1 = 108 → o.2 ≠ []) ∧ (o.1 = 101 → o.2.length = 5) ∧ (o.1 = 104 ∨ o.1 = 116 ∨ o.1 = 109 → o.2.length = 1) ∧ (o.1 = 108 ∨ o.1 = 101 ∨ o.1 = 104 ∨ o.1 = 116 ∨ o.1 = 109 ∨ o.1 = 107)
section CEXEC
variable {T : Int → Int} {tl : Int} {s : u_S} {L : List (Int × List Int)}
theorem mn_len (htl : tl ≤ 120) : ∀ (S : List Int) (p : Int), 0 ≤ p → p ≤ tl → (mnP T tl S p).1 = -1 → (mnP T tl S p).2.2.length = S.length
  | [], p, _, _, _ => rfl
  | g :: S, p, h0, h1, h => by
    rw [mnP] at h ⊢
    by_cases hok : (numP T tl g p).1 = -1
    · have hno := num_ok (T := T) htl h0 h1 hok
      rw [sq_ok hok] at h ⊢
      dsimp only at h ⊢
      have e1 : (numP T tl g p).2.1 = bgP T tl g p + dg T tl (bgP T tl g p) := by rw [hno.2.1]
      have e2 : (numP T tl g p).2.2 = [nvP T tl g p] := by rw [hno.2.1]
      have := mn_len htl S (numP T tl g p).2.1 (by rw [e1]; omega) (by rw [e1]; omega) h
      rw [e2, List.length_append, this]
      simp
      omega
    · rw [sq_no hok] at h
      exact absurd h hok
theorem ord_ok (htl : 0 ≤ tl ∧ tl ≤ 120) {p : Int} (h0 : 0 ≤ p) (h1 : p ≤ tl) (h : (ordP T tl p).1 = -1) : ordOK (hr T tl (sk T tl p), (ordP T tl p).2.2) := by
  have hsk := sk_b (T := T) htl.2 h0 h1
  have hlt := ((ord_go (T := T) htl.2 h0 h1).1 h).2.2.1
  unfold ordP at h ⊢
  generalize hr T tl (sk T tl p) = c at h ⊢
  by_cases hc : c = 108 ∨ c = 101 ∨ c = 104 ∨ c = 116 ∨ c = 109 ∨ c = 107
  · rw [if_pos hc] at h ⊢
    by_cases hok : (bodP T tl c (sk T tl p + 1)).1 = -1
    · have e : (sq (bodP T tl c (sk T tl p + 1)) (endP T tl)).2.2 = (bodP T tl c (sk T tl p + 1)).2.2 := by
        rw [sq_ok hok] at h ⊢
        dsimp only at h ⊢
        unfold endP at h ⊢
        split
        · exact List.append_nil _
        · exact List.append_nil _
      rw [e]
      refine ⟨fun z => ?_, fun z => ?_, fun z => ?_, hc⟩
      · dsimp only at z ⊢
        unfold bodP at hok ⊢
        rw [if_pos z] at hok ⊢
        unfold linP at hok ⊢
        by_cases hn : (numP T tl 0 (sk T tl p + 1)).1 = -1
        · rw [sq_ok hn]
          dsimp only
          rw [(num_ok (T := T) htl.2 (p := sk T tl p + 1) (by omega) (by omega) hn).2.1]
          simp
        · rw [sq_no hn] at hok
          exact absurd hok hn
      · dsimp only at z ⊢
        unfold bodP at hok ⊢
        rw [if_neg (by omega), if_pos z] at hok ⊢
        rw [← mn_5] at hok ⊢
        exact mn_len htl.2 [0, 0, 1, 0, 0] _ (by omega) (by omega) hok
      · dsimp only at z ⊢
        unfold bodP at hok ⊢
        rw [if_neg (by omega), if_neg (by omega), if_neg (by omega)] at hok ⊢
        rw [← mn_1] at hok ⊢
        exact mn_len htl.2 [0] _ (by omega) (by omega) hok
    · rw [sq_no hok] at h
      exact absurd h hok
  · rw [if_neg hc] at h
    dsimp only at h
    omega
theorem all_ok (htl : 0 ≤ tl ∧ tl ≤ 120) : ∀ (k : Nat) (p : Int), 0 ≤ p → p ≤ tl → (allP T tl k p).1 = -1 → ∀ o, o ∈ (allP T tl k p).2 → ordOK o
  | 0, p, _, _, _ => by
    intro o ho
    rw [allP] at ho
    cases ho
  | k + 1, p, h0, h1, h => by
    intro o ho
    rw [allP] at h ho
    by_cases hok : (ordP T tl p).1 = -1
    · rw [if_pos hok] at h ho
      have g1 := (ord_go (T := T) htl.2 h0 h1).1 hok
      have hsk := sk_b (T := T) htl.2 (p := (ordP T tl p).2.1) (by omega) g1.2.1
      by_cases hq : sk T tl (ordP T tl p).2.1 < tl
      · rw [if_pos hq] at h ho
        dsimp only at h ho
        rcases List.mem_cons.mp ho with e | e
        · rw [e]; exact ord_ok htl h0 h1 hok
        · exact all_ok htl k _ (by omega) (by omega) h o e
      · rw [if_neg hq] at ho
        dsimp only at ho
        rw [List.mem_singleton] at ho
        rw [ho]; exact ord_ok htl h0 h1 hok
    · rw [if_neg hok] at h
      exact absurd h hok
theorem e_cnum (h : RSD s L) {i : Nat} (hi : i < (flN L).length) : f_X7_number oR (i : Int) s = some ((flN L).getD i 0, s) := by
  obtain ⟨_, c, d, _, e⟩ := h
  unfold f_X7_number
  rw [c, if_neg (by omega), if_pos (by omega), if_pos (by omega), gd_of (by omega) (by omega), show a_Reader_numbers oR = (13, 3, 0) from rfl, d i hi]
theorem e_cfirst (h : RSD s L) {i : Nat} (hi : i ≤ L.length) : f_X7_firstNumber oR (i : Int) s = some ((stN L i : Int), s) := by
  obtain ⟨⟨a, b⟩, c, d, e1, e2⟩ := h
  unfold f_X7_firstNumber
  rw [jn_eq, a, if_neg (by omega)]
  by_cases hl : i < L.length
  · rw [if_pos (by omega), if_pos (by omega), gd_of (by omega) (by omega), show a_Reader_starts oR = (13, 2, 0) from rfl, (b i hl).2]
  · have : i = L.length := by omega
    subst this
    rw [if_neg (by omega)]
    dsimp only
    rw [c, st_len]
theorem e_cletter (h : RSD s L) {i : Nat} (hi : i < L.length) : f_X7_letter oR (i : Int) s = some ((L.getD i (0, [])).1, s) := by
  obtain ⟨⟨a, b⟩, c, d, e1, e2⟩ := h
  unfold f_X7_letter
  rw [a, if_neg (by omega), if_pos (by omega), if_pos (by omega), gd_of (by omega) (by omega), show a_Reader_letters oR = (13, 1, 0) from rfl, (b i hi).1]
theorem pob_12 {p : Nat} (o : u_O) (h : pob p o) : o.1 ≠ 12 ∧ o.1 ≠ 13 := by have := h.2; omega
theorem e_cexN (l : Int) (hi : Nat) (hh : hi ≤ (flN L).length) (kx : u_S → Option (Int × u_S)) : ∀ (m : Nat) (t : List Int) (v : Nat) (s : u_S) (A : Int → Int), t.length < m → CP s 0 A → WF A → RSD s L → v + t.length = hi → (∀ j : Nat, j < t.length → (flN L).getD (v + j) 0 = t.getD j 0) → ∃ s', f_X10_lineIsDone_L27 m kx oF (hi : Int) l (v : Int) s = (if (exN l (some A) t).isSome then kx s' else some (0, s')) ∧ Only (pob 0) s s' ∧ ∀ A', exN l (some A) t = some A' → CP s' 0 A'
  | 0, t, v, s, A, h1, _, _, _, _, _ => by omega
  | m + 1, [], v, s, A, h1, h2, h3, h4, h5, h6 => by
    have := h4.2.2.2.2
    rw [List.length_nil] at h5
    refine ⟨s, ?_, Only.refl _ _, fun A' h => by cases h; exact h2⟩
    rw [f_X10_lineIsDone_L27, wr_of (x := (v : Int) + 1) (by omega) (by omega), if_neg (by omega)]
    rfl
  | m + 1, [x], v, s, A, h1, h2, h3, h4, h5, h6 => by
    have := h4.2.2.2.2
    rw [List.length_singleton] at h5
    refine ⟨s, ?_, Only.refl _ _, fun A' h => by cases h; exact h2⟩
    rw [f_X10_lineIsDone_L27, wr_of (x := (v : Int) + 1) (by omega) (by omega), if_neg (by omega)]
    rfl
  | m + 1, a :: b :: t, v, s, A, h1, h2, h3, h4, h5, h6 => by
    have hle := h4.2.2.2.2
    rw [List.length_cons, List.length_cons] at h1 h5
    have n0 : f_X7_number (a_FP_text oF) (v : Int) s = some (a, s) := by
      have := e_cnum h4 (i := v) (by omega)
      have e := h6 0 (by simp)
      rw [Nat.add_zero] at e
      rw [e] at this
      exact this
    have n1 : f_X7_number (a_FP_text oF) ((v : Int) + 1) s = some (b, s) := by
      have := e_cnum h4 (i := v + 1) (by omega)
      have e := h6 1 (by simp)
      rw [e] at this
      exact this
    obtain ⟨s1, x1, x2, x3⟩ := e_addNote (l := l) h2 h3 a b
    have hcs := canNote_cases A l a b
    rw [f_X10_lineIsDone_L27, wr_of (x := (v : Int) + 1) (by omega) (by omega), if_pos (by omega), n0, bd_eq, n1, bd_eq, show a_FP_plan oF = (1, 0, 0) from rfl, x1, bd_eq, wr_of (x := (v : Int) + 2) (by omega) (by omega), exN]
    have hb : (some A).bind (nstA l a b) = nstA l a b A := rfl
    rw [hb]
    by_cases hneg : canNoteA A l a b < 0
    · have : nstA l a b A = none := if_pos hneg
      rw [if_pos hneg, if_pos hneg, this, exN_none]
      exact ⟨s1, rfl, x3, fun A' h => by cases h⟩
    · have hz : canNoteA A l a b = 0 := by omega
      have g := canNote_0 h3 hz
      have e : nstA l a b A = some (noteA A l a b) := if_neg hneg
      rw [if_neg hneg] at x2
      rw [if_neg hneg, if_neg (by omega), e]
      obtain ⟨s2, y1, y2, y3⟩ := e_cexN l hi hh kx m t (v + 2) s1 (noteA A l a b) (by omega) x2 (note_WF h3 hz) (h4.keep x3 pob_12) (by omega) (fun j hj => by
        have := h6 (j + 2) (by rw [List.length_cons, List.length_cons]; omega)
        rw [show v + (j + 2) = v + 2 + j by omega] at this
        exact this)
      exact ⟨s2, y1, x3.trans y2, y3⟩
theorem e_cexV (hi : Nat) (hh : hi ≤ (flN L).length) (kx : u_S → Option (Int × u_S)) : ∀ (m : Nat) (t : List Int) (v : Nat) (s : u_S) (A : Int → Int), t.length < m → CP s 0 A → WF A → RSD s L → v + t.length = hi → (∀ j : Nat, j < t.length → (flN L).getD (v + j) 0 = t.getD j 0) → ∃ s', f_X10_visitsAreDone_L10 m kx oF (hi : Int) (v : Int) s = (if (exV (some A) t).isSome then kx s' else some (0, s')) ∧ Only (pob 0) s s' ∧ ∀ A', exV (some A) t = some A' → CP s' 0 A'
  | 0, t, v, s, A, h1, _, _, _, _, _ => by omega
  | m + 1, [], v, s, A, h1, h2, h3, h4, h5, h6 => by
    rw [List.length_nil] at h5
    refine ⟨s, ?_, Only.refl _ _, fun A' h => by cases h; exact h2⟩
    rw [f_X10_visitsAreDone_L10, if_neg (by omega)]
    rfl
  | m + 1, k :: t, v, s, A, h1, h2, h3, h4, h5, h6 => by
    have hle := h4.2.2.2.2
    rw [List.length_cons] at h1 h5
    have n0 : f_X7_number (a_FP_text oF) (v : Int) s = some (k, s) := by
      have := e_cnum h4 (i := v) (by omega)
      have e := h6 0 (by simp)
      rw [Nat.add_zero] at e
      rw [e] at this
      exact this
    obtain ⟨s1, x1, x2, x3⟩ := e_addVisit (k := k) h2 h3
    have hcs := canVi_cases A k
    have hv := h3.2.2.2.2.2.2.2.1
    rw [f_X10_visitsAreDone_L10, if_pos (by omega), n0, bd_eq, show a_FP_plan oF = (1, 0, 0) from rfl, x1, bd_eq, wr_of (x := (v : Int) + 1) (by omega) (by omega), exV]
    have hb : (some A).bind (vstA k) = vstA k A := rfl
    rw [hb]
    by_cases hneg : canViA A k < 0
    · have : vstA k A = none := if_pos hneg
      rw [if_pos hneg, if_pos hneg, this, exV_none]
      exact ⟨s1, rfl, x3, fun A' h => by cases h⟩
    · have e : vstA k A = some (visA A k) := if_neg hneg
      rw [if_neg hneg] at x2
      rw [if_neg hneg, if_neg (by omega), e]
      obtain ⟨s2, y1, y2, y3⟩ := e_cexV hi hh kx m t (v + 1) s1 (visA A k) (by omega) x2 (vst_WF h3 e) (h4.keep x3 pob_12) (by omega) (fun j hj => by
        have := h6 (j + 1) (by rw [List.length_cons]; omega)
        rw [show v + (j + 1) = v + 1 + j by omega] at this
        exact this)
      exact ⟨s2, y1, x3.trans y2, y3⟩
theorem e_isDone {A : Int → Int} (hc : CP s 0 A) (hw : WF A) (h : RSD s L) {i : Nat} (hi : i < L.length) (hok : ordOK (L.getD i (0, []))) : ∃ s', f_X10_isDone oF (i : Int) s = some ((if (exO A (L.getD i (0, [])).1 (L.getD i (0, [])).2).isSome then 1 else 0), s') ∧ Only (pob 0) s s' ∧ ∀ A', exO A (L.getD i (0, [])).1 (L.getD i (0, [])).2 = some A' → CP s' 0 A' := by
  have hle := h.2.2.2
  have hget := fun j => fl_get (L := L) (i := i) (j := j) hi
  have hsu := st_succ hi
  have hst := e_cfirst h (i := i) (by omega)
  have hst1 := e_cfirst h (i := i + 1) (by omega)
  have hlet := e_cletter h hi
  have hend : stN L (i + 1) ≤ (flN L).length := by
    rw [hsu]
    by_cases hz : (L.getD i (0, [])).2.length = 0
    · rw [hz, Nat.add_zero, ← st_len]
      unfold stN
      have : L.take i = (L.take L.length).take i := by rw [List.take_length]
      rw [List.take_length]
      have hap : L = L.take i ++ L.drop i := (List.take_append_drop i L).symm
      conv => rhs; rw [hap]
      unfold flN
      rw [List.flatMap_append, List.length_append]
      omega
    · have := (hget ((L.getD i (0, [])).2.length - 1) (by omega)).2
      omega
  generalize L.getD i (0, []) = o at *
  obtain ⟨c, ns⟩ := o
  dsimp only at hok hget hsu hlet ⊢
  have num : ∀ j : Nat, j < ns.length → ∀ s', RSD s' L → f_X7_number (a_FP_text oF) ((stN L i : Int) + (j : Int)) s' = some (ns.getD j 0, s') := by
    intro j hj s' h'
    have g := hget j hj
    have := e_cnum h' (i := stN L i + j) g.2
    rw [g.1] at this
    exact this
  have num0 : 0 < ns.length → f_X7_number (a_FP_text oF) (stN L i : Int) s = some (ns.getD 0 0, s) := fun z => by
    have := num 0 z s h
    rwa [show (stN L i : Int) + ((0 : Nat) : Int) = stN L i by omega] at this
  unfold f_X10_isDone
  rw [show a_FP_text oF = oR from rfl, hst, bd_eq, wr_of (x := (i : Int) + 1) (by omega) (by omega), show (i : Int) + 1 = ((i + 1 : Nat) : Int) by omega, hst1, bd_eq, hlet, bd_eq]
  have hset : ∀ w : Int, ns.length = 1 → ∃ s', bd (f_X7_number oR (stN L i : Int) s) (fun r_11 s_11 => bd (f_X6_setValue (a_FP_plan oF) w r_11 s_11) (fun r_12 s_12 => if r_12 < 0 then (some ((0 : Int), s_12)) else (some (1, s_12)))) = some ((if (exS w A ns).isSome then 1 else 0), s') ∧ Only (pob 0) s s' ∧ ∀ A', exS w A ns = some A' → CP s' 0 A' := by
    intro w hlen
    have n0 := num0 (by omega)
    rw [show a_FP_text oF = oR from rfl] at n0
    rw [n0, bd_eq, show a_FP_plan oF = (1, 0, 0) from rfl]
    unfold exS
    generalize ns.getD 0 0 = v
    have es := e_setValue (w := w) (v := v) hc hw
    by_cases hz : isSet w v
    · obtain ⟨s1, x1, x2, x3⟩ := es.1 hz
      have hB : setB w v = true := (setB_iff _ _).mpr hz
      have hpos : 0 ≤ A (135 + w) := by
        have h1 := hw.2.2.2.1
        have h2 := hw.2.2.2.2.1
        have h3 := hw.2.2.2.2.2.1
        have h4 := hw.2.2.2.2.2.2.1
        unfold isSet at hz
        rcases hz with z | z | z | z
        · rw [z.1]; exact h1.1
        · rw [z.1]; exact h2.1
        · rw [z.1]; show 0 ≤ A 137; omega
        · rw [z.1]; exact h4.1
      rw [x1, bd_eq, if_neg (by omega), if_pos hB]
      exact ⟨s1, rfl, x3, fun A' h => by cases h; exact x2⟩
    · have hB : ¬ setB w v = true := fun z => hz ((setB_iff _ _).mp z)
      rw [es.2 hz, bd_eq, if_pos (by omega), if_neg hB]
      exact ⟨s, rfl, Only.refl _ _, fun A' h => by cases h⟩
  rcases hok.2.2.2 with rfl | rfl | rfl | rfl | rfl | rfl
  · have eO : exO A 108 ns = exL A ns := rfl
    rw [eO, if_neg (by omega), if_neg (by omega), if_pos rfl]
    cases ns with
    | nil => exact absurd rfl (hok.1 rfl)
    | cons l t =>
      rw [List.length_cons] at hsu
      have n0 := num0 (by simp)
      rw [show a_FP_text oF = oR from rfl] at n0
      have hcs := canEm_cases A l
      obtain ⟨s1, x1, x2, x3⟩ := e_emptyLine (l := l) hc hw
      unfold f_X10_lineIsDone
      rw [show a_FP_text oF = oR from rfl, n0, bd_eq, show a_FP_plan oF = (1, 0, 0) from rfl, show (l :: t).getD 0 0 = l from rfl, x1, bd_eq, wr_of (x := (stN L i : Int) + 1) (by omega) (by omega), exL]
      by_cases hneg : canEmA A l < 0
      · rw [if_pos hneg, if_pos hneg, if_pos hneg, exN_none, bd_eq]
        exact ⟨s1, rfl, x3, fun A' h => by cases h⟩
      · rw [if_neg hneg] at x2
        have hz : canEmA A l = 0 := by omega
        have hg := canEm_0 hz
        have hcn := (hw.1 l hg.1.1 hg.1.2).1
        rw [if_neg hneg, if_neg (by omega), if_neg hneg]
        obtain ⟨s2, y1, y2, y3⟩ := e_cexN (L := L) l (stN L (i + 1)) hend (fun s_3 => some (1, s_3)) FU t (stN L i + 1) s1 (emptA A l) (by unfold FU; omega) x2 (empt_WF hw hz) (h.keep x3 pob_12) (by omega) (fun j hj => by
          have := (hget (j + 1) (by rw [List.length_cons]; omega)).1
          rw [show stN L i + (j + 1) = stN L i + 1 + j by omega] at this
          exact this)
        refine ⟨s2, ?_, x3.trans y2, y3⟩
        rw [show (stN L i : Int) + 1 = ((stN L i + 1 : Nat) : Int) by omega, y1]
        split <;> rfl
  · have hlen : ns.length = 5 := hok.2.1 rfl
    have n0 := num0 (by omega)
    have n1 := num 1 (by omega) s h
    have n2 := num 2 (by omega) s h
    have n3 := num 3 (by omega) s h
    have n4 := num 4 (by omega) s h
    rw [show a_FP_text oF = oR from rfl] at n0 n1 n2 n3 n4
    have eO : exO A 101 ns = exE A ns := rfl
    rw [eO, if_pos rfl, n0, bd_eq, wr_of (x := (stN L i : Int) + 1) (by omega) (by omega), wr_of (x := (stN L i : Int) + 2) (by omega) (by omega), wr_of (x := (stN L i : Int) + 3) (by omega) (by omega), wr_of (x := (stN L i : Int) + 4) (by omega) (by omega)]
    have n1' : f_X7_number oR ((stN L i : Int) + 1) s = some (ns.getD 1 0, s) := n1
    have n2' : f_X7_number oR ((stN L i : Int) + 2) s = some (ns.getD 2 0, s) := n2
    have n3' : f_X7_number oR ((stN L i : Int) + 3) s = some (ns.getD 3 0, s) := n3
    have n4' : f_X7_number oR ((stN L i : Int) + 4) s = some (ns.getD 4 0, s) := n4
    rw [n1', bd_eq, n2', bd_eq, n3', bd_eq, n4', bd_eq, show a_FP_plan oF = (1, 0, 0) from rfl]
    unfold exE
    generalize ns.getD 0 0 = v0
    generalize ns.getD 1 0 = v1
    generalize ns.getD 2 0 = v2
    generalize ns.getD 3 0 = v3
    generalize ns.getD 4 0 = v4
    obtain ⟨s1, x1, x2, x3⟩ := e_addEntry (l := v0) (f := v1) (m := v2) (st := v3) (v := v4) hc hw
    have hcs := canEn_cases A v0 v1 v2 v3 v4
    have hn := hw.2.1.1
    rw [x1, bd_eq]
    by_cases hneg : canEnA A v0 v1 v2 v3 v4 < 0
    · rw [if_pos hneg, if_pos hneg, if_pos hneg]
      exact ⟨s1, rfl, x3, fun A' h => by cases h⟩
    · rw [if_neg hneg] at x2
      rw [if_neg hneg, if_neg (by omega), if_neg hneg]
      exact ⟨s1, rfl, x3, fun A' h => by cases h; exact x2⟩
  · have eO : exO A 104 ns = exS 0 A ns := rfl
    rw [eO, if_neg (by omega), if_pos rfl]
    exact hset 0 (hok.2.2.1 (by omega))
  · have eO : exO A 116 ns = exS 1 A ns := rfl
    rw [eO, if_neg (by omega), if_neg (by omega), if_neg (by omega), if_neg (by omega), if_pos rfl]
    exact hset 1 (hok.2.2.1 (by omega))
  · have eO : exO A 109 ns = exS 2 A ns := rfl
    rw [eO, if_neg (by omega), if_neg (by omega), if_neg (by omega), if_pos rfl]
    exact hset 2 (hok.2.2.1 (by omega))
  · have eO : exO A 107 ns = exV (some (upA A 139 0)) ns := rfl
    rw [eO, if_neg (by omega), if_neg (by omega), if_neg (by omega), if_neg (by omega), if_neg (by omega)]
    unfold f_X10_visitsAreDone
    rw [show a_FP_plan oF = (1, 0, 0) from rfl]
    have c1 : CP (wt s (1, 0, 0) 3 0) 0 (upA A 139 0) := by
      refine hc.vis hw (fun k hk => upA_ne (by omega)) ((Only.refl (vob2 0) s).wt (Or.inr rfl) _ _) (fun k a b => rd_wt_k (by omega)) ?_ (fun i a b => ?_)
      · rw [rd_wt_same, upA_same]; rfl
      · rw [upA_same] at b; omega
    obtain ⟨s2, y1, y2, y3⟩ := e_cexV (L := L) (stN L (i + 1)) hend (fun s_1 => some (1, s_1)) FU ns (stN L i) (wt s (1, 0, 0) 3 0) (upA A 139 0) (by unfold FU; omega) c1 (vis0_WF hw) (h.keep ((Only.refl (pob 0) s).wt (by simp [pob]) _ _) pob_12) (by omega) (fun j hj => (hget j hj).1)
    refine ⟨s2, ?_, ((Only.refl (pob 0) s).wt (by simp [pob]) _ _).trans y2, y3⟩
    rw [y1]
    split <;> rfl
end CEXEC
