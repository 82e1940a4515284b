/-! the model's objects told by an address function -/
section LEAVES4
variable {l : Launch} {G : va_G × (Nat → ClassId)} {a0 : u_O → Nat}
def moA (a : u_O → Nat) (b q0 q1 q2 q3 q4 q5 q6 q7 q8 q9 q10 q11 q12 q13 q14 : Nat) : u_O → Nat := fun o => if o.1 = 23 then b else match o.2.1 with
  | 0 => q0
  | 1 => q1
  | 2 => q2
  | 4 => q3
  | 5 => q4
  | 6 => q5
  | 7 => q6
  | 8 => q7
  | 9 => q8
  | 11 => q9
  | 12 => q10
  | 13 => q11
  | 14 => q12
  | 15 => q13
  | 20 => q14
  | _ => a o
def osMo : List u_O := [(23, 0, 0), (24, 0, 0), (24, 1, 0), (24, 2, 0), (24, 4, 0), (24, 5, 0), (24, 6, 0), (24, 7, 0), (24, 8, 0), (24, 9, 0), (24, 11, 0), (24, 12, 0), (24, 13, 0), (24, 14, 0), (24, 15, 0), (24, 20, 0)]
def moAA (a : u_O → Nat) (b q0 q1 q2 q3 q4 q5 q6 q7 q8 q9 q10 q11 q12 q13 q14 : Nat) : u_O → Nat := fun o => if o ∈ osMo then moA a b q0 q1 q2 q3 q4 q5 q6 q7 q8 q9 q10 q11 q12 q13 q14 o else a o
set_option maxHeartbeats 4000000 in
set_option maxRecDepth 100000 in
theorem mo_W (a : u_O → Nat) (b q0 q1 q2 q3 q4 q5 q6 q7 q8 q9 q10 q11 q12 q13 q14 : Nat) : [(b, .inr (11, [.ref q0, .ref q1, .ref q2, .int 0, .ref q3, .ref q4, .ref q5, .ref q6, .ref q7, .ref q8, .int 0, .ref q9, .ref q10, .ref q11, .ref q12, .ref q13, .int 0, .int 0, .int 0, .int 0, .ref q14])), (q0, .inl (G.2 0, 145, .inl (upd (upd (fun _ => 0) 135 (J 3)) 137 (J 4)))), (q1, .inl (G.2 0, 725, .inl (fun _ => 0))), (q2, .inl (G.2 0, 145, .inl (fun _ => 0))), (q3, .inl (G.2 0, 3, .inl (fun _ => 0))), (q4, .inl (G.2 0, 4, .inl (fun _ => 0))), (q5, .inl (G.2 0, 4, .inl (fun _ => 0))), (q6, .inl (G.2 0, 3, .inl (fun _ => 0))), (q7, .inl (G.2 0, 40, .inl (fun _ => 0))), (q8, .inl (G.2 0, 80, .inl (fun _ => 0))), (q9, .inl (G.2 0, 24, .inl (fun _ => 0))), (q10, .inl (G.2 0, 36, .inl (fun _ => 0))), (q11, .inl (G.2 0, 5, .inl (fun _ => 0))), (q12, .inl (G.2 0, 5, .inl (fun _ => 0))), (q13, .inl (G.2 0, 120, .inl (fun _ => 0))), (q14, .inl (G.2 0, 5, .inl (fun _ => 0)))] = Wo (moAA a b q0 q1 q2 q3 q4 q5 q6 q7 q8 q9 q10 q11 q12 q13 q14) G osMo := by
  have e : ∀ o ∈ osMo, moAA a b q0 q1 q2 q3 q4 q5 q6 q7 q8 q9 q10 q11 q12 q13 q14 o = moA a b q0 q1 q2 q3 q4 q5 q6 q7 q8 q9 q10 q11 q12 q13 q14 o := fun o ho => if_pos ho
  have hu : (upd (upd (fun _ => 0) 135 (J 3)) 137 (J 4) : Nat → Int32) = fun j : Nat => s00 (24, 0, 0) (j : Int) := funext fun j => (all0 j).trans (by simp [s00])
  rw [hu]
  unfold Wo
  rw [show (osMo.map fun o => (moAA a b q0 q1 q2 q3 q4 q5 q6 q7 q8 q9 q10 q11 q12 q13 q14 o, cell (moAA a b q0 q1 q2 q3 q4 q5 q6 q7 q8 q9 q10 q11 q12 q13 q14, G) o (s00 o))) = osMo.map fun o => (moA a b q0 q1 q2 q3 q4 q5 q6 q7 q8 q9 q10 q11 q12 q13 q14 o, cell (moA a b q0 q1 q2 q3 q4 q5 q6 q7 q8 q9 q10 q11 q12 q13 q14, G) o (s00 o)) from ?_]
  · rfl
  · refine List.map_congr_left fun o ho => ?_
    rw [e o ho]
    refine congrArg (fun z => (moA a b q0 q1 q2 q3 q4 q5 q6 q7 q8 q9 q10 q11 q12 q13 q14 o, z)) ?_
    simp only [osMo, List.mem_cons, List.mem_nil_iff, or_false] at ho
    rcases ho with h | h | h | h | h | h | h | h | h | h | h | h | h | h | h | h
    · subst h
      simp only [cell, a_Mo_all, a_Mo_past, a_Mo_aside, a_Mo_refused, a_Mo_upper, a_Mo_lower, a_Mo_counted, a_Mo_plainRow, a_Mo_formRow, a_Mo_far, a_Mo_between, a_Mo_bestRow, a_Mo_tried, a_Mo_text, a_Mo_numbers]
      rw [e _ (List.mem_of_getElem? (i := 1) rfl), e _ (List.mem_of_getElem? (i := 2) rfl), e _ (List.mem_of_getElem? (i := 3) rfl), e _ (List.mem_of_getElem? (i := 4) rfl), e _ (List.mem_of_getElem? (i := 5) rfl), e _ (List.mem_of_getElem? (i := 6) rfl), e _ (List.mem_of_getElem? (i := 7) rfl), e _ (List.mem_of_getElem? (i := 8) rfl), e _ (List.mem_of_getElem? (i := 9) rfl), e _ (List.mem_of_getElem? (i := 10) rfl), e _ (List.mem_of_getElem? (i := 11) rfl), e _ (List.mem_of_getElem? (i := 12) rfl), e _ (List.mem_of_getElem? (i := 13) rfl), e _ (List.mem_of_getElem? (i := 14) rfl), e _ (List.mem_of_getElem? (i := 15) rfl)]
    all_goals (subst h; rfl)
set_option maxHeartbeats 4000000 in
theorem n_Mo (a : u_O → Nat) (b : Nat) (w0 : va_W) : ConN l (XE (a0, G)) yX11_init cX11_init 1 1 20 15 1344 [.ref b] (w0 ++ [(b, .inr (11, [.null, .null, .null, .int 0, .null, .null, .null, .null, .null, .null, .int 0, .null, .null, .null, .null, .null, .int 0, .int 0, .int 0, .int 0, .null]))]) (PN a G osMo (23, 0, 0) b w0) := by
  refine ConN.of [some (.ref b)] (by decide +kernel) rfl rfl (Nat.le_of_ble_eq_true rfl) (fun K g gn => ?_)
  have g0 := g.wk
  refine r_aload_n g0 dX11_init_0 rfl ?_
  refine r_obj g0 obX11 ob_i ob_c ⟨Nat.le_refl _, Nat.le_refl _⟩ (Nat.le_of_ble_eq_true rfl) dX11_init_1 ?_
  refine mo_0 g0 b w0  (fun q0 => ?_)
  refine mo_1 g0 b w0 q0 (fun q1 => ?_)
  refine mo_2 g0 b w0 q0 q1 (fun q2 => ?_)
  refine mo_3 g0 b w0 q0 q1 q2 (fun q3 => ?_)
  refine mo_4 g0 b w0 q0 q1 q2 q3 (fun q4 => ?_)
  refine mo_5 g0 b w0 q0 q1 q2 q3 q4 (fun q5 => ?_)
  refine mo_6 g0 b w0 q0 q1 q2 q3 q4 q5 (fun q6 => ?_)
  refine mo_7 g0 b w0 q0 q1 q2 q3 q4 q5 q6 (fun q7 => ?_)
  refine mo_8 g0 b w0 q0 q1 q2 q3 q4 q5 q6 q7 (fun q8 => ?_)
  refine mo_9 g0 b w0 q0 q1 q2 q3 q4 q5 q6 q7 q8 (fun q9 => ?_)
  refine mo_10 g0 b w0 q0 q1 q2 q3 q4 q5 q6 q7 q8 q9 (fun q10 => ?_)
  refine mo_11 g0 b w0 q0 q1 q2 q3 q4 q5 q6 q7 q8 q9 q10 (fun q11 => ?_)
  refine mo_12 g0 b w0 q0 q1 q2 q3 q4 q5 q6 q7 q8 q9 q10 q11 (fun q12 => ?_)
  refine mo_13 g0 b w0 q0 q1 q2 q3 q4 q5 q6 q7 q8 q9 q10 q11 q12 (fun q13 => ?_)
  refine mo_14 g0 b w0 q0 q1 q2 q3 q4 q5 q6 q7 q8 q9 q10 q11 q12 q13 (fun q14 => ?_)
  refine mo_15 g0 b w0 q0 q1 q2 q3 q4 q5 q6 q7 q8 q9 q10 q11 q12 q13 q14 ?_
  refine r_vreturn g dX11_init_138 ⟨rfl, moAA a b q0 q1 q2 q3 q4 q5 q6 q7 q8 q9 q10 q11 q12 q13 q14, fun o ho => if_neg ho, ?_, ?_⟩
  · exact (if_pos (List.mem_of_getElem? (i := 0) rfl)).trans rfl
  · rw [mo_W a b q0 q1 q2 q3 q4 q5 q6 q7 q8 q9 q10 q11 q12 q13 q14]
end LEAVES4
