/-! reads -/
section READS
variable {s s' : u_S} {A : Int → Int} {H : Int → Int → Int} {n : Int} {T : Int → Int} {tl : Int} {c : Int → Int}
theorem rdo_def (o : u_O) : rdo o = (o = (12, 0, 0) ∨ o = (13, 1, 0) ∨ o = (13, 2, 0) ∨ o = (13, 3, 0)) := rfl
theorem CS.rdo (h : CS s A H n T tl c) (ho : Only rdo s s') (h4 : rd s' oR 4 = tl) : CS s' A H n T tl c := by
  have hne : ∀ o : u_O, o.1 ≠ 12 → o.1 ≠ 13 → ¬ (o = (12, 0, 0) ∨ o = (13, 1, 0) ∨ o = (13, 2, 0) ∨ o = (13, 3, 0)) := by
    intro o h1 h2 z
    rcases z with z | z | z | z <;> (rw [z] at h1 h2; simp at h1 h2)
  refine ⟨h.1.keep ho (fun o h1 h2 => ?_), ?_⟩
  · have := h1.2
    exact hne o (by omega) (by omega) h2
  · obtain ⟨⟨a1, a2⟩, b, d, e, f⟩ := h.2
    refine ⟨⟨h4, fun i x y => by rw [ho.rd (by simp [rdo_def])]; exact a2 i x y⟩, fun k x y => by rw [ho.rd (hne _ (by simp) (by simp))]; exact b k x y, by rw [ho.rd (hne _ (by simp) (by simp))]; exact d, by rw [ho.rd (hne _ (by simp) (by simp))]; exact e, fun j x y => ?_⟩
    rw [ho.rd (hne (10, 0, 0) (by simp) (by simp))]
    exact (f j x y).keep ho (fun o h1 h2 => hne o (by have := h1.2; omega) (by have := h1.2; omega) h2)
theorem rdo_clo (o : u_O) (h : rdo o) : clo o := by rcases h with h | h | h | h <;> subst h <;> simp [clo]
theorem MZ.same (h : MZ s H n T tl c) (h16 : rd s' oM 16 = rd s oM 16) (h3 : rd s' oM 3 = rd s oM 3) (ht : ∀ k, rd s' (24, 15, 0) k = rd s (24, 15, 0) k) (hr : ∀ k, rd s' (24, 4, 0) k = rd s (24, 4, 0) k) (hp : ∀ k, rd s' (24, 1, 0) k = rd s (24, 1, 0) k) : MZ s' H n T tl c :=
  ⟨⟨by rw [h16]; exact h.1.1, fun i a b => by rw [ht]; exact h.1.2 i a b⟩, fun k a b => by rw [hr]; exact h.2.1 k a b, by rw [h3]; exact h.2.2.1, fun j i a b x y => by rw [hp]; exact h.2.2.2 j i a b x y⟩
theorem MT.rq (h : MT s A H n T tl c) (hq : RQ s s') : MT s' A H n T tl c := ⟨h.1.keep hq.1 (by simp [mdn]), h.2.same (hq.2 16 (by omega) (by omega)) (hq.2 3 (by omega) (by omega)) (fun k => hq.1.rd (by simp [mdn]) k) (fun k => hq.1.rd (by simp [mdn]) k) (fun k => hq.1.rd (by simp [mdn]) k)⟩
theorem all_f (htl : tl ≤ 120) : ∀ (k : Nat) (p : Int), 0 ≤ p → p ≤ tl → (allP T tl k p).1 ≠ -1 → 0 ≤ (allP T tl k p).1 ∧ (allP T tl k p).1 ≤ tl
  | 0, p, h0, h1, h => absurd rfl h
  | k + 1, p, h0, h1, h => by
    have go := ord_go (T := T) htl h0 h1
    rw [allP] at h ⊢
    by_cases hok : (ordP T tl p).1 = -1
    · have g1 := go.1 hok
      have hsk := sk_b (T := T) htl (p := (ordP T tl p).2.1) (by omega) g1.2.1
      rw [if_pos hok] at h ⊢
      by_cases hq : sk T tl (ordP T tl p).2.1 < tl
      · rw [if_pos hq] at h ⊢
        exact all_f htl k _ (by omega) (by omega) h
      · rw [if_neg hq] at h
        exact absurd rfl h
    · rw [if_neg hok] at h ⊢
      have := go.2 hok
      dsimp only
      omega
theorem drop_cons {α : Type} {L : List α} (d : α) {i : Nat} (hi : i < L.length) : L.drop i = L.getD i d :: L.drop (i + 1) := by
  rw [List.drop_eq_getElem_cons hi, List.getD_eq_getElem?_getD, List.getElem?_eq_getElem hi]
  rfl
theorem e_cexec {L : List (Int × List Int)} (hok : ∀ o, o ∈ L → ordOK o) (kx : u_S → Option (Int × u_S)) : ∀ (k i m : Nat) (s : u_S) (A : Int → Int), i + k = L.length → k < m → CP s 0 A → WF A → RSD s L → ∃ s', Only (pob 0) s s' ∧ (∀ A', (exAll A i (L.drop i)).2 = some A' → f_X10_reads_L31 m kx oF (i : Int) s = kx s' ∧ CP s' 0 A') ∧ ((exAll A i (L.drop i)).2 = none → f_X10_reads_L31 m kx oF (i : Int) s = bd (f_X6_copyFrom (1, 0, 0) (1, 1, 0) s') (fun r_5 s_7 => some ((wr ((-1000) - (exAll A i (L.drop i)).1)), s_7)))
  | 0, i, m, s, A, h1, h2, h3, h4, h5 => by
    cases m with
    | zero => omega
    | succ m =>
      have : i = L.length := by omega
      subst this
      rw [List.drop_length, exAll, f_X10_reads_L31, show a_FP_text oF = oR from rfl, h5.1.1, if_neg (by omega)]
      exact ⟨s, Only.refl _ _, fun A' h => ⟨rfl, by cases h; exact h3⟩, fun h => by cases h⟩
  | k + 1, i, m, s, A, h1, h2, h3, h4, h5 => by
    cases m with
    | zero => omega
    | succ m =>
      have hi : i < L.length := by omega
      have hlen := h5.2.2.2.1
      have hmem : L.getD i (0, []) ∈ L := by
        rw [List.getD_eq_getElem?_getD, List.getElem?_eq_getElem hi]
        exact List.getElem_mem hi
      obtain ⟨s1, x1, x2, x3⟩ := e_isDone h3 h4 h5 hi (hok _ hmem)
      rw [drop_cons (0, []) hi, exAll, f_X10_reads_L31, show a_FP_text oF = oR from rfl, h5.1.1, if_pos (by omega), x1, bd_eq]
      cases he : exO A (L.getD i (0, [])).1 (L.getD i (0, [])).2 with
      | none =>
        dsimp only
        refine ⟨s1, x2, ?_, ?_⟩
        · intro A' h
          cases h
        · intro _
          rw [if_neg (show ¬ (none : Option (Int → Int)).isSome = true by simp), if_pos rfl]
          rfl
      | some B =>
        dsimp only
        obtain ⟨s2, y1, y2, y3⟩ := e_cexec hok kx k (i + 1) m s1 B (by omega) (by omega) (x3 B he) (exO_WF h4 he) (h5.keep x2 pob_12)
        rw [if_pos (show (some B).isSome = true from rfl), if_neg (by omega), wr_of (x := (i : Int) + 1) (by omega) (by omega)]
        exact ⟨s2, x2.trans y1, y2, y3⟩
theorem call_reads : Call (f_X10_reads oF) (f_X11_reads oM) := by
  intro A H n T tl c hw
  have htl := hw.2.2.2.1
  have hT := hw.2.2.2.2.1
  have hn := hw.2.1
  by_cases hf : (allP T tl 122 0).1 = -1
  · have hok := all_ok (T := T) htl 122 0 (by omega) htl.1 hf
    have hlen := all_len (T := T) htl.2 122 0 (by omega) htl.1
    have hsk0 : sk T tl 0 < tl := by
      have go := ord_go (T := T) htl.2 (p := 0) (by omega) htl.1
      by_cases ho : (ordP T tl 0).1 = -1
      · exact (go.1 ho).2.2.1
      · rw [allP, if_neg ho] at hf
        exact absurd hf ho
    have hxn := exAll_n (allP T tl 122 0).2 (A := A) (n := 0)
    -- the class, up to its last step
    have cls : ∀ s, CS s A H n T tl c → ∃ s2 s3, Only clo s s2 ∧ CS s2 A H n T tl c ∧ CP s2 1 A ∧ Only (pob 0) s2 s3 ∧ rd s2 oR 5 = ((allP T tl 122 0).2.length : Int) ∧ (∀ A', (exAll A 0 (allP T tl 122 0).2).2 = some A' → f_X10_reads oF s = bd (f_X10_settled oF (rd s3 oR 5) s3) (fun r_3 s_4 => some (r_3, s_4)) ∧ CP s3 0 A') ∧ ((exAll A 0 (allP T tl 122 0).2).2 = none → f_X10_reads oF s = bd (f_X6_copyFrom (1, 0, 0) (1, 1, 0) s3) (fun r_5 s_7 => some ((wr ((-1000) - (exAll A 0 (allP T tl 122 0).2).1)), s_7))) := by
      intro s hs
      obtain ⟨s1, x1, x2, x3, x4⟩ := e_cparse htl hT (s := s) hs.2.1
      obtain ⟨q, y1, y2⟩ := x4 hf
      have cs1 := hs.rdo x3 x2
      obtain ⟨s2, a1, a2, a3⟩ := e_planCopy (p := 1) (q := 0) (by decide) cs1.1 hw.1
      have cs2 : CS s2 A H n T tl c := ⟨cs1.1.keep a2 (fun o a b => by have := a.1; have := b.1; omega), cs1.2.keep a2 (fun o h => Or.inr (Or.inr (Or.inl h)))⟩
      have ry := y1.2.2.2 rfl
      have hpl := y1.2.1
      have rs1 : RSD s1 (allP T tl 122 0).2 := ⟨y2, ry.2.1, ry.2.2.2, by omega, by
        have h1 := ry.1
        have h2 := ry.2.2.1
        dsimp only at h1 h2
        omega⟩
      have rs2 := rs1.keep a2 pob_12
      obtain ⟨s3, b1, b2, b3⟩ := e_cexec hok (fun s_3 => bd (f_X10_settled oF (rd s_3 (a_FP_text oF) 5) s_3) (fun r_3 s_4 => some (r_3, s_4))) (allP T tl 122 0).2.length 0 FU s2 A (by omega) (by unfold FU; omega) cs2.1 hw.1 rs2
      rw [List.drop_zero] at b2 b3
      have e0 : f_X10_reads oF s = f_X10_reads_L31 FU (fun s_3 => bd (f_X10_settled oF (rd s_3 (a_FP_text oF) 5) s_3) (fun r_3 s_4 => some (r_3, s_4))) oF 0 s2 := by
        unfold f_X10_reads
        rw [show a_FP_text oF = oR from rfl, x1, bd_eq, if_pos hf, show a_FP_before oF = (1, 1, 0) from rfl, show a_FP_plan oF = (1, 0, 0) from rfl, a1, bd_eq]
      exact ⟨s2, s3, (x3.mono rdo_clo).trans (a2.mono (fun o h => pob_clo o h)), cs2, a3, b1, rs2.1.1, fun A' h => ⟨e0.trans (b2 A' h).1, (b2 A' h).2⟩, fun h => e0.trans (b3 h)⟩
    -- the model, up to its last step
    have mdl : ∀ s, MT s A H n T tl c → ∃ s2 s3, Only mdo s s2 ∧ MT s2 A H n T tl c ∧ (∀ i : Int, 0 ≤ i → i < 145 → rd s2 (24, 2, 0) i = A i) ∧ XS 1 s2 s3 (exAll A 0 (allP T tl 122 0).2).2 ∧ ((exAll A 0 (allP T tl 122 0).2).2.isSome = true → f_X11_reads oM s = bd (f_X11_keepsAside oM s3) (fun r_2 s_5 => some ((exAll A 0 (allP T tl 122 0).2).1, s_5))) ∧ ((exAll A 0 (allP T tl 122 0).2).2 = none → f_X11_reads oM s = f_X11_reads_L106 FU (fun s_9 => some ((wr ((-1000) - (exAll A 0 (allP T tl 122 0).2).1)), s_9)) oM (exAll A 0 (allP T tl 122 0).2).1 0 s3) := by
      intro s hs
      have m0 : MPl T tl (wt s oM 17 0) 0 := ⟨MB.rq (T := T) (tl := tl) (s := s) ⟨hs.2.1.1, hs.2.1.2⟩ (RQm.wt17 s 0).rq, by rw [rd_wt_same]; rfl⟩
      obtain ⟨s1, x1, x2, x3⟩ := e_mpass1 htl hT (s0 := s) (fun v1_1 s_2 => if v1_1 = 0 then (some ((wr ((-10) - (rd s_2 oM 17))), s_2)) else (f_X11_reads_L46 FU (fun s_3 => f_X11_reads_L83 FU (fun v2_1 s_4 => bd (f_X11_keepsAside oM s_4) (fun r_2 s_5 => some (v2_1, s_5))) oM 0 (wt (wt s_3 oM 17 0) oM 19 0)) oM 0 s_2)) 122 FU (wt s oM 17 0) 0 (FU_gt (by omega)) m0 (by omega) htl.1 (by omega) (RQm.wt17 s 0).rq
      rw [if_pos hf, if_neg (by omega)] at x1
      have mt1 := hs.rq x2
      obtain ⟨s2, a1, a2, a3⟩ := e_cp46 (s := s1) 0 (fun s_3 => f_X11_reads_L83 FU (fun v2_1 s_4 => bd (f_X11_keepsAside oM s_4) (fun r_2 s_5 => some (v2_1, s_5))) oM 0 (wt (wt s_3 oM 17 0) oM 19 0))
      have mt2 : MT s2 A H n T tl c := ⟨mt1.1.keep a2 (by simp), mt1.2.keep a2 (by simp) (by simp) (by simp) (by simp)⟩
      have rq3 : RQ s2 (wt s2 oM 17 0) := (RQm.wt17 s2 0).rq
      have mt3 := mt2.rq rq3
      have xs : XS 1 s2 (wt (wt s2 oM 17 0) oM 19 0) (some A) := ⟨fun z => absurd z (by omega), fun _ => ⟨((Only.refl mdx s2).wt (Or.inl (Or.inl rfl)) _ _).wt (Or.inl (Or.inl rfl)) _ _, fun k k1 k2 k3 => by rw [rd_wt_k k3, rd_wt_k k1], fun B hB => by
        cases hB
        exact ⟨w19_MR mt3.1 0, hw.1, by rw [rd_wt_same]; rfl⟩, fun h => by cases h⟩⟩
      have m3 : MPl T tl (wt (wt s2 oM 17 0) oM 19 0) 0 := by
        have : MPl T tl (wt s2 oM 17 0) 0 := ⟨⟨mt3.2.1.1, mt3.2.1.2⟩, by rw [rd_wt_same]; rfl⟩
        exact this.xt (XT.wt _ 0)
      obtain ⟨s3, b1, b2, b3⟩ := e_mpass2 htl hT (fun v2_1 s_4 => bd (f_X11_keepsAside oM s_4) (fun r_2 s_5 => some (v2_1, s_5))) 122 FU (wt (wt s2 oM 17 0) oM 19 0) 0 0 A (FU_gt (by omega)) m3 (by omega) htl.1 (by omega) hsk0 hf xs (by omega) (by omega)
      have e0 : f_X11_reads oM s = f_X11_reads_L83 FU (fun v2_1 s_4 => bd (f_X11_keepsAside oM s_4) (fun r_2 s_5 => some (v2_1, s_5))) oM 0 (wt (wt s2 oM 17 0) oM 19 0) := by
        unfold f_X11_reads
        exact x1.trans a1
      have omd : Only mdo s s2 := (x2.1.mono (fun o h => by rcases h with h | h <;> subst h <;> simp [mdo])).trans (a2.mono (fun o h => by subst h; simp [mdo]))
      refine ⟨s2, s3, omd, mt2, fun i a b => by rw [a3 i a b]; exact mt1.1 i a b, b1, fun h => e0.trans (b2 h), fun h => e0.trans (b3 h)⟩
    cases hx : (exAll A 0 (allP T tl 122 0).2).2 with
    | none =>
      refine ⟨-1000 - (exAll A 0 (allP T tl 122 0).2).1, A, H, n, T, tl, c, hw, fun s hs => ?_, fun s hs => ?_⟩
      · obtain ⟨s2, s3, x1, x2, x3, x4, x5, x6, x7⟩ := cls s hs
        have c1 : CP s3 1 A := x3.keep x4 (fun o a b => by have := a.1; have := b.1; omega)
        obtain ⟨s4, a1, a2, a3⟩ := e_planCopy (p := 0) (q := 1) (by decide) c1 hw.1
        refine ⟨s4, ?_, ⟨a3, (x2.2.keep x4 (fun o h => Or.inr (Or.inl h))).keep a2 (fun o h => Or.inr (Or.inl h))⟩, (x1.trans (x4.mono (fun o h => pob_clo o h))).trans (a2.mono (fun o h => pob_clo o h))⟩
        rw [x7 hx, a1, bd_eq, wr_of (by omega) (by omega)]
      · obtain ⟨s2, s3, x1, x2, x3, x4, x5, x6⟩ := mdl s hs
        rw [hx] at x4
        obtain ⟨o3, f3, _, _⟩ := x4.2 (by omega)
        obtain ⟨s4, a1, a2, a3⟩ := e_cp106 (s := s3) (exAll A 0 (allP T tl 122 0).2).1 (fun s_9 => some ((wr ((-1000) - (exAll A 0 (allP T tl 122 0).2).1)), s_9))
        have mz : MZ s4 H n T tl c := (x2.2.same (s' := s3) (f3 16 (by omega) (by omega) (by omega)) (f3 3 (by omega) (by omega) (by omega)) (fun k => o3.rd (by simp [mdx, mdn, mal]) k) (fun k => o3.rd (by simp [mdx, mdn, mal]) k) (fun k => o3.rd (by simp [mdx, mdn, mal]) k)).keep a2 (by simp [mal]) (by simp [mal]) (by simp [mal]) (by simp [mal])
        refine ⟨s4, ?_, ⟨fun i a b => ?_, mz⟩, (x1.trans (o3.mono (fun o h => by rcases h with (h | h) | h <;> subst h <;> simp [mdo]))).trans (a2.mono (fun o h => mal_mdo o h))⟩
        · rw [x6 hx, a1, wr_of (by omega) (by omega)]
        · rw [a3 i a b, o3.rd (by simp [mdx, mdn, mal]), x3 i a b]
    | some A' =>
      have hpair : exAll A 0 (allP T tl 122 0).2 = ((exAll A 0 (allP T tl 122 0).2).1, some A') := by rw [← hx]
      have hWF' := exAll_WF _ hw.1 hpair
      have hnl := exAll_len _ hpair
      rw [Int.zero_add] at hnl
      refine ⟨((allP T tl 122 0).2.length : Int), A', push A H, min (n + 1) 5, T, tl, c, hw.push hWF', fun s hs => ?_, fun s hs => ?_⟩
      · obtain ⟨s2, s3, x1, x2, x3, x4, x5, x6, x7⟩ := cls s hs
        have c1 : CP s3 1 A := x3.keep x4 (fun o a b => by have := a.1; have := b.1; omega)
        have r3 := x2.2.keep x4 (fun o h => Or.inr (Or.inl h))
        have h5 : rd s3 oR 5 = ((allP T tl 122 0).2.length : Int) := by rw [x4.rd (by simp [pob])]; exact x5
        obtain ⟨s4, k1, k2, k3⟩ := e_keep c1 hw.1 r3 hn
        have hob_clo : ∀ o, hob o → clo o := by
          intro o h
          rcases h with h | ⟨q, _, _, h⟩
          · subst h; simp [clo]
          · exact pob_clo o h
        refine ⟨s4, ?_, ⟨(x6 A' hx).2.keep k2 (fun o h z => ?_), k3⟩, (x1.trans (x4.mono (fun o h => pob_clo o h))).trans (k2.mono hob_clo)⟩
        · rw [(x6 A' hx).1, h5, f_X10_settled, if_neg (by omega), show a_FP_history oF = (10, 0, 0) from rfl, show a_FP_before oF = (1, 1, 0) from rfl, k1, bd_eq, bd_eq]
        · rcases z with z | ⟨q, e1, e2, z⟩
          · subst z; simp [pob] at h
          · have := h.1; have := z.1; omega
      · obtain ⟨s2, s3, x1, x2, x3, x4, x5, x6⟩ := mdl s hs
        rw [hx] at x4
        obtain ⟨o3, f3, c3, _⟩ := x4.2 (by omega)
        obtain ⟨hm3, _, _⟩ := c3 A' rfl
        have mz3 : MZ s3 H n T tl c := x2.2.same (f3 16 (by omega) (by omega) (by omega)) (f3 3 (by omega) (by omega) (by omega)) (fun k => o3.rd (by simp [mdx, mdn, mal]) k) (fun k => o3.rd (by simp [mdx, mdn, mal]) k) (fun k => o3.rd (by simp [mdx, mdn, mal]) k)
        obtain ⟨s4, a1, a2, a3⟩ := e_swap (s := s3) (fun s_1 => bd (f_X11_keep oM s_1) (fun r_1 s_2 => f_X11_keepsAside_L47 FU (fun s_3 => some (0, s_3)) oM 0 s_2))
        have mz4 : MZ s4 H n T tl c := mz3.keep a2 (by simp [swo]) (by simp [swo]) (by simp [swo]) (by simp [swo])
        have hm4 : MR s4 A := fun i a b => by rw [(a3 i a b).1, o3.rd (by simp [mdx, mdn, mal])]; exact x3 i a b
        obtain ⟨s5, b1, b2, b3⟩ := e_mkeep hm4 mz4 hn
        obtain ⟨s6, d1, d2, d3⟩ := e_cp47 (s := s5) (fun s_3 => some (0, s_3))
        have eka : f_X11_keepsAside oM s3 = some (0, s6) := by
          unfold f_X11_keepsAside
          rw [a1, b1, bd_eq, d1]
        refine ⟨s6, ?_, ⟨fun i a b => ?_, b3.keep d2 (by simp [mal]) (by simp [mal]) (by simp [mal]) (by simp [mal])⟩, ((x1.trans (o3.mono (fun o h => by rcases h with (h | h) | h <;> subst h <;> simp [mdo]))).trans (a2.mono (fun o h => by rcases h with h | h <;> subst h <;> simp [mdo]))).trans ((b2.mono (fun o h => by rcases h with h | h <;> subst h <;> simp [mdo])).trans (d2.mono (fun o h => mal_mdo o h)))⟩
        · rw [x5 (by rw [hx]; rfl), eka, bd_eq, hnl]
        · rw [d3 i a b, b2.rd (by simp [kob]), (a3 i a b).2]
          exact hm3 i a b
  · have hb := all_f (T := T) htl.2 122 0 (by omega) htl.1 hf
    refine ⟨-10 - (allP T tl 122 0).1, A, H, n, T, tl, c, hw, fun s hs => ?_, fun s hs => ?_⟩
    · obtain ⟨s1, x1, x2, x3, x4⟩ := e_cparse htl hT (s := s) hs.2.1
      refine ⟨s1, ?_, hs.rdo x3 x2, x3.mono rdo_clo⟩
      unfold f_X10_reads
      rw [show a_FP_text oF = oR from rfl, x1, bd_eq, if_neg hf, wr_of (by omega) (by omega)]
    · have m0 : MPl T tl (wt s oM 17 0) 0 := ⟨MB.rq (T := T) (tl := tl) (s := s) ⟨hs.2.1.1, hs.2.1.2⟩ (RQm.wt17 s 0).rq, by rw [rd_wt_same]; rfl⟩
      obtain ⟨s1, x1, x2, x3⟩ := e_mpass1 htl hT (s0 := s) (fun v1_1 s_2 => if v1_1 = 0 then (some ((wr ((-10) - (rd s_2 oM 17))), s_2)) else (f_X11_reads_L46 FU (fun s_3 => f_X11_reads_L83 FU (fun v2_1 s_4 => bd (f_X11_keepsAside oM s_4) (fun r_2 s_5 => some (v2_1, s_5))) oM 0 (wt (wt s_3 oM 17 0) oM 19 0)) oM 0 s_2)) 122 FU (wt s oM 17 0) 0 (FU_gt (by omega)) m0 (by omega) htl.1 (by omega) (RQm.wt17 s 0).rq
      rw [if_neg hf, if_pos rfl, x3 hf, wr_of (by omega) (by omega)] at x1
      exact ⟨s1, x1, hs.rq x2, x2.1.mono (fun o h => by rcases h with h | h <;> subst h <;> simp [mdo])⟩
end READS
