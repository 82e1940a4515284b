/-! SOUNDS of the class: what form lays, what is heard -/
theorem loop_rel {β α : Type} (L : Nat → β → Option α) (I : Nat → β → Prop) (X : β → Option α) (n : Nat) (hs : ∀ j b m, j < n → I j b → ∃ b', L (m + 1) b = L m b' ∧ I (j + 1) b') (he : ∀ b m, I n b → L (m + 1) b = X b) : ∀ (k j m : Nat) (b : β), j + k = n → k < m → I j b → ∃ b', L m b = X b' ∧ I n b'
  | 0, j, m, b, h1, h2, h3 => by
    cases m with
    | zero => omega
    | succ m =>
      have : j = n := by omega
      subst this
      exact ⟨b, he b m h3, h3⟩
  | k + 1, j, m, b, h1, h2, h3 => by
    cases m with
    | zero => omega
    | succ m =>
      obtain ⟨b', e1, h4⟩ := hs j b m (by omega) h3
      obtain ⟨b2, e2, h5⟩ := loop_rel L I X n hs he k (j + 1) m b' (by omega) (by omega) h4
      exact ⟨b2, e1.trans e2, h5⟩
theorem loop_relfu {β α : Type} (L : Nat → β → Option α) (I : Nat → β → Prop) (X : β → Option α) (n : Nat) (hn : n < 100000) (hs : ∀ j b m, j < n → I j b → ∃ b', L (m + 1) b = L m b' ∧ I (j + 1) b') (he : ∀ b m, I n b → L (m + 1) b = X b) (b : β) (h0 : I 0 b) : ∃ b', L FU b = X b' ∧ I n b' :=
  loop_rel L I X n hs he n 0 FU b (by omega) (FU_gt hn) h0
theorem sm_front (f : Int → Int) : ∀ n : Nat, sm f (n + 1) = f 0 + sm (fun i => f (i + 1)) n
  | 0 => by simp [sm]
  | n + 1 => by
    show sm f (n + 1) + f (n + 1 : Nat) = f 0 + (sm (fun i => f (i + 1)) n + f ((n : Int) + 1))
    rw [sm_front f n]
    have : ((n + 1 : Nat) : Int) = (n : Int) + 1 := by omega
    rw [this]
    omega
theorem sm_rev (g : Int → Int) : ∀ n : Nat, sm (fun i => g ((n : Int) - 1 - i)) n = sm g n
  | 0 => rfl
  | n + 1 => by
    rw [sm_front]
    show g (((n + 1 : Nat) : Int) - 1 - 0) + _ = sm g n + g n
    rw [← sm_rev g n, show ((n + 1 : Nat) : Int) - 1 - 0 = n by omega, Int.add_comm]
    congr 1
    exact sm_congr (fun i h1 h2 => by congr 1; omega)
theorem sm_twice (g : Int → Int) : ∀ n : Nat, sm (fun i => 2 * g i) n = 2 * sm g n
  | 0 => rfl
  | n + 1 => by
    show sm (fun i => 2 * g i) n + 2 * g n = 2 * (sm g n + g n)
    rw [sm_twice g n]
    omega
def totA (A : Int → Int) (l f : Int) : Int := sm (ftkA A l f) (cntA A l).toNat
theorem tot_last (A : Int → Int) (l f : Int) (h : 0 ≤ cntA A l) : totA A l f = lastA A l f := by
  unfold totA lastA lenA
  by_cases f3 : f = 3
  · subst f3
    rw [if_neg (by decide), ← sm_rev (tckA A l)]
    exact sm_congr (fun i h1 h2 => by rw [ftkA, if_pos rfl, Int.toNat_of_nonneg h])
  · by_cases f4 : f = 4
    · subst f4
      rw [if_pos rfl, ← sm_twice]
      exact sm_congr (fun i h1 h2 => by rw [ftkA, if_neg (by decide), if_pos rfl])
    · rw [if_neg f4]
      exact sm_congr (fun i h1 h2 => by rw [ftkA, if_neg f3, if_neg f4])
theorem sndR_at {st tk : Int → Int} {t : Int} {N : Nat} (hp : ∀ i : Int, 0 ≤ i → i < N → 0 ≤ tk i) {q : Nat} (hq : q < N) (h1 : sm tk q ≤ t) (h2 : t < sm tk (q + 1)) : ∀ (n k : Nat), k + n = N → k ≤ q → sndR st tk t n k (sm tk k) = st q
  | 0, k, e, hk => by omega
  | n + 1, k, e, hk => by
    rw [sndR]
    by_cases hkq : k = q
    · subst hkq
      rw [if_pos (show t < sm tk k + tk k from h2)]
    · have hm : sm tk (k + 1) ≤ sm tk q := sm_mono (n := q) (fun i a b => hp i a (by omega)) (by omega)
      rw [if_neg (by show ¬ t < sm tk (k + 1); omega)]
      have := sndR_at (st := st) hp hq h1 h2 n (k + 1) (by omega) (by omega)
      rw [show ((k : Int) + 1) = ((k + 1 : Nat) : Int) by omega]
      exact this
theorem sndR_out {st tk : Int → Int} {t : Int} {N : Nat} (hp : ∀ i : Int, 0 ≤ i → i < N → 0 ≤ tk i) (h1 : sm tk N ≤ t) : ∀ (n k : Nat), k + n = N → sndR st tk t n k (sm tk k) = -1000
  | 0, k, e => rfl
  | n + 1, k, e => by
    rw [sndR]
    have hm : sm tk (k + 1) ≤ sm tk N := sm_mono (n := N) (fun i a b => hp i a (by omega)) (by omega)
    rw [if_neg (by show ¬ t < sm tk (k + 1); omega)]
    have := sndR_out (st := st) hp h1 n (k + 1) (by omega)
    rw [show ((k : Int) + 1) = ((k + 1 : Nat) : Int) by omega]
    exact this
theorem snd_at {A : Int → Int} {l f t : Int} (hw : WL A l) {q : Nat} (hq : (q : Int) < cntA A l) (h1 : sm (ftkA A l f) q ≤ t) (h2 : t < sm (ftkA A l f) (q + 1)) : SND A l f t = fstA A l f q := by
  have hc := hw.1
  exact sndR_at (N := (cntA A l).toNat) (fun i a b => by have := ftk_b hw (f := f) a (show i < cntA A l by omega); omega) (by omega) h1 h2 _ 0 (by omega) (by omega)
theorem snd_out {A : Int → Int} {l f t : Int} (hw : WL A l) (h1 : totA A l f ≤ t) : SND A l f t = -1000 := by
  have hc := hw.1
  exact sndR_out (N := (cntA A l).toNat) (fun i a b => by have := ftk_b hw (f := f) a (show i < cntA A l by omega); omega) h1 _ 0 (by omega)
theorem sm_find {tk : Int → Int} {t : Int} : ∀ {N : Nat}, 0 ≤ t → t < sm tk N → ∃ q : Nat, q < N ∧ sm tk q ≤ t ∧ t < sm tk (q + 1)
  | 0, h0, h1 => by simp [sm] at h1; omega
  | N + 1, h0, h1 => by
    by_cases h : t < sm tk N
    · obtain ⟨q, a, b, c⟩ := sm_find h0 h
      exact ⟨q, by omega, b, c⟩
    · exact ⟨N, by omega, by omega, h1⟩
theorem snd_in {A : Int → Int} {l f t : Int} (hw : WL A l) (h0 : 0 ≤ t) (h1 : t < totA A l f) : -27 ≤ SND A l f t ∧ SND A l f t ≤ 54 := by
  have hc := hw.1
  obtain ⟨q, a, b, c⟩ := sm_find h0 h1
  rw [snd_at hw (q := q) (by omega) b c]
  exact fst_b hw (by omega) (by omega)
theorem sm_ftk {A : Int → Int} {l : Int} (hw : WL A l) (f : Int) {n : Nat} (hn : (n : Int) ≤ cntA A l) : (n : Int) ≤ sm (ftkA A l f) n ∧ sm (ftkA A l f) n ≤ 80 := by
  have h1 := sm_ge (f := ftkA A l f) (b := 1) (n := n) (fun i h1 h2 => by have := ftk_b hw (f := f) h1 (show i < cntA A l by omega); omega)
  have h2 := sm_le (f := ftkA A l f) (b := 8) (n := n) (fun i h1 h2 => by have := ftk_b hw (f := f) h1 (show i < cntA A l by omega); omega)
  have h3 := hw.1
  omega
theorem tot_b {A : Int → Int} {l : Int} (hw : WL A l) (f : Int) : 0 ≤ totA A l f ∧ totA A l f ≤ 80 := by
  have := sm_ftk hw f (n := (cntA A l).toNat) (by have := hw.1; omega)
  unfold totA
  omega
/-- nothing but what P says is changed -/
def Only (P : u_O → Prop) (s s' : u_S) : Prop := ∀ o, ¬ P o → s' o = s o
theorem Only.rd {P : u_O → Prop} {s s' : u_S} (h : Only P s s') {o : u_O} (ho : ¬ P o) (k : Int) : rd s' o k = rd s o k := by
  show (s' o k).toInt = (s o k).toInt
  rw [h o ho]
theorem Only.refl (P : u_O → Prop) (s : u_S) : Only P s s := fun _ _ => rfl
theorem Only.trans {P : u_O → Prop} {s s' s2 : u_S} (h : Only P s s') (h2 : Only P s' s2) : Only P s s2 := fun o ho => (h2 o ho).trans (h o ho)
theorem Only.mono {P Q : u_O → Prop} {s s' : u_S} (h : Only P s s') (hq : ∀ o, P o → Q o) : Only Q s s' := fun o ho => h o (fun z => ho (hq o z))
theorem Only.wt {P : u_O → Prop} {s s' : u_S} (h : Only P s s') {o : u_O} (ho : P o) (k v : Int) : Only P s (wt s' o k v) := fun o' ho' => by
  rw [wt_ne o' (fun z => ho' (z ▸ ho))]
  exact h o' ho'
def sndo (j : Nat) (o : u_O) : Prop := o = (14, j, 0) ∨ o = (15, j, 0)
section SOUND
variable {s : u_S} {A : Int → Int} {l f m : Int} {p j : Nat}
theorem e_append {L x n : Int} (hL : rd s (14, j, 0) 1 = L) (h0 : 0 ≤ L) (hn : 0 ≤ n) (h80 : L + n ≤ 80) (hx : InR x) : ∃ s', f_X8_append (14, j, 0) x n s = some (0, s') ∧ Only (sndo j) s s' ∧ rd s' (14, j, 0) 1 = L + n ∧ (∀ t, 0 ≤ t → t < L → rd s' (15, j, 0) t = rd s (15, j, 0) t) ∧ (∀ t, L ≤ t → t < L + n → rd s' (15, j, 0) t = x) := by
  unfold f_X8_append
  obtain ⟨b, e, i1, i2, i3, i4, i5⟩ := loop_relfu (fun m (b : Int × u_S) => f_X8_append_L2 m (fun s_1 => some (0, s_1)) (14, j, 0) x n b.1 b.2) (fun i b => b.1 = i ∧ Only (sndo j) s b.2 ∧ rd b.2 (14, j, 0) 1 = L + i ∧ (∀ t, 0 ≤ t → t < L → rd b.2 (15, j, 0) t = rd s (15, j, 0) t) ∧ (∀ t, L ≤ t → t < L + i → rd b.2 (15, j, 0) t = x)) (fun b => some (0, b.2)) n.toNat (by omega) (by
      intro i b m hi ⟨e1, e2, e3, e4, e5⟩
      obtain ⟨b1, b2⟩ := b
      dsimp only at e1 e2 e3 e4 e5
      subst e1
      refine ⟨(wr ((i : Int) + 1), _), by dsimp only; rw [f_X8_append_L2, if_pos (by omega), e3, if_pos (by omega), gd_of (by omega) (by omega)], by dsimp only; rw [wr_of (by omega) (by omega)]; omega, ?_, ?_, ?_, ?_⟩
      · exact (e2.wt (Or.inr rfl) _ _).wt (Or.inl rfl) _ _
      · dsimp only
        rw [rd_wt_same, rd_wt_o (by simp [a_Sound_steps]), e3, wr_of (x := L + (i : Int) + 1) (by omega) (by omega), wr_of (by omega) (by omega)]
        omega
      · intro t a c
        dsimp only
        rw [rd_wt_o (by simp), rd_wt_k (by omega)]
        exact e4 t a c
      · intro t a c
        dsimp only
        rw [rd_wt_o (by simp)]
        by_cases ht : t = L + i
        · subst ht
          show rd (wt b2 (15, j, 0) _ _) _ _ = x
          rw [rd_wt_same, wr_in hx]
        · rw [rd_wt_k (by omega)]
          exact e5 t a (by omega)) (by
      intro b m ⟨e1, e2, e3, e4, e5⟩
      rw [f_X8_append_L2, if_neg (by omega)]) (0, s) ⟨rfl, Only.refl _ _, by simpa using hL, fun _ _ _ => rfl, fun t a b => by simp at b; omega⟩
  exact ⟨b.2, e, i2, by rw [i3]; omega, i4, fun t a c => i5 t a (by omega)⟩
/-- a sound object as laid by form -/
def SF (s : u_S) (j : Nat) (A : Int → Int) (l f m : Int) : Prop := rd s (14, j, 0) 1 = totA A l f ∧ ∀ t, 0 ≤ t → t < totA A l f → rd s (15, j, 0) t = SND A l f t + m
theorem e_form (hr : LR s (3, p, l.toNat) A l) (hw : WL A l) (h0 : 0 ≤ l) (h1 : l ≤ 3) (ht : 0 ≤ A 136 ∧ A 136 ≤ 6) (hh : rd s (1, p, 0) 4 = A 135) (hto : rd s (1, p, 0) 5 = A 136) (hm : -40 ≤ m ∧ m ≤ 40) (f : Int) : ∃ s', f_X6_form (1, p, 0) (14, j, 0) l f m s = some (0, s') ∧ Only (sndo j) s s' ∧ SF s' j A l f m := by
  unfold f_X6_form
  have hc := hw.1
  rw [e_isLine, bd_eq, if_pos (show 0 ≤ l ∧ l ≤ 3 by omega), if10, gd_of (by omega) (by omega)]
  have keep : ∀ s1, Only (sndo j) s s1 → LR s1 (3, p, l.toNat) A l ∧ rd s1 (1, p, 0) 4 = A 135 ∧ rd s1 (1, p, 0) 5 = A 136 := by
    intro s1 h
    refine ⟨⟨by rw [h.rd (by simp [sndo])]; exact hr.1, fun i a b => ?_⟩, by rw [h.rd (by simp [sndo])]; exact hh, by rw [h.rd (by simp [sndo])]; exact hto⟩
    rw [h.rd (by simp [sndo, a_Line_steps]), h.rd (by simp [sndo, a_Line_ticks])]
    exact hr.2 i a b
  obtain ⟨b, e, i1, i2, i3, i4⟩ := loop_relfu (fun n (b : Int × u_S) => f_X6_form_L24 n (fun s_2 => some (0, s_2)) (1, p, 0) (14, j, 0) f m (3, p, l.toNat) b.1 b.2) (fun i b => b.1 = i ∧ Only (sndo j) s b.2 ∧ rd b.2 (14, j, 0) 1 = sm (ftkA A l f) i ∧ ∀ t, 0 ≤ t → t < sm (ftkA A l f) i → rd b.2 (15, j, 0) t = SND A l f t + m) (fun b => some (0, b.2)) (cntA A l).toNat (by omega) (by
      intro i b n hi ⟨e1, e2, e3, e4⟩
      obtain ⟨b1, b2⟩ := b
      dsimp only at e1 e2 e3 e4
      subst e1
      obtain ⟨k1, k2, k3⟩ := keep b2 e2
      have q1 := sm_ftk hw f (n := i) (by omega)
      have q2 := sm_ftk hw f (n := i + 1) (by omega)
      have q3 := fst_b hw (f := f) (i := (i : Int)) (by omega) (by omega)
      have q4 := ftk_b hw (f := f) (i := (i : Int)) (by omega) (by omega)
      have q5 : sm (ftkA A l f) (i + 1) = sm (ftkA A l f) i + ftkA A l f i := rfl
      obtain ⟨s', a1, a2, a3, a4, a5⟩ := e_append (s := b2) (j := j) (x := wr (fstA A l f i + m)) e3 (by omega) (show 0 ≤ ftkA A l f i by omega) (by omega) (InR_wr _)
      refine ⟨(wr ((i : Int) + 1), s'), ?_, by dsimp only; rw [wr_of (by omega) (by omega)]; omega, e2.trans a2, a3, ?_⟩
      · dsimp only
        rw [f_X6_form_L24, k1.1, if_pos (by omega), k2, k3, e_formedStep k1 hw (by omega) (by omega) ht, bd_eq, e_formedTicks k1 hw (by omega) (by omega), bd_eq, a1, bd_eq]
      · intro t c1 c2
        dsimp only
        by_cases hlt : t < sm (ftkA A l f) i
        · rw [a4 t c1 hlt]
          exact e4 t c1 hlt
        · rw [a5 t (by omega) (by omega), wr_of (by omega) (by omega), snd_at hw (q := i) (by omega) (by omega) (by omega)]) (by
      intro b n ⟨e1, e2, e3, e4⟩
      obtain ⟨k1, k2, k3⟩ := keep b.2 e2
      rw [f_X6_form_L24, k1.1, if_neg (by omega)]) (0, wt s (14, j, 0) 1 0) ⟨rfl, (Only.refl _ _).wt (Or.inl rfl) _ _, by dsimp only; rw [rd_wt_same]; rfl, fun t a b => by simp [sm] at b; omega⟩
  exact ⟨b.2, e, i2, i3, i4⟩
end SOUND
