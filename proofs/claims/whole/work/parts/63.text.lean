/-! THE TEXT: what of it is read, as a function of its bytes -/
def skF (T : Int → Int) (tl : Int) : Nat → Int → Int
  | 0, p => p
  | k + 1, p => if p < tl ∧ T p = 32 then skF T tl k (p + 1) else p
def sk (T : Int → Int) (tl p : Int) : Int := skF T tl 121 p
def hr (T : Int → Int) (tl p : Int) : Int := if p < tl then T p else -1
def isF (x : Int) : Prop := 48 ≤ x ∧ x ≤ 57
def dgF (T : Int → Int) (tl : Int) : Nat → Int → Nat
  | 0, _ => 0
  | k + 1, p => if p < tl ∧ 48 ≤ T p ∧ T p ≤ 57 then dgF T tl k (p + 1) + 1 else 0
def dg (T : Int → Int) (tl p : Int) : Nat := dgF T tl 121 p
def vlF (T : Int → Int) : Nat → Int → Int → Int
  | 0, _, v => v
  | k + 1, p, v => vlF T k (p + 1) (10 * v + T p - 48)
def vcF (T : Int → Int) : Nat → Int → Int → Int → Int
  | 0, _, _, v => v
  | d + 1, i, p, v => vcF T d (i + 1) (p + 1) (if i < 3 then 10 * v + T p - 48 else v)
abbrev Rs : Type := Int × Int × List Int
def sq (r : Rs) (g : Int → Rs) : Rs := if r.1 = -1 then ((g r.2.1).1, (g r.2.1).2.1, r.2.2 ++ (g r.2.1).2.2) else r
def bgP (T : Int → Int) (tl sg p : Int) : Int := if sg ≠ 0 ∧ hr T tl (sk T tl p) = 45 then sk T tl p + 1 else sk T tl p
def nvP (T : Int → Int) (tl sg p : Int) : Int := if sg ≠ 0 ∧ hr T tl (sk T tl p) = 45 then -(vlF T (dg T tl (bgP T tl sg p)) (bgP T tl sg p) 0) else vlF T (dg T tl (bgP T tl sg p)) (bgP T tl sg p) 0
/-- a number -/
def numP (T : Int → Int) (tl sg p : Int) : Rs := if dg T tl (bgP T tl sg p) = 0 then (bgP T tl sg p, bgP T tl sg p, []) else if 3 < dg T tl (bgP T tl sg p) then (sk T tl p, sk T tl p, []) else (-1, bgP T tl sg p + dg T tl (bgP T tl sg p), [nvP T tl sg p])
theorem sq_assoc (r : Rs) (g h : Int → Rs) : sq (sq r g) h = sq r (fun p => sq (g p) h) := by
  unfold sq
  by_cases h1 : r.1 = -1
  · rw [if_pos h1, if_pos h1]
    dsimp only
    by_cases h2 : (g r.2.1).1 = -1
    · rw [if_pos h2, if_pos h2, List.append_assoc]
    · rw [if_neg h2, if_neg h2]
  · rw [if_neg h1, if_neg h1, if_neg h1]
theorem sq_ok {r : Rs} (h : r.1 = -1) (g : Int → Rs) : sq r g = ((g r.2.1).1, (g r.2.1).2.1, r.2.2 ++ (g r.2.1).2.2) := if_pos h
theorem sq_no {r : Rs} (h : r.1 ≠ -1) (g : Int → Rs) : sq r g = r := if_neg h
theorem sq_id (p : Int) (g : Int → Rs) : sq (-1, p, []) g = g p := by
  rw [sq_ok rfl]
  rfl
section TEXT
variable {T : Int → Int} {tl : Int}
theorem skF_b : ∀ (k : Nat) (p : Int), p ≤ skF T tl k p ∧ (p ≤ tl → skF T tl k p ≤ tl) ∧ ((tl - p).toNat ≤ k → ¬ (skF T tl k p < tl ∧ T (skF T tl k p) = 32))
  | 0, p => by
    rw [skF]
    exact ⟨by omega, fun h => h, fun h z => by omega⟩
  | k + 1, p => by
    rw [skF]
    split
    · rename_i h
      obtain ⟨h1, h2, h3⟩ := skF_b k (p + 1)
      exact ⟨by omega, fun _ => h2 (by omega), fun hk => h3 (by omega)⟩
    · rename_i h
      exact ⟨by omega, fun h => h, fun _ => h⟩
theorem sk_b (htl : tl ≤ 120) {p : Int} (h0 : 0 ≤ p) (h1 : p ≤ tl) : p ≤ sk T tl p ∧ sk T tl p ≤ tl ∧ ¬ (sk T tl p < tl ∧ T (sk T tl p) = 32) := by
  obtain ⟨a, b, c⟩ := skF_b (T := T) (tl := tl) 121 p
  exact ⟨a, b h1, c (by omega)⟩
theorem sk_id (htl : tl ≤ 120) {p : Int} (h0 : 0 ≤ p) (h1 : p ≤ tl) : sk T tl (sk T tl p) = sk T tl p := by
  have h := sk_b (T := T) htl h0 h1
  show skF T tl (120 + 1) (sk T tl p) = _
  rw [skF, if_neg h.2.2]
theorem dgF_b : ∀ (k : Nat) (p : Int), (p ≤ tl → p + dgF T tl k p ≤ tl) ∧ (∀ i : Nat, i < dgF T tl k p → 48 ≤ T (p + i) ∧ T (p + i) ≤ 57) ∧ ((tl - p).toNat ≤ k → ¬ (p + dgF T tl k p < tl ∧ 48 ≤ T (p + dgF T tl k p) ∧ T (p + dgF T tl k p) ≤ 57))
  | 0, p => by
    rw [dgF]
    exact ⟨fun h => by omega, fun i hi => by omega, fun h z => by omega⟩
  | k + 1, p => by
    rw [dgF]
    split
    · rename_i h
      obtain ⟨h1, h2, h3⟩ := dgF_b k (p + 1)
      refine ⟨fun _ => by have := h1 (by omega); omega, fun i hi => ?_, fun hk => ?_⟩
      · cases i with
        | zero => rw [show p + ((0 : Nat) : Int) = p by omega]; exact h.2
        | succ i =>
          have := h2 i (by omega)
          rwa [show p + 1 + (i : Int) = p + ((i + 1 : Nat) : Int) by omega] at this
      · have := h3 (by omega)
        rwa [show p + 1 + ((dgF T tl k (p + 1) : Nat) : Int) = p + ((dgF T tl k (p + 1) + 1 : Nat) : Int) by omega] at this
    · rename_i h
      exact ⟨fun h => by omega, fun i hi => by omega, fun _ => by rw [show p + ((0 : Nat) : Int) = p by omega]; exact h⟩
theorem dg_b (htl : tl ≤ 120) {p : Int} (h0 : 0 ≤ p) (h1 : p ≤ tl) : p + dg T tl p ≤ tl ∧ (∀ i : Nat, i < dg T tl p → 48 ≤ T (p + i) ∧ T (p + i) ≤ 57) ∧ ¬ (p + dg T tl p < tl ∧ 48 ≤ T (p + dg T tl p) ∧ T (p + dg T tl p) ≤ 57) := by
  obtain ⟨a, b, c⟩ := dgF_b (T := T) (tl := tl) 121 p
  exact ⟨a h1, b, c (by omega)⟩
theorem vc_vl : ∀ (d : Nat) (i p v : Int), i + d ≤ 3 → vcF T d i p v = vlF T d p v
  | 0, _, _, _, _ => rfl
  | d + 1, i, p, v, h => by
    rw [vcF, vlF, if_pos (by omega)]
    exact vc_vl d (i + 1) (p + 1) _ (by omega)
theorem vl_b : ∀ (d : Nat) (p v : Int), (∀ i : Nat, i < d → 48 ≤ T (p + i) ∧ T (p + i) ≤ 57) → 0 ≤ v → 0 ≤ vlF T d p v
  | 0, _, _, _, h => h
  | d + 1, p, v, ht, h => by
    rw [vlF]
    have h0 := ht 0 (by omega)
    rw [show p + ((0 : Nat) : Int) = p by omega] at h0
    exact vl_b d (p + 1) _ (fun i hi => by
      have := ht (i + 1) (by omega)
      rwa [show p + ((i + 1 : Nat) : Int) = p + 1 + (i : Int) by omega] at this) (by omega)
theorem vl_b3 {d : Nat} {p : Int} (hd : d ≤ 3) (ht : ∀ i : Nat, i < d → 48 ≤ T (p + i) ∧ T (p + i) ≤ 57) : 0 ≤ vlF T d p 0 ∧ vlF T d p 0 ≤ 999 := by
  refine ⟨vl_b d p 0 ht (by omega), ?_⟩
  have e0 : p + ((0 : Nat) : Int) = p := by omega
  have e1 : p + ((1 : Nat) : Int) = p + 1 := by omega
  have e2 : p + ((2 : Nat) : Int) = p + 1 + 1 := by omega
  rcases (show d = 0 ∨ d = 1 ∨ d = 2 ∨ d = 3 by omega) with rfl | rfl | rfl | rfl
  · simp only [vlF]; omega
  · have h0 := ht 0 (by omega)
    rw [e0] at h0
    simp only [vlF]; omega
  · have h0 := ht 0 (by omega)
    have h1 := ht 1 (by omega)
    rw [e0] at h0
    rw [e1] at h1
    simp only [vlF]; omega
  · have h0 := ht 0 (by omega)
    have h1 := ht 1 (by omega)
    have h2 := ht 2 (by omega)
    rw [e0] at h0
    rw [e1] at h1
    rw [e2] at h2
    simp only [vlF]; omega
theorem bg_b (htl : tl ≤ 120) {p : Int} (h0 : 0 ≤ p) (h1 : p ≤ tl) (sg : Int) : p ≤ sk T tl p ∧ sk T tl p ≤ bgP T tl sg p ∧ bgP T tl sg p ≤ tl := by
  have h := sk_b (T := T) htl h0 h1
  unfold bgP
  split
  · rename_i z
    have : sk T tl p < tl := by
      have := z.2
      unfold hr at this
      split at this
      · assumption
      · omega
    omega
  · omega
/-- of a number: where it ends, its bounds -/
theorem num_ok (htl : tl ≤ 120) {p sg : Int} (h0 : 0 ≤ p) (h1 : p ≤ tl) (h : (numP T tl sg p).1 = -1) : (dg T tl (bgP T tl sg p) ≠ 0 ∧ dg T tl (bgP T tl sg p) ≤ 3) ∧ numP T tl sg p = (-1, bgP T tl sg p + dg T tl (bgP T tl sg p), [nvP T tl sg p]) ∧ p < bgP T tl sg p + dg T tl (bgP T tl sg p) ∧ bgP T tl sg p + dg T tl (bgP T tl sg p) ≤ tl ∧ -999 ≤ nvP T tl sg p ∧ nvP T tl sg p ≤ 999 := by
  have hb := bg_b (T := T) htl h0 h1 sg
  have hd := dg_b (T := T) htl (p := bgP T tl sg p) (by omega) (by omega)
  unfold numP at h
  split at h
  · dsimp only at h; omega
  · rename_i g1
    split at h
    · dsimp only at h; omega
    · rename_i g2
      have hv := vl_b3 (T := T) (d := dg T tl (bgP T tl sg p)) (p := bgP T tl sg p) (by omega) hd.2.1
      refine ⟨⟨g1, by omega⟩, ?_, by omega, hd.1, ?_, ?_⟩
      · unfold numP; rw [if_neg g1, if_neg g2]
      · unfold nvP; split <;> omega
      · unfold nvP; split <;> omega
theorem num_no (htl : tl ≤ 120) {p sg : Int} (h0 : 0 ≤ p) (h1 : p ≤ tl) (h : (numP T tl sg p).1 ≠ -1) : p ≤ (numP T tl sg p).1 ∧ (numP T tl sg p).1 ≤ tl := by
  have hb := bg_b (T := T) htl h0 h1 sg
  unfold numP at h ⊢
  split
  · exact ⟨by dsimp only; omega, by dsimp only; omega⟩
  · split
    · exact ⟨by dsimp only; omega, by dsimp only; omega⟩
    · rename_i g1 g2
      rw [if_neg g1, if_neg g2] at h
      exact absurd rfl h
end TEXT
/-- an order -/
def skP (T : Int → Int) (tl p : Int) : Rs := (-1, sk T tl p, [])
def notP (T : Int → Int) (tl p : Int) : Rs := sq (numP T tl 0 p) (numP T tl 0)
def ntsP (T : Int → Int) (tl : Int) : Nat → Int → Rs
  | 0, p => (-1, p, [])
  | k + 1, p => if hr T tl (sk T tl p) = 44 then sq (notP T tl (sk T tl p + 1)) (ntsP T tl k) else (-1, sk T tl p, [])
def linP (T : Int → Int) (tl p : Int) : Rs := sq (numP T tl 0 p) (fun q => if hr T tl (sk T tl q) = 58 then sq (notP T tl (sk T tl q + 1)) (ntsP T tl 122) else (-1, sk T tl q, []))
def entP (T : Int → Int) (tl p : Int) : Rs := sq (sq (sq (sq (numP T tl 0 p) (numP T tl 0)) (numP T tl 1)) (numP T tl 0)) (numP T tl 0)
def keyP (T : Int → Int) (tl : Int) : Nat → Int → Rs
  | 0, p => (-1, p, [])
  | k + 1, p => if 48 ≤ hr T tl (sk T tl p) ∧ hr T tl (sk T tl p) ≤ 57 then sq (numP T tl 0 (sk T tl p)) (keyP T tl k) else (-1, sk T tl p, [])
def endP (T : Int → Int) (tl p : Int) : Rs := if hr T tl (sk T tl p) = 59 then (-1, sk T tl p + 1, []) else (sk T tl p, sk T tl p, [])
def bodP (T : Int → Int) (tl c p : Int) : Rs := if c = 108 then linP T tl p else if c = 101 then entP T tl p else if c = 107 then keyP T tl 122 p else numP T tl 0 p
def isLt (c : Int) : Prop := c = 108 ∨ c = 101 ∨ c = 104 ∨ c = 116 ∨ c = 109 ∨ c = 107
def ordP (T : Int → Int) (tl p : Int) : Rs := if hr T tl (sk T tl p) = 108 ∨ hr T tl (sk T tl p) = 101 ∨ hr T tl (sk T tl p) = 104 ∨ hr T tl (sk T tl p) = 116 ∨ hr T tl (sk T tl p) = 109 ∨ hr T tl (sk T tl p) = 107 then sq (bodP T tl (hr T tl (sk T tl p)) (sk T tl p + 1)) (endP T tl) else (sk T tl p, sk T tl p, [])
/-- all orders: the fault, or letters with numbers -/
def allP (T : Int → Int) (tl : Int) : Nat → Int → Int × List (Int × List Int)
  | 0, _ => (-1, [])
  | k + 1, p => if (ordP T tl p).1 = -1 then (if sk T tl (ordP T tl p).2.1 < tl then ((allP T tl k (sk T tl (ordP T tl p).2.1)).1, (hr T tl (sk T tl p), (ordP T tl p).2.2) :: (allP T tl k (sk T tl (ordP T tl p).2.1)).2) else (-1, [(hr T tl (sk T tl p), (ordP T tl p).2.2)])) else ((ordP T tl p).1, [])
/-- how far a reading goes -/
def GoP (tl : Int) (g : Int → Rs) : Prop := ∀ p, 0 ≤ p → p ≤ tl → ((g p).1 = -1 → p ≤ (g p).2.1 ∧ (g p).2.1 ≤ tl ∧ ∀ x, x ∈ (g p).2.2 → -999 ≤ x ∧ x ≤ 999) ∧ ((g p).1 ≠ -1 → p ≤ (g p).1 ∧ (g p).1 ≤ tl)
theorem GoP.sq {tl : Int} {g h : Int → Rs} (hg : GoP tl g) (hh : GoP tl h) : GoP tl (fun p => sq (g p) h) := by
  intro p h0 h1
  have a := hg p h0 h1
  by_cases e : (g p).1 = -1
  · have a1 := a.1 e
    have b := hh (g p).2.1 (by omega) a1.2.1
    dsimp only
    rw [sq_ok e]
    dsimp only
    refine ⟨fun z => ⟨by have := (b.1 z).1; omega, (b.1 z).2.1, fun x hx => ?_⟩, fun z => ⟨by have := (b.2 z).1; omega, (b.2 z).2⟩⟩
    rcases List.mem_append.mp hx with hx | hx
    · exact a1.2.2 x hx
    · exact (b.1 z).2.2 x hx
  · dsimp only
    rw [sq_no e]
    exact a
section GO
variable {T : Int → Int} {tl : Int}
theorem go_num (htl : tl ≤ 120) (sg : Int) : GoP tl (numP T tl sg) := by
  intro p h0 h1
  refine ⟨fun z => ?_, fun z => num_no htl h0 h1 z⟩
  have h := num_ok htl h0 h1 z
  rw [h.2.1]
  exact ⟨by dsimp only; omega, h.2.2.2.1, fun x hx => by
    rw [List.mem_singleton] at hx
    subst hx
    exact h.2.2.2.2⟩
theorem go_sk (htl : tl ≤ 120) : GoP tl (skP T tl) := by
  intro p h0 h1
  have h := sk_b (T := T) htl h0 h1
  exact ⟨fun _ => ⟨h.1, h.2.1, fun x hx => by cases hx⟩, fun z => absurd rfl z⟩
theorem hr_lt {p c : Int} (hc : 0 ≤ c) (h : hr T tl p = c) : p < tl ∧ T p = c := by
  unfold hr at h
  split at h
  · exact ⟨by assumption, h⟩
  · omega
theorem go_not (htl : tl ≤ 120) : GoP tl (notP T tl) := (go_num htl 0).sq (go_num htl 0)
theorem go_nts (htl : tl ≤ 120) : ∀ k, GoP tl (ntsP T tl k)
  | 0 => fun p h0 h1 => ⟨fun _ => ⟨Int.le_refl _, h1, fun x hx => by cases hx⟩, fun z => absurd rfl z⟩
  | k + 1 => by
    intro p h0 h1
    have h := sk_b (T := T) htl h0 h1
    rw [ntsP]
    by_cases hc : hr T tl (sk T tl p) = 44
    · rw [if_pos hc]
      have h2 := hr_lt (by omega) hc
      have h3 := ((go_not (T := T) htl).sq (go_nts htl k)) (sk T tl p + 1) (by omega) (by omega)
      dsimp only at h3
      exact ⟨fun z => ⟨by have := (h3.1 z).1; omega, (h3.1 z).2⟩, fun z => ⟨by have := (h3.2 z).1; omega, (h3.2 z).2⟩⟩
    · rw [if_neg hc]
      exact ⟨fun _ => ⟨h.1, h.2.1, fun x hx => by cases hx⟩, fun z => absurd rfl z⟩
theorem go_lin2 (htl : tl ≤ 120) : GoP tl (fun q => if hr T tl (sk T tl q) = 58 then sq (notP T tl (sk T tl q + 1)) (ntsP T tl 122) else (-1, sk T tl q, [])) := by
  intro p h0 h1
  have h := sk_b (T := T) htl h0 h1
  dsimp only
  by_cases hc : hr T tl (sk T tl p) = 58
  · rw [if_pos hc]
    have h2 := hr_lt (by omega) hc
    have h3 := ((go_not (T := T) htl).sq (go_nts (T := T) htl 122)) (sk T tl p + 1) (by omega) (by omega)
    dsimp only at h3
    exact ⟨fun z => ⟨by have := (h3.1 z).1; omega, (h3.1 z).2⟩, fun z => ⟨by have := (h3.2 z).1; omega, (h3.2 z).2⟩⟩
  · rw [if_neg hc]
    exact ⟨fun _ => ⟨h.1, h.2.1, fun x hx => by cases hx⟩, fun z => absurd rfl z⟩
theorem go_lin (htl : tl ≤ 120) : GoP tl (linP T tl) := (go_num htl 0).sq (go_lin2 htl)
theorem go_ent (htl : tl ≤ 120) : GoP tl (entP T tl) := ((((go_num htl 0).sq (go_num htl 0)).sq (go_num htl 1)).sq (go_num htl 0)).sq (go_num htl 0)
theorem go_key (htl : tl ≤ 120) : ∀ k, GoP tl (keyP T tl k)
  | 0 => fun p h0 h1 => ⟨fun _ => ⟨Int.le_refl _, h1, fun x hx => by cases hx⟩, fun z => absurd rfl z⟩
  | k + 1 => by
    intro p h0 h1
    have h := sk_b (T := T) htl h0 h1
    rw [keyP]
    split
    · have h3 := ((go_num (T := T) htl 0).sq (go_key htl k)) (sk T tl p) (by omega) (by omega)
      dsimp only at h3
      exact ⟨fun z => ⟨by have := (h3.1 z).1; omega, (h3.1 z).2⟩, fun z => ⟨by have := (h3.2 z).1; omega, (h3.2 z).2⟩⟩
    · exact ⟨fun _ => ⟨h.1, h.2.1, fun x hx => by cases hx⟩, fun z => absurd rfl z⟩
theorem go_end (htl : tl ≤ 120) : GoP tl (endP T tl) := by
  intro p h0 h1
  have h := sk_b (T := T) htl h0 h1
  unfold endP
  by_cases hc : hr T tl (sk T tl p) = 59
  · have h2 := hr_lt (by omega) hc
    rw [if_pos hc]
    exact ⟨fun _ => ⟨by dsimp only; omega, by dsimp only; omega, fun x hx => by cases hx⟩, fun z => absurd rfl z⟩
  · rw [if_neg hc]
    exact ⟨fun z => by dsimp only at z; omega, fun _ => ⟨h.1, h.2.1⟩⟩
theorem go_bod (htl : tl ≤ 120) (c : Int) : GoP tl (bodP T tl c) := by
  intro p h0 h1
  unfold bodP
  split
  · exact go_lin htl p h0 h1
  · split
    · exact go_ent htl p h0 h1
    · split
      · exact go_key htl 122 p h0 h1
      · exact go_num htl 0 p h0 h1
theorem ord_go (htl : tl ≤ 120) {p : Int} (h0 : 0 ≤ p) (h1 : p ≤ tl) : ((ordP T tl p).1 = -1 → p < (ordP T tl p).2.1 ∧ (ordP T tl p).2.1 ≤ tl ∧ sk T tl p < tl ∧ ∀ x, x ∈ (ordP T tl p).2.2 → -999 ≤ x ∧ x ≤ 999) ∧ ((ordP T tl p).1 ≠ -1 → p ≤ (ordP T tl p).1 ∧ (ordP T tl p).1 ≤ tl) := by
  have h := sk_b (T := T) htl h0 h1
  unfold ordP
  by_cases hc : hr T tl (sk T tl p) = 108 ∨ hr T tl (sk T tl p) = 101 ∨ hr T tl (sk T tl p) = 104 ∨ hr T tl (sk T tl p) = 116 ∨ hr T tl (sk T tl p) = 109 ∨ hr T tl (sk T tl p) = 107
  · rw [if_pos hc]
    have h2 : sk T tl p < tl := (hr_lt (T := T) (p := sk T tl p) (c := hr T tl (sk T tl p)) (by omega) rfl).1
    have h3 := ((go_bod (T := T) htl (hr T tl (sk T tl p))).sq (go_end (T := T) htl)) (sk T tl p + 1) (by omega) (by omega)
    dsimp only at h3
    exact ⟨fun z => ⟨by have := (h3.1 z).1; omega, (h3.1 z).2.1, h2, (h3.1 z).2.2⟩, fun z => ⟨by have := (h3.2 z).1; omega, (h3.2 z).2⟩⟩
  · rw [if_neg hc]
    exact ⟨fun z => by dsimp only at z; omega, fun _ => ⟨h.1, h.2.1⟩⟩
end GO
