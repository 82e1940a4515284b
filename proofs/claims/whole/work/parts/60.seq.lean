/-! paths: rows of keys, what they are together, their order -/
def plS (h : Int) (K : Int → Int) : Nat → Int × Int
  | 0 => (0, h)
  | i + 1 => ((plS h K i).1 + wayA (plS h K i).2 (K i), K i)
def plP (h : Int) (K : Int → Int) (n : Nat) : Int := (plS h K n).1 + wayA (plS h K n).2 h
def ek (K : Int → Int) : Nat → Int
  | 0 => 0
  | i + 1 => ek K i * 24 + K i
def KB (K : Int → Int) (n : Nat) : Prop := ∀ i : Int, 0 ≤ i → i < n → 0 ≤ K i ∧ K i ≤ 23
def lxK (n : Nat) (K L : Int → Int) : Prop := ∃ i : Nat, i < n ∧ K i < L i ∧ ∀ j : Nat, j < i → K j = L j
def vlP (h : Int) (K : Int → Int) (n : Nat) : Int := plP h K n * 7962624 + ek K n
/-- a row of all visits -/
def SeqK (A : Int → Int) (n : Nat) (K : Int → Int) : Prop := (∀ i : Int, 0 ≤ i → i < n → ∃ j : Int, 0 ≤ j ∧ j < n ∧ K i = A (140 + j)) ∧ ∀ i j : Int, 0 ≤ i → i < j → j < n → K i ≠ K j
def LeastK (A : Int → Int) (n : Nat) (K : Int → Int) : Prop := SeqK A n K ∧ ∀ L, SeqK A n L → vlP (A 138) K n ≤ vlP (A 138) L n
theorem pl_congr {h : Int} {K L : Int → Int} : ∀ {n : Nat}, (∀ i : Nat, i < n → K i = L i) → plS h K n = plS h L n
  | 0, _ => rfl
  | n + 1, hk => by rw [plS, plS, pl_congr (fun i hi => hk i (by omega)), hk n (by omega)]
theorem ek_congr {K L : Int → Int} : ∀ {n : Nat}, (∀ i : Nat, i < n → K i = L i) → ek K n = ek L n
  | 0, _ => rfl
  | n + 1, hk => by rw [ek, ek, ek_congr (fun i hi => hk i (by omega)), hk n (by omega)]
theorem vl_congr {h : Int} {K L : Int → Int} {n : Nat} (hk : ∀ i : Nat, i < n → K i = L i) : vlP h K n = vlP h L n := by
  unfold vlP plP
  rw [pl_congr hk, ek_congr hk]
theorem ek_b {K : Int → Int} : ∀ {n : Nat}, KB K n → 0 ≤ ek K n ∧ ek K n < ((24 ^ n : Nat) : Int)
  | 0, _ => by rw [ek]; decide
  | n + 1, hk => by
    have h1 := ek_b (n := n) (fun i a b => hk i a (by omega))
    have h2 := hk n (by omega) (by omega)
    rw [ek, Nat.pow_succ]
    generalize 24 ^ n = P at h1
    omega
theorem ek_b5 {K : Int → Int} {n : Nat} (h5 : n ≤ 5) (hk : KB K n) : 0 ≤ ek K n ∧ ek K n < 7962624 := by
  have h := ek_b hk
  have h2 : 24 ^ n ≤ 24 ^ 5 := Nat.pow_le_pow_right (by omega) h5
  generalize 24 ^ n = P at h h2
  omega
theorem ek_lt {K L : Int → Int} {n : Nat} (hK : KB K n) (hL : KB L n) (h : lxK n K L) : ek K n < ek L n := by
  obtain ⟨i, hi, hlt, heq⟩ := h
  have key : ∀ d : Nat, i + 1 + d ≤ n → ek K (i + 1 + d) < ek L (i + 1 + d) := by
    intro d
    induction d with
    | zero =>
      intro _
      show ek K i * 24 + K i < ek L i * 24 + L i
      rw [ek_congr heq]
      omega
    | succ d ih =>
      intro hd
      have h1 := ih (by omega)
      have h2 := hK ((i + 1 + d : Nat) : Int) (by omega) (by omega)
      have h3 := hL ((i + 1 + d : Nat) : Int) (by omega) (by omega)
      show ek K (i + 1 + d) * 24 + K ((i + 1 + d : Nat) : Int) < ek L (i + 1 + d) * 24 + L ((i + 1 + d : Nat) : Int)
      omega
  have := key (n - (i + 1)) (by omega)
  rwa [show i + 1 + (n - (i + 1)) = n by omega] at this
theorem lx_tri (K L : Int → Int) : ∀ n : Nat, (∀ i : Nat, i < n → K i = L i) ∨ lxK n K L ∨ lxK n L K
  | 0 => Or.inl (fun i hi => by omega)
  | n + 1 => by
    rcases lx_tri K L n with h | ⟨i, h1, h2, h3⟩ | ⟨i, h1, h2, h3⟩
    · rcases (show K n = L n ∨ K n < L n ∨ L n < K n by omega) with e | e | e
      · refine Or.inl (fun i hi => ?_)
        by_cases ei : i = n
        · subst ei; exact e
        · exact h i (by omega)
      · exact Or.inr (Or.inl ⟨n, by omega, e, h⟩)
      · exact Or.inr (Or.inr ⟨n, by omega, e, fun j hj => (h j hj).symm⟩)
    · exact Or.inr (Or.inl ⟨i, by omega, h2, h3⟩)
    · exact Or.inr (Or.inr ⟨i, by omega, h2, h3⟩)
theorem pl_b {h : Int} {K : Int → Int} (h0 : 0 ≤ h) (h1 : h ≤ 23) : ∀ {n : Nat}, KB K n → (0 ≤ (plS h K n).1 ∧ (plS h K n).1 ≤ 20 * n) ∧ 0 ≤ (plS h K n).2 ∧ (plS h K n).2 ≤ 23
  | 0, _ => by rw [plS]; exact ⟨⟨by omega, by omega⟩, h0, h1⟩
  | n + 1, hk => by
    have i1 := pl_b h0 h1 (n := n) (fun i a b => hk i a (by omega))
    have i2 := hk n (by omega) (by omega)
    have i3 := way_b i1.2.1 i1.2.2 i2.1 i2.2
    rw [plS]
    refine ⟨⟨?_, ?_⟩, i2.1, i2.2⟩
    · dsimp only; omega
    · dsimp only; omega
theorem plP_b {h : Int} {K : Int → Int} (h0 : 0 ≤ h) (h1 : h ≤ 23) {n : Nat} (h5 : n ≤ 5) (hk : KB K n) : 0 ≤ plP h K n ∧ plP h K n ≤ 120 := by
  have i1 := pl_b h0 h1 hk
  have i3 := way_b i1.2.1 i1.2.2 h0 h1
  unfold plP
  omega
theorem seq_KB {A : Int → Int} (hv : WV A) {n : Nat} (hn : (n : Int) = A 139) {K : Int → Int} (h : SeqK A n K) : KB K n := by
  intro i a b
  obtain ⟨j, j0, j1, e⟩ := h.1 i a b
  rw [e]
  exact hv.2.1 j j0 (by have := hv.1; omega)
theorem least_un {A : Int → Int} (hv : WV A) {n : Nat} (hn : (n : Int) = A 139) (hh : 0 ≤ A 138 ∧ A 138 ≤ 23) {K L : Int → Int} (hK : LeastK A n K) (hL : LeastK A n L) : plP (A 138) K n = plP (A 138) L n ∧ ∀ i : Nat, i < n → K i = L i := by
  have h5 : n ≤ 5 := by have := hv.1; omega
  have kK := seq_KB hv hn hK.1
  have kL := seq_KB hv hn hL.1
  have h1 := hK.2 L hL.1
  have h2 := hL.2 K hK.1
  have b1 := ek_b5 h5 kK
  have b2 := ek_b5 h5 kL
  have hi : ∀ i : Nat, i < n → K i = L i := by
    rcases lx_tri K L n with h | h | h
    · exact h
    · have := ek_lt kK kL h
      unfold vlP at h1 h2
      omega
    · have := ek_lt kL kK h
      unfold vlP at h1 h2
      omega
  refine ⟨?_, hi⟩
  unfold plP
  rw [pl_congr hi]
/-- rows by five -/
def setR (c : Nat) : Nat → Nat
  | 0 => 0
  | j + 1 => setR c j ||| 1 <<< (c / 5 ^ j % 5)
def okR (n c : Nat) : Bool := Nat.beq (setR c n) (2 ^ n - 1)
def dgN (n c k : Nat) : Nat := c / 5 ^ (n - 1 - k) % 5
def inj5 (n c : Nat) : Bool := (List.range n).all fun k => Nat.blt (dgN n c k) n && (List.range k).all fun q => !(Nat.beq (dgN n c q) (dgN n c k))
def tab5 (c : Nat) : Bool := (List.range 6).all fun n => (okR n c == inj5 n c) && (!(Nat.blt c (5 ^ n) && okR n c) || (P5 n).contains c)
theorem tab5_all : ∀ a b c d e : Fin 5, tab5 (a.val * 625 + b.val * 125 + c.val * 25 + d.val * 5 + e.val) = true := by decide +kernel
def lst5 (n : Nat) : Bool := (P5 n).all (fun c => Nat.blt c (5 ^ n) && okR n c) && (List.range ((P5 n).length - 1)).all fun i => (List.range n).any fun p => (List.range p).all (fun q => Nat.beq (dgN n ((P5 n).getD i 0) q) (dgN n ((P5 n).getD (i + 1) 0) q)) && Nat.blt (dgN n ((P5 n).getD i 0) p) (dgN n ((P5 n).getD (i + 1) 0) p)
theorem lst5_all : (List.range 6).all lst5 = true := by decide +kernel
theorem p5_len : ∀ n : Fin 6, 1 ≤ (P5 n.val).length ∧ (P5 n.val).length ≤ 120 := by decide +kernel
theorem p5_id : ∀ n : Fin 6, ∀ k : Fin 5, k.val < n.val → dgN n.val ((P5 n.val).getD 0 0) k.val = k.val := by decide +kernel
theorem vo_dg (n c k : Nat) : vo 5 n c (k : Int) = (dgN n c k : Int) := by
  unfold vo dgN
  rw [Int.toNat_natCast]
theorem tab5_get {c : Nat} (h : c < 3125) {n : Nat} (h5 : n ≤ 5) : okR n c = inj5 n c ∧ (c < 5 ^ n → okR n c = true → c ∈ P5 n) := by
  have h1 := tab5_all ⟨c / 625, by omega⟩ ⟨c / 125 % 5, by omega⟩ ⟨c / 25 % 5, by omega⟩ ⟨c / 5 % 5, by omega⟩ ⟨c % 5, by omega⟩
  dsimp only at h1
  rw [show c / 625 * 625 + c / 125 % 5 * 125 + c / 25 % 5 * 25 + c / 5 % 5 * 5 + c % 5 = c by omega] at h1
  have h2 := List.all_eq_true.mp h1 n (List.mem_range.mpr (by omega))
  rw [Bool.and_eq_true] at h2
  refine ⟨eq_of_beq h2.1, fun h3 h4 => ?_⟩
  have h6 := h2.2
  rw [h4, show Nat.blt c (5 ^ n) = true from Nat.ble_eq_true_of_le h3] at h6
  exact List.contains_iff_mem.mp h6
theorem inj_get {n c : Nat} (h : inj5 n c = true) {k : Nat} (hk : k < n) : dgN n c k < n ∧ ∀ q, q < k → dgN n c q ≠ dgN n c k := by
  have h1 := List.all_eq_true.mp h k (List.mem_range.mpr hk)
  rw [Bool.and_eq_true] at h1
  refine ⟨Nat.le_of_ble_eq_true h1.1, fun q hq e => ?_⟩
  have h2 := List.all_eq_true.mp h1.2 q (List.mem_range.mpr hq)
  rw [e, Nat.beq_refl] at h2
  cases h2
theorem inj_mk {n c : Nat} (h : ∀ k, k < n → dgN n c k < n ∧ ∀ q, q < k → dgN n c q ≠ dgN n c k) : inj5 n c = true := by
  refine List.all_eq_true.mpr (fun k hk => ?_)
  have h1 := h k (List.mem_range.mp hk)
  rw [Bool.and_eq_true]
  refine ⟨Nat.ble_eq_true_of_le h1.1, List.all_eq_true.mpr (fun q hq => ?_)⟩
  have h2 := h1.2 q (List.mem_range.mp hq)
  cases e : Nat.beq (dgN n c q) (dgN n c k) with
  | true => exact absurd (Nat.eq_of_beq_eq_true e) h2
  | false => rfl
/-- a code of figures -/
theorem code_of {n : Nat} (h5 : n ≤ 5) (r : Nat → Nat) (hr : ∀ k, k < n → r k < 5) : ∃ c, c < 5 ^ n ∧ ∀ k, k < n → dgN n c k = r k := by
  have key : ∀ m, m ≤ n → ∃ c, c < 5 ^ m ∧ ∀ k, k < m → c / 5 ^ (m - 1 - k) % 5 = r k := by
    intro m
    induction m with
    | zero => intro _; exact ⟨0, by omega, fun k hk => by omega⟩
    | succ m ih =>
      intro hm
      obtain ⟨c, c1, c2⟩ := ih (by omega)
      have hrm := hr m (by omega)
      refine ⟨c * 5 + r m, by rw [Nat.pow_succ]; omega, fun k hk => ?_⟩
      by_cases e : k = m
      · subst e
        rw [show k + 1 - 1 - k = 0 by omega, Nat.pow_zero, Nat.div_one]
        omega
      · rw [show m + 1 - 1 - k = (m - 1 - k) + 1 by omega, Nat.pow_succ, Nat.mul_comm (5 ^ (m - 1 - k)) 5, ← Nat.div_div_eq_div_mul, show (c * 5 + r m) / 5 = c by omega]
        exact c2 k (by omega)
  exact key n (Nat.le_refl _)
theorem list_min {f : Nat → Int} : ∀ (L : List Nat) (x : Nat), ∃ y, y ∈ x :: L ∧ ∀ z, z ∈ x :: L → f y ≤ f z
  | [], x => ⟨x, List.mem_cons_self, fun z hz => by
    rw [List.mem_singleton] at hz
    subst hz
    exact Int.le_refl _⟩
  | a :: L, x => by
    obtain ⟨y, y1, y2⟩ := list_min (f := f) L a
    by_cases h : f x ≤ f y
    · refine ⟨x, List.mem_cons_self, fun z hz => ?_⟩
      rcases List.mem_cons.mp hz with e | e
      · subst e; exact Int.le_refl _
      · exact Int.le_trans h (y2 z e)
    · refine ⟨y, List.mem_cons_of_mem _ y1, fun z hz => ?_⟩
      rcases List.mem_cons.mp hz with e | e
      · subst e; omega
      · exact y2 z e
/-- the rows told by codes over keys of which each visit is one -/
def Kq (q : Int → Int) (n c : Nat) : Int → Int := fun i => q (vo 5 n c i)
def Enum (A : Int → Int) (n : Nat) (q : Int → Int) : Prop := (∀ t : Int, 0 ≤ t → t < n → ∃ j : Int, 0 ≤ j ∧ j < n ∧ q t = A (140 + j)) ∧ (∀ j : Int, 0 ≤ j → j < n → ∃ t : Int, 0 ≤ t ∧ t < n ∧ q t = A (140 + j)) ∧ ∀ t u : Int, 0 ≤ t → t < u → u < n → q t ≠ q u
theorem kx_seq {A : Int → Int} {n c : Nat} {q : Int → Int} (h5 : n ≤ 5) (hq : Enum A n q) (hc : c < 3125) (ho : okR n c = true) : SeqK A n (Kq q n c) := by
  have hi : inj5 n c = true := by rw [← (tab5_get hc h5).1]; exact ho
  refine ⟨fun i a b => ?_, fun i j a b d => ?_⟩
  · obtain ⟨k, rfl⟩ : ∃ k : Nat, i = k := ⟨i.toNat, by omega⟩
    have := (inj_get hi (k := k) (by omega)).1
    unfold Kq
    rw [vo_dg]
    exact hq.1 _ (by omega) (by omega)
  · obtain ⟨k, rfl⟩ : ∃ k : Nat, i = k := ⟨i.toNat, by omega⟩
    obtain ⟨l, rfl⟩ : ∃ l : Nat, j = l := ⟨j.toNat, by omega⟩
    have g1 := (inj_get hi (k := k) (by omega)).1
    have g2 := inj_get hi (k := l) (by omega)
    have g3 := g2.2 k (by omega)
    unfold Kq
    rw [vo_dg, vo_dg]
    rcases (show dgN n c k < dgN n c l ∨ dgN n c l < dgN n c k by omega) with e | e
    · exact hq.2.2 _ _ (by omega) (by omega) (by omega)
    · exact fun z => hq.2.2 _ _ (by omega) (by omega) (by omega) z.symm
theorem seq_kx {A : Int → Int} {n : Nat} {q K : Int → Int} (h5 : n ≤ 5) (hq : Enum A n q) (hK : SeqK A n K) : ∃ c, c < 5 ^ n ∧ c < 3125 ∧ okR n c = true ∧ c ∈ P5 n ∧ ∀ i : Nat, i < n → Kq q n c i = K i := by
  have hex : ∀ i : Nat, i < n → ∃ t : Nat, t < n ∧ q t = K i := by
    intro i hi
    obtain ⟨j, j0, j1, e⟩ := hK.1 i (by omega) (by omega)
    obtain ⟨t, t0, t1, e2⟩ := hq.2.1 j j0 j1
    exact ⟨t.toNat, by omega, by rw [show ((t.toNat : Nat) : Int) = t by omega, e2, e]⟩
  have hcl : ∃ r : Nat → Nat, ∀ i, i < n → r i < n ∧ q (r i) = K i := ⟨fun i => if h : i < n then Classical.choose (hex i h) else 0, fun i hi => by dsimp only; rw [dif_pos hi]; exact Classical.choose_spec (hex i hi)⟩
  obtain ⟨r, hr⟩ := hcl
  obtain ⟨c, c1, c2⟩ := code_of h5 r (fun k hk => by have := (hr k hk).1; omega)
  have h3 : c < 3125 := Nat.lt_of_lt_of_le c1 (Nat.pow_le_pow_right (n := 5) (by omega) h5)
  have ho : okR n c = true := by
    rw [(tab5_get h3 h5).1]
    refine inj_mk (fun k hk => ⟨by rw [c2 k hk]; exact (hr k hk).1, fun p hp e => ?_⟩)
    rw [c2 k hk, c2 p (by omega)] at e
    have e2 : K p = K k := by rw [← (hr p (by omega)).2, ← (hr k hk).2, e]
    exact hK.2 p k (by omega) (by omega) (by omega) e2
  refine ⟨c, c1, h3, ho, (tab5_get h3 h5).2 c1 ho, fun i hi => ?_⟩
  unfold Kq
  rw [vo_dg, c2 i hi]
  exact (hr i hi).2
theorem enum_A {A : Int → Int} (hv : WV A) {n : Nat} (hn : (n : Int) = A 139) : Enum A n (fun i => A (140 + i)) := ⟨fun t a b => ⟨t, a, b, rfl⟩, fun t a b => ⟨t, a, b, rfl⟩, fun t u a b c => hv.2.2 t u a b (by omega)⟩
theorem p5_fact {n c : Nat} (h5 : n ≤ 5) (hc : c ∈ P5 n) : c < 5 ^ n ∧ c < 3125 ∧ okR n c = true := by
  have h := List.all_eq_true.mp lst5_all n (List.mem_range.mpr (by omega))
  unfold lst5 at h
  rw [Bool.and_eq_true] at h
  have h2 := List.all_eq_true.mp h.1 c hc
  rw [Bool.and_eq_true] at h2
  have h3 : c < 5 ^ n := Nat.le_of_ble_eq_true h2.1
  exact ⟨h3, Nat.lt_of_lt_of_le h3 (Nat.pow_le_pow_right (n := 5) (by omega) h5), h2.2⟩
theorem p5_lx {n i : Nat} (h5 : n ≤ 5) (hi : i + 1 < (P5 n).length) : lxK n (vo 5 n ((P5 n).getD i 0)) (vo 5 n ((P5 n).getD (i + 1) 0)) := by
  have h := List.all_eq_true.mp lst5_all n (List.mem_range.mpr (by omega))
  unfold lst5 at h
  rw [Bool.and_eq_true] at h
  have h2 := List.all_eq_true.mp h.2 i (List.mem_range.mpr (by omega))
  obtain ⟨p, p1, p2⟩ := List.any_eq_true.mp h2
  rw [Bool.and_eq_true] at p2
  refine ⟨p, List.mem_range.mp p1, ?_, fun j hj => ?_⟩
  · rw [vo_dg, vo_dg]
    have := Nat.le_of_ble_eq_true p2.2
    omega
  · have h3 := List.all_eq_true.mp p2.1 j (List.mem_range.mpr hj)
    rw [vo_dg, vo_dg, Nat.eq_of_beq_eq_true h3]
theorem least_ex {A : Int → Int} (hv : WV A) {n : Nat} (hn : (n : Int) = A 139) : ∃ K, LeastK A n K := by
  have h5 : n ≤ 5 := by have := hv.1; omega
  have hl := (p5_len ⟨n, by omega⟩).1
  dsimp only at hl
  cases hP : P5 n with
  | nil => rw [hP] at hl; simp at hl
  | cons x L =>
    obtain ⟨y, y1, y2⟩ := list_min (f := fun c => vlP (A 138) (Kq (fun i => A (140 + i)) n c) n) L x
    rw [← hP] at y1 y2
    have hy := p5_fact h5 y1
    refine ⟨Kq (fun i => A (140 + i)) n y, kx_seq h5 (enum_A hv hn) hy.2.1 hy.2.2, fun M hM => ?_⟩
    obtain ⟨c, c1, c2, c3, c4, c5⟩ := seq_kx h5 (enum_A hv hn) hM
    rw [← vl_congr c5]
    exact y2 c c4
