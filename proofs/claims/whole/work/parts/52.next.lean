/-! rows of unlike figures, and the next one -/
def vo (B n c : Nat) (k : Int) : Int := ((c / B ^ (n - 1 - k.toNat) % B : Nat) : Int)
def dnI (r : Int → Int) : Nat → Int
  | 0 => -1
  | k + 1 => if r k ≤ r ((k : Int) + 1) then k else dnI r k
def dnJ (r : Int → Int) (i : Int) : Nat → Int
  | 0 => 0
  | j + 1 => if (j : Int) + 1 ≤ i + 1 then (j : Int) + 1 else if r ((j : Int) + 1) < r i then dnJ r i j else (j : Int) + 1
def swp (r : Int → Int) (i j : Int) : Int → Int := fun k => if k = j then r i else if k = i then r j else r k
def rvs : Nat → (Int → Int) → Int → Int → Int → Int
  | 0, r, _, _ => r
  | m + 1, r, a, b => if a < b then rvs m (swp r a b) (a + 1) (b - 1) else r
def nxR (r : Int → Int) (n : Nat) : Int → Int := rvs 3 (swp r (dnI r (n - 1)) (dnJ r (dnI r (n - 1)) (n - 1))) (dnI r (n - 1) + 1) ((n : Int) - 1)
theorem dnI_b (r : Int → Int) : ∀ k : Nat, -1 ≤ dnI r k ∧ dnI r k < k
  | 0 => by rw [dnI]; omega
  | k + 1 => by
    have := dnI_b r k
    rw [dnI]
    split <;> omega
theorem dnJ_b (r : Int → Int) {i : Int} (h0 : 0 ≤ i) : ∀ j : Nat, i + 1 ≤ j → i + 1 ≤ dnJ r i j ∧ dnJ r i j ≤ j
  | 0, h => by omega
  | j + 1, h => by
    rw [dnJ]
    split
    · omega
    · have := dnJ_b r h0 j (by omega)
      split <;> omega
def pto (p o : u_O) : Prop := o = p
section NEXT
variable {s : u_S} {p : u_O} {n : Nat} {f r : Int → Int} {K : Int}
theorem e_nx1 (hn : n ≤ alen p) (h5 : n ≤ 5) (hr : ∀ i : Int, 0 ≤ i → i < n → 0 ≤ r i ∧ r i < K) (hf : ∀ x y : Int, 0 ≤ x → x < K → 0 ≤ y → y < K → (f x ≤ f y ↔ x ≤ y)) (hc : ∀ i : Int, 0 ≤ i → i < n → rd s p i = f (r i)) (kx : Int → u_S → Option (Int × u_S)) (N : Int) : ∀ (k m : Nat), k < m → k + 1 ≤ n → f_X10_toNextRow_L12 m kx p N ((k : Int) - 1) s = kx (dnI r k) s
  | 0, m, h1, h2 => by
    cases m with
    | zero => omega
    | succ m =>
      rw [f_X10_toNextRow_L12, if_pos (by omega), dnI]
      rfl
  | k + 1, m, h1, h2 => by
    cases m with
    | zero => omega
    | succ m =>
      have a1 := hr k (by omega) (by omega)
      have a2 := hr ((k : Int) + 1) (by omega) (by omega)
      have h := hf (r k) (r ((k : Int) + 1)) a1.1 a1.2 a2.1 a2.2
      rw [show ((k + 1 : Nat) : Int) - 1 = k by omega, f_X10_toNextRow_L12, if_neg (by omega), gd_of (by omega) (by omega), wr_of (x := (k : Int) + 1) (by omega) (by omega), gd_of (by omega) (by omega), hc k (by omega) (by omega), hc ((k : Int) + 1) (by omega) (by omega), dnI]
      by_cases hle : r k ≤ r ((k : Int) + 1)
      · rw [if_pos (h.mpr hle), if_pos hle]
      · rw [if_neg (fun z => hle (h.mp z)), if_neg hle, wr_of (by omega) (by omega)]
        exact e_nx1 hn h5 hr hf hc kx N k m (by omega) (by omega)
theorem e_nx2 (hn : n ≤ alen p) (h5 : n ≤ 5) (hr : ∀ i : Int, 0 ≤ i → i < n → 0 ≤ r i ∧ r i < K) (hf : ∀ x y : Int, 0 ≤ x → x < K → 0 ≤ y → y < K → (f x ≤ f y ↔ x ≤ y)) (hc : ∀ i : Int, 0 ≤ i → i < n → rd s p i = f (r i)) (kx : Int → u_S → Option (Int × u_S)) (N : Int) {i : Int} (i0 : 0 ≤ i) : ∀ (j m : Nat), j < m → i + 1 ≤ j → j < n → f_X10_toNextRow_L43 m kx p N i (j : Int) s = kx (dnJ r i j) s
  | 0, m, h1, h2, h3 => by omega
  | j + 1, m, h1, h2, h3 => by
    cases m with
    | zero => omega
    | succ m =>
      rw [f_X10_toNextRow_L43, wr_of (x := i + 1) (by omega) (by omega), dnJ, show ((j + 1 : Nat) : Int) = (j : Int) + 1 by omega]
      by_cases hle : (j : Int) + 1 ≤ i + 1
      · rw [if_pos hle, if_pos hle]
      · have a1 := hr i i0 (by omega)
        have a2 := hr ((j : Int) + 1) (by omega) (by omega)
        have h := hf (r i) (r ((j : Int) + 1)) a1.1 a1.2 a2.1 a2.2
        rw [if_neg hle, if_neg hle, gd_of (by omega) (by omega), gd_of (by omega) (by omega), hc i i0 (by omega), hc ((j : Int) + 1) (by omega) (by omega)]
        by_cases hlt : r ((j : Int) + 1) < r i
        · rw [if_pos (by omega), if_pos hlt, wr_of (by omega) (by omega), show (j : Int) + 1 + -1 = j by omega]
          exact e_nx2 hn h5 hr hf hc kx N i0 j m (by omega) (by omega) (by omega)
        · rw [if_neg (by omega), if_neg hlt]
theorem e_exch (hn : n ≤ alen p) {i j : Int} (i0 : 0 ≤ i) (i1 : i < n) (j0 : 0 ≤ j) (j1 : j < n) (hc : ∀ i : Int, 0 ≤ i → i < n → rd s p i = f (r i)) : ∃ s', f_X10_exchange p i j s = some (0, s') ∧ Only (pto p) s s' ∧ ∀ k : Int, 0 ≤ k → k < n → rd s' p k = f (swp r i j k) := by
  refine ⟨wt (wt s p i (rd s p j)) p j (rd s p i), ?_, ((Only.refl (pto p) s).wt rfl _ _).wt rfl _ _, fun k k0 k1 => ?_⟩
  · unfold f_X10_exchange
    rw [gd_of i0 (by omega), gd_of j0 (by omega), gd_of i0 (by omega), gd_of j0 (by omega)]
  · unfold swp
    by_cases e : k = j
    · subst e
      rw [if_pos rfl, rd_wt_same, wr_in (InR_rd _ _ _), hc i i0 i1]
    · rw [if_neg e, rd_wt_k e]
      by_cases e2 : k = i
      · subst e2
        rw [if_pos rfl, rd_wt_same, wr_in (InR_rd _ _ _), hc j j0 j1]
      · rw [if_neg e2, rd_wt_k e2, hc k k0 k1]
theorem e_nx3 (hn : n ≤ alen p) (h5 : n ≤ 5) (kx : u_S → Option (Int × u_S)) : ∀ (m : Nat) (s : u_S) (r : Int → Int) (a b : Int) (M : Nat), m < M → b - a < 2 * m → 0 ≤ a → a ≤ 100 → b < n → -100 ≤ b → (∀ i : Int, 0 ≤ i → i < n → rd s p i = f (r i)) → ∃ s', f_X10_toNextRow_L81 M kx p a b s = kx s' ∧ Only (pto p) s s' ∧ ∀ k : Int, 0 ≤ k → k < n → rd s' p k = f (rvs m r a b k) := by
  intro m
  induction m with
  | zero =>
    intro s r a b M h1 h2 h3 h3' h4 h4' hc
    cases M with
    | zero => omega
    | succ M =>
      refine ⟨s, ?_, Only.refl _ _, hc⟩
      rw [f_X10_toNextRow_L81, if_neg (by omega)]
  | succ m ih =>
    intro s r a b M h1 h2 h3 h3' h4 h4' hc
    cases M with
    | zero => omega
    | succ M =>
      rw [f_X10_toNextRow_L81]
      by_cases hab : a < b
      · obtain ⟨s1, x1, x2, x3⟩ := e_exch hn (i := a) (j := b) h3 (by omega) (by omega) h4 hc
        obtain ⟨s2, y1, y2, y3⟩ := ih s1 (swp r a b) (a + 1) (b - 1) M (by omega) (by omega) (by omega) (by omega) (by omega) (by omega) x3
        refine ⟨s2, ?_, x2.trans y2, fun k k0 k1 => ?_⟩
        · rw [if_pos hab, x1, bd_eq, wr_of (by omega) (by omega), wr_of (by omega) (by omega)]
          exact y1
        · rw [rvs, if_pos hab]
          exact y3 k k0 k1
      · refine ⟨s, ?_, Only.refl _ _, fun k k0 k1 => ?_⟩
        · rw [if_neg hab]
        · rw [rvs, if_neg hab]
          exact hc k k0 k1
theorem e_toNextRow (hn : n ≤ alen p) (h5 : n ≤ 5) (h1 : 1 ≤ n) (hr : ∀ i : Int, 0 ≤ i → i < n → 0 ≤ r i ∧ r i < K) (hf : ∀ x y : Int, 0 ≤ x → x < K → 0 ≤ y → y < K → (f x ≤ f y ↔ x ≤ y)) (hc : ∀ i : Int, 0 ≤ i → i < n → rd s p i = f (r i)) : (dnI r (n - 1) < 0 → f_X10_toNextRow p (n : Int) s = some (0, s)) ∧ (0 ≤ dnI r (n - 1) → ∃ s', f_X10_toNextRow p (n : Int) s = some (1, s') ∧ Only (pto p) s s' ∧ ∀ k : Int, 0 ≤ k → k < n → rd s' p k = f (nxR r n k)) := by
  have hb := dnI_b r (n - 1)
  have e1 := fun kx => e_nx1 hn h5 hr hf hc kx (n : Int) (n - 1) FU (FU_gt (by omega)) (by omega)
  refine ⟨fun hneg => ?_, fun hpos => ?_⟩
  · unfold f_X10_toNextRow
    rw [if_pos (show (n : Int) ≤ (alen p : Int) by omega), wr_of (x := (n : Int) - 2) (by omega) (by omega), show (n : Int) - 2 = ((n - 1 : Nat) : Int) - 1 by omega, e1, if_pos hneg]
  · have hj := dnJ_b r hpos (n - 1) (by omega)
    have e2 := fun kx => e_nx2 hn h5 hr hf hc kx (n : Int) hpos (n - 1) FU (FU_gt (by omega)) (by omega) (by omega)
    obtain ⟨s1, x1, x2, x3⟩ := e_exch hn (i := dnI r (n - 1)) (j := dnJ r (dnI r (n - 1)) (n - 1)) hpos (by omega) (by omega) (by omega) hc
    obtain ⟨s2, y1, y2, y3⟩ := e_nx3 (f := f) hn h5 (fun s_4 => some (1, s_4)) 3 s1 (swp r (dnI r (n - 1)) (dnJ r (dnI r (n - 1)) (n - 1))) (dnI r (n - 1) + 1) ((n : Int) - 1) FU (FU_gt (by omega)) (by omega) (by omega) (by omega) (by omega) (by omega) x3
    refine ⟨s2, ?_, x2.trans y2, y3⟩
    unfold f_X10_toNextRow
    rw [if_pos (show (n : Int) ≤ (alen p : Int) by omega), wr_of (x := (n : Int) - 2) (by omega) (by omega), show (n : Int) - 2 = ((n - 1 : Nat) : Int) - 1 by omega, e1, if_neg (by omega), wr_of (x := (n : Int) - 1) (by omega) (by omega), show (n : Int) - 1 = ((n - 1 : Nat) : Int) by omega, e2, x1, bd_eq, wr_of (by omega) (by omega), show ((n - 1 : Nat) : Int) = (n : Int) - 1 by omega]
    exact y1
end NEXT
/-- the rows of so many figures, by ten and by five -/
def P10 : Nat → List Nat
  | 2 => [1, 10]
  | 3 => [12, 21, 102, 120, 201, 210]
  | 4 => [123, 132, 213, 231, 312, 321, 1023, 1032, 1203, 1230, 1302, 1320, 2013, 2031, 2103, 2130, 2301, 2310, 3012, 3021, 3102, 3120, 3201, 3210]
  | _ => []
def P5 : Nat → List Nat
  | 0 => [0]
  | 1 => [0]
  | 2 => [1, 5]
  | 3 => [7, 11, 27, 35, 51, 55]
  | 4 => [38, 42, 58, 66, 82, 86, 138, 142, 178, 190, 202, 210, 258, 266, 278, 290, 326, 330, 382, 386, 402, 410, 426, 430]
  | 5 => [194, 198, 214, 222, 238, 242, 294, 298, 334, 346, 358, 366, 414, 422, 434, 446, 482, 486, 538, 542, 558, 566, 582, 586, 694, 698, 714, 722, 738, 742, 894, 898, 954, 970, 978, 990, 1014, 1022, 1054, 1070, 1102, 1110, 1138, 1142, 1178, 1190, 1202, 1210, 1294, 1298, 1334, 1346, 1358, 1366, 1394, 1398, 1454, 1470, 1478, 1490, 1634, 1646, 1654, 1670, 1726, 1730, 1758, 1766, 1778, 1790, 1826, 1830, 1914, 1922, 1934, 1946, 1982, 1986, 2014, 2022, 2054, 2070, 2102, 2110, 2134, 2146, 2154, 2170, 2226, 2230, 2382, 2386, 2402, 2410, 2426, 2430, 2538, 2542, 2558, 2566, 2582, 2586, 2638, 2642, 2678, 2690, 2702, 2710, 2758, 2766, 2778, 2790, 2826, 2830, 2882, 2886, 2902, 2910, 2926, 2930]
  | _ => []
def nxOK (B n : Nat) (P : List Nat) : Bool := (List.range P.length).all fun i => (List.range n).all (fun k => decide (0 ≤ vo B n (P.getD i 0) k ∧ vo B n (P.getD i 0) k < n)) && if i + 1 < P.length then decide (0 ≤ dnI (vo B n (P.getD i 0)) (n - 1)) && (List.range n).all (fun k => decide (nxR (vo B n (P.getD i 0)) n k = vo B n (P.getD (i + 1) 0) k)) else decide (dnI (vo B n (P.getD i 0)) (n - 1) < 0)
theorem nx_2 : nxOK 10 2 (P10 2) = true := by decide +kernel
theorem nx_3 : nxOK 10 3 (P10 3) = true := by decide +kernel
theorem nx_4 : nxOK 10 4 (P10 4) = true := by decide +kernel
theorem nx_5 : (List.range 6).all (fun n => nxOK 5 n (P5 n)) = true := by decide +kernel
def setO (n c : Nat) : Nat → Nat
  | 0 => 0
  | k + 1 => setO n c k ||| 1 <<< (c / 10 ^ (n - 1 - k) % 10)
def okO (n c : Nat) : Bool := Nat.beq (setO n c n) (2 ^ n - 1)
def tkR (v : Nat) : Nat → Nat → Nat → Option Nat
  | 0, l, _ => some l
  | k + 1, l, e => if Nat.blt (l % 10) v then (if Nat.beq ((e >>> (l % 10)) % 2) 1 then none else tkR v k (l / 10) (e ||| 1 <<< (l % 10))) else none
def okT (n c : Nat) : Bool := (okO n c == (P10 n).contains c) && ((match tkR n n c 0 with | some x => Nat.beq x 0 | none => false) == okO n c)
theorem okT_2 : ∀ c d : Fin 10, okT 2 (c.val * 10 + d.val) = true := by decide +kernel
theorem okT_3 : ∀ b c d : Fin 10, okT 3 (b.val * 100 + c.val * 10 + d.val) = true := by decide +kernel
theorem okT_4 : ∀ a b c d : Fin 10, okT 4 (a.val * 1000 + b.val * 100 + c.val * 10 + d.val) = true := by decide +kernel
theorem ior_nat {a b : Nat} (ha : a < 2 ^ 31) (hb : b < 2 ^ 31) : ior (a : Int) (b : Int) = ((a ||| b : Nat) : Int) := by
  have hab : a ||| b < 2 ^ 31 := Nat.or_lt_two_pow ha hb
  unfold ior J
  show (Int32.ofInt (a : Int) ||| Int32.ofInt (b : Int)).toBitVec.toInt = _
  rw [Int32.toBitVec_or, show (Int32.ofInt (a : Int)).toBitVec = BitVec.ofNat 32 a from BitVec.ofInt_natCast .., show (Int32.ofInt (b : Int)).toBitVec = BitVec.ofNat 32 b from BitVec.ofInt_natCast .., BitVec.toInt_eq_toNat_of_lt (by rw [BitVec.toNat_or, BitVec.toNat_ofNat, BitVec.toNat_ofNat, Nat.mod_eq_of_lt (by omega), Nat.mod_eq_of_lt (by omega)]; omega), BitVec.toNat_or, BitVec.toNat_ofNat, BitVec.toNat_ofNat, Nat.mod_eq_of_lt (by omega), Nat.mod_eq_of_lt (by omega)]
theorem ishl_tab : ∀ d : Fin 31, ishl 1 (d.val : Int) = ((1 <<< d.val : Nat) : Int) := by decide +kernel
theorem ishl_nat {d : Nat} (h : d < 31) : ishl 1 (d : Int) = ((1 <<< d : Nat) : Int) := ishl_tab ⟨d, h⟩
theorem seen_tab : ∀ e : Fin 32, ∀ d : Fin 5, iand (ishr (e.val : Int) (d.val : Int)) 1 = (((e.val >>> d.val) % 2 : Nat) : Int) := by decide +kernel
theorem shl_lt {d n : Nat} (h : d < n) : 1 <<< d < 2 ^ n := by
  rw [Nat.one_shiftLeft]
  exact Nat.pow_lt_pow_right (by omega) h
