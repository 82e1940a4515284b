/-! WHAT IS HEARD, and the faults of two sounds: class and model -/
def HRD (A : Int → Int) (l f m st t : Int) : Int := if t < st then -1000 else if SND A l f (t - st) = -1000 then -1000 else SND A l f (t - st) + m
theorem hrd_in {A : Int → Int} {l f m st t : Int} (hw : WL A l) (h0 : st ≤ t) (h1 : t < st + totA A l f) : HRD A l f m st t = SND A l f (t - st) + m ∧ -27 + m ≤ HRD A l f m st t ∧ HRD A l f m st t ≤ 54 + m := by
  have h := snd_in hw (f := f) (t := t - st) (by omega) (by omega)
  unfold HRD
  rw [if_neg (by omega), if_neg (by omega)]
  exact ⟨rfl, by omega, by omega⟩
theorem hrd_out {A : Int → Int} {l f m st t : Int} (hw : WL A l) (h : ¬ (st ≤ t ∧ t < st + totA A l f)) : HRD A l f m st t = -1000 := by
  unfold HRD
  by_cases h0 : t < st
  · rw [if_pos h0]
  · rw [if_neg h0, if_pos (snd_out hw (by omega))]
abbrev harsh7 (c : Int) : Prop := c = 1 ∨ c = 3 ∨ c = 6
abbrev par7 (u u' w w' : Int) : Prop := ((u' < u ∧ w' < w) ∨ (u < u' ∧ w < w')) ∧ ((u - w) % 7 = 0 ∨ (u - w) % 7 = 4) ∧ (u' - w') % 7 = (u - w) % 7
/-- the faults at a tick, a bit a kind -/
def flt (mt : Int) (u w : Int → Int) (t : Int) : Int :=
  if u t = -1000 ∨ w t = -1000 then 0 else (if t % mt = 0 ∧ harsh7 ((u t - w t) % 7) then 1 else 0) + (if u t < w t then 2 else 0) + (if u (t - 1) ≠ -1000 ∧ w (t - 1) ≠ -1000 ∧ par7 (u t) (u (t - 1)) (w t) (w (t - 1)) then 4 else 0)
theorem flt_b (mt : Int) (u w : Int → Int) (t : Int) : 0 ≤ flt mt u w t ∧ flt mt u w t ≤ 7 := by
  unfold flt
  split
  · omega
  · split <;> split <;> split <;> omega
theorem ior_00 : ior 0 0 = 0 := by decide +kernel
theorem ior_01 : ior 0 1 = 1 := by decide +kernel
theorem ior_21 : ior 2 1 = 3 := by decide +kernel
theorem ior_02 : ior 0 2 = 2 := by decide +kernel
theorem ior_12 : ior 1 2 = 3 := by decide +kernel
theorem ior_10 : ior 1 0 = 1 := by decide +kernel
theorem ior_20 : ior 2 0 = 2 := by decide +kernel
theorem ior_30 : ior 3 0 = 3 := by decide +kernel
theorem ior_04 : ior 0 4 = 4 := by decide +kernel
theorem ior_14 : ior 1 4 = 5 := by decide +kernel
theorem ior_24 : ior 2 4 = 6 := by decide +kernel
theorem ior_34 : ior 3 4 = 7 := by decide +kernel
def bitk (x k : Int) : Int := iand (ishr x k) 1
theorem bit_tab : ∀ x : Fin 8, ∀ k : Fin 3, (bitk (x : Nat) (k : Nat) = 0 ∨ bitk (x : Nat) (k : Nat) = 1) ∧ iand ((x : Nat) : Int) 1 = bitk (x : Nat) 0 := by decide +kernel
theorem bit_01 {x k : Int} (h0 : 0 ≤ x) (h1 : x ≤ 7) (k0 : 0 ≤ k) (k1 : k ≤ 2) : bitk x k = 0 ∨ bitk x k = 1 := by
  have := (bit_tab ⟨x.toNat, by omega⟩ ⟨k.toNat, by omega⟩).1
  simp only [Int.toNat_of_nonneg h0, Int.toNat_of_nonneg k0] at this
  exact this
theorem bit_b {x k : Int} (h0 : 0 ≤ x) (h1 : x ≤ 7) (k0 : 0 ≤ k) (k1 : k ≤ 2) : 0 ≤ bitk x k ∧ bitk x k ≤ 1 := by
  rcases bit_01 h0 h1 k0 k1 with h | h <;> omega
theorem bit_0 {x : Int} (h0 : 0 ≤ x) (h1 : x ≤ 7) : iand x 1 = bitk x 0 := by
  have := (bit_tab ⟨x.toNat, by omega⟩ ⟨0, by omega⟩).2
  simp only [Int.toNat_of_nonneg h0] at this
  exact this
theorem e_floorMod2 {p1 p2 : Int} (h1 : -2147483648 ≤ p1) (h2 : p1 < 2147483648) (h3 : 0 < p2) (h4 : p2 < 2147483648) (s : u_S) : f_J9_floorMod_7cf53 p1 p2 s = some (p1 % p2, s) := e_floorMod (InR_iff.mpr ⟨h1, h2⟩) h3 (InR_iff.mpr ⟨by omega, h4⟩) s
theorem e_isHarsh {a b : Int} (h1 : -2147483648 ≤ a - b) (h2 : a - b < 2147483648) (s : u_S) : f_X3_isHarsh a b s = some ((if harsh7 ((a - b) % 7) then 1 else 0), s) := by
  unfold f_X3_isHarsh
  rw [wr_of h1 h2, e_floorMod2 h1 h2 (by omega) (by omega), bd_eq]
  simp only [jn_eq, if_some]
  congr 2
  repeat' split
  all_goals first | rfl | omega
theorem e_isParallel {a b c d : Int} (h1 : -2147483648 ≤ a - b) (h2 : a - b < 2147483648) (h3 : -2147483648 ≤ c - d) (h4 : c - d < 2147483648) (s : u_S) : f_X3_isParallel a b c d s = some ((if par7 a c b d then 1 else 0), s) := by
  unfold f_X3_isParallel par7
  simp only [jn_eq, wr_of h1 h2, wr_of h3 h4, e_floorMod2 h1 h2 (show (0 : Int) < 7 by omega) (show (7 : Int) < 2147483648 by omega), e_floorMod2 h3 h4 (show (0 : Int) < 7 by omega) (show (7 : Int) < 2147483648 by omega), bd_eq, if_some]
  generalize (a - b) % 7 = r
  generalize (c - d) % 7 = r2
  have e1 : (a ≤ c) = ¬ (c < a) := by simp
  have e2 : (b ≤ d) = ¬ (d < b) := by simp
  simp only [e1, e2]
  by_cases h1 : c < a <;> by_cases h2 : d < b <;> by_cases h3 : a < c <;> by_cases h4 : b < d <;> by_cases h5 : r = 0 <;> by_cases h6 : r = 4 <;> by_cases h7 : r2 = r <;> simp only [h1, h2, h3, h4, h5, h6, h7, if_true, if_false, not_true_eq_false, not_false_eq_true, and_true, true_and, and_false, false_and, or_true, true_or, or_false, false_or, Int.reduceEq]
/-- a sound object, laid and placed -/
def SR (s : u_S) (j : Nat) (A : Int → Int) (l f m st v : Int) : Prop := SF s j A l f m ∧ rd s (14, j, 0) 2 = st ∧ rd s (14, j, 0) 3 = v
theorem kinds_core {hi lo : u_O} {t mt u w u' w' : Int} {s : u_S} (g3 : f_X8_stepAt hi t s = some (u, s)) (g4 : f_X8_stepAt lo t s = some (w, s)) (d1 : f_X8_isHeardAt hi (t - 1) s = some ((if u' ≠ -1000 then 1 else 0), s)) (d2 : f_X8_isHeardAt lo (t - 1) s = some ((if w' ≠ -1000 then 1 else 0), s)) (g1 : f_X8_stepAt hi (t - 1) s = some (u', s)) (g2 : f_X8_stepAt lo (t - 1) s = some (w', s)) (hmt : 1 ≤ mt) (t1 : 0 ≤ t) (t2 : t < 2147483648) (bu : -1000 ≤ u ∧ u ≤ 100) (bw : -1000 ≤ w ∧ w ≤ 100) (bu' : -1000 ≤ u' ∧ u' ≤ 100) (bw' : -1000 ≤ w' ∧ w' ≤ 100) : bd (f_X8_stepAt hi t s) (fun r_3 s_5 => bd (f_X8_stepAt lo t s_5) (fun r_4 s_6 => jn (fun (vt_3 : Int) (s_7 : u_S) => jn (fun (v8_1 : Int) (s_8 : u_S) => bd (f_X8_isHeardAt hi (wr (t - 1)) s_8) (fun r_5 s_9 => if r_5 = 0 then (some (v8_1, s_9)) else (bd (f_X8_isHeardAt lo (wr (t - 1)) s_9) (fun r_6 s_10 => if r_6 = 0 then (some (v8_1, s_10)) else (bd (f_X8_stepAt hi (wr (t - 1)) s_10) (fun r_7 s_11 => bd (f_X8_stepAt lo (wr (t - 1)) s_11) (fun r_8 s_12 => bd (f_X3_isParallel r_3 r_4 r_7 r_8 s_12) (fun r_9 s_13 => if r_9 = 0 then (some (v8_1, s_13)) else (some ((ior v8_1 4), s_13)))))))))) (fun jp_4 => if mt ≤ 0 then (jp_4 vt_3 s_7) else (nz mt (if (Int.tmod t mt) = 0 then (bd (f_X3_isHarsh r_3 r_4 s_7) (fun r_10 s_14 => if r_10 = 0 then (jp_4 vt_3 s_14) else (jp_4 (ior vt_3 1) s_14))) else (jp_4 vt_3 s_7))))) (fun jp_3 => if r_3 < r_4 then (jp_3 2 s_6) else (jp_3 0 s_6)))) = some ((if t % mt = 0 ∧ harsh7 ((u - w) % 7) then 1 else 0) + (if u < w then 2 else 0) + (if u' ≠ -1000 ∧ w' ≠ -1000 ∧ par7 u u' w w' then 4 else 0), s) := by
  have hmod : Int.tmod t mt = t % mt := Int.tmod_eq_emod_of_nonneg t1
  rw [g3, bd_eq, g4, bd_eq]
  simp only [jn_eq, wr_of (x := t - 1) (show _ by omega) (show _ by omega), d1, d2, g1, g2, bd_eq, hmod, if_neg (show ¬ mt ≤ 0 by omega), nz_of (show mt ≠ 0 by omega), e_isHarsh (a := u) (b := w) (show _ by omega) (show _ by omega), e_isParallel (a := u) (b := w) (c := u') (d := w') (show _ by omega) (show _ by omega) (show _ by omega) (show _ by omega), b10_0]
  by_cases c6 : par7 u u' w w'
  · simp only [if_not', if_pos c6]
    by_cases c1 : u < w <;> by_cases c2 : t % mt = 0 <;> by_cases c3 : harsh7 ((u - w) % 7) <;> by_cases c4 : u' = -1000 <;> by_cases c5 : w' = -1000 <;> simp [c1, c2, c3, c4, c5, c6, ior_00, ior_01, ior_21, ior_02, ior_12, ior_04, ior_14, ior_24, ior_34] <;> (rw [if_pos c6]; rfl)
  · simp only [if_not', if_neg c6]
    by_cases c1 : u < w <;> by_cases c2 : t % mt = 0 <;> by_cases c3 : harsh7 ((u - w) % 7) <;> by_cases c4 : u' = -1000 <;> by_cases c5 : w' = -1000 <;> simp [c1, c2, c3, c4, c5, c6, ior_00, ior_01, ior_21, ior_02, ior_12, ior_04, ior_14, ior_24, ior_34]
theorem j_pick (K : u_O → u_S → Option (Int × u_S)) (x y : Int) (p q : u_O) (s : u_S) : jn K (fun jp => if x < y then jp p s else jp q s) = K (if x < y then p else q) s := by
  simp only [jn_eq]
  split <;> rfl
section FAULT
variable {s : u_S} {A : Int → Int} {l f m st v l2 f2 m2 st2 v2 mt t : Int} {j j2 : Nat}
theorem e_isHeardAt (h : SR s j A l f m st v) (hw : WL A l) (h0 : 0 ≤ st) (h1 : st ≤ 1000) (t1 : -1 ≤ t) (t2 : t < 2147483648) : f_X8_isHeardAt (14, j, 0) t s = some ((if st ≤ t ∧ t < st + totA A l f then 1 else 0), s) := by
  unfold f_X8_isHeardAt
  have ht := tot_b hw f
  rw [h.2.1, h.1.1]
  by_cases c1 : t < st
  · rw [if_pos c1, if_neg (by omega)]
  · rw [if_neg c1, wr_of (by omega) (by omega)]
    by_cases c2 : t - st < totA A l f
    · rw [if_pos c2, if_neg (by omega), if_pos (by omega)]
    · rw [if_neg c2, if_neg (by omega)]
theorem e_stepAt (h : SR s j A l f m st v) (hw : WL A l) (h0 : 0 ≤ st) (h1 : st ≤ 1000) (t1 : -1 ≤ t) (t2 : t < 2147483648) : f_X8_stepAt (14, j, 0) t s = some (HRD A l f m st t, s) := by
  unfold f_X8_stepAt
  have ht := tot_b hw f
  rw [e_isHeardAt h hw h0 h1 t1 t2, bd_eq]
  by_cases c : st ≤ t ∧ t < st + totA A l f
  · rw [if_pos c, if10, h.2.1, wr_of (by omega) (by omega), gd_of (by omega) (by omega), (hrd_in hw c.1 c.2).1]
    show some (rd s (15, j, 0) (t - st), s) = _
    rw [h.1.2 _ (by omega) (by omega)]
  · rw [if_neg c, if00, hrd_out hw c]
/-- the kinds of two sounds' faults, as their voices are -/
def kda (mt v v2 : Int) (u w : Int → Int) (t : Int) : Int := if v = v2 then 0 else if v < v2 then flt mt u w t else flt mt w u t
theorem kda_b (mt v v2 : Int) (u w : Int → Int) (t : Int) : 0 ≤ kda mt v v2 u w t ∧ kda mt v v2 u w t ≤ 7 := by
  unfold kda
  split
  · omega
  · split
    · exact flt_b _ _ _ _
    · exact flt_b _ _ _ _
theorem e_kindsAt (h : SR s j A l f m st v) (h2 : SR s j2 A l2 f2 m2 st2 v2) (hw : WL A l) (hw2 : WL A l2) (hs : 0 ≤ st ∧ st ≤ 1000) (hs2 : 0 ≤ st2 ∧ st2 ≤ 1000) (hm : -40 ≤ m ∧ m ≤ 40) (hm2 : -40 ≤ m2 ∧ m2 ≤ 40) (hmt : 1 ≤ mt) (t1 : 0 ≤ t) (t2 : t < 2147483648) : f_X3_kindsAt (14, j, 0) (14, j2, 0) t mt s = some (kda mt v v2 (HRD A l f m st) (HRD A l2 f2 m2 st2) t, s) := by
  unfold f_X3_kindsAt kda
  rw [h.2.2, h2.2.2]
  by_cases hv : v = v2
  · rw [if_pos hv, if_pos hv]
  rw [if_neg hv, if_neg hv, e_isHeardAt h hw hs.1 hs.2 (by omega) t2, bd_eq, e_isHeardAt h2 hw2 hs2.1 hs2.2 (by omega) t2, bd_eq]
  simp only [b10_0, if_not']
  by_cases c1 : st ≤ t ∧ t < st + totA A l f
  · rw [if_pos c1]
    by_cases c2 : st2 ≤ t ∧ t < st2 + totA A l2 f2
    · rw [if_pos c2]
      have q1 := hrd_in (m := m) hw c1.1 c1.2
      have q2 := hrd_in (m := m2) hw2 c2.1 c2.2
      have r1 : (st ≤ t - 1 ∧ t - 1 < st + totA A l f) ↔ HRD A l f m st (t - 1) ≠ -1000 := by
        constructor
        · intro z; have := hrd_in (m := m) hw z.1 z.2; omega
        · intro z; exact Classical.byContradiction fun y => z (hrd_out hw y)
      have r2 : (st2 ≤ t - 1 ∧ t - 1 < st2 + totA A l2 f2) ↔ HRD A l2 f2 m2 st2 (t - 1) ≠ -1000 := by
        constructor
        · intro z; have := hrd_in (m := m2) hw2 z.1 z.2; omega
        · intro z; exact Classical.byContradiction fun y => z (hrd_out hw2 y)
      have b1 : HRD A l f m st (t - 1) = -1000 ∨ (-100 ≤ HRD A l f m st (t - 1) ∧ HRD A l f m st (t - 1) ≤ 100) := by
        by_cases z : st ≤ t - 1 ∧ t - 1 < st + totA A l f
        · have := hrd_in (m := m) hw z.1 z.2; right; omega
        · left; exact hrd_out hw z
      have b2 : HRD A l2 f2 m2 st2 (t - 1) = -1000 ∨ (-100 ≤ HRD A l2 f2 m2 st2 (t - 1) ∧ HRD A l2 f2 m2 st2 (t - 1) ≤ 100) := by
        by_cases z : st2 ≤ t - 1 ∧ t - 1 < st2 + totA A l2 f2
        · have := hrd_in (m := m2) hw2 z.1 z.2; right; omega
        · left; exact hrd_out hw2 z
      have d1 := e_isHeardAt (t := t - 1) h hw hs.1 hs.2 (by omega) (by omega)
      have d2 := e_isHeardAt (t := t - 1) h2 hw2 hs2.1 hs2.2 (by omega) (by omega)
      have g1 := e_stepAt (t := t - 1) h hw hs.1 hs.2 (by omega) (by omega)
      have g2 := e_stepAt (t := t - 1) h2 hw2 hs2.1 hs2.2 (by omega) (by omega)
      have g3 := e_stepAt (t := t) h hw hs.1 hs.2 (by omega) (by omega)
      have g4 := e_stepAt (t := t) h2 hw2 hs2.1 hs2.2 (by omega) (by omega)
      simp only [r1] at d1
      simp only [r2] at d2
      by_cases hlt : v < v2
      · rw [j_pick, j_pick, h.2.2, h2.2.2]
        simp only [hlt, if_true]
        rw [kinds_core g3 g4 d1 d2 g1 g2 hmt t1 t2 (by omega) (by omega) (by omega) (by omega)]
        unfold flt
        rw [if_neg (show ¬ (HRD A l f m st t = -1000 ∨ HRD A l2 f2 m2 st2 t = -1000) by omega)]
      · rw [j_pick, j_pick, h.2.2, h2.2.2]
        simp only [hlt, if_false]
        rw [kinds_core g4 g3 d2 d1 g2 g1 hmt t1 t2 (by omega) (by omega) (by omega) (by omega)]
        unfold flt
        rw [if_neg (show ¬ (HRD A l2 f2 m2 st2 t = -1000 ∨ HRD A l f m st t = -1000) by omega)]
    · rw [if_neg c2]
      have q2 := hrd_out (m := m2) hw2 c2
      unfold flt
      rw [q2]
      simp
  · rw [if_neg c1]
    have q1 := hrd_out (m := m) hw c1
    unfold flt
    rw [q1]
    simp
end FAULT
