/-! the faults of an order, on both sides -/
theorem sm_add (f g : Int → Int) : ∀ n : Nat, sm (fun i => f i + g i) n = sm f n + sm g n
  | 0 => rfl
  | n + 1 => by
    show sm (fun i => f i + g i) n + (f n + g n) = sm f n + f n + (sm g n + g n)
    rw [sm_add f g n]
    omega
theorem sm_even {h : Int → Int} : ∀ {n : Nat}, (∀ i : Int, 0 ≤ i → i < n → h (2 * i + 1) = 0) → sm h (2 * n) = sm (fun i => h (2 * i)) n
  | 0, _ => rfl
  | n + 1, hz => by
    rw [show 2 * (n + 1) = 2 * n + 1 + 1 by omega]
    show sm h (2 * n) + h ((2 * n : Nat) : Int) + h ((2 * n + 1 : Nat) : Int) = sm (fun i => h (2 * i)) n + h (2 * (n : Int))
    have := hz n (by omega) (by omega)
    rw [sm_even (fun i a b => hz i a (by omega)), show ((2 * n + 1 : Nat) : Int) = 2 * (n : Int) + 1 by omega, this, show ((2 * n : Nat) : Int) = 2 * (n : Int) by omega]
    omega
theorem tri_1 {u : Int → Int} {G : Int → Int → Int} (hs : ∀ i j, G i j = G j i) (hz : ∀ i j, u i = u j → G i j = 0) : ∀ n : Nat, sm (fun i => sm (fun j => if u i < u j then G i j else 0) n) n = sm (fun j => sm (fun i => G i j) j.toNat) n
  | 0 => rfl
  | n + 1 => by
    show sm (fun i => sm (fun j => if u i < u j then G i j else 0) n + (if u i < u n then G i n else 0)) n + (sm (fun j => if u n < u j then G n j else 0) n + (if u n < u n then G n n else 0)) = sm (fun j => sm (fun i => G i j) j.toNat) n + sm (fun i => G i n) (n : Int).toNat
    rw [sm_add (fun i => sm (fun j => if u i < u j then G i j else 0) n) (fun i => if u i < u n then G i n else 0), tri_1 hs hz n, if_neg (by omega), Int.toNat_natCast]
    have e : sm (fun i => G i n) n = sm (fun i => (if u i < u n then G i n else 0) + (if u n < u i then G n i else 0)) n := sm_congr (fun i _ _ => by
      by_cases h1 : u i < u n
      · rw [if_pos h1, if_neg (by omega)]; omega
      · by_cases h2 : u n < u i
        · rw [if_neg h1, if_pos h2, hs n i]; omega
        · rw [if_neg h1, if_neg h2, hz i n (by omega)]; rfl)
    rw [e, sm_add (fun i => if u i < u n then G i n else 0) (fun i => if u n < u i then G n i else 0)]
    omega
theorem tri_2 (F : Int → Int → Int) : ∀ n : Nat, sm (fun e => sm (fun i => F e (e + 1 + i)) ((n : Int) - 1 - e).toNat) n = sm (fun g => sm (fun e => F e g) g.toNat) n
  | 0 => rfl
  | n + 1 => by
    show sm (fun e => sm (fun i => F e (e + 1 + i)) (((n + 1 : Nat) : Int) - 1 - e).toNat) n + sm (fun i => F n ((n : Int) + 1 + i)) (((n + 1 : Nat) : Int) - 1 - n).toNat = sm (fun g => sm (fun e => F e g) g.toNat) n + sm (fun e => F e n) (n : Int).toNat
    rw [← tri_2 F n, Int.toNat_natCast, show (((n + 1 : Nat) : Int) - 1 - n).toNat = 0 by omega]
    have e : sm (fun e => sm (fun i => F e (e + 1 + i)) (((n + 1 : Nat) : Int) - 1 - e).toNat) n = sm (fun e => sm (fun i => F e (e + 1 + i)) ((n : Int) - 1 - e).toNat + F e n) n := sm_congr (fun e a b => by
      rw [show (((n + 1 : Nat) : Int) - 1 - e).toNat = ((n : Int) - 1 - e).toNat + 1 by omega]
      show sm (fun i => F e (e + 1 + i)) ((n : Int) - 1 - e).toNat + F e (e + 1 + (((n : Int) - 1 - e).toNat : Int)) = _
      rw [show e + 1 + (((n : Int) - 1 - e).toNat : Int) = n by omega])
    rw [e, sm_add (fun e => sm (fun i => F e (e + 1 + i)) ((n : Int) - 1 - e).toNat) (fun e => F e n)]
    show _ + 0 = _
    omega
theorem kda_comm (mt v w : Int) (a b : Int → Int) : kda mt v w a b = kda mt w v b a := by
  funext t
  unfold kda
  by_cases h : v = w
  · rw [if_pos h, if_pos h.symm]
  · rw [if_neg h, if_neg (show ¬ w = v from fun z => h z.symm)]
    by_cases h2 : v < w
    · rw [if_pos h2, if_neg (by omega)]
    · rw [if_neg h2, if_pos (by omega)]
theorem cnB_comm (A : Int → Int) (B : Int → Int → Int) (e g k : Int) : cnB A B e g k = cnB A B g e k := by
  unfold cnB kdB loB upB
  rw [kda_comm, Int.max_comm (B e 3), Int.min_comm (B e 3 + totA A (B e 0) (B e 1))]
theorem cnW_comm (A : Int → Int) (B : Int → Int → Int) (e g w : Int) : cnW A B e g w = cnW A B g e w := by
  unfold cnW
  rw [cnB_comm A B e g w, cnB_comm A B e g 0, cnB_comm A B e g 1, cnB_comm A B e g 2]
theorem cnW_congr {A : Int → Int} {B C : Int → Int → Int} {e g e' g' : Int} (he : ∀ i, 0 ≤ i → i < 5 → B e i = C e' i) (hg : ∀ i, 0 ≤ i → i < 5 → B g i = C g' i) (w : Int) : cnW A B e g w = cnW A C e' g' w := by
  unfold cnW cnB kdB loB upB hrB
  rw [he 0 (by omega) (by omega), he 1 (by omega) (by omega), he 2 (by omega) (by omega), he 3 (by omega) (by omega), he 4 (by omega) (by omega), hg 0 (by omega) (by omega), hg 1 (by omega) (by omega), hg 2 (by omega) (by omega), hg 3 (by omega) (by omega), hg 4 (by omega) (by omega)]
def orF (A V : Int → Int) (v : Int) : Int := allW A (entA (layJ A V v (2 * v).toNat)) (nJ A v ((2 * v).toNat : Int)) 3 (nJ A v ((2 * v).toNat : Int)).toNat
def tF (A V : Int → Int) (v i j : Int) : Int := if V (i / 2) < V (j / 2) then (if exJ A v i ∧ exJ A v j then cnW A (SB A V) i j 3 else 0) else 0
def mdF (A V : Int → Int) (v : Int) : Int := sm (fun i => sm (fun j => tF A V v i j) (2 * v).toNat) (2 * v).toNat
def rfo (o : u_O) : Prop := eob 7 o ∨ gob o ∨ flo o
theorem rfo_csc (o : u_O) (h : rfo o) : csc o := by
  rcases h with h | h | h
  · exact Or.inr (eob_pob o h)
  · exact gob_csc o h
  · exact flo_csc o h
theorem SB_4 (A V : Int → Int) (j : Int) : SB A V j 4 = V (j / 2) := by
  rcases (show j = 2 * (j / 2) ∨ j = 2 * (j / 2) + 1 by omega) with x | x
  · rw [x, SB_even, show 2 * (j / 2) / 2 = j / 2 by omega]; rfl
  · rw [x, SB_odd, show (2 * (j / 2) + 1) / 2 = j / 2 by omega]; rfl
section ORF
variable {s : u_S} {A V : Int → Int} {v : Int}
theorem md_or (h2 : 2 ≤ v) (h4 : v ≤ 4) : mdF A V v = orF A V v := by
  obtain ⟨n, rfl⟩ : ∃ n : Nat, v = n := ⟨v.toNat, by omega⟩
  have e2 : (2 * (n : Int)).toNat = 2 * n := by omega
  obtain ⟨f1, f2, f3⟩ := lay_fact (A := A) (V := V) h2 h4 (2 * n) (by omega)
  unfold mdF orF allW rowW
  rw [e2]
  generalize hB : entA (layJ A V (n : Int) (2 * n)) = B at *
  have hm : sm (fun i => sm (fun j => tF A V n i j) (2 * n)) (2 * n) = sm (fun j => sm (fun i => if exJ A n i ∧ exJ A n j then cnW A (SB A V) i j 3 else 0) j.toNat) (2 * n) := tri_1 (u := fun i => V (i / 2)) (G := fun i j => if exJ A n i ∧ exJ A n j then cnW A (SB A V) i j 3 else 0) (fun i j => by
    try dsimp only
    rw [cnW_comm A (SB A V) i j]
    exact ifc ⟨fun z => ⟨z.2, z.1⟩, fun z => ⟨z.2, z.1⟩⟩ _ _) (fun i j h => by
    try dsimp only at h ⊢
    rw [cnW_same (by rw [SB_4, SB_4]; exact h) (by omega), ite_self]) (2 * n)
  rw [hm]
  by_cases hc : 0 < cntA A 1
  · have hn : nJ A n ((2 * n : Nat) : Int) = ((2 * n - 1 : Nat) : Int) := by unfold nJ; rw [if_pos hc]; omega
    rw [hn] at f2 ⊢
    have q := tri_2 (fun e g => cnW A B e g 3) (2 * n - 1)
    rw [Int.toNat_natCast, q, show 2 * n = (2 * n - 1) + 1 by omega]
    show sm (fun j => sm (fun i => if exJ A n i ∧ exJ A n j then cnW A (SB A V) i j 3 else 0) j.toNat) (2 * n - 1) + sm (fun i => if exJ A n i ∧ exJ A n ((2 * n - 1 : Nat) : Int) then cnW A (SB A V) i ((2 * n - 1 : Nat) : Int) 3 else 0) ((2 * n - 1 : Nat) : Int).toNat = _
    rw [sm_zero (f := fun i => if exJ A n i ∧ exJ A n ((2 * n - 1 : Nat) : Int) then cnW A (SB A V) i ((2 * n - 1 : Nat) : Int) 3 else 0) (fun i _ _ => if_neg (fun z => by
      rcases z.2 with z | z
      · omega
      · have := z.1; omega)), Int.add_zero]
    refine sm_congr (fun j j0 j1 => sm_congr (fun i i0 i1 => ?_))
    rw [if_pos ⟨by omega, by omega⟩]
    refine (cnW_congr (fun k a b => ?_) (fun k a b => ?_) 3).symm
    · rw [f2 i k i0 (by omega) a b]; unfold ixO; rw [if_pos hc]
    · rw [f2 j k j0 (by omega) a b]; unfold ixO; rw [if_pos hc]
  · have hn : nJ A n ((2 * n : Nat) : Int) = (n : Int) := by unfold nJ; rw [if_neg hc]; omega
    rw [hn] at f2 ⊢
    have q := tri_2 (fun e g => cnW A B e g 3) n
    have hz : ∀ i : Int, ¬ exJ A n (2 * i + 1) := fun i z => by
      rcases z with z | z
      · omega
      · exact hc z.2
    rw [Int.toNat_natCast, q, sm_even (fun i _ _ => sm_zero (fun k _ _ => if_neg (fun z => hz i z.2)))]
    refine sm_congr (fun j j0 j1 => ?_)
    try dsimp only
    rw [show (2 * j).toNat = 2 * j.toNat by omega, sm_even (fun i _ _ => if_neg (fun z => hz i z.1))]
    refine sm_congr (fun i i0 i1 => ?_)
    try dsimp only
    rw [if_pos ⟨by omega, by omega⟩]
    refine (cnW_congr (fun k a b => ?_) (fun k a b => ?_) 3).symm
    · rw [f2 i k i0 (by omega) a b]; unfold ixO; rw [if_neg hc]
    · rw [f2 j k j0 (by omega) a b]; unfold ixO; rw [if_neg hc]
theorem orF_b (hw : WF A) (h2 : 2 ≤ v) (h4 : v ≤ 4) (hV : VB V v) : (EB A (entA (layJ A V v (2 * v).toNat)) (nJ A v ((2 * v).toNat : Int))) ∧ 0 ≤ orF A V v ∧ orF A V v ≤ 24000 := by
  obtain ⟨f1, f2, f3⟩ := lay_fact (A := A) (V := V) h2 h4 (2 * v).toNat (by omega)
  have hn : 0 ≤ nJ A v ((2 * v).toNat : Int) ∧ nJ A v ((2 * v).toNat : Int) ≤ 7 := by unfold nJ; split <;> omega
  have he : EB A (entA (layJ A V v (2 * v).toNat)) (nJ A v ((2 * v).toNat : Int)) := by
    refine ⟨by omega, fun e a b => ?_⟩
    have hi : 0 ≤ ixO A e ∧ ixO A e < 2 * v := by
      unfold nJ at b
      unfold ixO
      split <;> split at b <;> omega
    have hs := SB_b (V := V) (hw.1 0 (by omega) (by omega)) h4 hV hi.1 hi.2
    rw [f2 e 0 a b (by omega) (by omega), f2 e 2 a b (by omega) (by omega), f2 e 3 a b (by omega) (by omega)]
    omega
  exact ⟨he, allW_b he hw.1 (by omega) (by omega) (by omega)⟩
theorem e_rowFaults (hs : CP s 0 A) (hw : WF A) (h2 : 2 ≤ v) (h4 : v ≤ 4) (hV : VB V v) (hrow : ∀ k, 0 ≤ k → k < v → rd s (19, 0, 0) k = V k) : ∃ s', f_X10_rowFaults oF v s = some (orF A V v, s') ∧ Only rfo s s' := by
  obtain ⟨f1, f2, f3⟩ := lay_fact (A := A) (V := V) h2 h4 (2 * v).toNat (by omega)
  obtain ⟨he, hb⟩ := orF_b (V := V) hw h2 h4 hV
  obtain ⟨s1, x1, x2, x3⟩ := e_layRow hs hw h2 h4 hV hrow
  have c1 : CP s1 0 A := hs.keep x2 (fun o h => ne_eob (by decide) o h)
  have r3 := x3.1
  rw [f1] at r3
  obtain ⟨s2, y1, y2, y3, y4⟩ := e_gather (q := 7) (B := entA (layJ A V v (2 * v).toNat)) (N := nJ A v ((2 * v).toNat : Int)) c1 hw he.1 r3 (fun e k a b c d => x3.2 e k a (by rw [f1]; exact b) c d) (fun e a b => ⟨(he.2 e a b).1, (he.2 e a b).2.1⟩)
  have g2 : GR s2 A (entA (layJ A V v (2 * v).toNat)) (nJ A v ((2 * v).toNat : Int)) := ⟨y3, y4⟩
  obtain ⟨s3, z1, z2, z3⟩ := e_countFaults g2 he hw.1 hw.2.2.2.2.2.1.1
  have m6 : rd s2 (1, 0, 0) 6 = A 137 := by
    rw [y2.rd (fun z => by
      rcases z with z | ⟨j, _, _, z⟩
      · simp at z
      · have := sndo_k z; simp at this)]
    exact c1.2.2.1.2.2.1
  have q0 := allS_b he hw.1 (k := 0) (by omega) (by omega) (n := (nJ A v ((2 * v).toNat : Int)).toNat) (by have := he.1; omega)
  have q1 := allS_b he hw.1 (k := 1) (by omega) (by omega) (n := (nJ A v ((2 * v).toNat : Int)).toNat) (by have := he.1; omega)
  have q2 := allS_b he hw.1 (k := 2) (by omega) (by omega) (n := (nJ A v ((2 * v).toNat : Int)).toNat) (by have := he.1; omega)
  refine ⟨s3, ?_, (x2.mono (fun o h => Or.inl h)).trans ((y2.mono (fun o h => Or.inr (Or.inl h))).trans (z2.mono (fun o h => Or.inr (Or.inr h))))⟩
  unfold f_X10_rowFaults orF
  rw [x1, bd_eq, show a_FP_chorus oF = (17, 0, 0) from rfl, show a_FP_plan oF = (1, 0, 0) from rfl, show a_FP_rowEntries oF = (6, 7, 0) from rfl, show a_FP_faults oF = (16, 0, 0) from rfl, y1, bd_eq, m6, z1, bd_eq, e_num3 z3 (by omega) (by omega) (by omega), bd_eq, allW_of (by omega) (by omega), if_neg (by omega), if_neg (by omega), if_neg (by omega)]
end ORF
