/-! FuguePlan made (by program, wip/whole/gen/fpc.py) -/
def osReader : List u_O := [(12, 0, 0), (13, 0, 0), (13, 1, 0), (13, 2, 0), (13, 3, 0)]
def osSound (p : Nat) : List u_O := [(14, p, 0), (15, p, 0)]
def osFaults : List u_O := [(16, 0, 0)]
def osTour : List u_O := [(20, 0, 0), (21, 0, 0), (22, 0, 0)]
def osRow : List u_O := [(19, 0, 0)]
def agr (a a' : u_O → Nat) (L : List u_O) : Prop := ∀ o, o ∉ L → a' o = a o
theorem agr.trans {a a' a'' : u_O → Nat} {L M : List u_O} (h1 : agr a a' L) (h2 : agr a' a'' M) : agr a a'' (L ++ M) := fun o ho => by
  rw [List.mem_append] at ho
  rw [h2 o (fun h => ho (Or.inr h)), h1 o (fun h => ho (Or.inl h))]
theorem agr.refl (a : u_O → Nat) : agr a a [] := fun _ _ => rfl
theorem agr.far {a a' : u_O → Nat} {L : List u_O} (h : agr a a' L) (hf : ∀ o ∈ L, farO o = false) : ∀ o, farO o = true → a' o = a o := fun o ho => h o (fun hm => by rw [hf o hm] at ho; cases ho)
theorem agr.Wo {G : va_G × (Nat → ClassId)} {a a' : u_O → Nat} {L os : List u_O} (h : agr a a' L) (hf : ∀ o ∈ L, farO o = false) (hd : ∀ o ∈ os, o ∉ L) (hc : ∀ o ∈ os, ∀ o' ∈ kids o, o' ∈ os) : Wo a G os = Wo a' G os := (Wo_closed hc (h.far hf) (fun o ho => h o (hd o ho))).symm
theorem fstep {l : Launch} {G : va_G × (Nat → ClassId)} {a0 a : u_O → Nat} {R : Room} {K : u_K} (g0 : Wk0 l (XE (a0, G)) R cX10_init 1 yX10_init.cls yX10_init.name K) {pc nc ns inew ipf k cj nf mc ms b : Nat} {w0 Z : va_W} {fs fs0 : List Value} {fs' : Nat → List Value} {C : String} {T : u_T} {os : List u_O} {o1 : u_O}
    (hinj : ∀ w ∈ u_ws C T nf, w ∈ lw_G) (hcj : vwCl[cj]? = some (C, T, nf)) (tyj : Nat → FieldType) (htyj : ∀ k, k < nf → parseFieldDescriptor (T k).2.2.1 = some (tyj k)) (hclj : Cond.classLink RX10 inew C ∈ lw_G) (hins : Cond.instantiable C nf ∈ lw_G) (hini : Cond.initialized C ∈ lw_G) (hfs0 : ∀ j, j < nf → defaultValue (tyj j) = vp_V fs0 j)
    (d0 : decode cX10_init pc = .ok (.aload_n 0, 1)) (d1 : decode cX10_init (pc + 1) = .ok (.new inew, 3)) (d2 : decode cX10_init (pc + 4) = .ok (.dup, 1)) (d4 : decode cX10_init (pc + 8) = .ok (.putfield ipf, 3))
    (hk : k < 14) (hfin : (TX10 k).2.2.2 = true) (hdecl : (TX10 k).1 = RX10) (hnar : ∀ x, narrow (tyX10 k) (.ref x) = .ref x) (hfit : ∀ x, fits (tyX10 k) (.ref x) = true) (hlen : k < fs.length) (hl0 : Cond.fieldLink RX10 ipf (TX10 k).1 (TX10 k).2.1 (TX10 k).2.2.1 ∈ lw_G) (hset : ∀ x, fs.set k (.ref x) = fs' x)
    (hroom : (nc + 1 + mc ≤ R.cells ∧ ns + nf + ms ≤ R.slots))
    (hcall : ∀ (b1 : Nat) (w1 : va_W), (∀ a' : u_O → Nat, agr a a' os → a' o1 = b1 → K (nc + 1 + mc) (ns + nf + ms) (pc + 8) [some (.ref b)] [.ref b1, .ref b] (w1 ++ Wo a' G os)) → K (nc + 1) (ns + nf) (pc + 5) [some (.ref b)] [.ref b1, .ref b1, .ref b] (w1 ++ [(b1, .inr (cj, fs0))]))
    (nc' ns' : Nat) (hn : nc + 1 + mc = nc' ∧ ns + nf + ms = ns')
    (kk : ∀ (a' : u_O → Nat) (b1 : Nat), agr a a' os → a' o1 = b1 → K nc' ns' (pc + 11) [some (.ref b)] [] (w0 ++ (b, .inr (10, fs' b1)) :: (Z ++ Wo a' G os))) : K nc ns pc [some (.ref b)] [] (w0 ++ (b, .inr (10, fs)) :: Z) := by
  obtain ⟨rfl, rfl⟩ := hn
  refine r_aload_n g0 d0 rfl ?_
  refine r_new g0 hinj hcj tyj htyj hclj hins hini hfs0 ⟨by omega, by omega⟩ d1 (fun b1 => ?_)
  refine r_dup g0 d2 rfl ?_
  refine hcall b1 _ (fun a' h1 h2 => ?_)
  rw [List.append_assoc]
  refine n_putF g0 in_FP rfl tyX10 tyX10_ok nmX10 0 rfl k hk hfin rfl hdecl (hnar b1) (hfit b1) hlen hl0 d4 ?_
  rw [hset]
  exact kk a' b1 h1 h2
section FPC
variable {l : Launch} {G : va_G × (Nat → ClassId)} {a0 : u_O → Nat}
def osFPt : List u_O := ((((((((((osPlan 0 ++ osPlan 1) ++ osHistory) ++ osReader) ++ osSound 0) ++ osSound 1) ++ osFaults) ++ osChorus) ++ osEntries 7) ++ osRow) ++ osTour)
def osFP : List u_O := (0, 0, 0) :: osFPt
set_option maxHeartbeats 4000000 in
set_option maxRecDepth 100000 in
theorem n_FP (a : u_O → Nat) (b : Nat) (w0 : va_W) : ConN l (XE (a0, G)) yX10_init cX10_init 1 5 104 239 2796 [.ref b] (w0 ++ [(b, .inr (10, [.null, .null, .null, .null, .int 0, .int 0, .int 0, .null, .null, .null, .null, .null, .null, .null]))]) (PN a G osFP (0, 0, 0) b w0) := by
  refine ConN.of [some (.ref b)] (by decide +kernel) rfl rfl (Nat.le_of_ble_eq_true rfl) (fun K g gn => ?_)
  have g0 := g.wk
  refine r_aload_n g0 dX10_init_0 rfl ?_
  refine r_obj g0 obX10 ob_i ob_c ⟨Nat.le_of_ble_eq_true rfl, Nat.le_of_ble_eq_true rfl⟩ (Nat.le_of_ble_eq_true rfl) dX10_init_1 ?_
  refine fstep g0 (a := (ua a (0, 0, 0) b)) (Z := []) (fs := [.null, .null, .null, .null, .int 0, .int 0, .int 0, .null, .null, .null, .null, .null, .null, .null]) (fs' := fun x => [.ref x, .null, .null, .null, .int 0, .int 0, .int 0, .null, .null, .null, .null, .null, .null, .null]) (k := 0) (cj := 6) (mc := 26) (ms := 163) (fs0 := [.null, .null, .null, .int 0, .int 0, .int 0, .int 0, .int 0]) (os := osPlan 0) (o1 := (1, 0, 0)) in_Plan rfl tyX6 tyX6_ok clX10_9 insX6 iniX6 (by decide) dX10_init_4 dX10_init_5 dX10_init_8 dX10_init_12 (by decide) rfl rfl (fun _ => rfl) (fun _ => rfl) (Nat.le_of_ble_eq_true rfl) qX10_12 (fun _ => rfl) ⟨Nat.le_of_ble_eq_true rfl, Nat.le_of_ble_eq_true rfl⟩ (fun b' w1 k => r_callN gn (n_Plan (p := 0) (by decide) (ua a (0, 0, 0) b) b' w1) oiX6 miX10_11 dX10_init_9 ⟨Nat.le_of_ble_eq_true rfl, Nat.le_of_ble_eq_true rfl⟩ ⟨Nat.le_of_ble_eq_true rfl, Nat.le_of_ble_eq_true rfl⟩ rfl (Nat.le_of_ble_eq_true rfl) rfl (fun v w' hq => by
    obtain ⟨rfl, a', z1, z2, rfl⟩ := hq
    exact k a' z1 z2)) 27 171 ⟨rfl, rfl⟩ (fun a1 b1 h1 e1 => ?_)
  rw [List.nil_append]
  refine fstep g0 (a := a1) (Z := Wo a1 G (osPlan 0)) (fs := [.ref b1, .null, .null, .null, .int 0, .int 0, .int 0, .null, .null, .null, .null, .null, .null, .null]) (fs' := fun x => [.ref b1, .ref x, .null, .null, .int 0, .int 0, .int 0, .null, .null, .null, .null, .null, .null, .null]) (k := 1) (cj := 6) (mc := 26) (ms := 163) (fs0 := [.null, .null, .null, .int 0, .int 0, .int 0, .int 0, .int 0]) (os := osPlan 1) (o1 := (1, 1, 0)) in_Plan rfl tyX6 tyX6_ok clX10_9 insX6 iniX6 (by decide) dX10_init_15 dX10_init_16 dX10_init_19 dX10_init_23 (by decide) rfl rfl (fun _ => rfl) (fun _ => rfl) (Nat.le_of_ble_eq_true rfl) qX10_16 (fun _ => rfl) ⟨Nat.le_of_ble_eq_true rfl, Nat.le_of_ble_eq_true rfl⟩ (fun b' w1 k => r_callN gn (n_Plan (p := 1) (by decide) a1 b' w1) oiX6 miX10_11 dX10_init_20 ⟨Nat.le_of_ble_eq_true rfl, Nat.le_of_ble_eq_true rfl⟩ ⟨Nat.le_of_ble_eq_true rfl, Nat.le_of_ble_eq_true rfl⟩ rfl (Nat.le_of_ble_eq_true rfl) rfl (fun v w' hq => by
    obtain ⟨rfl, a', z1, z2, rfl⟩ := hq
    exact k a' z1 z2)) 54 342 ⟨rfl, rfl⟩ (fun a2 b2 h2 e2 => ?_)
  refine fstep g0 (a := a2) (Z := (Wo a1 G (osPlan 0) ++ Wo a2 G (osPlan 1))) (fs := [.ref b1, .ref b2, .null, .null, .int 0, .int 0, .int 0, .null, .null, .null, .null, .null, .null, .null]) (fs' := fun x => [.ref b1, .ref b2, .ref x, .null, .int 0, .int 0, .int 0, .null, .null, .null, .null, .null, .null, .null]) (k := 2) (cj := 4) (mc := 136) (ms := 860) (fs0 := [.null, .int 0, .int 0]) (os := osHistory) (o1 := (10, 0, 0)) in_History rfl tyX4 tyX4_ok clX10_19 insX4 iniX4 (by decide) dX10_init_26 dX10_init_27 dX10_init_30 dX10_init_34 (by decide) rfl rfl (fun _ => rfl) (fun _ => rfl) (Nat.le_of_ble_eq_true rfl) qX10_22 (fun _ => rfl) ⟨Nat.le_of_ble_eq_true rfl, Nat.le_of_ble_eq_true rfl⟩ (fun b' w1 k => r_callN gn (n_History a2 b' w1) oiX4 miX10_21 dX10_init_31 ⟨Nat.le_of_ble_eq_true rfl, Nat.le_of_ble_eq_true rfl⟩ ⟨Nat.le_of_ble_eq_true rfl, Nat.le_of_ble_eq_true rfl⟩ rfl (Nat.le_of_ble_eq_true rfl) rfl (fun v w' hq => by
    obtain ⟨rfl, a', z1, z2, rfl⟩ := hq
    exact k a' z1 z2)) 191 1205 ⟨rfl, rfl⟩ (fun a3 b3 h3 e3 => ?_)
  refine fstep g0 (a := a3) (Z := ((Wo a1 G (osPlan 0) ++ Wo a2 G (osPlan 1)) ++ Wo a3 G (osHistory))) (fs := [.ref b1, .ref b2, .ref b3, .null, .int 0, .int 0, .int 0, .null, .null, .null, .null, .null, .null, .null]) (fs' := fun x => [.ref b1, .ref b2, .ref b3, .ref x, .int 0, .int 0, .int 0, .null, .null, .null, .null, .null, .null, .null]) (k := 3) (cj := 7) (mc := 4) (ms := 480) (fs0 := [.null, .null, .null, .null, .int 0, .int 0, .int 0, .int 0, .int 0]) (os := osReader) (o1 := (12, 0, 0)) in_Reader rfl tyX7 tyX7_ok clX10_26 insX7 iniX7 (by decide) dX10_init_37 dX10_init_38 dX10_init_41 dX10_init_45 (by decide) rfl rfl (fun _ => rfl) (fun _ => rfl) (Nat.le_of_ble_eq_true rfl) qX10_29 (fun _ => rfl) ⟨Nat.le_of_ble_eq_true rfl, Nat.le_of_ble_eq_true rfl⟩ (fun b' w1 k => r_callNN gn (n_Reader a3 b' w1) oiX7 miX10_28 dX10_init_42 ⟨Nat.le_of_ble_eq_true rfl, Nat.le_of_ble_eq_true rfl⟩ ⟨Nat.le_of_ble_eq_true rfl, Nat.le_of_ble_eq_true rfl⟩ rfl (Nat.le_of_ble_eq_true rfl) rfl (fun v w' hq => by
    obtain ⟨rfl, a', z1, z2, rfl⟩ := hq
    exact k a' z1 z2)) 196 1694 ⟨rfl, rfl⟩ (fun a4 b4 h4 e4 => ?_)
  refine fstep g0 (a := a4) (Z := (((Wo a1 G (osPlan 0) ++ Wo a2 G (osPlan 1)) ++ Wo a3 G (osHistory)) ++ Wo a4 G (osReader))) (fs := [.ref b1, .ref b2, .ref b3, .ref b4, .int 0, .int 0, .int 0, .null, .null, .null, .null, .null, .null, .null]) (fs' := fun x => [.ref b1, .ref b2, .ref b3, .ref b4, .int 0, .int 0, .int 0, .ref x, .null, .null, .null, .null, .null, .null]) (k := 7) (cj := 8) (mc := 1) (ms := 80) (fs0 := [.null, .int 0, .int 0, .int 0]) (os := osSound 0) (o1 := (14, 0, 0)) in_Sound rfl tyX8 tyX8_ok clX10_33 insX8 iniX8 (by decide) dX10_init_48 dX10_init_49 dX10_init_52 dX10_init_56 (by decide) rfl rfl (fun _ => rfl) (fun _ => rfl) (Nat.le_of_ble_eq_true rfl) qX10_36 (fun _ => rfl) ⟨Nat.le_of_ble_eq_true rfl, Nat.le_of_ble_eq_true rfl⟩ (fun b' w1 k => r_callNN gn (n_Sound (p := 0) a4 b' w1) oiX8 miX10_35 dX10_init_53 ⟨Nat.le_of_ble_eq_true rfl, Nat.le_of_ble_eq_true rfl⟩ ⟨Nat.le_of_ble_eq_true rfl, Nat.le_of_ble_eq_true rfl⟩ rfl (Nat.le_of_ble_eq_true rfl) rfl (fun v w' hq => by
    obtain ⟨rfl, a', z1, z2, rfl⟩ := hq
    exact k a' z1 z2)) 198 1778 ⟨rfl, rfl⟩ (fun a5 b5 h5 e5 => ?_)
  refine fstep g0 (a := a5) (Z := ((((Wo a1 G (osPlan 0) ++ Wo a2 G (osPlan 1)) ++ Wo a3 G (osHistory)) ++ Wo a4 G (osReader)) ++ Wo a5 G (osSound 0))) (fs := [.ref b1, .ref b2, .ref b3, .ref b4, .int 0, .int 0, .int 0, .ref b5, .null, .null, .null, .null, .null, .null]) (fs' := fun x => [.ref b1, .ref b2, .ref b3, .ref b4, .int 0, .int 0, .int 0, .ref b5, .ref x, .null, .null, .null, .null, .null]) (k := 8) (cj := 8) (mc := 1) (ms := 80) (fs0 := [.null, .int 0, .int 0, .int 0]) (os := osSound 1) (o1 := (14, 1, 0)) in_Sound rfl tyX8 tyX8_ok clX10_33 insX8 iniX8 (by decide) dX10_init_59 dX10_init_60 dX10_init_63 dX10_init_67 (by decide) rfl rfl (fun _ => rfl) (fun _ => rfl) (Nat.le_of_ble_eq_true rfl) qX10_40 (fun _ => rfl) ⟨Nat.le_of_ble_eq_true rfl, Nat.le_of_ble_eq_true rfl⟩ (fun b' w1 k => r_callNN gn (n_Sound (p := 1) a5 b' w1) oiX8 miX10_35 dX10_init_64 ⟨Nat.le_of_ble_eq_true rfl, Nat.le_of_ble_eq_true rfl⟩ ⟨Nat.le_of_ble_eq_true rfl, Nat.le_of_ble_eq_true rfl⟩ rfl (Nat.le_of_ble_eq_true rfl) rfl (fun v w' hq => by
    obtain ⟨rfl, a', z1, z2, rfl⟩ := hq
    exact k a' z1 z2)) 200 1862 ⟨rfl, rfl⟩ (fun a6 b6 h6 e6 => ?_)
  refine fstep g0 (a := a6) (Z := (((((Wo a1 G (osPlan 0) ++ Wo a2 G (osPlan 1)) ++ Wo a3 G (osHistory)) ++ Wo a4 G (osReader)) ++ Wo a5 G (osSound 0)) ++ Wo a6 G (osSound 1))) (fs := [.ref b1, .ref b2, .ref b3, .ref b4, .int 0, .int 0, .int 0, .ref b5, .ref b6, .null, .null, .null, .null, .null]) (fs' := fun x => [.ref b1, .ref b2, .ref b3, .ref b4, .int 0, .int 0, .int 0, .ref b5, .ref b6, .ref x, .null, .null, .null, .null]) (k := 9) (cj := 3) (mc := 0) (ms := 0) (fs0 := [.int 0, .int 0, .int 0]) (os := osFaults) (o1 := (16, 0, 0)) in_Faults rfl tyX3 tyX3_ok clX10_43 insX3 iniX3 (by decide) dX10_init_70 dX10_init_71 dX10_init_74 dX10_init_78 (by decide) rfl rfl (fun _ => rfl) (fun _ => rfl) (Nat.le_of_ble_eq_true rfl) qX10_46 (fun _ => rfl) ⟨Nat.le_of_ble_eq_true rfl, Nat.le_of_ble_eq_true rfl⟩ (fun b' w1 k => r_callNN gn (n_Faults a6 b' w1) oiX3 miX10_45 dX10_init_75 ⟨Nat.le_of_ble_eq_true rfl, Nat.le_of_ble_eq_true rfl⟩ ⟨Nat.le_of_ble_eq_true rfl, Nat.le_of_ble_eq_true rfl⟩ rfl (Nat.le_of_ble_eq_true rfl) rfl (fun v w' hq => by
    obtain ⟨rfl, a', z1, z2, rfl⟩ := hq
    exact k a' z1 z2)) 201 1865 ⟨rfl, rfl⟩ (fun a7 b7 h7 e7 => ?_)
  refine fstep g0 (a := a7) (Z := ((((((Wo a1 G (osPlan 0) ++ Wo a2 G (osPlan 1)) ++ Wo a3 G (osHistory)) ++ Wo a4 G (osReader)) ++ Wo a5 G (osSound 0)) ++ Wo a6 G (osSound 1)) ++ Wo a7 G (osFaults))) (fs := [.ref b1, .ref b2, .ref b3, .ref b4, .int 0, .int 0, .int 0, .ref b5, .ref b6, .ref b7, .null, .null, .null, .null]) (fs' := fun x => [.ref b1, .ref b2, .ref b3, .ref b4, .int 0, .int 0, .int 0, .ref b5, .ref b6, .ref b7, .ref x, .null, .null, .null]) (k := 10) (cj := 0) (mc := 21) (ms := 850) (fs0 := [.null, .int 0]) (os := osChorus) (o1 := (17, 0, 0)) in_Chorus rfl tyX0 tyX0_ok clX10_50 insX0 iniX0 (by decide) dX10_init_81 dX10_init_82 dX10_init_85 dX10_init_89 (by decide) rfl rfl (fun _ => rfl) (fun _ => rfl) (Nat.le_of_ble_eq_true rfl) qX10_53 (fun _ => rfl) ⟨Nat.le_of_ble_eq_true rfl, Nat.le_of_ble_eq_true rfl⟩ (fun b' w1 k => r_callN gn (n_Chorus a7 b' w1) oiX0 miX10_52 dX10_init_86 ⟨Nat.le_of_ble_eq_true rfl, Nat.le_of_ble_eq_true rfl⟩ ⟨Nat.le_of_ble_eq_true rfl, Nat.le_of_ble_eq_true rfl⟩ rfl (Nat.le_of_ble_eq_true rfl) rfl (fun v w' hq => by
    obtain ⟨rfl, a', z1, z2, rfl⟩ := hq
    exact k a' z1 z2)) 223 2717 ⟨rfl, rfl⟩ (fun a8 b8 h8 e8 => ?_)
  refine fstep g0 (a := a8) (Z := (((((((Wo a1 G (osPlan 0) ++ Wo a2 G (osPlan 1)) ++ Wo a3 G (osHistory)) ++ Wo a4 G (osReader)) ++ Wo a5 G (osSound 0)) ++ Wo a6 G (osSound 1)) ++ Wo a7 G (osFaults)) ++ Wo a8 G (osChorus))) (fs := [.ref b1, .ref b2, .ref b3, .ref b4, .int 0, .int 0, .int 0, .ref b5, .ref b6, .ref b7, .ref b8, .null, .null, .null]) (fs' := fun x => [.ref b1, .ref b2, .ref b3, .ref b4, .int 0, .int 0, .int 0, .ref b5, .ref b6, .ref b7, .ref b8, .ref x, .null, .null]) (k := 11) (cj := 1) (mc := 11) (ms := 60) (fs0 := [.null, .int 0]) (os := osEntries 7) (o1 := (6, 7, 0)) in_Entries rfl tyX1 tyX1_ok clX10_57 insX1 iniX1 (by decide) dX10_init_92 dX10_init_93 dX10_init_96 dX10_init_100 (by decide) rfl rfl (fun _ => rfl) (fun _ => rfl) (Nat.le_of_ble_eq_true rfl) qX10_60 (fun _ => rfl) ⟨Nat.le_of_ble_eq_true rfl, Nat.le_of_ble_eq_true rfl⟩ (fun b' w1 k => r_callN gn (n_Entries (p := 7) a8 b' w1) oiX1 miX10_59 dX10_init_97 ⟨Nat.le_of_ble_eq_true rfl, Nat.le_of_ble_eq_true rfl⟩ ⟨Nat.le_of_ble_eq_true rfl, Nat.le_of_ble_eq_true rfl⟩ rfl (Nat.le_of_ble_eq_true rfl) rfl (fun v w' hq => by
    obtain ⟨rfl, a', z1, z2, rfl⟩ := hq
    exact k a' z1 z2)) 235 2779 ⟨rfl, rfl⟩ (fun a9 b9 h9 e9 => ?_)
  refine r_aload_n g0 dX10_init_103 rfl ?_
  refine r_iconst g0 dX10_init_104 ?_
  refine n_newa g0 0 rfl 4 rfl (InR_lit rfl) (Nat.le_of_ble_eq_true rfl) ⟨Nat.le_of_ble_eq_true rfl, Nat.le_of_ble_eq_true rfl⟩ dX10_init_105 (fun b10 => ?_)
  refine n_putF g0 in_FP rfl tyX10 tyX10_ok nmX10 0 rfl 12 (by decide) rfl rfl rfl rfl rfl (Nat.le_of_ble_eq_true rfl) qX10_64 dX10_init_107 ?_
  obtain ⟨a10, ha10⟩ : ∃ z, z = ua a9 (19, 0, 0) b10 := ⟨_, rfl⟩
  have h10 : agr a9 a10 osRow := fun o ho => by
    rw [ha10]
    exact ua_ne _ _ (fun e => ho (by rw [e]; exact List.mem_cons_self))
  have e10 : a10 (19, 0, 0) = b10 := by rw [ha10, ua_eq]
  have hw10 : [((b10, .inl (G.2 0, 4, .inl (fun _ => 0))) : Nat × va_E)] = Wo a10 G osRow := by simp [osRow, Wo, cell, e10, s00]
  rw [show (((b, .inr (10, [.ref b1, .ref b2, .ref b3, .ref b4, .int 0, .int 0, .int 0, .ref b5, .ref b6, .ref b7, .ref b8, .ref b9, .null, .null])) :: (((((((((Wo a1 G (osPlan 0) ++ Wo a2 G (osPlan 1)) ++ Wo a3 G (osHistory)) ++ Wo a4 G (osReader)) ++ Wo a5 G (osSound 0)) ++ Wo a6 G (osSound 1)) ++ Wo a7 G (osFaults)) ++ Wo a8 G (osChorus)) ++ Wo a9 G (osEntries 7)))) ++ [(b10, .inl (G.2 0, 4, .inl (fun _ => 0)))] : va_W).set 0 (b, .inr (10, List.set [.ref b1, .ref b2, .ref b3, .ref b4, .int 0, .int 0, .int 0, .ref b5, .ref b6, .ref b7, .ref b8, .ref b9, .null, .null] 12 (.ref b10))) = (b, .inr (10, [.ref b1, .ref b2, .ref b3, .ref b4, .int 0, .int 0, .int 0, .ref b5, .ref b6, .ref b7, .ref b8, .ref b9, .ref b10, .null])) :: ((((((((((Wo a1 G (osPlan 0) ++ Wo a2 G (osPlan 1)) ++ Wo a3 G (osHistory)) ++ Wo a4 G (osReader)) ++ Wo a5 G (osSound 0)) ++ Wo a6 G (osSound 1)) ++ Wo a7 G (osFaults)) ++ Wo a8 G (osChorus)) ++ Wo a9 G (osEntries 7))) ++ [((b10, .inl (G.2 0, 4, .inl (fun _ => 0))) : Nat × va_E)]) from rfl, hw10]
  refine fstep g0 (a := a10) (Z := (((((((((Wo a1 G (osPlan 0) ++ Wo a2 G (osPlan 1)) ++ Wo a3 G (osHistory)) ++ Wo a4 G (osReader)) ++ Wo a5 G (osSound 0)) ++ Wo a6 G (osSound 1)) ++ Wo a7 G (osFaults)) ++ Wo a8 G (osChorus)) ++ Wo a9 G (osEntries 7)) ++ Wo a10 G (osRow))) (fs := [.ref b1, .ref b2, .ref b3, .ref b4, .int 0, .int 0, .int 0, .ref b5, .ref b6, .ref b7, .ref b8, .ref b9, .ref b10, .null]) (fs' := fun x => [.ref b1, .ref b2, .ref b3, .ref b4, .int 0, .int 0, .int 0, .ref b5, .ref b6, .ref b7, .ref b8, .ref b9, .ref b10, .ref x]) (k := 13) (cj := 9) (mc := 2) (ms := 10) (fs0 := [.null, .null, .int 0]) (os := osTour) (o1 := (20, 0, 0)) in_Tour rfl tyX9 tyX9_ok clX10_68 insX9 iniX9 (by decide) dX10_init_110 dX10_init_111 dX10_init_114 dX10_init_118 (by decide) rfl rfl (fun _ => rfl) (fun _ => rfl) (Nat.le_of_ble_eq_true rfl) qX10_71 (fun _ => rfl) ⟨Nat.le_of_ble_eq_true rfl, Nat.le_of_ble_eq_true rfl⟩ (fun b' w1 k => r_callNN gn (n_Tour a10 b' w1) oiX9 miX10_70 dX10_init_115 ⟨Nat.le_of_ble_eq_true rfl, Nat.le_of_ble_eq_true rfl⟩ ⟨Nat.le_of_ble_eq_true rfl, Nat.le_of_ble_eq_true rfl⟩ rfl (Nat.le_of_ble_eq_true rfl) rfl (fun v w' hq => by
    obtain ⟨rfl, a', z1, z2, rfl⟩ := hq
    exact k a' z1 z2)) 239 2796 ⟨rfl, rfl⟩ (fun a11 b11 h11 e11 => ?_)
  have a_0 := agr.refl a11
  have t11 : agr a11 a11 [] := agr.refl a11
  have t10 := h11.trans t11
  have t9 := h10.trans t10
  have t8 := h9.trans t9
  have t7 := h8.trans t8
  have t6 := h7.trans t7
  have t5 := h6.trans t6
  have t4 := h5.trans t5
  have t3 := h4.trans t4
  have t2 := h3.trans t3
  have t1 := h2.trans t2
  have t0 := h1.trans t1
  have f1 := t1.Wo (G := G) (os := osPlan 0) (by decide +kernel) (by decide +kernel) (fun o ho o' ho' => plan_cl ho ho')
  have f2 := t2.Wo (G := G) (os := osPlan 1) (by decide +kernel) (by decide +kernel) (fun o ho o' ho' => plan_cl ho ho')
  have f3 := t3.Wo (G := G) (os := osHistory) (by decide +kernel) (by decide +kernel) (by decide +kernel)
  have f4 := t4.Wo (G := G) (os := osReader) (by decide +kernel) (by decide +kernel) (by decide +kernel)
  have f5 := t5.Wo (G := G) (os := osSound 0) (by decide +kernel) (by decide +kernel) (by decide +kernel)
  have f6 := t6.Wo (G := G) (os := osSound 1) (by decide +kernel) (by decide +kernel) (by decide +kernel)
  have f7 := t7.Wo (G := G) (os := osFaults) (by decide +kernel) (by decide +kernel) (by decide +kernel)
  have f8 := t8.Wo (G := G) (os := osChorus) (by decide +kernel) (by decide +kernel) (by decide +kernel)
  have f9 := t9.Wo (G := G) (os := osEntries 7) (by decide +kernel) (by decide +kernel) (fun o ho o' ho' => ent_cl ho ho')
  have f10 := t10.Wo (G := G) (os := osRow) (by decide +kernel) (by decide +kernel) (by decide +kernel)
  have hz : a11 (0, 0, 0) = b := (t0 _ (by decide +kernel)).trans (ua_eq _ _ _)
  have g1 : a11 (1, 0, 0) = b1 := (t1 _ (by decide +kernel)).trans e1
  have g2 : a11 (1, 1, 0) = b2 := (t2 _ (by decide +kernel)).trans e2
  have g3 : a11 (10, 0, 0) = b3 := (t3 _ (by decide +kernel)).trans e3
  have g4 : a11 (12, 0, 0) = b4 := (t4 _ (by decide +kernel)).trans e4
  have g5 : a11 (14, 0, 0) = b5 := (t5 _ (by decide +kernel)).trans e5
  have g6 : a11 (14, 1, 0) = b6 := (t6 _ (by decide +kernel)).trans e6
  have g7 : a11 (16, 0, 0) = b7 := (t7 _ (by decide +kernel)).trans e7
  have g8 : a11 (17, 0, 0) = b8 := (t8 _ (by decide +kernel)).trans e8
  have g9 : a11 (6, 7, 0) = b9 := (t9 _ (by decide +kernel)).trans e9
  have g10 : a11 (19, 0, 0) = b10 := (t10 _ (by decide +kernel)).trans e10
  refine r_vreturn g dX10_init_121 ⟨rfl, a11, fun o ho => ?_, hz, ?_⟩
  · have z1 : o ≠ (0, 0, 0) := fun e => ho (by rw [e]; exact List.mem_cons_self)
    have z2 : o ∉ osFPt := fun e => ho (List.mem_cons_of_mem _ e)
    rw [t0 o (fun hm => z2 (by simp only [osFPt, List.mem_append, List.append_nil] at hm ⊢; simpa only [or_assoc] using hm)), ua_ne _ _ z1]
  · rw [osFP, Wo_cons, hz, osFPt]
    simp only [Wo_app]
    rw [f1, f2, f3, f4, f5, f6, f7, f8, f9, f10]
    simp only [cell, a_FP_plan, a_FP_before, a_FP_history, a_FP_text, a_FP_upper, a_FP_lower, a_FP_faults, a_FP_chorus, a_FP_rowEntries, a_FP_row, a_FP_tour, e11, g1, g2, g3, g4, g5, g6, g7, g8, g9, g10]
    rfl
end FPC
