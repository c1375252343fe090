/-! the constructors -/
theorem nz1 {x : Int32} (h : x = 1) : ¬ x = 0 := by rw [h]; decide
theorem fvT {b0 : Nat → Nat} {x : Int32} {r : Nat} (h : ¬ x = 0) : fv b0 x (some (true, r)) = .ref (b0 r) := if_neg h
theorem z_at {p : Program} {l : Launch} {e : Env} {R : Room} {s : State} {m : MethodId} {args : Array Value} {below : List Frame} {meth : Method} {c : Code} {H : Heap} {locs : List Loc} {cells slots : Nat} {Q : State → Prop} {pc : Nat} {ls : Array Slot} {st : List Value} (pc2 : Nat) (h : pc = pc2) (k : W p l e R s m args below meth c H locs cells slots Q (F0 m pc2 ls st)) : W p l e R s m args below meth c H locs cells slots Q (F0 m pc ls st) := h ▸ k
theorem isH_le {a : Nat} (h : isH a) : a ≤ 251 := (by decide +kernel : ∀ a ∈ houseL, a ≤ 251) a h
theorem isR_le {a : Nat} (h : isR a) : a ≤ 49 := (by decide +kernel : ∀ a ∈ rowL, a ≤ 49) a h
theorem hfs_of {ad : Nat → Nat} {ks : List (Option (Bool × Nat))} {ty : Nat → FieldType} {N : Nat} (hl : ks.length = N) (h : ∀ j o, ks[j]? = some o → defaultValue (ty j) = fv ad 0 o) : ∀ j, j < N → defaultValue (ty j) = vp_V (ks.mapIdx (fun _ o => fv ad 0 o)) j := by
  intro j hj
  have hj2 : j < ks.length := by omega
  unfold vp_V
  rw [List.getD_eq_getElem?_getD, List.getElem?_mapIdx, List.getElem?_eq_getElem hj2]
  exact h j _ (List.getElem?_eq_getElem hj2)
theorem hfs_X3 (a : Nat) {ad : Nat → Nat} : ∀ j, j < 15 → defaultValue (tyX3 j) = vp_V (((ksH a).map (fun o => o.map (fun q => (true, q.2)))).mapIdx (fun _ o => fv ad 0 o)) j := hfs_of rfl (by intro j o h; rcases j with _ | _ | _ | _ | _ | _ | _ | _ | _ | _ | _ | _ | _ | _ | _ | j <;> first | (cases h; rfl) | (cases h))
theorem hfs_X7 (a : Nat) {ad : Nat → Nat} : ∀ j, j < 3 → defaultValue (tyX7 j) = vp_V (((ksR a).map (fun o => o.map (fun q => (true, q.2)))).mapIdx (fun _ o => fv ad 0 o)) j := hfs_of rfl (by intro j o h; rcases j with _ | _ | _ | j <;> first | (cases h; rfl) | (cases h))
theorem hfs_X4 {ad : Nat → Nat} : ∀ j, j < 7 → defaultValue (tyX4 j) = vp_V ((ksP.map (fun o => o.map (fun q => (true, q.2)))).mapIdx (fun _ o => fv ad 0 o)) j := hfs_of rfl (by intro j o h; rcases j with _ | _ | _ | _ | _ | _ | _ | j <;> first | (cases h; rfl) | (cases h))
theorem hfs_X6 {ad : Nat → Nat} : ∀ j, j < 7 → defaultValue (tyX6 j) = vp_V ((ksRd.map (fun o => o.map (fun q => (true, q.2)))).mapIdx (fun _ o => fv ad 0 o)) j := hfs_of rfl (by intro j o h; rcases j with _ | _ | _ | _ | _ | _ | _ | j <;> first | (cases h; rfl) | (cases h))
theorem hfs_X9 {ad : Nat → Nat} : ∀ j, j < 2 → defaultValue (tyX9 j) = vp_V ((ksT.map (fun o => o.map (fun q => (true, q.2)))).mapIdx (fun _ o => fv ad 0 o)) j := hfs_of rfl (by intro j o h; rcases j with _ | _ | j <;> first | (cases h; rfl) | (cases h))
theorem hfs_X11 {ad : Nat → Nat} : ∀ j, j < 12 → defaultValue (tyX11 j) = vp_V ((ksX.map (fun o => o.map (fun q => (true, q.2)))).mapIdx (fun _ o => fv ad 0 o)) j := hfs_of rfl (by intro j o h; rcases j with _ | _ | _ | _ | _ | _ | _ | _ | _ | _ | _ | _ | j <;> first | (cases h; rfl) | (cases h))
theorem hfs_X12 {ad : Nat → Nat} : ∀ j, j < 23 → defaultValue (tyX12 j) = vp_V ((ksM.map (fun o => o.map (fun q => (true, q.2)))).mapIdx (fun _ o => fv ad 0 o)) j := hfs_of rfl (by intro j o h; rcases j with _ | _ | _ | _ | _ | _ | _ | _ | _ | _ | _ | _ | _ | _ | _ | _ | _ | _ | _ | _ | _ | _ | _ | j <;> first | (cases h; rfl) | (cases h))
theorem hfs_X0 {ad : Nat → Nat} : ∀ j, j < 0 → defaultValue (tyX0 j) = vp_V ((([] : List (Option (Bool × Nat))).map (fun o => o.map (fun q => (true, q.2)))).mapIdx (fun _ o => fv ad 0 o)) j := fun j h => absurd h (Nat.not_lt_zero j)
theorem hfs_X1 {ad : Nat → Nat} : ∀ j, j < 0 → defaultValue (tyX1 j) = vp_V ((([] : List (Option (Bool × Nat))).map (fun o => o.map (fun q => (true, q.2)))).mapIdx (fun _ o => fv ad 0 o)) j := fun j h => absurd h (Nat.not_lt_zero j)
theorem hfs_X5 {ad : Nat → Nat} : ∀ j, j < 0 → defaultValue (tyX5 j) = vp_V ((([] : List (Option (Bool × Nat))).map (fun o => o.map (fun q => (true, q.2)))).mapIdx (fun _ o => fv ad 0 o)) j := fun j h => absurd h (Nat.not_lt_zero j)
theorem hfs_X8 {ad : Nat → Nat} : ∀ j, j < 0 → defaultValue (tyX8 j) = vp_V ((([] : List (Option (Bool × Nat))).map (fun o => o.map (fun q => (true, q.2)))).mapIdx (fun _ o => fv ad 0 o)) j := fun j h => absurd h (Nat.not_lt_zero j)
theorem hfs_X10 {ad : Nat → Nat} : ∀ j, j < 0 → defaultValue (tyX10 j) = vp_V ((([] : List (Option (Bool × Nat))).map (fun o => o.map (fun q => (true, q.2)))).mapIdx (fun _ o => fv ad 0 o)) j := fun j h => absurd h (Nat.not_lt_zero j)
theorem zb_vret {p : Program} {l : Launch} {e : Env} {R : Room} {s : State} {m : MethodId} {args : Array Value} {below : List Frame} {meth : Method} {c : Code} {H : Heap} {locs : List Loc} {cells slots : Nat} {E : Ev} {sh : Nat → Option Shp} {σ : St} {pc : Nat} {ls : Array Slot} {cc : ByteArray} {nL : Nat} {own : String} (hC : Cx p s m args c cc nL own E) (hlocks : meth.locks = false) (hw : World E sh σ H) (hS : va_S E.2.2.2 s.heap H locs) (hr : meth.sig.returnType = none) (hdg : decode cc pc = .ok (.return_, 1)) : W p l e R s m args below meth c H locs cells slots (MQ below (QW E sh none σ) args s cells slots E.2.2.2) (F0 m pc ls []) :=
  W.vret hC.1 hC.2.1 hr (fun t ht hW => ⟨rfl, by rw [ht]; exact hw, hS.F ht⟩) hS.2.2 hdg hlocks
def f_X3_init (a0 : Nat) (s0 : St) : St := lt (va_up s0 (a0 + 1) (fun _ => 0)) fun (s1 : St) => lt (wr s1 a0 7 1) fun (s2 : St) => lt (va_up s2 (a0 + 2) (fun _ => 0)) fun (s3 : St) => lt (wr s3 a0 8 1) fun (s4 : St) => lt (va_up s4 (a0 + 3) (fun _ => 0)) fun (s5 : St) => lt (wr s5 a0 9 1) fun (s6 : St) => lt (va_up s6 (a0 + 4) (fun _ => 0)) fun (s7 : St) => lt (wr s7 a0 10 1) fun (s8 : St) => lt (va_up s8 (a0 + 5) (fun _ => 0)) fun (s9 : St) => lt (wr s9 a0 11 1) fun (s10 : St) => lt (va_up s10 (a0 + 6) (fun _ => 0)) fun (s11 : St) => lt (wr s11 a0 12 1) fun (s12 : St) => lt (va_up s12 (a0 + 7) (fun _ => 0)) fun (s13 : St) => lt (wr s13 a0 13 1) fun (s14 : St) => lt (wr s14 a0 0 1) fun (s15 : St) => s15
def f_X7_init (a0 : Nat) (s0 : St) : St := lt (va_up s0 (a0 + 1) (fun _ => 0)) fun (s1 : St) => lt (wr s1 a0 0 1) fun (s2 : St) => lt (wr s2 a0 2 (-1)) fun (s3 : St) => s3
def f_X6_init (s0 : St) : St := lt (va_up s0 3 (fun _ => 0)) fun (s1 : St) => lt (wr s1 2 0 1) fun (s2 : St) => s2
def f_X4_init (s0 : St) : St := lt (va_up s0 7 (fun _ => 0)) fun (s1 : St) => lt (wr s1 6 0 1) fun (s2 : St) => lt (va_up s2 8 (fun _ => 0)) fun (s3 : St) => lt (wr s3 6 1 1) fun (s4 : St) => lt (va_up s4 9 (fun _ => 0)) fun (s5 : St) => lt (wr s5 6 2 1) fun (s6 : St) => lt (va_up s6 10 (fun _ => 0)) fun (s7 : St) => lt (wr s7 6 3 1) fun (s8 : St) => s8
def f_X9_init (s0 : St) : St := lt (va_up s0 12 (fun _ => 0)) fun (s1 : St) => lt (wr s1 11 0 1) fun (s2 : St) => s2
def f_X11_init_20 (s134 : St) : St := s134
def f_X11_init_19 (s128 : St) : St := lt (va_up s128 243 (fun _ => 0)) fun (s129 : St) => lt (f_X3_init 243 s129) fun (s130 : St) => lt (wr s130 5 (Int32.toNatClampNeg 22) 1) fun (s131 : St) => lt (va_up s131 251 (fun _ => 0)) fun (s132 : St) => lt (f_X3_init 251 s132) fun (s133 : St) => lt (wr s133 5 (Int32.toNatClampNeg 23) 1) fun (s134 : St) => f_X11_init_20 s134
def f_X11_init_18 (s122 : St) : St := lt (va_up s122 227 (fun _ => 0)) fun (s123 : St) => lt (f_X3_init 227 s123) fun (s124 : St) => lt (wr s124 5 (Int32.toNatClampNeg 20) 1) fun (s125 : St) => lt (va_up s125 235 (fun _ => 0)) fun (s126 : St) => lt (f_X3_init 235 s126) fun (s127 : St) => lt (wr s127 5 (Int32.toNatClampNeg 21) 1) fun (s128 : St) => f_X11_init_19 s128
def f_X11_init_17 (s116 : St) : St := lt (va_up s116 211 (fun _ => 0)) fun (s117 : St) => lt (f_X3_init 211 s117) fun (s118 : St) => lt (wr s118 5 (Int32.toNatClampNeg 18) 1) fun (s119 : St) => lt (va_up s119 219 (fun _ => 0)) fun (s120 : St) => lt (f_X3_init 219 s120) fun (s121 : St) => lt (wr s121 5 (Int32.toNatClampNeg 19) 1) fun (s122 : St) => f_X11_init_18 s122
def f_X11_init_16 (s110 : St) : St := lt (va_up s110 195 (fun _ => 0)) fun (s111 : St) => lt (f_X3_init 195 s111) fun (s112 : St) => lt (wr s112 5 (Int32.toNatClampNeg 16) 1) fun (s113 : St) => lt (va_up s113 203 (fun _ => 0)) fun (s114 : St) => lt (f_X3_init 203 s114) fun (s115 : St) => lt (wr s115 5 (Int32.toNatClampNeg 17) 1) fun (s116 : St) => f_X11_init_17 s116
def f_X11_init_15 (s104 : St) : St := lt (va_up s104 179 (fun _ => 0)) fun (s105 : St) => lt (f_X3_init 179 s105) fun (s106 : St) => lt (wr s106 5 (Int32.toNatClampNeg 14) 1) fun (s107 : St) => lt (va_up s107 187 (fun _ => 0)) fun (s108 : St) => lt (f_X3_init 187 s108) fun (s109 : St) => lt (wr s109 5 (Int32.toNatClampNeg 15) 1) fun (s110 : St) => f_X11_init_16 s110
def f_X11_init_14 (s98 : St) : St := lt (va_up s98 163 (fun _ => 0)) fun (s99 : St) => lt (f_X3_init 163 s99) fun (s100 : St) => lt (wr s100 5 (Int32.toNatClampNeg 12) 1) fun (s101 : St) => lt (va_up s101 171 (fun _ => 0)) fun (s102 : St) => lt (f_X3_init 171 s102) fun (s103 : St) => lt (wr s103 5 (Int32.toNatClampNeg 13) 1) fun (s104 : St) => f_X11_init_15 s104
def f_X11_init_13 (s92 : St) : St := lt (va_up s92 147 (fun _ => 0)) fun (s93 : St) => lt (f_X3_init 147 s93) fun (s94 : St) => lt (wr s94 5 (Int32.toNatClampNeg 10) 1) fun (s95 : St) => lt (va_up s95 155 (fun _ => 0)) fun (s96 : St) => lt (f_X3_init 155 s96) fun (s97 : St) => lt (wr s97 5 (Int32.toNatClampNeg 11) 1) fun (s98 : St) => f_X11_init_14 s98
def f_X11_init_12 (s86 : St) : St := lt (va_up s86 131 (fun _ => 0)) fun (s87 : St) => lt (f_X3_init 131 s87) fun (s88 : St) => lt (wr s88 5 (Int32.toNatClampNeg 8) 1) fun (s89 : St) => lt (va_up s89 139 (fun _ => 0)) fun (s90 : St) => lt (f_X3_init 139 s90) fun (s91 : St) => lt (wr s91 5 (Int32.toNatClampNeg 9) 1) fun (s92 : St) => f_X11_init_13 s92
def f_X11_init_11 (s80 : St) : St := lt (va_up s80 115 (fun _ => 0)) fun (s81 : St) => lt (f_X3_init 115 s81) fun (s82 : St) => lt (wr s82 5 (Int32.toNatClampNeg 6) 1) fun (s83 : St) => lt (va_up s83 123 (fun _ => 0)) fun (s84 : St) => lt (f_X3_init 123 s84) fun (s85 : St) => lt (wr s85 5 (Int32.toNatClampNeg 7) 1) fun (s86 : St) => f_X11_init_12 s86
def f_X11_init_10 (s74 : St) : St := lt (va_up s74 99 (fun _ => 0)) fun (s75 : St) => lt (f_X3_init 99 s75) fun (s76 : St) => lt (wr s76 5 (Int32.toNatClampNeg 4) 1) fun (s77 : St) => lt (va_up s77 107 (fun _ => 0)) fun (s78 : St) => lt (f_X3_init 107 s78) fun (s79 : St) => lt (wr s79 5 (Int32.toNatClampNeg 5) 1) fun (s80 : St) => f_X11_init_11 s80
def f_X11_init_9 (s68 : St) : St := lt (va_up s68 83 (fun _ => 0)) fun (s69 : St) => lt (f_X3_init 83 s69) fun (s70 : St) => lt (wr s70 5 (Int32.toNatClampNeg 2) 1) fun (s71 : St) => lt (va_up s71 91 (fun _ => 0)) fun (s72 : St) => lt (f_X3_init 91 s72) fun (s73 : St) => lt (wr s73 5 (Int32.toNatClampNeg 3) 1) fun (s74 : St) => f_X11_init_10 s74
def f_X11_init_8 (s62 : St) : St := lt (va_up s62 67 (fun _ => 0)) fun (s63 : St) => lt (f_X3_init 67 s63) fun (s64 : St) => lt (wr s64 5 (Int32.toNatClampNeg 0) 1) fun (s65 : St) => lt (va_up s65 75 (fun _ => 0)) fun (s66 : St) => lt (f_X3_init 75 s66) fun (s67 : St) => lt (wr s67 5 (Int32.toNatClampNeg 1) 1) fun (s68 : St) => f_X11_init_9 s68
def f_X11_init_7 (s56 : St) : St := lt (va_up s56 51 (fun _ => 0)) fun (s57 : St) => lt (f_X3_init 51 s57) fun (s58 : St) => lt (wr s58 4 (Int32.toNatClampNeg 0) 1) fun (s59 : St) => lt (va_up s59 59 (fun _ => 0)) fun (s60 : St) => lt (f_X3_init 59 s60) fun (s61 : St) => lt (wr s61 4 (Int32.toNatClampNeg 1) 1) fun (s62 : St) => f_X11_init_8 s62
def f_X11_init_6 (s50 : St) : St := lt (va_up s50 47 (fun _ => 0)) fun (s51 : St) => lt (f_X7_init 47 s51) fun (s52 : St) => lt (wr s52 1 (Int32.toNatClampNeg 6) 1) fun (s53 : St) => lt (va_up s53 49 (fun _ => 0)) fun (s54 : St) => lt (f_X7_init 49 s54) fun (s55 : St) => lt (wr s55 1 (Int32.toNatClampNeg 7) 1) fun (s56 : St) => f_X11_init_7 s56
def f_X11_init_5 (s44 : St) : St := lt (va_up s44 43 (fun _ => 0)) fun (s45 : St) => lt (f_X7_init 43 s45) fun (s46 : St) => lt (wr s46 1 (Int32.toNatClampNeg 4) 1) fun (s47 : St) => lt (va_up s47 45 (fun _ => 0)) fun (s48 : St) => lt (f_X7_init 45 s48) fun (s49 : St) => lt (wr s49 1 (Int32.toNatClampNeg 5) 1) fun (s50 : St) => f_X11_init_6 s50
def f_X11_init_4 (s38 : St) : St := lt (va_up s38 39 (fun _ => 0)) fun (s39 : St) => lt (f_X7_init 39 s39) fun (s40 : St) => lt (wr s40 1 (Int32.toNatClampNeg 2) 1) fun (s41 : St) => lt (va_up s41 41 (fun _ => 0)) fun (s42 : St) => lt (f_X7_init 41 s42) fun (s43 : St) => lt (wr s43 1 (Int32.toNatClampNeg 3) 1) fun (s44 : St) => f_X11_init_5 s44
def f_X11_init_3 (s32 : St) : St := lt (va_up s32 35 (fun _ => 0)) fun (s33 : St) => lt (f_X7_init 35 s33) fun (s34 : St) => lt (wr s34 1 (Int32.toNatClampNeg 0) 1) fun (s35 : St) => lt (va_up s35 37 (fun _ => 0)) fun (s36 : St) => lt (f_X7_init 37 s36) fun (s37 : St) => lt (wr s37 1 (Int32.toNatClampNeg 1) 1) fun (s38 : St) => f_X11_init_4 s38
def f_X11_init_2 (s26 : St) : St := lt (va_up s26 19 (fun _ => 0)) fun (s27 : St) => lt (f_X3_init 19 s27) fun (s28 : St) => lt (wr s28 0 2 1) fun (s29 : St) => lt (va_up s29 27 (fun _ => 0)) fun (s30 : St) => lt (f_X3_init 27 s30) fun (s31 : St) => lt (wr s31 0 3 1) fun (s32 : St) => f_X11_init_3 s32
def f_X11_init_1 (s9 : St) : St := lt (va_up s9 6 (fun _ => 0)) fun (s10 : St) => lt (f_X4_init s10) fun (s11 : St) => lt (wr s11 0 8 1) fun (s12 : St) => lt (va_up s12 11 (fun _ => 0)) fun (s13 : St) => lt (f_X9_init s13) fun (s14 : St) => lt (wr s14 0 9 1) fun (s15 : St) => lt (va_up s15 13 (fun _ => 0)) fun (s16 : St) => lt (va_up s16 14 (fun _ => 0)) fun (s17 : St) => lt (wr s17 13 (Int32.toNatClampNeg 0) 1) fun (s18 : St) => lt (va_up s18 15 (fun _ => 0)) fun (s19 : St) => lt (wr s19 13 (Int32.toNatClampNeg 1) 1) fun (s20 : St) => lt (va_up s20 16 (fun _ => 0)) fun (s21 : St) => lt (wr s21 13 (Int32.toNatClampNeg 2) 1) fun (s22 : St) => lt (va_up s22 17 (fun _ => 0)) fun (s23 : St) => lt (wr s23 13 (Int32.toNatClampNeg 3) 1) fun (s24 : St) => lt (va_up s24 18 (fun _ => 0)) fun (s25 : St) => lt (wr s25 13 (Int32.toNatClampNeg 4) 1) fun (s26 : St) => f_X11_init_2 s26
def f_X11_init (s0 : St) : St := lt (va_up s0 1 (fun _ => 0)) fun (s1 : St) => lt (wr s1 0 0 1) fun (s2 : St) => lt (va_up s2 2 (fun _ => 0)) fun (s3 : St) => lt (f_X6_init s3) fun (s4 : St) => lt (wr s4 0 1 1) fun (s5 : St) => lt (va_up s5 4 (fun _ => 0)) fun (s6 : St) => lt (wr s6 0 4 1) fun (s7 : St) => lt (va_up s7 5 (fun _ => 0)) fun (s8 : St) => lt (wr s8 0 5 1) fun (s9 : St) => f_X11_init_1 s9
def f_X12_init_6 (s35 : St) : St := lt (wr s35 264 (Int32.toNatClampNeg 7) (-1)) fun (s36 : St) => s36
def f_X12_init_5 (s32 : St) : St := lt (wr s32 264 (Int32.toNatClampNeg 4) (-1)) fun (s33 : St) => lt (wr s33 264 (Int32.toNatClampNeg 5) (-1)) fun (s34 : St) => lt (wr s34 264 (Int32.toNatClampNeg 6) (-1)) fun (s35 : St) => f_X12_init_6 s35
def f_X12_init_4 (s29 : St) : St := lt (wr s29 264 (Int32.toNatClampNeg 1) (-1)) fun (s30 : St) => lt (wr s30 264 (Int32.toNatClampNeg 2) (-1)) fun (s31 : St) => lt (wr s31 264 (Int32.toNatClampNeg 3) (-1)) fun (s32 : St) => f_X12_init_5 s32
def f_X12_init_3 (s24 : St) : St := lt (va_up s24 272 (fun _ => 0)) fun (s25 : St) => lt (wr s25 259 21 1) fun (s26 : St) => lt (va_up s26 273 (fun _ => 0)) fun (s27 : St) => lt (wr s27 259 22 1) fun (s28 : St) => lt (wr s28 264 (Int32.toNatClampNeg 0) (-1)) fun (s29 : St) => f_X12_init_4 s29
def f_X12_init_2 (s16 : St) : St := lt (va_up s16 268 (fun _ => 0)) fun (s17 : St) => lt (wr s17 259 16 1) fun (s18 : St) => lt (va_up s18 269 (fun _ => 0)) fun (s19 : St) => lt (wr s19 259 17 1) fun (s20 : St) => lt (va_up s20 270 (fun _ => 0)) fun (s21 : St) => lt (wr s21 259 18 1) fun (s22 : St) => lt (va_up s22 271 (fun _ => 0)) fun (s23 : St) => lt (wr s23 259 19 1) fun (s24 : St) => f_X12_init_3 s24
def f_X12_init_1 (s8 : St) : St := lt (va_up s8 264 (fun _ => 0)) fun (s9 : St) => lt (wr s9 259 5 1) fun (s10 : St) => lt (va_up s10 265 (fun _ => 0)) fun (s11 : St) => lt (wr s11 259 6 1) fun (s12 : St) => lt (va_up s12 266 (fun _ => 0)) fun (s13 : St) => lt (wr s13 259 7 1) fun (s14 : St) => lt (va_up s14 267 (fun _ => 0)) fun (s15 : St) => lt (wr s15 259 10 1) fun (s16 : St) => f_X12_init_2 s16
def f_X12_init (s0 : St) : St := lt (va_up s0 260 (fun _ => 0)) fun (s1 : St) => lt (wr s1 259 0 1) fun (s2 : St) => lt (va_up s2 261 (fun _ => 0)) fun (s3 : St) => lt (wr s3 259 1 1) fun (s4 : St) => lt (va_up s4 262 (fun _ => 0)) fun (s5 : St) => lt (wr s5 259 2 1) fun (s6 : St) => lt (va_up s6 263 (fun _ => 0)) fun (s7 : St) => lt (wr s7 259 4 1) fun (s8 : St) => f_X12_init_1 s8
set_option maxHeartbeats 8000000 in
set_option maxRecDepth 100000 in
theorem c_X2_init (l : Launch) (E : Ev) (hE : EvOk E) {a0 n : Nat} {s0 : St} : MC l E yX2_init cX2_init 1 (rmc 1 0 0) n n 0 0 [.ref (E.2.2.1 a0)] s0 s0 := by
  refine zb_enter (by decide +kernel) rfl (Nat.le_of_ble_eq_true rfl) ?_
  intro p e s m args below meth c ls hC hNT hin2 hr hlocks hw0 hb0 hz hS0 hl
  have hC : Cx p s m args c cX2_init 1 "FuseBox$Fuse" E := hC
  obtain ⟨hx, hb, hml, hown, hts, hTB⟩ := id hC
  have hl : lv_has ls 1 [(0, .ref (E.2.2.1 a0))] := hl
  refine lv_aload_n hx hb dX2_init_0 rfl (lv_at hl 0 rfl) ?_
  refine z_at 1 rfl ?_
  refine W.objInit hx hb hown (hts _ wd752) (hts _ wd753) (hts _ wd754) rfl (hl.1.trans hml.symm) rfl dX2_init_1 (Nat.le_of_ble_eq_true rfl) (Nat.le_of_ble_eq_true rfl) ?_
  show W p l e _ s m args below meth c _ _ _ _ _ (F0 m 4 ls [])
  exact zb_vret hC hlocks hw0 hS0 hr dX2_init_4
set_option maxHeartbeats 8000000 in
set_option maxRecDepth 100000 in
theorem c_X10_init (l : Launch) (E : Ev) (hE : EvOk E) {a0 n : Nat} {s0 : St} : MC l E yX10_init cX10_init 1 (rmc 2 0 0) n n 0 0 [.ref (E.2.2.1 a0)] s0 s0 := by
  refine zb_enter (by decide +kernel) rfl (Nat.le_of_ble_eq_true rfl) ?_
  intro p e s m args below meth c ls hC hNT hin2 hr hlocks hw0 hb0 hz hS0 hl
  have hC : Cx p s m args c cX10_init 1 "FuseBox$Wire" E := hC
  obtain ⟨hx, hb, hml, hown, hts, hTB⟩ := id hC
  have hl : lv_has ls 1 [(0, .ref (E.2.2.1 a0))] := hl
  refine lv_aload_n hx hb dX10_init_0 rfl (lv_at hl 0 rfl) ?_
  refine z_at 1 rfl ?_
  refine zb_cI (n := n) (a := a0) (As := []) (rest := []) hE hC hNT hl.1 hw0 hS0 hb0 (by omega) (c_X2_init l E hE) (Or.inr ⟨"FuseBox", va_cnB 0 hts (gin (gin_code wd755)) rfl rfl rfl hNT.2.2.2.2.2.2.2.2.2.2.2.2.2.1 (hts _ wd23) gc307 ⟨(Nat.le_of_ble_eq_true rfl), (Nat.le_of_ble_eq_true rfl)⟩, rfl, hts _ wd756⟩) ⟨(Nat.le_of_ble_eq_true rfl), (Nat.le_of_ble_eq_true rfl)⟩ rfl rfl (Nat.le_of_ble_eq_true rfl) dX10_init_1 (fun H1 locs1 hw1 hS1 => ?_)
  clear hw0 hS0
  refine z_at 4 rfl ?_
  exact zb_vret hC hlocks hw1 hS1 hr dX10_init_4
set_option maxHeartbeats 8000000 in
set_option maxRecDepth 100000 in
theorem c_X0_init (l : Launch) (E : Ev) (hE : EvOk E) {a0 n : Nat} {s0 : St} : MC l E yX0_init cX0_init 1 (rmc 2 0 0) n n 0 0 [.ref (E.2.2.1 a0)] s0 s0 := by
  refine zb_enter (by decide +kernel) rfl (Nat.le_of_ble_eq_true rfl) ?_
  intro p e s m args below meth c ls hC hNT hin2 hr hlocks hw0 hb0 hz hS0 hl
  have hC : Cx p s m args c cX0_init 1 "FuseBox$Breaker" E := hC
  obtain ⟨hx, hb, hml, hown, hts, hTB⟩ := id hC
  have hl : lv_has ls 1 [(0, .ref (E.2.2.1 a0))] := hl
  refine lv_aload_n hx hb dX0_init_0 rfl (lv_at hl 0 rfl) ?_
  refine z_at 1 rfl ?_
  refine zb_cI (n := n) (a := a0) (As := []) (rest := []) hE hC hNT hl.1 hw0 hS0 hb0 (by omega) (c_X2_init l E hE) (Or.inr ⟨"FuseBox", va_cnB 0 hts (gin (gin_code wd755)) rfl rfl rfl hNT.2.2.2.2.2.2.2.2.2.1 (hts _ wd23) gc307 ⟨(Nat.le_of_ble_eq_true rfl), (Nat.le_of_ble_eq_true rfl)⟩, rfl, hts _ wd756⟩) ⟨(Nat.le_of_ble_eq_true rfl), (Nat.le_of_ble_eq_true rfl)⟩ rfl rfl (Nat.le_of_ble_eq_true rfl) dX0_init_1 (fun H1 locs1 hw1 hS1 => ?_)
  clear hw0 hS0
  refine z_at 4 rfl ?_
  exact zb_vret hC hlocks hw1 hS1 hr dX0_init_4
set_option maxHeartbeats 8000000 in
set_option maxRecDepth 100000 in
theorem c_X8_init (l : Launch) (E : Ev) (hE : EvOk E) {a0 n : Nat} {s0 : St} : MC l E yX8_init cX8_init 1 (rmc 3 0 0) n n 0 0 [.ref (E.2.2.1 a0)] s0 s0 := by
  refine zb_enter (by decide +kernel) rfl (Nat.le_of_ble_eq_true rfl) ?_
  intro p e s m args below meth c ls hC hNT hin2 hr hlocks hw0 hb0 hz hS0 hl
  have hC : Cx p s m args c cX8_init 1 "FuseBox$Slow" E := hC
  obtain ⟨hx, hb, hml, hown, hts, hTB⟩ := id hC
  have hl : lv_has ls 1 [(0, .ref (E.2.2.1 a0))] := hl
  refine lv_aload_n hx hb dX8_init_0 rfl (lv_at hl 0 rfl) ?_
  refine z_at 1 rfl ?_
  refine zb_cI (n := n) (a := a0) (As := []) (rest := []) hE hC hNT hl.1 hw0 hS0 hb0 (by omega) (c_X10_init l E hE) (Or.inr ⟨"FuseBox", va_cnB 0 hts (gin (gin_code wd757)) rfl rfl rfl hNT.2.2.2.2.2.2.2.2.2.2.2.2.1 (hts _ wd87) gc308 ⟨(Nat.le_of_ble_eq_true rfl), (Nat.le_of_ble_eq_true rfl)⟩, rfl, hts _ wd758⟩) ⟨(Nat.le_of_ble_eq_true rfl), (Nat.le_of_ble_eq_true rfl)⟩ rfl rfl (Nat.le_of_ble_eq_true rfl) dX8_init_1 (fun H1 locs1 hw1 hS1 => ?_)
  clear hw0 hS0
  refine z_at 4 rfl ?_
  exact zb_vret hC hlocks hw1 hS1 hr dX8_init_4
set_option maxHeartbeats 8000000 in
set_option maxRecDepth 100000 in
theorem c_X5_init (l : Launch) (E : Ev) (hE : EvOk E) {a0 n : Nat} {s0 : St} : MC l E yX5_init cX5_init 1 (rmc 3 0 0) n n 0 0 [.ref (E.2.2.1 a0)] s0 s0 := by
  refine zb_enter (by decide +kernel) rfl (Nat.le_of_ble_eq_true rfl) ?_
  intro p e s m args below meth c ls hC hNT hin2 hr hlocks hw0 hb0 hz hS0 hl
  have hC : Cx p s m args c cX5_init 1 "FuseBox$Quick" E := hC
  obtain ⟨hx, hb, hml, hown, hts, hTB⟩ := id hC
  have hl : lv_has ls 1 [(0, .ref (E.2.2.1 a0))] := hl
  refine lv_aload_n hx hb dX5_init_0 rfl (lv_at hl 0 rfl) ?_
  refine z_at 1 rfl ?_
  refine zb_cI (n := n) (a := a0) (As := []) (rest := []) hE hC hNT hl.1 hw0 hS0 hb0 (by omega) (c_X10_init l E hE) (Or.inr ⟨"FuseBox", va_cnB 0 hts (gin (gin_code wd757)) rfl rfl rfl hNT.2.2.2.2.2.2.2.2.2.2.2.1 (hts _ wd87) gc308 ⟨(Nat.le_of_ble_eq_true rfl), (Nat.le_of_ble_eq_true rfl)⟩, rfl, hts _ wd758⟩) ⟨(Nat.le_of_ble_eq_true rfl), (Nat.le_of_ble_eq_true rfl)⟩ rfl rfl (Nat.le_of_ble_eq_true rfl) dX5_init_1 (fun H1 locs1 hw1 hS1 => ?_)
  clear hw0 hS0
  refine z_at 4 rfl ?_
  exact zb_vret hC hlocks hw1 hS1 hr dX5_init_4
set_option maxHeartbeats 8000000 in
set_option maxRecDepth 100000 in
theorem c_X1_init (l : Launch) (E : Ev) (hE : EvOk E) {a0 n : Nat} {s0 : St} : MC l E yX1_init cX1_init 1 (rmc 3 0 0) n n 0 0 [.ref (E.2.2.1 a0)] s0 s0 := by
  refine zb_enter (by decide +kernel) rfl (Nat.le_of_ble_eq_true rfl) ?_
  intro p e s m args below meth c ls hC hNT hin2 hr hlocks hw0 hb0 hz hS0 hl
  have hC : Cx p s m args c cX1_init 1 "FuseBox$Coil" E := hC
  obtain ⟨hx, hb, hml, hown, hts, hTB⟩ := id hC
  have hl : lv_has ls 1 [(0, .ref (E.2.2.1 a0))] := hl
  refine lv_aload_n hx hb dX1_init_0 rfl (lv_at hl 0 rfl) ?_
  refine z_at 1 rfl ?_
  refine zb_cI (n := n) (a := a0) (As := []) (rest := []) hE hC hNT hl.1 hw0 hS0 hb0 (by omega) (c_X0_init l E hE) (Or.inr ⟨"FuseBox", va_cnB 0 hts (gin (gin_code wd759)) rfl rfl rfl hNT.2.2.2.2.2.2.2.2.2.2.1 (hts _ wd3) gc309 ⟨(Nat.le_of_ble_eq_true rfl), (Nat.le_of_ble_eq_true rfl)⟩, rfl, hts _ wd760⟩) ⟨(Nat.le_of_ble_eq_true rfl), (Nat.le_of_ble_eq_true rfl)⟩ rfl rfl (Nat.le_of_ble_eq_true rfl) dX1_init_1 (fun H1 locs1 hw1 hS1 => ?_)
  clear hw0 hS0
  refine z_at 4 rfl ?_
  exact zb_vret hC hlocks hw1 hS1 hr dX1_init_4
set_option maxHeartbeats 8000000 in
set_option maxRecDepth 100000 in
theorem c_X3_init (l : Launch) (E : Ev) (hE : EvOk E) {a0 : Nat} (t0 : isH a0) {s0 : St} : MC l E yX3_init cX3_init 2 (rmc 1 7 32) (a0 + 1) (a0 + 8) 7 32 [.ref (E.2.2.1 a0), .ref (E.2.2.1 13)] s0 (f_X3_init a0 s0) := by
  generalize hf : f_X3_init a0 s0 = sz
  unfold f_X3_init at hf
  refine zb_enter (by decide +kernel) rfl (Nat.le_of_ble_eq_true rfl) ?_
  intro p e s m args below meth c ls hC hNT hin2 hr hlocks hw0 hb0 hz hS0 hl
  have hC : Cx p s m args c cX3_init 2 "FuseBox$House" E := hC
  obtain ⟨hx, hb, hml, hown, hts, hTB⟩ := id hC
  have ha0 := isH_le t0
  have hl : lv_has ls 2 [(0, .ref (E.2.2.1 a0)), (1, .ref (E.2.2.1 13))] := hl
  refine lv_aload_n hx hb dX3_init_0 rfl (lv_at hl 0 rfl) ?_
  refine z_at 1 rfl ?_
  refine W.objInit hx hb hown (hts _ wd761) (hts _ wd753) (hts _ wd754) rfl (hl.1.trans hml.symm) rfl dX3_init_1 (Nat.le_of_ble_eq_true rfl) (Nat.le_of_ble_eq_true rfl) ?_
  show W p l e _ s m args below meth c _ _ _ _ _ (F0 m 4 ls [])
  refine lv_aload_n hx hb dX3_init_4 rfl (lv_at hl 0 rfl) ?_
  refine z_at 5 rfl ?_
  refine lv_iconst (v := 4) hx hb dX3_init_5 (by decide) ?_
  refine z_at 6 rfl ?_
  obtain ⟨s1, en, hf⟩ := ok_ltp hf
  refine zb_newi (n := (a0 + 1)) (N := 4) (k := 4) (rest := [.ref (E.2.2.1 a0)]) hE hC hw0 hS0 (by omega) hb0 (by omega) (sH t0).2.1 wd762 (by decide) (by decide) (by decide) (Nat.le_of_ble_eq_true rfl) (Nat.le_of_ble_eq_true rfl) en dX3_init_6 (fun H1 hw1 hS1 => ?_)
  clear hw0 hS0
  have hw1 : World E (shN (a0 + 2)) s1 H1 := hw1
  clear en
  refine W.widen (k := 1) (n := 4) (Nat.le_of_ble_eq_true rfl) (Nat.le_of_ble_eq_true rfl) ?_
  refine z_at 8 rfl ?_
  obtain ⟨s2, en, hf⟩ := ok_ltp hf
  refine zb_putF (rest := []) hC hin2 hw1 hS1 (shN_at (by omega) (sH t0).1) (C := RX3) (T := TX3) (N := 15) rfl inw_House tyX3 tyX3_ok nmX3 7 (by decide) (r := (a0 + 1)) rfl rfl rfl rfl rfl wd47 en dX3_init_8 (fun H2 locs2 hw2 hS2 => ?_)
  clear hw1 hS1
  have hw2 : World E (shN (a0 + 2)) s2 H2 := hw2
  clear en
  refine z_at 11 rfl ?_
  refine lv_aload_n hx hb dX3_init_11 rfl (lv_at hl 0 rfl) ?_
  refine z_at 12 rfl ?_
  refine lv_iconst (v := 4) hx hb dX3_init_12 (by decide) ?_
  refine z_at 13 rfl ?_
  obtain ⟨s3, en, hf⟩ := ok_ltp hf
  refine zb_newi (n := (a0 + 2)) (N := 4) (k := 4) (rest := [.ref (E.2.2.1 a0)]) hE hC hw2 hS2 (by omega) hb0 (by omega) (sH t0).2.2.1 wd762 (by decide) (by decide) (by decide) (Nat.le_of_ble_eq_true rfl) (Nat.le_of_ble_eq_true rfl) en dX3_init_13 (fun H3 hw3 hS3 => ?_)
  clear hw2 hS2
  have hw3 : World E (shN (a0 + 3)) s3 H3 := hw3
  clear en
  refine W.widen (k := 2) (n := 8) (Nat.le_of_ble_eq_true rfl) (Nat.le_of_ble_eq_true rfl) ?_
  refine z_at 15 rfl ?_
  obtain ⟨s4, en, hf⟩ := ok_ltp hf
  refine zb_putF (rest := []) hC hin2 hw3 hS3 (shN_at (by omega) (sH t0).1) (C := RX3) (T := TX3) (N := 15) rfl inw_House tyX3 tyX3_ok nmX3 8 (by decide) (r := (a0 + 2)) rfl rfl rfl rfl rfl wd48 en dX3_init_15 (fun H4 locs4 hw4 hS4 => ?_)
  clear hw3 hS3
  have hw4 : World E (shN (a0 + 3)) s4 H4 := hw4
  clear en
  refine z_at 18 rfl ?_
  refine lv_aload_n hx hb dX3_init_18 rfl (lv_at hl 0 rfl) ?_
  refine z_at 19 rfl ?_
  refine lv_iconst (v := 4) hx hb dX3_init_19 (by decide) ?_
  refine z_at 20 rfl ?_
  obtain ⟨s5, en, hf⟩ := ok_ltp hf
  refine zb_newi (n := (a0 + 3)) (N := 4) (k := 4) (rest := [.ref (E.2.2.1 a0)]) hE hC hw4 hS4 (by omega) hb0 (by omega) (sH t0).2.2.2.1 wd762 (by decide) (by decide) (by decide) (Nat.le_of_ble_eq_true rfl) (Nat.le_of_ble_eq_true rfl) en dX3_init_20 (fun H5 hw5 hS5 => ?_)
  clear hw4 hS4
  have hw5 : World E (shN (a0 + 4)) s5 H5 := hw5
  clear en
  refine W.widen (k := 3) (n := 12) (Nat.le_of_ble_eq_true rfl) (Nat.le_of_ble_eq_true rfl) ?_
  refine z_at 22 rfl ?_
  obtain ⟨s6, en, hf⟩ := ok_ltp hf
  refine zb_putF (rest := []) hC hin2 hw5 hS5 (shN_at (by omega) (sH t0).1) (C := RX3) (T := TX3) (N := 15) rfl inw_House tyX3 tyX3_ok nmX3 9 (by decide) (r := (a0 + 3)) rfl rfl rfl rfl rfl wd49 en dX3_init_22 (fun H6 locs6 hw6 hS6 => ?_)
  clear hw5 hS5
  have hw6 : World E (shN (a0 + 4)) s6 H6 := hw6
  clear en
  refine z_at 25 rfl ?_
  refine lv_aload_n hx hb dX3_init_25 rfl (lv_at hl 0 rfl) ?_
  refine z_at 26 rfl ?_
  refine lv_iconst (v := 4) hx hb dX3_init_26 (by decide) ?_
  refine z_at 27 rfl ?_
  obtain ⟨s7, en, hf⟩ := ok_ltp hf
  refine zb_newi (n := (a0 + 4)) (N := 4) (k := 4) (rest := [.ref (E.2.2.1 a0)]) hE hC hw6 hS6 (by omega) hb0 (by omega) (sH t0).2.2.2.2.1 wd762 (by decide) (by decide) (by decide) (Nat.le_of_ble_eq_true rfl) (Nat.le_of_ble_eq_true rfl) en dX3_init_27 (fun H7 hw7 hS7 => ?_)
  clear hw6 hS6
  have hw7 : World E (shN (a0 + 5)) s7 H7 := hw7
  clear en
  refine W.widen (k := 4) (n := 16) (Nat.le_of_ble_eq_true rfl) (Nat.le_of_ble_eq_true rfl) ?_
  refine z_at 29 rfl ?_
  obtain ⟨s8, en, hf⟩ := ok_ltp hf
  refine zb_putF (rest := []) hC hin2 hw7 hS7 (shN_at (by omega) (sH t0).1) (C := RX3) (T := TX3) (N := 15) rfl inw_House tyX3 tyX3_ok nmX3 10 (by decide) (r := (a0 + 4)) rfl rfl rfl rfl rfl wd50 en dX3_init_29 (fun H8 locs8 hw8 hS8 => ?_)
  clear hw7 hS7
  have hw8 : World E (shN (a0 + 5)) s8 H8 := hw8
  clear en
  refine z_at 32 rfl ?_
  refine lv_aload_n hx hb dX3_init_32 rfl (lv_at hl 0 rfl) ?_
  refine z_at 33 rfl ?_
  refine lv_iconst (v := 4) hx hb dX3_init_33 (by decide) ?_
  refine z_at 34 rfl ?_
  obtain ⟨s9, en, hf⟩ := ok_ltp hf
  refine zb_newi (n := (a0 + 5)) (N := 4) (k := 4) (rest := [.ref (E.2.2.1 a0)]) hE hC hw8 hS8 (by omega) hb0 (by omega) (sH t0).2.2.2.2.2.1 wd762 (by decide) (by decide) (by decide) (Nat.le_of_ble_eq_true rfl) (Nat.le_of_ble_eq_true rfl) en dX3_init_34 (fun H9 hw9 hS9 => ?_)
  clear hw8 hS8
  have hw9 : World E (shN (a0 + 6)) s9 H9 := hw9
  clear en
  refine W.widen (k := 5) (n := 20) (Nat.le_of_ble_eq_true rfl) (Nat.le_of_ble_eq_true rfl) ?_
  refine z_at 36 rfl ?_
  obtain ⟨s10, en, hf⟩ := ok_ltp hf
  refine zb_putF (rest := []) hC hin2 hw9 hS9 (shN_at (by omega) (sH t0).1) (C := RX3) (T := TX3) (N := 15) rfl inw_House tyX3 tyX3_ok nmX3 11 (by decide) (r := (a0 + 5)) rfl rfl rfl rfl rfl wd75 en dX3_init_36 (fun H10 locs10 hw10 hS10 => ?_)
  clear hw9 hS9
  have hw10 : World E (shN (a0 + 6)) s10 H10 := hw10
  clear en
  refine z_at 39 rfl ?_
  refine lv_aload_n hx hb dX3_init_39 rfl (lv_at hl 0 rfl) ?_
  refine z_at 40 rfl ?_
  refine lv_bipush (v := 6) hx hb dX3_init_40 (by decide) ?_
  refine z_at 42 rfl ?_
  obtain ⟨s11, en, hf⟩ := ok_ltp hf
  refine zb_newi (n := (a0 + 6)) (N := 6) (k := 6) (rest := [.ref (E.2.2.1 a0)]) hE hC hw10 hS10 (by omega) hb0 (by omega) (sH t0).2.2.2.2.2.2.1 wd762 (by decide) (by decide) (by decide) (Nat.le_of_ble_eq_true rfl) (Nat.le_of_ble_eq_true rfl) en dX3_init_42 (fun H11 hw11 hS11 => ?_)
  clear hw10 hS10
  have hw11 : World E (shN (a0 + 7)) s11 H11 := hw11
  clear en
  refine W.widen (k := 6) (n := 26) (Nat.le_of_ble_eq_true rfl) (Nat.le_of_ble_eq_true rfl) ?_
  refine z_at 44 rfl ?_
  obtain ⟨s12, en, hf⟩ := ok_ltp hf
  refine zb_putF (rest := []) hC hin2 hw11 hS11 (shN_at (by omega) (sH t0).1) (C := RX3) (T := TX3) (N := 15) rfl inw_House tyX3 tyX3_ok nmX3 12 (by decide) (r := (a0 + 6)) rfl rfl rfl rfl rfl wd51 en dX3_init_44 (fun H12 locs12 hw12 hS12 => ?_)
  clear hw11 hS11
  have hw12 : World E (shN (a0 + 7)) s12 H12 := hw12
  clear en
  refine z_at 47 rfl ?_
  refine lv_aload_n hx hb dX3_init_47 rfl (lv_at hl 0 rfl) ?_
  refine z_at 48 rfl ?_
  refine lv_bipush (v := 6) hx hb dX3_init_48 (by decide) ?_
  refine z_at 50 rfl ?_
  obtain ⟨s13, en, hf⟩ := ok_ltp hf
  refine zb_newi (n := (a0 + 7)) (N := 6) (k := 6) (rest := [.ref (E.2.2.1 a0)]) hE hC hw12 hS12 (by omega) hb0 (by omega) (sH t0).2.2.2.2.2.2.2 wd762 (by decide) (by decide) (by decide) (Nat.le_of_ble_eq_true rfl) (Nat.le_of_ble_eq_true rfl) en dX3_init_50 (fun H13 hw13 hS13 => ?_)
  clear hw12 hS12
  have hw13 : World E (shN (a0 + 8)) s13 H13 := hw13
  clear en
  refine W.widen (k := 7) (n := 32) (Nat.le_of_ble_eq_true rfl) (Nat.le_of_ble_eq_true rfl) ?_
  refine z_at 52 rfl ?_
  obtain ⟨s14, en, hf⟩ := ok_ltp hf
  refine zb_putF (rest := []) hC hin2 hw13 hS13 (shN_at (by omega) (sH t0).1) (C := RX3) (T := TX3) (N := 15) rfl inw_House tyX3 tyX3_ok nmX3 13 (by decide) (r := (a0 + 7)) rfl rfl rfl rfl rfl wd52 en dX3_init_52 (fun H14 locs14 hw14 hS14 => ?_)
  clear hw13 hS13
  have hw14 : World E (shN (a0 + 8)) s14 H14 := hw14
  clear en
  refine z_at 55 rfl ?_
  refine lv_aload_n hx hb dX3_init_55 rfl (lv_at hl 0 rfl) ?_
  refine z_at 56 rfl ?_
  refine lv_aload_n hx hb dX3_init_56 rfl (lv_at hl 1 rfl) ?_
  refine z_at 57 rfl ?_
  obtain ⟨s15, en, hf⟩ := ok_ltp hf
  refine zb_putF (rest := []) hC hin2 hw14 hS14 (shN_at (by omega) (sH t0).1) (C := RX3) (T := TX3) (N := 15) rfl inw_House tyX3 tyX3_ok nmX3 0 (by decide) (r := 13) rfl rfl rfl rfl rfl wd57 en dX3_init_57 (fun H15 locs15 hw15 hS15 => ?_)
  clear hw14 hS14
  have hw15 : World E (shN (a0 + 8)) s15 H15 := hw15
  clear en
  refine z_at 60 rfl ?_
  subst hf
  exact zb_vret hC hlocks hw15 hS15 hr dX3_init_60
set_option maxHeartbeats 8000000 in
set_option maxRecDepth 100000 in
theorem c_X7_init (l : Launch) (E : Ev) (hE : EvOk E) {a0 : Nat} (t0 : isR a0) {s0 : St} : MC l E yX7_init cX7_init 1 (rmc 1 1 40) (a0 + 1) (a0 + 2) 1 40 [.ref (E.2.2.1 a0)] s0 (f_X7_init a0 s0) := by
  generalize hf : f_X7_init a0 s0 = sz
  unfold f_X7_init at hf
  refine zb_enter (by decide +kernel) rfl (Nat.le_of_ble_eq_true rfl) ?_
  intro p e s m args below meth c ls hC hNT hin2 hr hlocks hw0 hb0 hz hS0 hl
  have hC : Cx p s m args c cX7_init 1 "FuseBox$Row" E := hC
  obtain ⟨hx, hb, hml, hown, hts, hTB⟩ := id hC
  have ha0 := isR_le t0
  have hl : lv_has ls 1 [(0, .ref (E.2.2.1 a0))] := hl
  refine lv_aload_n hx hb dX7_init_0 rfl (lv_at hl 0 rfl) ?_
  refine z_at 1 rfl ?_
  refine W.objInit hx hb hown (hts _ wd763) (hts _ wd753) (hts _ wd754) rfl (hl.1.trans hml.symm) rfl dX7_init_1 (Nat.le_of_ble_eq_true rfl) (Nat.le_of_ble_eq_true rfl) ?_
  show W p l e _ s m args below meth c _ _ _ _ _ (F0 m 4 ls [])
  refine lv_aload_n hx hb dX7_init_4 rfl (lv_at hl 0 rfl) ?_
  refine z_at 5 rfl ?_
  refine lv_bipush (v := 40) hx hb dX7_init_5 (by decide) ?_
  refine z_at 7 rfl ?_
  obtain ⟨s1, en, hf⟩ := ok_ltp hf
  refine zb_newi (n := (a0 + 1)) (N := 40) (k := 40) (rest := [.ref (E.2.2.1 a0)]) hE hC hw0 hS0 (by omega) hb0 (by omega) (sR t0).2 wd762 (by decide) (by decide) (by decide) (Nat.le_of_ble_eq_true rfl) (Nat.le_of_ble_eq_true rfl) en dX7_init_7 (fun H1 hw1 hS1 => ?_)
  clear hw0 hS0
  have hw1 : World E (shN (a0 + 2)) s1 H1 := hw1
  clear en
  refine W.widen (k := 1) (n := 40) (Nat.le_of_ble_eq_true rfl) (Nat.le_of_ble_eq_true rfl) ?_
  refine z_at 9 rfl ?_
  obtain ⟨s2, en, hf⟩ := ok_ltp hf
  refine zb_putF (rest := []) hC hin2 hw1 hS1 (shN_at (by omega) (sR t0).1) (C := RX7) (T := TX7) (N := 3) rfl inw_Row tyX7 tyX7_ok nmX7 0 (by decide) (r := (a0 + 1)) rfl rfl rfl rfl rfl wd282 en dX7_init_9 (fun H2 locs2 hw2 hS2 => ?_)
  clear hw1 hS1
  have hw2 : World E (shN (a0 + 2)) s2 H2 := hw2
  clear en
  refine z_at 12 rfl ?_
  refine lv_aload_n hx hb dX7_init_12 rfl (lv_at hl 0 rfl) ?_
  refine z_at 13 rfl ?_
  refine lv_iconst (v := -1) hx hb dX7_init_13 (by decide) ?_
  refine z_at 14 rfl ?_
  obtain ⟨s3, en, hf⟩ := ok_ltp hf
  refine z_put (rest := []) hC hw2 hS2 (shN_at (by omega) (sR t0).1) (C := RX7) (T := TX7) (N := 3) rfl inw_Row tyX7 tyX7_ok nmX7 2 (by decide) (o := none) rfl rfl (x := -1) (v := .int (-1)) rfl rfl rfl wd281 en dX7_init_14 (fun H3 locs3 hw3 hS3 => ?_)
  clear hw2 hS2
  have hw3 : World E (shN (a0 + 2)) s3 H3 := hw3
  clear en
  refine z_at 17 rfl ?_
  subst hf
  exact zb_vret hC hlocks hw3 hS3 hr dX7_init_17
set_option maxHeartbeats 8000000 in
set_option maxRecDepth 100000 in
theorem c_X6_init (l : Launch) (E : Ev) (hE : EvOk E) {s0 : St} : MC l E yX6_init cX6_init 1 (rmc 1 1 90) 3 4 1 90 [.ref (E.2.2.1 2)] s0 (f_X6_init s0) := by
  generalize hf : f_X6_init s0 = sz
  unfold f_X6_init at hf
  refine zb_enter (by decide +kernel) rfl (Nat.le_of_ble_eq_true rfl) ?_
  intro p e s m args below meth c ls hC hNT hin2 hr hlocks hw0 hb0 hz hS0 hl
  have hC : Cx p s m args c cX6_init 1 "FuseBox$Reader" E := hC
  obtain ⟨hx, hb, hml, hown, hts, hTB⟩ := id hC
  have hl : lv_has ls 1 [(0, .ref (E.2.2.1 2))] := hl
  refine lv_aload_n hx hb dX6_init_0 rfl (lv_at hl 0 rfl) ?_
  refine z_at 1 rfl ?_
  refine W.objInit hx hb hown (hts _ wd764) (hts _ wd753) (hts _ wd754) rfl (hl.1.trans hml.symm) rfl dX6_init_1 (Nat.le_of_ble_eq_true rfl) (Nat.le_of_ble_eq_true rfl) ?_
  show W p l e _ s m args below meth c _ _ _ _ _ (F0 m 4 ls [])
  refine lv_aload_n hx hb dX6_init_4 rfl (lv_at hl 0 rfl) ?_
  refine z_at 5 rfl ?_
  refine lv_bipush (v := 90) hx hb dX6_init_5 (by decide) ?_
  refine z_at 7 rfl ?_
  obtain ⟨s1, en, hf⟩ := ok_ltp hf
  refine zb_newi (n := 3) (N := 90) (k := 90) (rest := [.ref (E.2.2.1 2)]) hE hC hw0 hS0 (by decide) hb0 (by omega) rfl wd762 (by decide) (by decide) (by decide) (Nat.le_of_ble_eq_true rfl) (Nat.le_of_ble_eq_true rfl) en dX6_init_7 (fun H1 hw1 hS1 => ?_)
  clear hw0 hS0
  have hw1 : World E (shN 4) s1 H1 := hw1
  clear en
  refine W.widen (k := 1) (n := 90) (Nat.le_of_ble_eq_true rfl) (Nat.le_of_ble_eq_true rfl) ?_
  refine z_at 9 rfl ?_
  obtain ⟨s2, en, hf⟩ := ok_ltp hf
  refine zb_putF (rest := []) hC hin2 hw1 hS1 (shN_at (n := 4) (a := 2) (x := .inr (5, ksRd)) (by decide) rfl) (C := RX6) (T := TX6) (N := 7) rfl inw_Reader tyX6 tyX6_ok nmX6 0 (by decide) (r := 3) rfl rfl rfl rfl rfl wd218 en dX6_init_9 (fun H2 locs2 hw2 hS2 => ?_)
  clear hw1 hS1
  have hw2 : World E (shN 4) s2 H2 := hw2
  clear en
  refine z_at 12 rfl ?_
  subst hf
  exact zb_vret hC hlocks hw2 hS2 hr dX6_init_12
set_option maxHeartbeats 8000000 in
set_option maxRecDepth 100000 in
theorem c_X4_init (l : Launch) (E : Ev) (hE : EvOk E) {s0 : St} : MC l E yX4_init cX4_init 1 (rmc 1 4 500) 7 11 4 500 [.ref (E.2.2.1 6)] s0 (f_X4_init s0) := by
  generalize hf : f_X4_init s0 = sz
  unfold f_X4_init at hf
  refine zb_enter (by decide +kernel) rfl (Nat.le_of_ble_eq_true rfl) ?_
  intro p e s m args below meth c ls hC hNT hin2 hr hlocks hw0 hb0 hz hS0 hl
  have hC : Cx p s m args c cX4_init 1 "FuseBox$Plugging" E := hC
  obtain ⟨hx, hb, hml, hown, hts, hTB⟩ := id hC
  have hl : lv_has ls 1 [(0, .ref (E.2.2.1 6))] := hl
  refine lv_aload_n hx hb dX4_init_0 rfl (lv_at hl 0 rfl) ?_
  refine z_at 1 rfl ?_
  refine W.objInit hx hb hown (hts _ wd765) (hts _ wd753) (hts _ wd754) rfl (hl.1.trans hml.symm) rfl dX4_init_1 (Nat.le_of_ble_eq_true rfl) (Nat.le_of_ble_eq_true rfl) ?_
  show W p l e _ s m args below meth c _ _ _ _ _ (F0 m 4 ls [])
  refine lv_aload_n hx hb dX4_init_4 rfl (lv_at hl 0 rfl) ?_
  refine z_at 5 rfl ?_
  refine lv_sipush (v := 484) hx hb dX4_init_5 (by decide) ?_
  refine z_at 8 rfl ?_
  obtain ⟨s1, en, hf⟩ := ok_ltp hf
  refine zb_newi (n := 7) (N := 484) (k := 484) (rest := [.ref (E.2.2.1 6)]) hE hC hw0 hS0 (by decide) hb0 (by omega) rfl wd762 (by decide) (by decide) (by decide) (Nat.le_of_ble_eq_true rfl) (Nat.le_of_ble_eq_true rfl) en dX4_init_8 (fun H1 hw1 hS1 => ?_)
  clear hw0 hS0
  have hw1 : World E (shN 8) s1 H1 := hw1
  clear en
  refine W.widen (k := 1) (n := 484) (Nat.le_of_ble_eq_true rfl) (Nat.le_of_ble_eq_true rfl) ?_
  refine z_at 10 rfl ?_
  obtain ⟨s2, en, hf⟩ := ok_ltp hf
  refine zb_putF (rest := []) hC hin2 hw1 hS1 (shN_at (n := 8) (a := 6) (x := .inr (3, ksP)) (by decide) rfl) (C := RX4) (T := TX4) (N := 7) rfl inw_Plugging tyX4 tyX4_ok nmX4 0 (by decide) (r := 7) rfl rfl rfl rfl rfl wd160 en dX4_init_10 (fun H2 locs2 hw2 hS2 => ?_)
  clear hw1 hS1
  have hw2 : World E (shN 8) s2 H2 := hw2
  clear en
  refine z_at 13 rfl ?_
  refine lv_aload_n hx hb dX4_init_13 rfl (lv_at hl 0 rfl) ?_
  refine z_at 14 rfl ?_
  refine lv_iconst (v := 4) hx hb dX4_init_14 (by decide) ?_
  refine z_at 15 rfl ?_
  obtain ⟨s3, en, hf⟩ := ok_ltp hf
  refine zb_newi (n := 8) (N := 4) (k := 4) (rest := [.ref (E.2.2.1 6)]) hE hC hw2 hS2 (by decide) hb0 (by omega) rfl wd762 (by decide) (by decide) (by decide) (Nat.le_of_ble_eq_true rfl) (Nat.le_of_ble_eq_true rfl) en dX4_init_15 (fun H3 hw3 hS3 => ?_)
  clear hw2 hS2
  have hw3 : World E (shN 9) s3 H3 := hw3
  clear en
  refine W.widen (k := 2) (n := 488) (Nat.le_of_ble_eq_true rfl) (Nat.le_of_ble_eq_true rfl) ?_
  refine z_at 17 rfl ?_
  obtain ⟨s4, en, hf⟩ := ok_ltp hf
  refine zb_putF (rest := []) hC hin2 hw3 hS3 (shN_at (n := 9) (a := 6) (x := .inr (3, ksP)) (by decide) rfl) (C := RX4) (T := TX4) (N := 7) rfl inw_Plugging tyX4 tyX4_ok nmX4 1 (by decide) (r := 8) rfl rfl rfl rfl rfl wd166 en dX4_init_17 (fun H4 locs4 hw4 hS4 => ?_)
  clear hw3 hS3
  have hw4 : World E (shN 9) s4 H4 := hw4
  clear en
  refine z_at 20 rfl ?_
  refine lv_aload_n hx hb dX4_init_20 rfl (lv_at hl 0 rfl) ?_
  refine z_at 21 rfl ?_
  refine lv_bipush (v := 6) hx hb dX4_init_21 (by decide) ?_
  refine z_at 23 rfl ?_
  obtain ⟨s5, en, hf⟩ := ok_ltp hf
  refine zb_newi (n := 9) (N := 6) (k := 6) (rest := [.ref (E.2.2.1 6)]) hE hC hw4 hS4 (by decide) hb0 (by omega) rfl wd762 (by decide) (by decide) (by decide) (Nat.le_of_ble_eq_true rfl) (Nat.le_of_ble_eq_true rfl) en dX4_init_23 (fun H5 hw5 hS5 => ?_)
  clear hw4 hS4
  have hw5 : World E (shN 10) s5 H5 := hw5
  clear en
  refine W.widen (k := 3) (n := 494) (Nat.le_of_ble_eq_true rfl) (Nat.le_of_ble_eq_true rfl) ?_
  refine z_at 25 rfl ?_
  obtain ⟨s6, en, hf⟩ := ok_ltp hf
  refine zb_putF (rest := []) hC hin2 hw5 hS5 (shN_at (n := 10) (a := 6) (x := .inr (3, ksP)) (by decide) rfl) (C := RX4) (T := TX4) (N := 7) rfl inw_Plugging tyX4 tyX4_ok nmX4 2 (by decide) (r := 9) rfl rfl rfl rfl rfl wd190 en dX4_init_25 (fun H6 locs6 hw6 hS6 => ?_)
  clear hw5 hS5
  have hw6 : World E (shN 10) s6 H6 := hw6
  clear en
  refine z_at 28 rfl ?_
  refine lv_aload_n hx hb dX4_init_28 rfl (lv_at hl 0 rfl) ?_
  refine z_at 29 rfl ?_
  refine lv_bipush (v := 6) hx hb dX4_init_29 (by decide) ?_
  refine z_at 31 rfl ?_
  obtain ⟨s7, en, hf⟩ := ok_ltp hf
  refine zb_newi (n := 10) (N := 6) (k := 6) (rest := [.ref (E.2.2.1 6)]) hE hC hw6 hS6 (by decide) hb0 (by omega) rfl wd762 (by decide) (by decide) (by decide) (Nat.le_of_ble_eq_true rfl) (Nat.le_of_ble_eq_true rfl) en dX4_init_31 (fun H7 hw7 hS7 => ?_)
  clear hw6 hS6
  have hw7 : World E (shN 11) s7 H7 := hw7
  clear en
  refine W.widen (k := 4) (n := 500) (Nat.le_of_ble_eq_true rfl) (Nat.le_of_ble_eq_true rfl) ?_
  refine z_at 33 rfl ?_
  obtain ⟨s8, en, hf⟩ := ok_ltp hf
  refine zb_putF (rest := []) hC hin2 hw7 hS7 (shN_at (n := 11) (a := 6) (x := .inr (3, ksP)) (by decide) rfl) (C := RX4) (T := TX4) (N := 7) rfl inw_Plugging tyX4 tyX4_ok nmX4 3 (by decide) (r := 10) rfl rfl rfl rfl rfl wd191 en dX4_init_33 (fun H8 locs8 hw8 hS8 => ?_)
  clear hw7 hS7
  have hw8 : World E (shN 11) s8 H8 := hw8
  clear en
  refine z_at 36 rfl ?_
  subst hf
  exact zb_vret hC hlocks hw8 hS8 hr dX4_init_36
set_option maxHeartbeats 8000000 in
set_option maxRecDepth 100000 in
theorem c_X9_init (l : Launch) (E : Ev) (hE : EvOk E) {s0 : St} : MC l E yX9_init cX9_init 1 (rmc 1 1 16) 12 13 1 16 [.ref (E.2.2.1 11)] s0 (f_X9_init s0) := by
  generalize hf : f_X9_init s0 = sz
  unfold f_X9_init at hf
  refine zb_enter (by decide +kernel) rfl (Nat.le_of_ble_eq_true rfl) ?_
  intro p e s m args below meth c ls hC hNT hin2 hr hlocks hw0 hb0 hz hS0 hl
  have hC : Cx p s m args c cX9_init 1 "FuseBox$Trace" E := hC
  obtain ⟨hx, hb, hml, hown, hts, hTB⟩ := id hC
  have hl : lv_has ls 1 [(0, .ref (E.2.2.1 11))] := hl
  refine lv_aload_n hx hb dX9_init_0 rfl (lv_at hl 0 rfl) ?_
  refine z_at 1 rfl ?_
  refine W.objInit hx hb hown (hts _ wd766) (hts _ wd753) (hts _ wd754) rfl (hl.1.trans hml.symm) rfl dX9_init_1 (Nat.le_of_ble_eq_true rfl) (Nat.le_of_ble_eq_true rfl) ?_
  show W p l e _ s m args below meth c _ _ _ _ _ (F0 m 4 ls [])
  refine lv_aload_n hx hb dX9_init_4 rfl (lv_at hl 0 rfl) ?_
  refine z_at 5 rfl ?_
  refine lv_bipush (v := 16) hx hb dX9_init_5 (by decide) ?_
  refine z_at 7 rfl ?_
  obtain ⟨s1, en, hf⟩ := ok_ltp hf
  refine zb_newi (n := 12) (N := 16) (k := 16) (rest := [.ref (E.2.2.1 11)]) hE hC hw0 hS0 (by decide) hb0 (by omega) rfl wd762 (by decide) (by decide) (by decide) (Nat.le_of_ble_eq_true rfl) (Nat.le_of_ble_eq_true rfl) en dX9_init_7 (fun H1 hw1 hS1 => ?_)
  clear hw0 hS0
  have hw1 : World E (shN 13) s1 H1 := hw1
  clear en
  refine W.widen (k := 1) (n := 16) (Nat.le_of_ble_eq_true rfl) (Nat.le_of_ble_eq_true rfl) ?_
  refine z_at 9 rfl ?_
  obtain ⟨s2, en, hf⟩ := ok_ltp hf
  refine zb_putF (rest := []) hC hin2 hw1 hS1 (shN_at (n := 13) (a := 11) (x := .inr (8, ksT)) (by decide) rfl) (C := RX9) (T := TX9) (N := 2) rfl inw_Trace tyX9 tyX9_ok nmX9 0 (by decide) (r := 12) rfl rfl rfl rfl rfl wd11 en dX9_init_9 (fun H2 locs2 hw2 hS2 => ?_)
  clear hw1 hS1
  have hw2 : World E (shN 13) s2 H2 := hw2
  clear en
  refine z_at 12 rfl ?_
  subst hf
  exact zb_vret hC hlocks hw2 hS2 hr dX9_init_12
