/-! ===== P4: what holds between two calls of the law ===== -/
theorem ly_25 {S : Nat → Shp} {R : Nat → Nat → Nat} (h : Lay S R) : LyCi S R 25 := ⟨⟨ls_25 h, ls_26 h, ls_27 h, ls_28 h, ls_29 h, ls_30 h, ls_31 h, ls_32 h, ls_33 h, ls_34 h⟩, lr_25_1 h, lr_25_2 h, lr_25_3 h, lr_25_4 h, lr_25_5 h, lr_25_6 h, lr_25_7 h, lr_25_8 h, lr_30_0 h⟩
theorem ly_35 {S : Nat → Shp} {R : Nat → Nat → Nat} (h : Lay S R) : LyCi S R 35 := ⟨⟨ls_35 h, ls_36 h, ls_37 h, ls_38 h, ls_39 h, ls_40 h, ls_41 h, ls_42 h, ls_43 h, ls_44 h⟩, lr_35_1 h, lr_35_2 h, lr_35_3 h, lr_35_4 h, lr_35_5 h, lr_35_6 h, lr_35_7 h, lr_35_8 h, lr_40_0 h⟩
theorem ly_45 {S : Nat → Shp} {R : Nat → Nat → Nat} (h : Lay S R) : LyCm S R 45 := ⟨⟨ls_45 h, ls_46 h, ls_47 h, ls_48 h, ls_49 h, ls_50 h, ls_51 h, ls_52 h, ls_53 h, ls_54 h⟩, lr_45_1 h, lr_45_5 h, lr_45_6 h, lr_45_7 h, lr_45_8 h, lr_45_9 h, lr_45_10 h, lr_45_11 h, lr_53_0 h⟩
theorem ly_55 {S : Nat → Shp} {R : Nat → Nat → Nat} (h : Lay S R) : LyCm S R 55 := ⟨⟨ls_55 h, ls_56 h, ls_57 h, ls_58 h, ls_59 h, ls_60 h, ls_61 h, ls_62 h, ls_63 h, ls_64 h⟩, lr_55_1 h, lr_55_5 h, lr_55_6 h, lr_55_7 h, lr_55_8 h, lr_55_9 h, lr_55_10 h, lr_55_11 h, lr_63_0 h⟩
theorem ly_71 {S : Nat → Shp} {R : Nat → Nat → Nat} (h : Lay S R) : LyTr S R 71 := ⟨⟨ls_71 h, ls_72 h, ls_73 h, ls_74 h, ls_75 h, ls_76 h⟩, lr_71_0 h, lr_71_1 h, lr_71_2 h, lr_71_3 h, lr_71_4 h⟩
theorem ly_77 {S : Nat → Shp} {R : Nat → Nat → Nat} (h : Lay S R) : LyTr S R 77 := ⟨⟨ls_77 h, ls_78 h, ls_79 h, ls_80 h, ls_81 h, ls_82 h⟩, lr_77_0 h, lr_77_1 h, lr_77_2 h, lr_77_3 h, lr_77_4 h⟩
theorem ly_100 {S : Nat → Shp} {R : Nat → Nat → Nat} (h : Lay S R) : LyTr S R 100 := ⟨⟨ls_100 h, ls_101 h, ls_102 h, ls_103 h, ls_104 h, ls_105 h⟩, lr_100_0 h, lr_100_1 h, lr_100_2 h, lr_100_3 h, lr_100_4 h⟩
theorem ly_106 {S : Nat → Shp} {R : Nat → Nat → Nat} (h : Lay S R) : LyTr S R 106 := ⟨⟨ls_106 h, ls_107 h, ls_108 h, ls_109 h, ls_110 h, ls_111 h⟩, lr_106_0 h, lr_106_1 h, lr_106_2 h, lr_106_3 h, lr_106_4 h⟩
theorem ly_83 {S : Nat → Shp} {R : Nat → Nat → Nat} (h : Lay S R) : LyNo S R 83 := ⟨⟨ls_83 h, ls_84 h, ls_85 h, ls_86 h, ls_87 h⟩, lr_83_0 h, lr_83_1 h, lr_83_2 h, lr_83_3 h⟩
theorem ly_88 {S : Nat → Shp} {R : Nat → Nat → Nat} (h : Lay S R) : LyNo S R 88 := ⟨⟨ls_88 h, ls_89 h, ls_90 h, ls_91 h, ls_92 h⟩, lr_88_0 h, lr_88_1 h, lr_88_2 h, lr_88_3 h⟩
theorem ly_93 {S : Nat → Shp} {R : Nat → Nat → Nat} (h : Lay S R) : LyCs S R 93 := ⟨⟨ls_93 h, ls_94 h, ls_95 h, ls_96 h, ls_97 h, ls_98 h, ls_99 h⟩, lr_93_0 h, lr_93_1 h, lr_93_2 h, lr_93_3 h, lr_93_4 h, lr_93_5 h⟩
/-- where things lie -/
def AD (S : Nat → Shp) (R : Nat → Nat → Nat) (c : Nat × Nat) (b b' q q' T T' N N' K K' C C' : Nat) : Prop := (Lay S R) ∧ (R 1 4 = b) ∧ (R 1 5 = b') ∧ ((b = 25 ∧ b' = 35) ∨ (b = 35 ∧ b' = 25)) ∧ (R 1 6 = q) ∧ (R 1 7 = q') ∧ ((q = 45 ∧ q' = 55) ∨ (q = 55 ∧ q' = 45)) ∧ (R 65 9 = T) ∧ (R 65 10 = T') ∧ ((T = 71 ∧ T' = 77) ∨ (T = 77 ∧ T' = 71)) ∧ (R 65 11 = N) ∧ (R 65 12 = N') ∧ ((N = 83 ∧ N' = 88) ∨ (N = 88 ∧ N' = 83)) ∧ (R 65 13 = C) ∧ (R 65 14 = C') ∧ (R 65 15 = K) ∧ (R 65 16 = K') ∧ ((K = 100 ∧ K' = 106) ∨ (K = 106 ∧ K' = 100)) ∧ (C' = 93 ∨ (118 < C' ∧ C' + 6 ≤ c.1)) ∧ (LyCs S R C') ∧ (C = 0 ∨ ((C = 93 ∨ (118 < C ∧ C + 6 ≤ c.1)) ∧ LyCs S R C ∧ (C + 6 < C' ∨ C' + 6 < C))) ∧ (118 ≤ c.1)
theorem AD.hL {S : Nat → Shp} {R : Nat → Nat → Nat} {c : Nat × Nat} {b b' q q' T T' N N' K K' C C' : Nat} (h : AD S R c b b' q q' T T' N N' K K' C C') : Lay S R := h.1
theorem AD.r4 {S : Nat → Shp} {R : Nat → Nat → Nat} {c : Nat × Nat} {b b' q q' T T' N N' K K' C C' : Nat} (h : AD S R c b b' q q' T T' N N' K K' C C') : R 1 4 = b := h.2.1
theorem AD.r5 {S : Nat → Shp} {R : Nat → Nat → Nat} {c : Nat × Nat} {b b' q q' T T' N N' K K' C C' : Nat} (h : AD S R c b b' q q' T T' N N' K K' C C') : R 1 5 = b' := h.2.2.1
theorem AD.hb {S : Nat → Shp} {R : Nat → Nat → Nat} {c : Nat × Nat} {b b' q q' T T' N N' K K' C C' : Nat} (h : AD S R c b b' q q' T T' N N' K K' C C') : (b = 25 ∧ b' = 35) ∨ (b = 35 ∧ b' = 25) := h.2.2.2.1
theorem AD.r6 {S : Nat → Shp} {R : Nat → Nat → Nat} {c : Nat × Nat} {b b' q q' T T' N N' K K' C C' : Nat} (h : AD S R c b b' q q' T T' N N' K K' C C') : R 1 6 = q := h.2.2.2.2.1
theorem AD.r7 {S : Nat → Shp} {R : Nat → Nat → Nat} {c : Nat × Nat} {b b' q q' T T' N N' K K' C C' : Nat} (h : AD S R c b b' q q' T T' N N' K K' C C') : R 1 7 = q' := h.2.2.2.2.2.1
theorem AD.hq {S : Nat → Shp} {R : Nat → Nat → Nat} {c : Nat × Nat} {b b' q q' T T' N N' K K' C C' : Nat} (h : AD S R c b b' q q' T T' N N' K K' C C') : (q = 45 ∧ q' = 55) ∨ (q = 55 ∧ q' = 45) := h.2.2.2.2.2.2.1
theorem AD.t9 {S : Nat → Shp} {R : Nat → Nat → Nat} {c : Nat × Nat} {b b' q q' T T' N N' K K' C C' : Nat} (h : AD S R c b b' q q' T T' N N' K K' C C') : R 65 9 = T := h.2.2.2.2.2.2.2.1
theorem AD.t10 {S : Nat → Shp} {R : Nat → Nat → Nat} {c : Nat × Nat} {b b' q q' T T' N N' K K' C C' : Nat} (h : AD S R c b b' q q' T T' N N' K K' C C') : R 65 10 = T' := h.2.2.2.2.2.2.2.2.1
theorem AD.hT {S : Nat → Shp} {R : Nat → Nat → Nat} {c : Nat × Nat} {b b' q q' T T' N N' K K' C C' : Nat} (h : AD S R c b b' q q' T T' N N' K K' C C') : (T = 71 ∧ T' = 77) ∨ (T = 77 ∧ T' = 71) := h.2.2.2.2.2.2.2.2.2.1
theorem AD.n11 {S : Nat → Shp} {R : Nat → Nat → Nat} {c : Nat × Nat} {b b' q q' T T' N N' K K' C C' : Nat} (h : AD S R c b b' q q' T T' N N' K K' C C') : R 65 11 = N := h.2.2.2.2.2.2.2.2.2.2.1
theorem AD.n12 {S : Nat → Shp} {R : Nat → Nat → Nat} {c : Nat × Nat} {b b' q q' T T' N N' K K' C C' : Nat} (h : AD S R c b b' q q' T T' N N' K K' C C') : R 65 12 = N' := h.2.2.2.2.2.2.2.2.2.2.2.1
theorem AD.hN {S : Nat → Shp} {R : Nat → Nat → Nat} {c : Nat × Nat} {b b' q q' T T' N N' K K' C C' : Nat} (h : AD S R c b b' q q' T T' N N' K K' C C') : (N = 83 ∧ N' = 88) ∨ (N = 88 ∧ N' = 83) := h.2.2.2.2.2.2.2.2.2.2.2.2.1
theorem AD.c13 {S : Nat → Shp} {R : Nat → Nat → Nat} {c : Nat × Nat} {b b' q q' T T' N N' K K' C C' : Nat} (h : AD S R c b b' q q' T T' N N' K K' C C') : R 65 13 = C := h.2.2.2.2.2.2.2.2.2.2.2.2.2.1
theorem AD.c14 {S : Nat → Shp} {R : Nat → Nat → Nat} {c : Nat × Nat} {b b' q q' T T' N N' K K' C C' : Nat} (h : AD S R c b b' q q' T T' N N' K K' C C') : R 65 14 = C' := h.2.2.2.2.2.2.2.2.2.2.2.2.2.2.1
theorem AD.k15 {S : Nat → Shp} {R : Nat → Nat → Nat} {c : Nat × Nat} {b b' q q' T T' N N' K K' C C' : Nat} (h : AD S R c b b' q q' T T' N N' K K' C C') : R 65 15 = K := h.2.2.2.2.2.2.2.2.2.2.2.2.2.2.2.1
theorem AD.k16 {S : Nat → Shp} {R : Nat → Nat → Nat} {c : Nat × Nat} {b b' q q' T T' N N' K K' C C' : Nat} (h : AD S R c b b' q q' T T' N N' K K' C C') : R 65 16 = K' := h.2.2.2.2.2.2.2.2.2.2.2.2.2.2.2.2.1
theorem AD.hK {S : Nat → Shp} {R : Nat → Nat → Nat} {c : Nat × Nat} {b b' q q' T T' N N' K K' C C' : Nat} (h : AD S R c b b' q q' T T' N N' K K' C C') : (K = 100 ∧ K' = 106) ∨ (K = 106 ∧ K' = 100) := h.2.2.2.2.2.2.2.2.2.2.2.2.2.2.2.2.2.1
theorem AD.hC' {S : Nat → Shp} {R : Nat → Nat → Nat} {c : Nat × Nat} {b b' q q' T T' N N' K K' C C' : Nat} (h : AD S R c b b' q q' T T' N N' K K' C C') : C' = 93 ∨ (118 < C' ∧ C' + 6 ≤ c.1) := h.2.2.2.2.2.2.2.2.2.2.2.2.2.2.2.2.2.2.1
theorem AD.yC' {S : Nat → Shp} {R : Nat → Nat → Nat} {c : Nat × Nat} {b b' q q' T T' N N' K K' C C' : Nat} (h : AD S R c b b' q q' T T' N N' K K' C C') : LyCs S R C' := h.2.2.2.2.2.2.2.2.2.2.2.2.2.2.2.2.2.2.2.1
theorem AD.hC {S : Nat → Shp} {R : Nat → Nat → Nat} {c : Nat × Nat} {b b' q q' T T' N N' K K' C C' : Nat} (h : AD S R c b b' q q' T T' N N' K K' C C') : C = 0 ∨ ((C = 93 ∨ (118 < C ∧ C + 6 ≤ c.1)) ∧ LyCs S R C ∧ (C + 6 < C' ∨ C' + 6 < C)) := h.2.2.2.2.2.2.2.2.2.2.2.2.2.2.2.2.2.2.2.2.1
theorem AD.hc {S : Nat → Shp} {R : Nat → Nat → Nat} {c : Nat × Nat} {b b' q q' T T' N N' K K' C C' : Nat} (h : AD S R c b b' q q' T T' N N' K K' C C') : 118 ≤ c.1 := h.2.2.2.2.2.2.2.2.2.2.2.2.2.2.2.2.2.2.2.2.2
/-- the tapes -/
def TP (I : Nat → Nat → Int32) (len : Nat) : Prop := (I 2 1 = ii len) ∧ (I 65 1 = ii len) ∧ (len ≤ 2000) ∧ (I 66 = I 3) ∧ (∀ i, i < len → byt (I 3 i))
theorem TP.l2 {I : Nat → Nat → Int32} {len : Nat} (h : TP I len) : I 2 1 = ii len := h.1
theorem TP.l65 {I : Nat → Nat → Int32} {len : Nat} (h : TP I len) : I 65 1 = ii len := h.2.1
theorem TP.le {I : Nat → Nat → Int32} {len : Nat} (h : TP I len) : len ≤ 2000 := h.2.2.1
theorem TP.t {I : Nat → Nat → Int32} {len : Nat} (h : TP I len) : I 66 = I 3 := h.2.2.2.1
theorem TP.by8 {I : Nat → Nat → Int32} {len : Nat} (h : TP I len) : ∀ i, i < len → byt (I 3 i) := h.2.2.2.2
/-- the circuit of both sides -/
def CM (b T N : Nat) (I : Nat → Nat → Int32) (J : Nat → Nat → Int64) (ns : List Nd) (l : List Int32) : Prop := (CW ns l) ∧ (CCi I J b ns l) ∧ (MCr N T I J ns l) ∧ ((I 65 22 = 0 ∧ ns = []) ∨ I 65 22 = 1)
theorem CM.w {b T N : Nat} {I : Nat → Nat → Int32} {J : Nat → Nat → Int64} {ns : List Nd} {l : List Int32} (h : CM b T N I J ns l) : CW ns l := h.1
theorem CM.ci {b T N : Nat} {I : Nat → Nat → Int32} {J : Nat → Nat → Int64} {ns : List Nd} {l : List Int32} (h : CM b T N I J ns l) : CCi I J b ns l := h.2.1
theorem CM.mc {b T N : Nat} {I : Nat → Nat → Int32} {J : Nat → Nat → Int64} {ns : List Nd} {l : List Int32} (h : CM b T N I J ns l) : MCr N T I J ns l := h.2.2.1
theorem CM.h22 {b T N : Nat} {I : Nat → Nat → Int32} {J : Nat → Nat → Int64} {ns : List Nd} {l : List Int32} (h : CM b T N I J ns l) : (I 65 22 = 0 ∧ ns = []) ∨ I 65 22 = 1 := h.2.2.2
/-- the assertion of both sides -/
def AS1 (q C K : Nat) (I : Nat → Nat → Int32) (J : Nat → Nat → Int64) (R : Nat → Nat → Nat) (ns : List Nd) (l : List Int32) (cs : List Cl) (gv : Nat) (kl : List Int32) (g : LeS) : Prop := (I 1 8 = 1) ∧ (¬ C = 0) ∧ (KCl I q cs gv kl g) ∧ (KI ns.length cs kl g) ∧ (R 13 1 = q) ∧ (I 13 2 = ii (2 ^ g.2.length)) ∧ (I 13 3 = ii (wdn g.2.length)) ∧ (∀ j, j < 64 → (tb (J 13 4) j = true ↔ (g.2.length < 6 → j < 2 ^ g.2.length))) ∧ (AG ns l cs gv kl g.2.length J I) ∧ (QCl C K gv I cs kl g.2.length)
theorem AS1.h18 {q C K : Nat} {I : Nat → Nat → Int32} {J : Nat → Nat → Int64} {R : Nat → Nat → Nat} {ns : List Nd} {l : List Int32} {cs : List Cl} {gv : Nat} {kl : List Int32} {g : LeS} (h : AS1 q C K I J R ns l cs gv kl g) : I 1 8 = 1 := h.1
theorem AS1.c0 {q C K : Nat} {I : Nat → Nat → Int32} {J : Nat → Nat → Int64} {R : Nat → Nat → Nat} {ns : List Nd} {l : List Int32} {cs : List Cl} {gv : Nat} {kl : List Int32} {g : LeS} (h : AS1 q C K I J R ns l cs gv kl g) : ¬ C = 0 := h.2.1
theorem AS1.kc {q C K : Nat} {I : Nat → Nat → Int32} {J : Nat → Nat → Int64} {R : Nat → Nat → Nat} {ns : List Nd} {l : List Int32} {cs : List Cl} {gv : Nat} {kl : List Int32} {g : LeS} (h : AS1 q C K I J R ns l cs gv kl g) : KCl I q cs gv kl g := h.2.2.1
theorem AS1.ki {q C K : Nat} {I : Nat → Nat → Int32} {J : Nat → Nat → Int64} {R : Nat → Nat → Nat} {ns : List Nd} {l : List Int32} {cs : List Cl} {gv : Nat} {kl : List Int32} {g : LeS} (h : AS1 q C K I J R ns l cs gv kl g) : KI ns.length cs kl g := h.2.2.2.1
theorem AS1.r13 {q C K : Nat} {I : Nat → Nat → Int32} {J : Nat → Nat → Int64} {R : Nat → Nat → Nat} {ns : List Nd} {l : List Int32} {cs : List Cl} {gv : Nat} {kl : List Int32} {g : LeS} (h : AS1 q C K I J R ns l cs gv kl g) : R 13 1 = q := h.2.2.2.2.1
theorem AS1.i2 {q C K : Nat} {I : Nat → Nat → Int32} {J : Nat → Nat → Int64} {R : Nat → Nat → Nat} {ns : List Nd} {l : List Int32} {cs : List Cl} {gv : Nat} {kl : List Int32} {g : LeS} (h : AS1 q C K I J R ns l cs gv kl g) : I 13 2 = ii (2 ^ g.2.length) := h.2.2.2.2.2.1
theorem AS1.i3 {q C K : Nat} {I : Nat → Nat → Int32} {J : Nat → Nat → Int64} {R : Nat → Nat → Nat} {ns : List Nd} {l : List Int32} {cs : List Cl} {gv : Nat} {kl : List Int32} {g : LeS} (h : AS1 q C K I J R ns l cs gv kl g) : I 13 3 = ii (wdn g.2.length) := h.2.2.2.2.2.2.1
theorem AS1.u {q C K : Nat} {I : Nat → Nat → Int32} {J : Nat → Nat → Int64} {R : Nat → Nat → Nat} {ns : List Nd} {l : List Int32} {cs : List Cl} {gv : Nat} {kl : List Int32} {g : LeS} (h : AS1 q C K I J R ns l cs gv kl g) : ∀ j, j < 64 → (tb (J 13 4) j = true ↔ (g.2.length < 6 → j < 2 ^ g.2.length)) := h.2.2.2.2.2.2.2.1
theorem AS1.ag {q C K : Nat} {I : Nat → Nat → Int32} {J : Nat → Nat → Int64} {R : Nat → Nat → Nat} {ns : List Nd} {l : List Int32} {cs : List Cl} {gv : Nat} {kl : List Int32} {g : LeS} (h : AS1 q C K I J R ns l cs gv kl g) : AG ns l cs gv kl g.2.length J I := h.2.2.2.2.2.2.2.2.1
theorem AS1.qc {q C K : Nat} {I : Nat → Nat → Int32} {J : Nat → Nat → Int64} {R : Nat → Nat → Nat} {ns : List Nd} {l : List Int32} {cs : List Cl} {gv : Nat} {kl : List Int32} {g : LeS} (h : AS1 q C K I J R ns l cs gv kl g) : QCl C K gv I cs kl g.2.length := h.2.2.2.2.2.2.2.2.2
def AS (q C K : Nat) (I : Nat → Nat → Int32) (J : Nat → Nat → Int64) (R : Nat → Nat → Nat) (ns : List Nd) (l : List Int32) : Prop := (I 1 8 = 0 ∧ C = 0) ∨ ∃ cs gv kl g, AS1 q C K I J R ns l cs gv kl g
def LI (S : Nat → Shp) (I : Nat → Nat → Int32) (J : Nat → Nat → Int64) (R : Nat → Nat → Nat) (c : Nat × Nat) (n : Nat) : Prop := ∃ b b' q q' T T' N N' K K' C C' len ns l, AD S R c b b' q q' T T' N N' K K' C C' ∧ TP I len ∧ CM b T N I J ns l ∧ AS q C K I J R ns l ∧ c.1 ≤ 118 + 7 * n ∧ c.2 ≤ 324571 + 259 * n
section AD
variable {S : Nat → Shp} {I I' : Nat → Nat → Int32} {J J' : Nat → Nat → Int64} {R R' : Nat → Nat → Nat} {c : Nat × Nat} {b b' q q' T T' N N' K K' C C' : Nat} {ns : List Nd} {l : List Int32}
theorem AD.yb (h : AD S R c b b' q q' T T' N N' K K' C C') : LyCi S R b := by
  rcases h.hb with ⟨e, -⟩ | ⟨e, -⟩
  · rw [e]; exact ly_25 h.hL
  · rw [e]; exact ly_35 h.hL
theorem AD.yb' (h : AD S R c b b' q q' T T' N N' K K' C C') : LyCi S R b' := by
  rcases h.hb with ⟨-, e⟩ | ⟨-, e⟩
  · rw [e]; exact ly_35 h.hL
  · rw [e]; exact ly_25 h.hL
theorem AD.yq (h : AD S R c b b' q q' T T' N N' K K' C C') : LyCm S R q := by
  rcases h.hq with ⟨e, -⟩ | ⟨e, -⟩
  · rw [e]; exact ly_45 h.hL
  · rw [e]; exact ly_55 h.hL
theorem AD.yq' (h : AD S R c b b' q q' T T' N N' K K' C C') : LyCm S R q' := by
  rcases h.hq with ⟨-, e⟩ | ⟨-, e⟩
  · rw [e]; exact ly_55 h.hL
  · rw [e]; exact ly_45 h.hL
theorem AD.yT (h : AD S R c b b' q q' T T' N N' K K' C C') : LyTr S R T := by
  rcases h.hT with ⟨e, -⟩ | ⟨e, -⟩
  · rw [e]; exact ly_71 h.hL
  · rw [e]; exact ly_77 h.hL
theorem AD.yT' (h : AD S R c b b' q q' T T' N N' K K' C C') : LyTr S R T' := by
  rcases h.hT with ⟨-, e⟩ | ⟨-, e⟩
  · rw [e]; exact ly_77 h.hL
  · rw [e]; exact ly_71 h.hL
theorem AD.yN (h : AD S R c b b' q q' T T' N N' K K' C C') : LyNo S R N := by
  rcases h.hN with ⟨e, -⟩ | ⟨e, -⟩
  · rw [e]; exact ly_83 h.hL
  · rw [e]; exact ly_88 h.hL
theorem AD.yN' (h : AD S R c b b' q q' T T' N N' K K' C C') : LyNo S R N' := by
  rcases h.hN with ⟨-, e⟩ | ⟨-, e⟩
  · rw [e]; exact ly_88 h.hL
  · rw [e]; exact ly_83 h.hL
theorem AD.yK' (h : AD S R c b b' q q' T T' N N' K K' C C') : LyTr S R K' := by
  rcases h.hK with ⟨-, e⟩ | ⟨-, e⟩
  · rw [e]; exact ly_106 h.hL
  · rw [e]; exact ly_100 h.hL
theorem CM_of (h : CM b T N I J ns l) (hI : ∀ x k, ((b ≤ x ∧ x ≤ b + 9) ∨ (T ≤ x ∧ x ≤ T + 5) ∨ (N ≤ x ∧ x ≤ N + 4) ∨ (x = 65 ∧ k = 22)) → I' x k = I x k) (hJ : ∀ x k, ((b ≤ x ∧ x ≤ b + 9) ∨ (N ≤ x ∧ x ≤ N + 4)) → J' x k = J x k) : CM b T N I' J' ns l :=
  ⟨h.w, CCi_of h.ci (fun x k h1 h2 => hI x k (Or.inl ⟨h1, h2⟩)) (fun x k h1 h2 => hJ x k (Or.inl ⟨h1, h2⟩)), MCr_of h.mc (hI _ _ (by omega)) (funext fun k => hJ _ _ (by omega)) (funext fun k => hI _ _ (by omega)) (funext fun k => hI _ _ (by omega)) (funext fun k => hI _ _ (by omega)) (funext fun k => hI _ _ (by omega)) (funext fun k => hI _ _ (by omega)), by rw [hI 65 22 (by omega)]; exact h.h22⟩
theorem KCl_cs {cs : List Cl} {gv : Nat} {kl : List Int32} {g : LeS} (h : KCl I q cs gv kl g) {x : Cl} (hx : x ∈ cs) : x.2.2.2.2.1 ≤ x.2.2.2.2.2 ∧ x.2.2.2.2.2 < 12 := by
  obtain ⟨i, hi⟩ := List.getElem?_of_mem hx
  exact (h.1.2 i x hi).2.2.2.2.2.2
theorem AS1_of {cs : List Cl} {gv : Nat} {kl : List Int32} {g : LeS} (h : AS1 q C K I J R ns l cs gv kl g) (hI : ∀ x k, ((q ≤ x ∧ x ≤ q + 9) ∨ (¬ C = 0 ∧ C ≤ x ∧ x ≤ C + 6) ∨ (K ≤ x ∧ x ≤ K + 5) ∨ (x = 13 ∧ (k = 2 ∨ k = 3)) ∨ (112 ≤ x ∧ x ≤ 116) ∨ (x = 1 ∧ k = 8)) → I' x k = I x k) (hJ : ∀ x k, ((x = 13 ∧ k = 4) ∨ (19 ≤ x ∧ x ≤ 24)) → J' x k = J x k) (hR : R' 13 1 = R 13 1) : AS1 q C K I' J' R' ns l cs gv kl g := by
  have hag : AG ns l cs gv kl g.2.length J' I' := by
    obtain ⟨a1, a2, a3, a4, a5, a6⟩ := h.ag
    obtain ⟨k1, k2, k3, k4, k5, k6, k7, k8, k9, k10, k11, k12⟩ := h.kc
    have h40 := a1.1
    refine ⟨a1, a2, a3, a4, fun w hw => CkW_congr a1 k4 (by omega) (fun x hx => ⟨by have := a4 x hx; omega, (KCl_cs h.kc hx).2⟩) (fun i _ => ⟨hJ _ _ (by omega), hJ _ _ (by omega)⟩) (fun i _ => ⟨hJ _ _ (by omega), hJ _ _ (by omega)⟩) (hJ _ _ (by omega)) (hJ _ _ (by omega)) (a5 w hw), fun a ha => MJg_congr a1 k4 (fun x hx => ⟨a4 x hx, KCl_cs h.kc hx⟩) (fun i _ => hI _ _ (by omega)) ⟨hI _ _ (by omega), hI _ _ (by omega), hI _ _ (by omega), hI _ _ (by omega)⟩ (a6 a ha)⟩
  exact ⟨by rw [hI 1 8 (by omega)]; exact h.h18, h.c0, KCl_of h.kc (fun x k h1 h2 => hI x k (Or.inl ⟨h1, h2⟩)), h.ki, by rw [hR]; exact h.r13, by rw [hI 13 2 (by omega)]; exact h.i2, by rw [hI 13 3 (by omega)]; exact h.i3, by rw [hJ 13 4 (by omega)]; exact h.u, hag, QCl_of h.qc (fun x h1 h2 => funext fun k => hI x k (Or.inr (Or.inl ⟨h.c0, h1, h2⟩))) (fun x h1 h2 => funext fun k => hI x k (Or.inr (Or.inr (Or.inl ⟨h1, h2⟩))))⟩
theorem AS_of (h : AS q C K I J R ns l) (hI : ∀ x k, ((q ≤ x ∧ x ≤ q + 9) ∨ (¬ C = 0 ∧ C ≤ x ∧ x ≤ C + 6) ∨ (K ≤ x ∧ x ≤ K + 5) ∨ (x = 13 ∧ (k = 2 ∨ k = 3)) ∨ (112 ≤ x ∧ x ≤ 116) ∨ (x = 1 ∧ k = 8)) → I' x k = I x k) (hJ : ∀ x k, ((x = 13 ∧ k = 4) ∨ (19 ≤ x ∧ x ≤ 24)) → J' x k = J x k) (hR : R' 13 1 = R 13 1) : AS q C K I' J' R' ns l := by
  rcases h with ⟨h1, h2⟩ | ⟨cs, gv, kl, g, h⟩
  · exact Or.inl ⟨by rw [hI 1 8 (by omega)]; exact h1, h2⟩
  · exact Or.inr ⟨cs, gv, kl, g, AS1_of h hI hJ hR⟩
theorem cOk_CW {kd : Nat → Int32} {key : Nat → Int64} {m : Nat} (h0 : kd m = 0) (hm : m ≤ 2000) (h : cOk kd key m ns l) (h40 : ns.length ≤ 40) (hl : l.length ≤ 2000) (hlv : ∀ y ∈ l, lvP ns.length y) : CW ns l := by
  obtain ⟨e1, e2, e3, e4, e5⟩ := h
  have hP := its_P (kd := kd) (key := key) (m := m) h0 (m + 1) 0 [] [] (0, []) (by omega) (fun x hx => by cases hx) e1
  have hO := its_OK (kd := kd) (key := key) (m := m) h0 hm (m + 1) 0 [] [] (0, []) (by omega) (fun x hx => by cases hx) (fun x hx => by cases hx) e1
  have hg := its_rg (kd := kd) (key := key) (m := m) (m + 1) 0 [] [] (0, []) (fun x hx => by cases hx)
  have hlen := rsl_len _ e3
  refine ⟨h40, hl, hlv, ?_, ?_, e5⟩
  · rw [e4, e2]
    unfold rsl0
    rw [hlen]
    exact hg
  · rw [e4, e2]
    exact OKn_rsl hm (by rw [List.length_map, ← e2]; exact h40) hP hO e3
theorem cFlt_one {kd : Nat → Int32} {key : Nat → Int64} {m p p' : Nat} (h : cFlt kd key m p) (h' : cFlt kd key m p') : p = p' := by
  rcases h with ⟨a1, a2⟩ | ⟨a1, a2⟩ | ⟨a1, a2, n, x, a3, a4, a5, a6⟩ <;> rcases h' with ⟨b1, b2⟩ | ⟨b1, b2⟩ | ⟨b1, b2, n', x', b3, b4, b5, b6⟩
  · rw [a2, b2]
  · rw [a1] at b1; cases b1
  · rw [a1] at b1; cases b1
  · rw [a1] at b1; cases b1
  · rw [a2] at b2; exact Option.some.inj b2
  · rw [a2] at b2; cases b2
  · rw [a1] at b1; cases b1
  · rw [a2] at b2; cases b2
  · have en : n = n' := by
      apply Classical.byContradiction
      intro hne
      rcases Nat.lt_or_gt_of_ne hne with z | z
      · rw [b6 n z] at a5; cases a5
      · rw [a6 n' z] at b5; cases b5
    subst en
    rw [a3] at b3
    rw [a4, b4, Option.some.inj b3]
theorem cFlt_Ok {kd : Nat → Int32} {key : Nat → Int64} {m p : Nat} (h : cFlt kd key m p) (h' : cOk kd key m ns l) : False := by
  obtain ⟨e1, e2, e3, e4, e5⟩ := h'
  rcases h with ⟨a1, a2⟩ | ⟨a1, a2⟩ | ⟨a1, a2, n, x, a3, a4, a5, a6⟩
  · rw [a1] at e1; cases e1
  · rw [a2] at e3; cases e3
  · rw [← e4, ← e2] at a5
    rw [← e2] at a3
    rw [e5 n (List.getElem?_eq_some_iff.1 a3).1] at a5; cases a5
end AD
