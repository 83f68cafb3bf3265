abbrev rm_X4_init : Room := { frames := 6, cells := 26, slots := 1664, locals := 100 }
def wp_X4_init (a0 : Nat) (w : Wd) (Q : Wd → Prop) : Prop :=
  ∀ q1 : Nat, w.K q1 = 0 → ∀ w2 : Wd, w2 = w.newA 11 q1 16 →
  w2.K a0 = 5 ∧
  ∀ w3 : Wd, w3 = w2.setR 502 a0 (some q1) →
  ∀ q4 : Nat, w3.K q4 = 0 → ∀ w5 : Wd, w5 = w3.newA 11 q4 16 →
  w5.K a0 = 5 ∧
  ∀ w6 : Wd, w6 = w5.setR 503 a0 (some q4) →
  ∀ q7 : Nat, w6.K q7 = 0 → ∀ w8 : Wd, w8 = w6.newA 11 q7 16 →
  w8.K a0 = 5 ∧
  ∀ w9 : Wd, w9 = w8.setR 504 a0 (some q7) →
  ∀ q10 : Nat, w9.K q10 = 0 → ∀ w11 : Wd, w11 = w9.newA 11 q10 16 →
  w11.K a0 = 5 ∧
  ∀ w12 : Wd, w12 = w11.setR 505 a0 (some q10) →
  ∀ q13 : Nat, w12.K q13 = 0 → ∀ w14 : Wd, w14 = w12.newA 11 q13 16 →
  w14.K a0 = 5 ∧
  ∀ w15 : Wd, w15 = w14.setR 506 a0 (some q13) →
  ∀ q16 : Nat, w15.K q16 = 0 → ∀ w17 : Wd, w17 = w15.newA 11 q16 16 →
  w17.K a0 = 5 ∧
  ∀ w18 : Wd, w18 = w17.setR 507 a0 (some q16) →
  ∀ q19 : Nat, w18.K q19 = 0 → ∀ w20 : Wd, w20 = w18.newA 11 q19 16 →
  w20.K a0 = 5 ∧
  ∀ w21 : Wd, w21 = w20.setR 508 a0 (some q19) →
  ∀ q22 : Nat, w21.K q22 = 0 → ∀ w23 : Wd, w23 = w21.newA 11 q22 16 →
  w23.K a0 = 5 ∧
  ∀ w24 : Wd, w24 = w23.setR 509 a0 (some q22) →
  ∀ q25 : Nat, w24.K q25 = 0 → ∀ w26 : Wd, w26 = w24.newA 11 q25 16 →
  w26.K a0 = 5 ∧
  ∀ w27 : Wd, w27 = w26.setR 510 a0 (some q25) →
  ∀ q28 : Nat, w27.K q28 = 0 → ∀ w29 : Wd, w29 = w27.newA 11 q28 16 →
  w29.K a0 = 5 ∧
  ∀ w30 : Wd, w30 = w29.setR 511 a0 (some q28) →
  ∀ q31 : Nat, w30.K q31 = 0 → ∀ w32 : Wd, w32 = w30.newA 12 q31 16 →
  w32.K a0 = 5 ∧
  ∀ w33 : Wd, w33 = w32.setR 512 a0 (some q31) →
  ∀ q34 : Nat, w33.K q34 = 0 → ∀ w35 : Wd, w35 = w33.newA 11 q34 4 →
  w35.K a0 = 5 ∧
  ∀ w36 : Wd, w36 = w35.setR 514 a0 (some q34) →
  ∀ q37 : Nat, w36.K q37 = 0 → ∀ w38 : Wd, w38 = w36.newA 11 q37 4 →
  w38.K a0 = 5 ∧
  ∀ w39 : Wd, w39 = w38.setR 515 a0 (some q37) →
  ∀ q40 : Nat, w39.K q40 = 0 → ∀ w41 : Wd, w41 = w39.newA 11 q40 4 →
  w41.K a0 = 5 ∧
  ∀ w42 : Wd, w42 = w41.setR 516 a0 (some q40) →
  ∀ q43 : Nat, w42.K q43 = 0 → ∀ w44 : Wd, w44 = w42.newA 11 q43 4 →
  w44.K a0 = 5 ∧
  ∀ w45 : Wd, w45 = w44.setR 517 a0 (some q43) →
  ∀ q46 : Nat, w45.K q46 = 0 → ∀ w47 : Wd, w47 = w45.newA 11 q46 4 →
  w47.K a0 = 5 ∧
  ∀ w48 : Wd, w48 = w47.setR 518 a0 (some q46) →
  ∀ q49 : Nat, w48.K q49 = 0 → ∀ w50 : Wd, w50 = w48.newA 11 q49 4 →
  w50.K a0 = 5 ∧
  ∀ w51 : Wd, w51 = w50.setR 519 a0 (some q49) →
  ∀ q52 : Nat, w51.K q52 = 0 → ∀ w53 : Wd, w53 = w51.newA 12 q52 4 →
  w53.K a0 = 5 ∧
  ∀ w54 : Wd, w54 = w53.setR 520 a0 (some q52) →
  ∀ q55 : Nat, w54.K q55 = 0 → ∀ w56 : Wd, w56 = w54.newA 11 q55 40 →
  w56.K a0 = 5 ∧
  ∀ w57 : Wd, w57 = w56.setR 521 a0 (some q55) →
  ∀ q58 : Nat, w57.K q58 = 0 → ∀ w59 : Wd, w59 = w57.newA 11 q58 40 →
  w59.K a0 = 5 ∧
  ∀ w60 : Wd, w60 = w59.setR 522 a0 (some q58) →
  ∀ q61 : Nat, w60.K q61 = 0 → ∀ w62 : Wd, w62 = w60.newA 11 q61 40 →
  w62.K a0 = 5 ∧
  ∀ w63 : Wd, w63 = w62.setR 523 a0 (some q61) →
  ∀ q64 : Nat, w63.K q64 = 0 → ∀ w65 : Wd, w65 = w63.newA 11 q64 40 →
  w65.K a0 = 5 ∧
  ∀ w66 : Wd, w66 = w65.setR 524 a0 (some q64) →
  ∀ q67 : Nat, w66.K q67 = 0 → ∀ w68 : Wd, w68 = w66.newA 11 q67 40 →
  w68.K a0 = 5 ∧
  ∀ w69 : Wd, w69 = w68.setR 525 a0 (some q67) →
  ∀ q70 : Nat, w69.K q70 = 0 → ∀ w71 : Wd, w71 = w69.newA 11 q70 40 →
  w71.K a0 = 5 ∧
  ∀ w72 : Wd, w72 = w71.setR 526 a0 (some q70) →
  ∀ q73 : Nat, w72.K q73 = 0 → ∀ w74 : Wd, w74 = w72.newA 12 q73 40 →
  w74.K a0 = 5 ∧
  ∀ w75 : Wd, w75 = w74.setR 527 a0 (some q73) →
  ∀ q76 : Nat, w75.K q76 = 0 → ∀ w77 : Wd, w77 = w75.newA 11 q76 48 →
  w77.K a0 = 5 ∧
  ∀ w78 : Wd, w78 = w77.setR 530 a0 (some q76) →
  Q w78
set_option maxHeartbeats 4000000 in
set_option maxRecDepth 100000 in
theorem c_X4_init {l : Launch} {G : GT} {L0 : Nat} (hst : l.stackTraces = false) {a0 : Nat} {w : Wd} {Q : Wd → Prop} (h : wp_X4_init a0 w Q) : GMv l G L0 yX4_init cX4_init 1 none rm_X4_init [.ref a0] w Q := by
  refine g_enter hst (by decide +kernel) [.inr (some a0)] rfl (show 1 ≤ 1 by decide) ?_
  intro p e s m args below meth c X hr hnm
  replace X : GC l G L0 p s m args meth c cX4_init 1 "SusuRingModel" := X
  refine g_aload_n X dX4_init_0 rfl 0 rfl ?_
  refine g_objInit X m_995 m_63 m_64 (by decide) (by decide +kernel) dX4_init_1 ?_
  refine g_aload_n X dX4_init_4 rfl 0 rfl ?_
  refine g_bipush X (v := (16 : Int32)) dX4_init_5 (by decide) ?_
  have hi : (16 : Int32) = nI 16 := by decide
  have hn : 16 ≤ 64 := by decide
  refine gnewA_11 X m_317 hi (by omega) (by have e1 : rm_X4_init.cells = 26 := rfl; omega) (by have e2 : rm_X4_init.slots = 1664 := rfl; omega) dX4_init_7 (fun q1 h1 w2 hv => ?_)
  replace h := h q1 h1 w2 hv; clear hv h1 hi
  refine g_widen (c2 := (1)) (s2 := (64)) (by omega) (by omega) ?_
  clear hn
  have hk := h.1
  replace h := h.2
  refine gp_502 X hk hnm rfl m_998 dX4_init_9 (fun w3 hv => ?_)
  replace h := h w3 hv; clear hv hk
  refine g_aload_n X dX4_init_12 rfl 0 rfl ?_
  refine g_bipush X (v := (16 : Int32)) dX4_init_13 (by decide) ?_
  have hi : (16 : Int32) = nI 16 := by decide
  have hn : 16 ≤ 64 := by decide
  refine gnewA_11 X m_317 hi (by omega) (by have e1 : rm_X4_init.cells = 26 := rfl; omega) (by have e2 : rm_X4_init.slots = 1664 := rfl; omega) dX4_init_15 (fun q4 h1 w5 hv => ?_)
  replace h := h q4 h1 w5 hv; clear hv h1 hi
  refine g_widen (c2 := (2)) (s2 := (128)) (by omega) (by omega) ?_
  clear hn
  have hk := h.1
  replace h := h.2
  refine gp_503 X hk hnm rfl m_999 dX4_init_17 (fun w6 hv => ?_)
  replace h := h w6 hv; clear hv hk
  refine g_aload_n X dX4_init_20 rfl 0 rfl ?_
  refine g_bipush X (v := (16 : Int32)) dX4_init_21 (by decide) ?_
  have hi : (16 : Int32) = nI 16 := by decide
  have hn : 16 ≤ 64 := by decide
  refine gnewA_11 X m_317 hi (by omega) (by have e1 : rm_X4_init.cells = 26 := rfl; omega) (by have e2 : rm_X4_init.slots = 1664 := rfl; omega) dX4_init_23 (fun q7 h1 w8 hv => ?_)
  replace h := h q7 h1 w8 hv; clear hv h1 hi
  refine g_widen (c2 := (3)) (s2 := (192)) (by omega) (by omega) ?_
  clear hn
  have hk := h.1
  replace h := h.2
  refine gp_504 X hk hnm rfl m_1000 dX4_init_25 (fun w9 hv => ?_)
  replace h := h w9 hv; clear hv hk
  refine g_aload_n X dX4_init_28 rfl 0 rfl ?_
  refine g_bipush X (v := (16 : Int32)) dX4_init_29 (by decide) ?_
  have hi : (16 : Int32) = nI 16 := by decide
  have hn : 16 ≤ 64 := by decide
  refine gnewA_11 X m_317 hi (by omega) (by have e1 : rm_X4_init.cells = 26 := rfl; omega) (by have e2 : rm_X4_init.slots = 1664 := rfl; omega) dX4_init_31 (fun q10 h1 w11 hv => ?_)
  replace h := h q10 h1 w11 hv; clear hv h1 hi
  refine g_widen (c2 := (4)) (s2 := (256)) (by omega) (by omega) ?_
  clear hn
  have hk := h.1
  replace h := h.2
  refine gp_505 X hk hnm rfl m_1001 dX4_init_33 (fun w12 hv => ?_)
  replace h := h w12 hv; clear hv hk
  refine g_aload_n X dX4_init_36 rfl 0 rfl ?_
  refine g_bipush X (v := (16 : Int32)) dX4_init_37 (by decide) ?_
  have hi : (16 : Int32) = nI 16 := by decide
  have hn : 16 ≤ 64 := by decide
  refine gnewA_11 X m_317 hi (by omega) (by have e1 : rm_X4_init.cells = 26 := rfl; omega) (by have e2 : rm_X4_init.slots = 1664 := rfl; omega) dX4_init_39 (fun q13 h1 w14 hv => ?_)
  replace h := h q13 h1 w14 hv; clear hv h1 hi
  refine g_widen (c2 := (5)) (s2 := (320)) (by omega) (by omega) ?_
  clear hn
  have hk := h.1
  replace h := h.2
  refine gp_506 X hk hnm rfl m_1002 dX4_init_41 (fun w15 hv => ?_)
  replace h := h w15 hv; clear hv hk
  refine g_aload_n X dX4_init_44 rfl 0 rfl ?_
  refine g_bipush X (v := (16 : Int32)) dX4_init_45 (by decide) ?_
  have hi : (16 : Int32) = nI 16 := by decide
  have hn : 16 ≤ 64 := by decide
  refine gnewA_11 X m_317 hi (by omega) (by have e1 : rm_X4_init.cells = 26 := rfl; omega) (by have e2 : rm_X4_init.slots = 1664 := rfl; omega) dX4_init_47 (fun q16 h1 w17 hv => ?_)
  replace h := h q16 h1 w17 hv; clear hv h1 hi
  refine g_widen (c2 := (6)) (s2 := (384)) (by omega) (by omega) ?_
  clear hn
  have hk := h.1
  replace h := h.2
  refine gp_507 X hk hnm rfl m_1003 dX4_init_49 (fun w18 hv => ?_)
  replace h := h w18 hv; clear hv hk
  refine g_aload_n X dX4_init_52 rfl 0 rfl ?_
  refine g_bipush X (v := (16 : Int32)) dX4_init_53 (by decide) ?_
  have hi : (16 : Int32) = nI 16 := by decide
  have hn : 16 ≤ 64 := by decide
  refine gnewA_11 X m_317 hi (by omega) (by have e1 : rm_X4_init.cells = 26 := rfl; omega) (by have e2 : rm_X4_init.slots = 1664 := rfl; omega) dX4_init_55 (fun q19 h1 w20 hv => ?_)
  replace h := h q19 h1 w20 hv; clear hv h1 hi
  refine g_widen (c2 := (7)) (s2 := (448)) (by omega) (by omega) ?_
  clear hn
  have hk := h.1
  replace h := h.2
  refine gp_508 X hk hnm rfl m_1004 dX4_init_57 (fun w21 hv => ?_)
  replace h := h w21 hv; clear hv hk
  refine g_aload_n X dX4_init_60 rfl 0 rfl ?_
  refine g_bipush X (v := (16 : Int32)) dX4_init_61 (by decide) ?_
  have hi : (16 : Int32) = nI 16 := by decide
  have hn : 16 ≤ 64 := by decide
  refine gnewA_11 X m_317 hi (by omega) (by have e1 : rm_X4_init.cells = 26 := rfl; omega) (by have e2 : rm_X4_init.slots = 1664 := rfl; omega) dX4_init_63 (fun q22 h1 w23 hv => ?_)
  replace h := h q22 h1 w23 hv; clear hv h1 hi
  refine g_widen (c2 := (8)) (s2 := (512)) (by omega) (by omega) ?_
  clear hn
  have hk := h.1
  replace h := h.2
  refine gp_509 X hk hnm rfl m_1005 dX4_init_65 (fun w24 hv => ?_)
  replace h := h w24 hv; clear hv hk
  refine g_aload_n X dX4_init_68 rfl 0 rfl ?_
  refine g_bipush X (v := (16 : Int32)) dX4_init_69 (by decide) ?_
  have hi : (16 : Int32) = nI 16 := by decide
  have hn : 16 ≤ 64 := by decide
  refine gnewA_11 X m_317 hi (by omega) (by have e1 : rm_X4_init.cells = 26 := rfl; omega) (by have e2 : rm_X4_init.slots = 1664 := rfl; omega) dX4_init_71 (fun q25 h1 w26 hv => ?_)
  replace h := h q25 h1 w26 hv; clear hv h1 hi
  refine g_widen (c2 := (9)) (s2 := (576)) (by omega) (by omega) ?_
  clear hn
  have hk := h.1
  replace h := h.2
  refine gp_510 X hk hnm rfl m_1006 dX4_init_73 (fun w27 hv => ?_)
  replace h := h w27 hv; clear hv hk
  refine g_aload_n X dX4_init_76 rfl 0 rfl ?_
  refine g_bipush X (v := (16 : Int32)) dX4_init_77 (by decide) ?_
  have hi : (16 : Int32) = nI 16 := by decide
  have hn : 16 ≤ 64 := by decide
  refine gnewA_11 X m_317 hi (by omega) (by have e1 : rm_X4_init.cells = 26 := rfl; omega) (by have e2 : rm_X4_init.slots = 1664 := rfl; omega) dX4_init_79 (fun q28 h1 w29 hv => ?_)
  replace h := h q28 h1 w29 hv; clear hv h1 hi
  refine g_widen (c2 := (10)) (s2 := (640)) (by omega) (by omega) ?_
  clear hn
  have hk := h.1
  replace h := h.2
  refine gp_511 X hk hnm rfl m_1007 dX4_init_81 (fun w30 hv => ?_)
  replace h := h w30 hv; clear hv hk
  refine g_aload_n X dX4_init_84 rfl 0 rfl ?_
  refine g_bipush X (v := (16 : Int32)) dX4_init_85 (by decide) ?_
  have hi : (16 : Int32) = nI 16 := by decide
  have hn : 16 ≤ 64 := by decide
  refine gnewA_12 X m_1090 hi (by omega) (by have e1 : rm_X4_init.cells = 26 := rfl; omega) (by have e2 : rm_X4_init.slots = 1664 := rfl; omega) dX4_init_87 (fun q31 h1 w32 hv => ?_)
  replace h := h q31 h1 w32 hv; clear hv h1 hi
  refine g_widen (c2 := (11)) (s2 := (704)) (by omega) (by omega) ?_
  clear hn
  have hk := h.1
  replace h := h.2
  refine gp_512 X hk hnm rfl m_1008 dX4_init_89 (fun w33 hv => ?_)
  replace h := h w33 hv; clear hv hk
  refine g_aload_n X dX4_init_92 rfl 0 rfl ?_
  refine g_iconst X (v := (4 : Int32)) dX4_init_93 (by decide) ?_
  have hi : (4 : Int32) = nI 4 := by decide
  have hn : 4 ≤ 64 := by decide
  refine gnewA_11 X m_317 hi (by omega) (by have e1 : rm_X4_init.cells = 26 := rfl; omega) (by have e2 : rm_X4_init.slots = 1664 := rfl; omega) dX4_init_94 (fun q34 h1 w35 hv => ?_)
  replace h := h q34 h1 w35 hv; clear hv h1 hi
  refine g_widen (c2 := (12)) (s2 := (768)) (by omega) (by omega) ?_
  clear hn
  have hk := h.1
  replace h := h.2
  refine gp_514 X hk hnm rfl m_1010 dX4_init_96 (fun w36 hv => ?_)
  replace h := h w36 hv; clear hv hk
  refine g_aload_n X dX4_init_99 rfl 0 rfl ?_
  refine g_iconst X (v := (4 : Int32)) dX4_init_100 (by decide) ?_
  have hi : (4 : Int32) = nI 4 := by decide
  have hn : 4 ≤ 64 := by decide
  refine gnewA_11 X m_317 hi (by omega) (by have e1 : rm_X4_init.cells = 26 := rfl; omega) (by have e2 : rm_X4_init.slots = 1664 := rfl; omega) dX4_init_101 (fun q37 h1 w38 hv => ?_)
  replace h := h q37 h1 w38 hv; clear hv h1 hi
  refine g_widen (c2 := (13)) (s2 := (832)) (by omega) (by omega) ?_
  clear hn
  have hk := h.1
  replace h := h.2
  refine gp_515 X hk hnm rfl m_1011 dX4_init_103 (fun w39 hv => ?_)
  replace h := h w39 hv; clear hv hk
  refine g_aload_n X dX4_init_106 rfl 0 rfl ?_
  refine g_iconst X (v := (4 : Int32)) dX4_init_107 (by decide) ?_
  have hi : (4 : Int32) = nI 4 := by decide
  have hn : 4 ≤ 64 := by decide
  refine gnewA_11 X m_317 hi (by omega) (by have e1 : rm_X4_init.cells = 26 := rfl; omega) (by have e2 : rm_X4_init.slots = 1664 := rfl; omega) dX4_init_108 (fun q40 h1 w41 hv => ?_)
  replace h := h q40 h1 w41 hv; clear hv h1 hi
  refine g_widen (c2 := (14)) (s2 := (896)) (by omega) (by omega) ?_
  clear hn
  have hk := h.1
  replace h := h.2
  refine gp_516 X hk hnm rfl m_1012 dX4_init_110 (fun w42 hv => ?_)
  replace h := h w42 hv; clear hv hk
  refine g_aload_n X dX4_init_113 rfl 0 rfl ?_
  refine g_iconst X (v := (4 : Int32)) dX4_init_114 (by decide) ?_
  have hi : (4 : Int32) = nI 4 := by decide
  have hn : 4 ≤ 64 := by decide
  refine gnewA_11 X m_317 hi (by omega) (by have e1 : rm_X4_init.cells = 26 := rfl; omega) (by have e2 : rm_X4_init.slots = 1664 := rfl; omega) dX4_init_115 (fun q43 h1 w44 hv => ?_)
  replace h := h q43 h1 w44 hv; clear hv h1 hi
  refine g_widen (c2 := (15)) (s2 := (960)) (by omega) (by omega) ?_
  clear hn
  have hk := h.1
  replace h := h.2
  refine gp_517 X hk hnm rfl m_1013 dX4_init_117 (fun w45 hv => ?_)
  replace h := h w45 hv; clear hv hk
  refine g_aload_n X dX4_init_120 rfl 0 rfl ?_
  refine g_iconst X (v := (4 : Int32)) dX4_init_121 (by decide) ?_
  have hi : (4 : Int32) = nI 4 := by decide
  have hn : 4 ≤ 64 := by decide
  refine gnewA_11 X m_317 hi (by omega) (by have e1 : rm_X4_init.cells = 26 := rfl; omega) (by have e2 : rm_X4_init.slots = 1664 := rfl; omega) dX4_init_122 (fun q46 h1 w47 hv => ?_)
  replace h := h q46 h1 w47 hv; clear hv h1 hi
  refine g_widen (c2 := (16)) (s2 := (1024)) (by omega) (by omega) ?_
  clear hn
  have hk := h.1
  replace h := h.2
  refine gp_518 X hk hnm rfl m_1014 dX4_init_124 (fun w48 hv => ?_)
  replace h := h w48 hv; clear hv hk
  refine g_aload_n X dX4_init_127 rfl 0 rfl ?_
  refine g_iconst X (v := (4 : Int32)) dX4_init_128 (by decide) ?_
  have hi : (4 : Int32) = nI 4 := by decide
  have hn : 4 ≤ 64 := by decide
  refine gnewA_11 X m_317 hi (by omega) (by have e1 : rm_X4_init.cells = 26 := rfl; omega) (by have e2 : rm_X4_init.slots = 1664 := rfl; omega) dX4_init_129 (fun q49 h1 w50 hv => ?_)
  replace h := h q49 h1 w50 hv; clear hv h1 hi
  refine g_widen (c2 := (17)) (s2 := (1088)) (by omega) (by omega) ?_
  clear hn
  have hk := h.1
  replace h := h.2
  refine gp_519 X hk hnm rfl m_1015 dX4_init_131 (fun w51 hv => ?_)
  replace h := h w51 hv; clear hv hk
  refine g_aload_n X dX4_init_134 rfl 0 rfl ?_
  refine g_iconst X (v := (4 : Int32)) dX4_init_135 (by decide) ?_
  have hi : (4 : Int32) = nI 4 := by decide
  have hn : 4 ≤ 64 := by decide
  refine gnewA_12 X m_1090 hi (by omega) (by have e1 : rm_X4_init.cells = 26 := rfl; omega) (by have e2 : rm_X4_init.slots = 1664 := rfl; omega) dX4_init_136 (fun q52 h1 w53 hv => ?_)
  replace h := h q52 h1 w53 hv; clear hv h1 hi
  refine g_widen (c2 := (18)) (s2 := (1152)) (by omega) (by omega) ?_
  clear hn
  have hk := h.1
  replace h := h.2
  refine gp_520 X hk hnm rfl m_1016 dX4_init_138 (fun w54 hv => ?_)
  replace h := h w54 hv; clear hv hk
  refine g_aload_n X dX4_init_141 rfl 0 rfl ?_
  refine g_bipush X (v := (40 : Int32)) dX4_init_142 (by decide) ?_
  have hi : (40 : Int32) = nI 40 := by decide
  have hn : 40 ≤ 64 := by decide
  refine gnewA_11 X m_317 hi (by omega) (by have e1 : rm_X4_init.cells = 26 := rfl; omega) (by have e2 : rm_X4_init.slots = 1664 := rfl; omega) dX4_init_144 (fun q55 h1 w56 hv => ?_)
  replace h := h q55 h1 w56 hv; clear hv h1 hi
  refine g_widen (c2 := (19)) (s2 := (1216)) (by omega) (by omega) ?_
  clear hn
  have hk := h.1
  replace h := h.2
  refine gp_521 X hk hnm rfl m_1017 dX4_init_146 (fun w57 hv => ?_)
  replace h := h w57 hv; clear hv hk
  refine g_aload_n X dX4_init_149 rfl 0 rfl ?_
  refine g_bipush X (v := (40 : Int32)) dX4_init_150 (by decide) ?_
  have hi : (40 : Int32) = nI 40 := by decide
  have hn : 40 ≤ 64 := by decide
  refine gnewA_11 X m_317 hi (by omega) (by have e1 : rm_X4_init.cells = 26 := rfl; omega) (by have e2 : rm_X4_init.slots = 1664 := rfl; omega) dX4_init_152 (fun q58 h1 w59 hv => ?_)
  replace h := h q58 h1 w59 hv; clear hv h1 hi
  refine g_widen (c2 := (20)) (s2 := (1280)) (by omega) (by omega) ?_
  clear hn
  have hk := h.1
  replace h := h.2
  refine gp_522 X hk hnm rfl m_1018 dX4_init_154 (fun w60 hv => ?_)
  replace h := h w60 hv; clear hv hk
  refine g_aload_n X dX4_init_157 rfl 0 rfl ?_
  refine g_bipush X (v := (40 : Int32)) dX4_init_158 (by decide) ?_
  have hi : (40 : Int32) = nI 40 := by decide
  have hn : 40 ≤ 64 := by decide
  refine gnewA_11 X m_317 hi (by omega) (by have e1 : rm_X4_init.cells = 26 := rfl; omega) (by have e2 : rm_X4_init.slots = 1664 := rfl; omega) dX4_init_160 (fun q61 h1 w62 hv => ?_)
  replace h := h q61 h1 w62 hv; clear hv h1 hi
  refine g_widen (c2 := (21)) (s2 := (1344)) (by omega) (by omega) ?_
  clear hn
  have hk := h.1
  replace h := h.2
  refine gp_523 X hk hnm rfl m_1019 dX4_init_162 (fun w63 hv => ?_)
  replace h := h w63 hv; clear hv hk
  refine g_aload_n X dX4_init_165 rfl 0 rfl ?_
  refine g_bipush X (v := (40 : Int32)) dX4_init_166 (by decide) ?_
  have hi : (40 : Int32) = nI 40 := by decide
  have hn : 40 ≤ 64 := by decide
  refine gnewA_11 X m_317 hi (by omega) (by have e1 : rm_X4_init.cells = 26 := rfl; omega) (by have e2 : rm_X4_init.slots = 1664 := rfl; omega) dX4_init_168 (fun q64 h1 w65 hv => ?_)
  replace h := h q64 h1 w65 hv; clear hv h1 hi
  refine g_widen (c2 := (22)) (s2 := (1408)) (by omega) (by omega) ?_
  clear hn
  have hk := h.1
  replace h := h.2
  refine gp_524 X hk hnm rfl m_1020 dX4_init_170 (fun w66 hv => ?_)
  replace h := h w66 hv; clear hv hk
  refine g_aload_n X dX4_init_173 rfl 0 rfl ?_
  refine g_bipush X (v := (40 : Int32)) dX4_init_174 (by decide) ?_
  have hi : (40 : Int32) = nI 40 := by decide
  have hn : 40 ≤ 64 := by decide
  refine gnewA_11 X m_317 hi (by omega) (by have e1 : rm_X4_init.cells = 26 := rfl; omega) (by have e2 : rm_X4_init.slots = 1664 := rfl; omega) dX4_init_176 (fun q67 h1 w68 hv => ?_)
  replace h := h q67 h1 w68 hv; clear hv h1 hi
  refine g_widen (c2 := (23)) (s2 := (1472)) (by omega) (by omega) ?_
  clear hn
  have hk := h.1
  replace h := h.2
  refine gp_525 X hk hnm rfl m_1021 dX4_init_178 (fun w69 hv => ?_)
  replace h := h w69 hv; clear hv hk
  refine g_aload_n X dX4_init_181 rfl 0 rfl ?_
  refine g_bipush X (v := (40 : Int32)) dX4_init_182 (by decide) ?_
  have hi : (40 : Int32) = nI 40 := by decide
  have hn : 40 ≤ 64 := by decide
  refine gnewA_11 X m_317 hi (by omega) (by have e1 : rm_X4_init.cells = 26 := rfl; omega) (by have e2 : rm_X4_init.slots = 1664 := rfl; omega) dX4_init_184 (fun q70 h1 w71 hv => ?_)
  replace h := h q70 h1 w71 hv; clear hv h1 hi
  refine g_widen (c2 := (24)) (s2 := (1536)) (by omega) (by omega) ?_
  clear hn
  have hk := h.1
  replace h := h.2
  refine gp_526 X hk hnm rfl m_1022 dX4_init_186 (fun w72 hv => ?_)
  replace h := h w72 hv; clear hv hk
  refine g_aload_n X dX4_init_189 rfl 0 rfl ?_
  refine g_bipush X (v := (40 : Int32)) dX4_init_190 (by decide) ?_
  have hi : (40 : Int32) = nI 40 := by decide
  have hn : 40 ≤ 64 := by decide
  refine gnewA_12 X m_1090 hi (by omega) (by have e1 : rm_X4_init.cells = 26 := rfl; omega) (by have e2 : rm_X4_init.slots = 1664 := rfl; omega) dX4_init_192 (fun q73 h1 w74 hv => ?_)
  replace h := h q73 h1 w74 hv; clear hv h1 hi
  refine g_widen (c2 := (25)) (s2 := (1600)) (by omega) (by omega) ?_
  clear hn
  have hk := h.1
  replace h := h.2
  refine gp_527 X hk hnm rfl m_1023 dX4_init_194 (fun w75 hv => ?_)
  replace h := h w75 hv; clear hv hk
  refine g_aload_n X dX4_init_197 rfl 0 rfl ?_
  refine g_bipush X (v := (48 : Int32)) dX4_init_198 (by decide) ?_
  have hi : (48 : Int32) = nI 48 := by decide
  have hn : 48 ≤ 64 := by decide
  refine gnewA_11 X m_317 hi (by omega) (by have e1 : rm_X4_init.cells = 26 := rfl; omega) (by have e2 : rm_X4_init.slots = 1664 := rfl; omega) dX4_init_200 (fun q76 h1 w77 hv => ?_)
  replace h := h q76 h1 w77 hv; clear hv h1 hi
  refine g_widen (c2 := (26)) (s2 := (1664)) (by omega) (by omega) ?_
  clear hn
  have hk := h.1
  replace h := h.2
  refine gp_530 X hk hnm rfl m_1026 dX4_init_202 (fun w78 hv => ?_)
  replace h := h w78 hv; clear hv hk
  exact g_vret X hr (by decide +kernel) (by decide +kernel) dX4_init_205 h

abbrev rm_X4_thrown : Room := { frames := 6, cells := 0, slots := 0, locals := 100 }
def wp_X4_thrown (a0 : Nat) (w : Wd) (Q : Int32 → Wd → Prop) : Prop :=
  w.K a0 = 5 ∧
  ∀ v1 : Int32, v1 = w.I 500 a0 →
  Q v1 w
set_option maxHeartbeats 4000000 in
set_option maxRecDepth 100000 in
theorem c_X4_thrown {l : Launch} {G : GT} {L0 : Nat} (hst : l.stackTraces = false) {a0 : Nat} {w : Wd} {Q : Int32 → Wd → Prop} (h : wp_X4_thrown a0 w Q) : GMi l G L0 yX4_thrown cX4_thrown 1 (some .int) rm_X4_thrown [.ref a0] w Q := by
  refine g_enter hst (by decide +kernel) [.inr (some a0)] rfl (show 1 ≤ 1 by decide) ?_
  intro p e s m args below meth c X hr hnm
  replace X : GC l G L0 p s m args meth c cX4_thrown 1 "SusuRingModel" := X
  refine g_aload_n X dX4_thrown_0 rfl 0 rfl ?_
  have hk := h.1
  replace h := h.2
  refine gg_500 X hk m_996 dX4_thrown_1 (fun v1 hv => ?_)
  replace h := h v1 hv; clear hv hk
  exact g_iret X hr (by decide +kernel) (by decide +kernel) dX4_thrown_4 h

abbrev rm_X4_in : Room := { frames := 6, cells := 0, slots := 0, locals := 100 }
def wp_X4_in (x0 : Int32) (x1 : Int32) (x2 : Int32) (w : Wd) (Q : Int32 → Wd → Prop) : Prop :=
  ∃ J1 : Int32 → Prop, (∀ (y2 : Int32), J1 y2 →
  (y2 = 0 ∨ y2 = 1) ∧ Q y2 w) ∧
  ∃ J3 : Prop, (J3 →
  J1 (0 : Int32)) ∧
  (x0 < x1 → J3) ∧ (¬ x0 < x1 → (x2 < x0 → J3) ∧ (¬ x2 < x0 → J1 (1 : Int32)))
set_option maxHeartbeats 4000000 in
set_option maxRecDepth 100000 in
theorem c_X4_in {l : Launch} {G : GT} {L0 : Nat} (hst : l.stackTraces = false) {x0 : Int32} {x1 : Int32} {x2 : Int32} {w : Wd} {Q : Int32 → Wd → Prop} (h : wp_X4_in x0 x1 x2 w Q) : GMi l G L0 yX4_in cX4_in 3 (some .boolean) rm_X4_in [.int x0, .int x1, .int x2] w Q := by
  refine g_enter hst (by decide +kernel) [.inl x0, .inl x1, .inl x2] rfl (show 3 ≤ 3 by decide) ?_
  intro p e s m args below meth c X hr hnm
  replace X : GC l G L0 p s m args meth c cX4_in 3 "SusuRingModel" := X
  refine g_iload_n X dX4_in_0 rfl 0 rfl ?_
  refine g_iload_n X dX4_in_1 rfl 1 rfl ?_
  obtain ⟨J1, hjJ1, h⟩ := h
  have jp1 : ∀ (y2 : Int32), J1 y2 → Gw l G L0 p e rm_X4_in s m args below meth c 3 (0) (0) (MQ below (gQi G L0 Q) args s rm_X4_in.cells rm_X4_in.slots (GA L0)) w 15 [] [.int y2] := by
    intro y2 hJ
    have h := hjJ1 y2 hJ
    clear hJ
    exact g_zret X hr (by decide +kernel) (by decide +kernel) dX4_in_15 h.1 h.2
  obtain ⟨J3, hjJ3, h⟩ := h
  have jp3 : J3 → Gw l G L0 p e rm_X4_in s m args below meth c 3 (0) (0) (MQ below (gQi G L0 Q) args s rm_X4_in.cells rm_X4_in.slots (GA L0)) w 14 [] [] := by
    intro hJ
    have h := hjJ3 hJ
    clear hJ
    refine g_iconst X (v := (0 : Int32)) dX4_in_14 (by decide) ?_
    exact g_sub [] [] rfl (jp1 (0 : Int32) h)
  refine g_icmp_lt X (tgt := 14) dX4_in_2 (by decide) (fun hc => ?_) (fun hc => ?_)
  · replace h := h.1 hc; clear hc
    exact g_sub [] [] rfl (jp3  h)
  · replace h := h.2 hc; clear hc
    refine g_iload_n X dX4_in_5 rfl 0 rfl ?_
    refine g_iload_n X dX4_in_6 rfl 2 rfl ?_
    refine g_icmp_gt X (tgt := 14) dX4_in_7 (by decide) (fun hc => ?_) (fun hc => ?_)
    · replace h := h.1 hc; clear hc
      exact g_sub [] [] rfl (jp3  h)
    · replace h := h.2 hc; clear hc
      refine g_iconst X (v := (1 : Int32)) dX4_in_10 (by decide) ?_
      refine g_goto X (tgt := 15) dX4_in_11 (by decide) ?_
      exact g_sub [] [] rfl (jp1 (1 : Int32) h)

abbrev rm_X4_isOne : Room := { frames := 7, cells := 0, slots := 0, locals := 122 }
def wp_X4_isOne (a0 : Nat) (x1 : Int32) (w : Wd) (Q : Int32 → Wd → Prop) : Prop :=
  w.K a0 = 5 ∧
  ∀ v1 : Int32, v1 = w.I 501 a0 →
  ∀ v2 : Int32, v2 = v1 - (1 : Int32) →
  wp_X4_in x1 (0 : Int32) v2 w (fun v4 w3 => 
  (v4 = 0 ∨ v4 = 1) ∧ Q v4 w3)
set_option maxHeartbeats 4000000 in
set_option maxRecDepth 100000 in
theorem c_X4_isOne {l : Launch} {G : GT} {L0 : Nat} (hst : l.stackTraces = false) {a0 : Nat} {x1 : Int32} {w : Wd} {Q : Int32 → Wd → Prop} (h : wp_X4_isOne a0 x1 w Q) : GMi l G L0 yX4_isOne cX4_isOne 2 (some .boolean) rm_X4_isOne [.ref a0, .int x1] w Q := by
  refine g_enter hst (by decide +kernel) [.inr (some a0), .inl x1] rfl (show 2 ≤ 2 by decide) ?_
  intro p e s m args below meth c X hr hnm
  replace X : GC l G L0 p s m args meth c cX4_isOne 2 "SusuRingModel" := X
  refine g_iload_n X dX4_isOne_0 rfl 1 rfl ?_
  refine g_iconst X (v := (0 : Int32)) dX4_isOne_1 (by decide) ?_
  refine g_aload_n X dX4_isOne_2 rfl 0 rfl ?_
  have hk := h.1
  replace h := h.2
  refine gg_501 X hk m_997 dX4_isOne_3 (fun v1 hv => ?_)
  replace h := h v1 hv; clear hv hk
  refine g_iconst X (v := (1 : Int32)) dX4_isOne_6 (by decide) ?_
  refine g_isub X dX4_isOne_7 (fun v2 hv => ?_)
  replace h := h v2 hv; clear hv
  refine g_callS_i X (As := [.int x1, .int (0 : Int32), .int v2]) (st := []) (n := 3) (c_X4_in hst h) m_1099 m_1100 m_34 m_1101 (by decide +kernel) (by decide +kernel) rfl rfl (Nat.zero_le _) ⟨(by decide +kernel), (by decide +kernel)⟩ dX4_isOne_8 (fun v4 w3 h => ?_)
  refine g_widen (c2 := (0)) (s2 := (0)) (by decide +kernel) (by decide +kernel) ?_
  exact g_zret X hr (by decide +kernel) (by decide +kernel) dX4_isOne_11 h.1 h.2

abbrev rm_X4_isCircle : Room := { frames := 7, cells := 0, slots := 0, locals := 122 }
def wp_X4_isCircle (a0 : Nat) (x1 : Int32) (w : Wd) (Q : Int32 → Wd → Prop) : Prop :=
  w.K a0 = 5 ∧
  ∀ v1 : Int32, v1 = w.I 513 a0 →
  ∀ v2 : Int32, v2 = v1 - (1 : Int32) →
  wp_X4_in x1 (0 : Int32) v2 w (fun v4 w3 => 
  (v4 = 0 ∨ v4 = 1) ∧ Q v4 w3)
set_option maxHeartbeats 4000000 in
set_option maxRecDepth 100000 in
theorem c_X4_isCircle {l : Launch} {G : GT} {L0 : Nat} (hst : l.stackTraces = false) {a0 : Nat} {x1 : Int32} {w : Wd} {Q : Int32 → Wd → Prop} (h : wp_X4_isCircle a0 x1 w Q) : GMi l G L0 yX4_isCircle cX4_isCircle 2 (some .boolean) rm_X4_isCircle [.ref a0, .int x1] w Q := by
  refine g_enter hst (by decide +kernel) [.inr (some a0), .inl x1] rfl (show 2 ≤ 2 by decide) ?_
  intro p e s m args below meth c X hr hnm
  replace X : GC l G L0 p s m args meth c cX4_isCircle 2 "SusuRingModel" := X
  refine g_iload_n X dX4_isCircle_0 rfl 1 rfl ?_
  refine g_iconst X (v := (0 : Int32)) dX4_isCircle_1 (by decide) ?_
  refine g_aload_n X dX4_isCircle_2 rfl 0 rfl ?_
  have hk := h.1
  replace h := h.2
  refine gg_513 X hk m_1009 dX4_isCircle_3 (fun v1 hv => ?_)
  replace h := h v1 hv; clear hv hk
  refine g_iconst X (v := (1 : Int32)) dX4_isCircle_6 (by decide) ?_
  refine g_isub X dX4_isCircle_7 (fun v2 hv => ?_)
  replace h := h v2 hv; clear hv
  refine g_callS_i X (As := [.int x1, .int (0 : Int32), .int v2]) (st := []) (n := 3) (c_X4_in hst h) m_1099 m_1100 m_34 m_1101 (by decide +kernel) (by decide +kernel) rfl rfl (Nat.zero_le _) ⟨(by decide +kernel), (by decide +kernel)⟩ dX4_isCircle_8 (fun v4 w3 h => ?_)
  refine g_widen (c2 := (0)) (s2 := (0)) (by decide +kernel) (by decide +kernel) ?_
  exact g_zret X hr (by decide +kernel) (by decide +kernel) dX4_isCircle_11 h.1 h.2

abbrev rm_X4_areAlike : Room := { frames := 6, cells := 0, slots := 0, locals := 100 }
def wp_X4_areAlike (x0 : Int32) (x1 : Int32) (w : Wd) (Q : Int32 → Wd → Prop) : Prop :=
  ∃ Inv2 : Nat → Int32 → Int32 → Int32 → Int32 → Prop, (∃ n : Nat, Inv2 n x0 x1 (0 : Int32) (0 : Int32)) ∧ ∀ (n1 : Nat) (y3 : Int32) (y4 : Int32) (y5 : Int32) (y6 : Int32), Inv2 n1 y3 y4 y5 y6 →
  ((5 : Int32) ≤ y6 → ∃ J7 : Int32 → Prop, (∀ (y8 : Int32), J7 y8 →
  (y8 = 0 ∨ y8 = 1) ∧ Q y8 w) ∧
  ((2 : Int32) ≤ y5 → J7 (0 : Int32)) ∧ (¬ (2 : Int32) ≤ y5 → J7 (1 : Int32))) ∧ (¬ (5 : Int32) ≤ y6 → ¬ (10 : Int32) = 0 ∧ ∀ v9 : Int32, v9 = y3 - y3 / (10 : Int32) * (10 : Int32) →
  ¬ (10 : Int32) = 0 ∧ ∀ v10 : Int32, v10 = y4 - y4 / (10 : Int32) * (10 : Int32) →
  ∃ J11 : Int32 → Int32 → Prop, (∀ (y12 : Int32) (y13 : Int32), J11 y12 y13 →
  ∀ v14 : Int32, v14 = y12 + y13 →
  ¬ (10 : Int32) = 0 ∧ ∀ v15 : Int32, v15 = y3 / (10 : Int32) →
  ¬ (10 : Int32) = 0 ∧ ∀ v16 : Int32, v16 = y4 / (10 : Int32) →
  ∀ v17 : Int32, v17 = y6 + (1 : Int32) →
  ∃ n : Nat, n < n1 ∧ Inv2 n v15 v16 v14 v17) ∧
  (¬ v9 = v10 → J11 y5 (1 : Int32)) ∧ (v9 = v10 → J11 y5 (0 : Int32)))
set_option maxHeartbeats 4000000 in
set_option maxRecDepth 100000 in
theorem c_X4_areAlike {l : Launch} {G : GT} {L0 : Nat} (hst : l.stackTraces = false) {x0 : Int32} {x1 : Int32} {w : Wd} {Q : Int32 → Wd → Prop} (h : wp_X4_areAlike x0 x1 w Q) : GMi l G L0 yX4_areAlike cX4_areAlike 6 (some .boolean) rm_X4_areAlike [.int x0, .int x1] w Q := by
  refine g_enter hst (by decide +kernel) [.inl x0, .inl x1] rfl (show 2 ≤ 6 by decide) ?_
  intro p e s m args below meth c X hr hnm
  replace X : GC l G L0 p s m args meth c cX4_areAlike 6 "SusuRingModel" := X
  refine g_iload_n X dX4_areAlike_0 rfl 0 rfl ?_
  refine g_istore_n X [(2, .inl x0), (0, .inl x0), (1, .inl x1)] dX4_areAlike_1 rfl (by decide) rfl ?_
  refine g_iload_n X dX4_areAlike_2 rfl 2 rfl ?_
  refine g_istore_n X [(3, .inl x1), (2, .inl x0), (0, .inl x0), (1, .inl x1)] dX4_areAlike_3 rfl (by decide) rfl ?_
  refine g_iconst X (v := (0 : Int32)) dX4_areAlike_4 (by decide) ?_
  refine g_istore X [(4, .inl (0 : Int32)), (3, .inl x1), (2, .inl x0), (0, .inl x0), (1, .inl x1)] dX4_areAlike_5 (by decide) rfl ?_
  refine g_iconst X (v := (0 : Int32)) dX4_areAlike_7 (by decide) ?_
  refine g_istore X [(5, .inl (0 : Int32)), (4, .inl (0 : Int32)), (3, .inl x1), (2, .inl x0), (0, .inl x0), (1, .inl x1)] dX4_areAlike_8 (by decide) rfl ?_
  obtain ⟨Inv2, ⟨n0, hi⟩, hsn1⟩ := h
  have lp2 : ∀ (n1 : Nat), ∀ (y3 : Int32) (y4 : Int32) (y5 : Int32) (y6 : Int32), Inv2 n1 y3 y4 y5 y6 → Gw l G L0 p e rm_X4_areAlike s m args below meth c 6 (0) (0) (MQ below (gQi G L0 Q) args s rm_X4_areAlike.cells rm_X4_areAlike.slots (GA L0)) w 10 [(2, .inl y3), (3, .inl y4), (4, .inl y5), (5, .inl y6)] [] := by
    intro n1
    induction n1 using Nat.strongRecOn with
    | ind n1 ihn1 =>
      intro y3 y4 y5 y6 hI
      have h := hsn1 n1 y3 y4 y5 y6 hI
      clear hI
      refine g_iload X dX4_areAlike_10 3 rfl ?_
      refine g_iconst X (v := (5 : Int32)) dX4_areAlike_12 (by decide) ?_
      refine g_icmp_ge X (tgt := 53) dX4_areAlike_13 (by decide) (fun hc => ?_) (fun hc => ?_)
      · replace h := h.1 hc; clear hc
        refine g_iload X dX4_areAlike_53 2 rfl ?_
        refine g_iconst X (v := (2 : Int32)) dX4_areAlike_55 (by decide) ?_
        obtain ⟨J7, hjJ7, h⟩ := h
        have jp7 : ∀ (y8 : Int32), J7 y8 → Gw l G L0 p e rm_X4_areAlike s m args below meth c 6 (0) (0) (MQ below (gQi G L0 Q) args s rm_X4_areAlike.cells rm_X4_areAlike.slots (GA L0)) w 64 [] [.int y8] := by
          intro y8 hJ
          have h := hjJ7 y8 hJ
          clear hJ
          exact g_zret X hr (by decide +kernel) (by decide +kernel) dX4_areAlike_64 h.1 h.2
        refine g_icmp_ge X (tgt := 63) dX4_areAlike_56 (by decide) (fun hc => ?_) (fun hc => ?_)
        · replace h := h.1 hc; clear hc
          refine g_iconst X (v := (0 : Int32)) dX4_areAlike_63 (by decide) ?_
          exact g_sub [] [] rfl (jp7 (0 : Int32) h)
        · replace h := h.2 hc; clear hc
          refine g_iconst X (v := (1 : Int32)) dX4_areAlike_59 (by decide) ?_
          refine g_goto X (tgt := 64) dX4_areAlike_60 (by decide) ?_
          exact g_sub [] [] rfl (jp7 (1 : Int32) h)
      · replace h := h.2 hc; clear hc
        refine g_iload X dX4_areAlike_16 2 rfl ?_
        refine g_iload_n X dX4_areAlike_18 rfl 0 rfl ?_
        refine g_bipush X (v := (10 : Int32)) dX4_areAlike_19 (by decide) ?_
        refine g_irem X dX4_areAlike_21 h.1 (fun v9 hv => ?_)
        replace h := h.2 v9 hv; clear hv
        refine g_iload_n X dX4_areAlike_22 rfl 1 rfl ?_
        refine g_bipush X (v := (10 : Int32)) dX4_areAlike_23 (by decide) ?_
        refine g_irem X dX4_areAlike_25 h.1 (fun v10 hv => ?_)
        replace h := h.2 v10 hv; clear hv
        obtain ⟨J11, hjJ11, h⟩ := h
        have jp11 : ∀ (y12 : Int32) (y13 : Int32), J11 y12 y13 → Gw l G L0 p e rm_X4_areAlike s m args below meth c 6 (0) (0) (MQ below (gQi G L0 Q) args s rm_X4_areAlike.cells rm_X4_areAlike.slots (GA L0)) w 34 [(2, .inl y3), (3, .inl y4), (5, .inl y6)] [.int y13, .int y12] := by
          intro y12 y13 hJ
          have h := hjJ11 y12 y13 hJ
          clear hJ
          refine g_iadd X dX4_areAlike_34 (fun v14 hv => ?_)
          replace h := h v14 hv; clear hv
          refine g_istore X [(4, .inl v14), (2, .inl y3), (3, .inl y4), (5, .inl y6)] dX4_areAlike_35 (by decide) rfl ?_
          refine g_iload_n X dX4_areAlike_37 rfl 1 rfl ?_
          refine g_bipush X (v := (10 : Int32)) dX4_areAlike_38 (by decide) ?_
          refine g_idiv X dX4_areAlike_40 h.1 (fun v15 hv => ?_)
          replace h := h.2 v15 hv; clear hv
          refine g_istore_n X [(2, .inl v15), (4, .inl v14), (3, .inl y4), (5, .inl y6)] dX4_areAlike_41 rfl (by decide) rfl ?_
          refine g_iload_n X dX4_areAlike_42 rfl 2 rfl ?_
          refine g_bipush X (v := (10 : Int32)) dX4_areAlike_43 (by decide) ?_
          refine g_idiv X dX4_areAlike_45 h.1 (fun v16 hv => ?_)
          replace h := h.2 v16 hv; clear hv
          refine g_istore_n X [(3, .inl v16), (2, .inl v15), (4, .inl v14), (5, .inl y6)] dX4_areAlike_46 rfl (by decide) rfl ?_
          refine g_iinc X dX4_areAlike_47 3 rfl (d := (1 : Int32)) (by decide) (by decide) (fun v17 hv => ?_)
          replace h := h v17 hv; clear hv
          refine g_sub [0, 1, 2, 3] [(5, .inl v17), (3, .inl v16), (2, .inl v15), (4, .inl v14)] rfl ?_
          refine g_goto X (tgt := 10) dX4_areAlike_50 (by decide) ?_
          obtain ⟨n, hn, hI⟩ := h
          exact g_sub [2, 1, 3, 0] [(2, .inl v15), (3, .inl v16), (4, .inl v14), (5, .inl v17)] rfl (ihn1 n hn v15 v16 v14 v17 hI)
        refine g_icmp_ne X (tgt := 33) dX4_areAlike_26 (by decide) (fun hc => ?_) (fun hc => ?_)
        · replace h := h.1 hc; clear hc
          refine g_iconst X (v := (1 : Int32)) dX4_areAlike_33 (by decide) ?_
          exact g_sub [0, 1, 3] [(2, .inl y3), (3, .inl y4), (5, .inl y6)] rfl (jp11 y5 (1 : Int32) h)
        · replace h := h.2 hc; clear hc
          refine g_iconst X (v := (0 : Int32)) dX4_areAlike_29 (by decide) ?_
          refine g_goto X (tgt := 34) dX4_areAlike_30 (by decide) ?_
          exact g_sub [0, 1, 3] [(2, .inl y3), (3, .inl y4), (5, .inl y6)] rfl (jp11 y5 (0 : Int32) h)
  exact g_sub [3, 2, 1, 0] [(2, .inl x0), (3, .inl x1), (4, .inl (0 : Int32)), (5, .inl (0 : Int32))] rfl (lp2 n0 x0 x1 (0 : Int32) (0 : Int32) hi)

abbrev rm_X4_placeOf : Room := { frames := 6, cells := 0, slots := 0, locals := 100 }
def wp_X4_placeOf (a0 : Nat) (x1 : Int32) (x2 : Int32) (w : Wd) (Q : Int32 → Wd → Prop) : Prop :=
  ∃ Inv2 : Nat → Int32 → Int32 → Prop, (∃ n : Nat, Inv2 n (-1 : Int32) (0 : Int32)) ∧ ∀ (n1 : Nat) (y3 : Int32) (y4 : Int32), Inv2 n1 y3 y4 →
  w.K a0 = 5 ∧
  ∀ z5 : Option Nat, z5 = w.R 517 a0 →
  ∃ a6, z5 = some a6 ∧ w.K a6 = 11 ∧
  ∃ j7 : Nat, x1 = nI j7 ∧ j7 < w.N a6 ∧ w.N a6 < 2 ^ 31 ∧
  ∀ v8 : Int32, v8 = w.A a6 j7 →
  (v8 ≤ y4 → Q y3 w) ∧ (¬ v8 ≤ y4 → w.K a0 = 5 ∧
  ∀ z9 : Option Nat, z9 = w.R 521 a0 →
  ∀ v10 : Int32, v10 = (10 : Int32) * x1 →
  ∀ v11 : Int32, v11 = v10 + y4 →
  ∃ a12, z9 = some a12 ∧ w.K a12 = 11 ∧
  ∃ j13 : Nat, v11 = nI j13 ∧ j13 < w.N a12 ∧ w.N a12 < 2 ^ 31 ∧
  ∀ v14 : Int32, v14 = w.A a12 j13 →
  ∃ J15 : Int32 → Prop, (∀ (y16 : Int32), J15 y16 →
  ∀ v17 : Int32, v17 = y4 + (1 : Int32) →
  ∃ n : Nat, n < n1 ∧ Inv2 n y16 v17) ∧
  (¬ v14 = x2 → J15 y3) ∧ (v14 = x2 → J15 y4))
set_option maxHeartbeats 4000000 in
set_option maxRecDepth 100000 in
theorem c_X4_placeOf {l : Launch} {G : GT} {L0 : Nat} (hst : l.stackTraces = false) {a0 : Nat} {x1 : Int32} {x2 : Int32} {w : Wd} {Q : Int32 → Wd → Prop} (h : wp_X4_placeOf a0 x1 x2 w Q) : GMi l G L0 yX4_placeOf cX4_placeOf 5 (some .int) rm_X4_placeOf [.ref a0, .int x1, .int x2] w Q := by
  refine g_enter hst (by decide +kernel) [.inr (some a0), .inl x1, .inl x2] rfl (show 3 ≤ 5 by decide) ?_
  intro p e s m args below meth c X hr hnm
  replace X : GC l G L0 p s m args meth c cX4_placeOf 5 "SusuRingModel" := X
  refine g_iconst X (v := (-1 : Int32)) dX4_placeOf_0 (by decide) ?_
  refine g_istore_n X [(3, .inl (-1 : Int32)), (0, .inr (some a0)), (1, .inl x1), (2, .inl x2)] dX4_placeOf_1 rfl (by decide) rfl ?_
  refine g_iconst X (v := (0 : Int32)) dX4_placeOf_2 (by decide) ?_
  refine g_istore X [(4, .inl (0 : Int32)), (3, .inl (-1 : Int32)), (0, .inr (some a0)), (1, .inl x1), (2, .inl x2)] dX4_placeOf_3 (by decide) rfl ?_
  obtain ⟨Inv2, ⟨n0, hi⟩, hsn1⟩ := h
  have lp2 : ∀ (n1 : Nat), ∀ (y3 : Int32) (y4 : Int32), Inv2 n1 y3 y4 → Gw l G L0 p e rm_X4_placeOf s m args below meth c 5 (0) (0) (MQ below (gQi G L0 Q) args s rm_X4_placeOf.cells rm_X4_placeOf.slots (GA L0)) w 5 [(0, .inr (some a0)), (1, .inl x1), (2, .inl x2), (3, .inl y3), (4, .inl y4)] [] := by
    intro n1
    induction n1 using Nat.strongRecOn with
    | ind n1 ihn1 =>
      intro y3 y4 hI
      have h := hsn1 n1 y3 y4 hI
      clear hI
      refine g_iload X dX4_placeOf_5 4 rfl ?_
      refine g_aload_n X dX4_placeOf_7 rfl 0 rfl ?_
      have hk := h.1
      replace h := h.2
      refine gg_517 X hk m_1013 dX4_placeOf_8 (fun z5 hv => ?_)
      replace h := h z5 hv; clear hv hk
      refine g_iload_n X dX4_placeOf_11 rfl 1 rfl ?_
      obtain ⟨a6, rfl, hk, h⟩ := h
      obtain ⟨j7, hi, hj, hN, h⟩ := h
      refine g_iald X hk hi hj hN dX4_placeOf_12 (fun v8 hv => ?_)
      replace h := h v8 hv; clear hv hk hi hj hN
      refine g_icmp_ge X (tgt := 45) dX4_placeOf_13 (by decide) (fun hc => ?_) (fun hc => ?_)
      · replace h := h.1 hc; clear hc
        refine g_iload_n X dX4_placeOf_45 rfl 3 rfl ?_
        exact g_iret X hr (by decide +kernel) (by decide +kernel) dX4_placeOf_46 h
      · replace h := h.2 hc; clear hc
        refine g_aload_n X dX4_placeOf_16 rfl 0 rfl ?_
        have hk := h.1
        replace h := h.2
        refine gg_521 X hk m_1017 dX4_placeOf_17 (fun z9 hv => ?_)
        replace h := h z9 hv; clear hv hk
        refine g_bipush X (v := (10 : Int32)) dX4_placeOf_20 (by decide) ?_
        refine g_iload_n X dX4_placeOf_22 rfl 1 rfl ?_
        refine g_imul X dX4_placeOf_23 (fun v10 hv => ?_)
        replace h := h v10 hv; clear hv
        refine g_iload X dX4_placeOf_24 4 rfl ?_
        refine g_iadd X dX4_placeOf_26 (fun v11 hv => ?_)
        replace h := h v11 hv; clear hv
        obtain ⟨a12, rfl, hk, h⟩ := h
        obtain ⟨j13, hi, hj, hN, h⟩ := h
        refine g_iald X hk hi hj hN dX4_placeOf_27 (fun v14 hv => ?_)
        replace h := h v14 hv; clear hv hk hi hj hN
        refine g_iload_n X dX4_placeOf_28 rfl 2 rfl ?_
        obtain ⟨J15, hjJ15, h⟩ := h
        have jp15 : ∀ (y16 : Int32), J15 y16 → Gw l G L0 p e rm_X4_placeOf s m args below meth c 5 (0) (0) (MQ below (gQi G L0 Q) args s rm_X4_placeOf.cells rm_X4_placeOf.slots (GA L0)) w 38 [(0, .inr (some a0)), (1, .inl x1), (2, .inl x2), (4, .inl y4)] [.int y16] := by
          intro y16 hJ
          have h := hjJ15 y16 hJ
          clear hJ
          refine g_istore_n X [(3, .inl y16), (0, .inr (some a0)), (1, .inl x1), (2, .inl x2), (4, .inl y4)] dX4_placeOf_38 rfl (by decide) rfl ?_
          refine g_iinc X dX4_placeOf_39 4 rfl (d := (1 : Int32)) (by decide) (by decide) (fun v17 hv => ?_)
          replace h := h v17 hv; clear hv
          refine g_sub [0, 1, 2, 3, 4] [(4, .inl v17), (3, .inl y16), (0, .inr (some a0)), (1, .inl x1), (2, .inl x2)] rfl ?_
          refine g_goto X (tgt := 5) dX4_placeOf_42 (by decide) ?_
          obtain ⟨n, hn, hI⟩ := h
          exact g_sub [2, 3, 4, 1, 0] [(0, .inr (some a0)), (1, .inl x1), (2, .inl x2), (3, .inl y16), (4, .inl v17)] rfl (ihn1 n hn y16 v17 hI)
        refine g_icmp_ne X (tgt := 37) dX4_placeOf_29 (by decide) (fun hc => ?_) (fun hc => ?_)
        · replace h := h.1 hc; clear hc
          refine g_iload_n X dX4_placeOf_37 rfl 3 rfl ?_
          exact g_sub [0, 1, 2, 4] [(0, .inr (some a0)), (1, .inl x1), (2, .inl x2), (4, .inl y4)] rfl (jp15 y3 h)
        · replace h := h.2 hc; clear hc
          refine g_iload X dX4_placeOf_32 4 rfl ?_
          refine g_goto X (tgt := 38) dX4_placeOf_34 (by decide) ?_
          exact g_sub [0, 1, 2, 4] [(0, .inr (some a0)), (1, .inl x1), (2, .inl x2), (4, .inl y4)] rfl (jp15 y4 h)
  exact g_sub [2, 3, 4, 1, 0] [(0, .inr (some a0)), (1, .inl x1), (2, .inl x2), (3, .inl (-1 : Int32)), (4, .inl (0 : Int32))] rfl (lp2 n0 (-1 : Int32) (0 : Int32) hi)

abbrev rm_X4_pays : Room := { frames := 6, cells := 0, slots := 0, locals := 100 }
def wp_X4_pays (a0 : Nat) (x1 : Int32) (x2 : Int32) (w : Wd) (Q : Wd → Prop) : Prop :=
  w.K a0 = 5 ∧
  ∀ z1 : Option Nat, z1 = w.R 504 a0 →
  ∃ a2, z1 = some a2 ∧ w.K a2 = 11 ∧
  ∃ j3 : Nat, x1 = nI j3 ∧ j3 < w.N a2 ∧ w.N a2 < 2 ^ 31 ∧
  ∀ v4 : Int32, v4 = w.A a2 j3 →
  ∀ v5 : Int32, v5 = v4 - x2 →
  w.K a2 = 11 ∧
  ∃ j6 : Nat, x1 = nI j6 ∧ j6 < w.N a2 ∧ w.N a2 < 2 ^ 31 ∧
  ∀ w7 : Wd, w7 = w.setA a2 j6 v5 →
  w7.K a0 = 5 ∧
  ∀ z8 : Option Nat, z8 = w7.R 511 a0 →
  ∃ a9, z8 = some a9 ∧ w7.K a9 = 11 ∧
  ∃ j10 : Nat, x1 = nI j10 ∧ j10 < w7.N a9 ∧ w7.N a9 < 2 ^ 31 ∧
  ∀ v11 : Int32, v11 = w7.A a9 j10 →
  ∀ v12 : Int32, v12 = v11 + x2 →
  w7.K a9 = 11 ∧
  ∃ j13 : Nat, x1 = nI j13 ∧ j13 < w7.N a9 ∧ w7.N a9 < 2 ^ 31 ∧
  ∀ w14 : Wd, w14 = w7.setA a9 j13 v12 →
  Q w14
set_option maxHeartbeats 4000000 in
set_option maxRecDepth 100000 in
theorem c_X4_pays {l : Launch} {G : GT} {L0 : Nat} (hst : l.stackTraces = false) {a0 : Nat} {x1 : Int32} {x2 : Int32} {w : Wd} {Q : Wd → Prop} (h : wp_X4_pays a0 x1 x2 w Q) : GMv l G L0 yX4_pays cX4_pays 3 none rm_X4_pays [.ref a0, .int x1, .int x2] w Q := by
  refine g_enter hst (by decide +kernel) [.inr (some a0), .inl x1, .inl x2] rfl (show 3 ≤ 3 by decide) ?_
  intro p e s m args below meth c X hr hnm
  replace X : GC l G L0 p s m args meth c cX4_pays 3 "SusuRingModel" := X
  refine g_aload_n X dX4_pays_0 rfl 0 rfl ?_
  have hk := h.1
  replace h := h.2
  refine gg_504 X hk m_1000 dX4_pays_1 (fun z1 hv => ?_)
  replace h := h z1 hv; clear hv hk
  refine g_iload_n X dX4_pays_4 rfl 1 rfl ?_
  refine g_dup2 X dX4_pays_5 rfl rf_cat ?_
  obtain ⟨a2, rfl, hk, h⟩ := h
  obtain ⟨j3, hi, hj, hN, h⟩ := h
  refine g_iald X hk hi hj hN dX4_pays_6 (fun v4 hv => ?_)
  replace h := h v4 hv; clear hv hk hi hj hN
  refine g_iload_n X dX4_pays_7 rfl 2 rfl ?_
  refine g_isub X dX4_pays_8 (fun v5 hv => ?_)
  replace h := h v5 hv; clear hv
  have hk := h.1
  replace h := h.2
  obtain ⟨j6, hi, hj, hN, h⟩ := h
  refine g_iast X hk hi hj hN dX4_pays_9 (fun w7 hv => ?_)
  replace h := h w7 hv; clear hv hk hi hj hN
  refine g_aload_n X dX4_pays_10 rfl 0 rfl ?_
  have hk := h.1
  replace h := h.2
  refine gg_511 X hk m_1007 dX4_pays_11 (fun z8 hv => ?_)
  replace h := h z8 hv; clear hv hk
  refine g_iload_n X dX4_pays_14 rfl 1 rfl ?_
  refine g_dup2 X dX4_pays_15 rfl rf_cat ?_
  obtain ⟨a9, rfl, hk, h⟩ := h
  obtain ⟨j10, hi, hj, hN, h⟩ := h
  refine g_iald X hk hi hj hN dX4_pays_16 (fun v11 hv => ?_)
  replace h := h v11 hv; clear hv hk hi hj hN
  refine g_iload_n X dX4_pays_17 rfl 2 rfl ?_
  refine g_iadd X dX4_pays_18 (fun v12 hv => ?_)
  replace h := h v12 hv; clear hv
  have hk := h.1
  replace h := h.2
  obtain ⟨j13, hi, hj, hN, h⟩ := h
  refine g_iast X hk hi hj hN dX4_pays_19 (fun w14 hv => ?_)
  replace h := h w14 hv; clear hv hk hi hj hN
  exact g_vret X hr (by decide +kernel) (by decide +kernel) dX4_pays_20 h

abbrev rm_X4_person : Room := { frames := 7, cells := 0, slots := 0, locals := 122 }
def wp_X4_person (a0 : Nat) (x1 : Int32) (x2 : Int32) (w : Wd) (Q : Int32 → Wd → Prop) : Prop :=
  wp_X4_in x1 (1 : Int32) (120 : Int32) w (fun v2 w1 => 
  ∃ J3 : Option Nat → Int32 → Wd → Prop, (∀ (q4 : Option Nat) (y5 : Int32) (w6 : Wd), J3 q4 y5 w6 →
  ∃ a7, q4 = some a7 ∧ w6.K a7 = 5 ∧
  ∀ w8 : Wd, w8 = w6.setI 500 a7 y5 →
  w8.K a0 = 5 ∧
  ∀ v9 : Int32, v9 = w8.I 500 a0 →
  (v9 = 0 → w8.K a0 = 5 ∧
  ∀ z10 : Option Nat, z10 = w8.R 502 a0 →
  w8.K a0 = 5 ∧
  ∀ v11 : Int32, v11 = w8.I 501 a0 →
  ∃ a12, z10 = some a12 ∧ w8.K a12 = 11 ∧
  ∃ j13 : Nat, v11 = nI j13 ∧ j13 < w8.N a12 ∧ w8.N a12 < 2 ^ 31 ∧
  ∀ w14 : Wd, w14 = w8.setA a12 j13 x1 →
  w14.K a0 = 5 ∧
  ∀ z15 : Option Nat, z15 = w14.R 503 a0 →
  w14.K a0 = 5 ∧
  ∀ v16 : Int32, v16 = w14.I 501 a0 →
  ∃ a17, z15 = some a17 ∧ w14.K a17 = 11 ∧
  ∃ j18 : Nat, v16 = nI j18 ∧ j18 < w14.N a17 ∧ w14.N a17 < 2 ^ 31 ∧
  ∀ w19 : Wd, w19 = w14.setA a17 j18 x2 →
  w19.K a0 = 5 ∧
  ∀ v20 : Int32, v20 = w19.I 501 a0 →
  ∀ v21 : Int32, v21 = v20 + (1 : Int32) →
  w19.K a0 = 5 ∧
  ∀ w22 : Wd, w22 = w19.setI 501 a0 v21 →
  w22.K a0 = 5 ∧
  ∀ v23 : Int32, v23 = w22.I 501 a0 →
  ∀ v24 : Int32, v24 = v23 - (1 : Int32) →
  Q v24 w22) ∧ (¬ v9 = 0 → Q (0 : Int32) w8)) ∧
  ∃ J25 : Option Nat → Wd → Prop, (∀ (q26 : Option Nat) (w27 : Wd), J25 q26 w27 →
  J3 q26 (1 : Int32) w27) ∧
  (v2 = 0 → J25 (some a0) w1) ∧ (¬ v2 = 0 → wp_X4_in x2 (0 : Int32) (99999 : Int32) w1 (fun v29 w28 => 
  (¬ v29 = 0 → w28.K a0 = 5 ∧
  ∀ v30 : Int32, v30 = w28.I 501 a0 →
  (¬ v30 = (16 : Int32) → J3 (some a0) (0 : Int32) w28) ∧ (v30 = (16 : Int32) → J3 (some a0) (2 : Int32) w28)) ∧ (v29 = 0 → J25 (some a0) w28))))
set_option maxHeartbeats 4000000 in
set_option maxRecDepth 100000 in
theorem c_X4_person {l : Launch} {G : GT} {L0 : Nat} (hst : l.stackTraces = false) {a0 : Nat} {x1 : Int32} {x2 : Int32} {w : Wd} {Q : Int32 → Wd → Prop} (h : wp_X4_person a0 x1 x2 w Q) : GMi l G L0 yX4_person cX4_person 3 (some .int) rm_X4_person [.ref a0, .int x1, .int x2] w Q := by
  refine g_enter hst (by decide +kernel) [.inr (some a0), .inl x1, .inl x2] rfl (show 3 ≤ 3 by decide) ?_
  intro p e s m args below meth c X hr hnm
  replace X : GC l G L0 p s m args meth c cX4_person 3 "SusuRingModel" := X
  refine g_aload_n X dX4_person_0 rfl 0 rfl ?_
  refine g_iload_n X dX4_person_1 rfl 1 rfl ?_
  refine g_iconst X (v := (1 : Int32)) dX4_person_2 (by decide) ?_
  refine g_bipush X (v := (120 : Int32)) dX4_person_3 (by decide) ?_
  refine g_callS_i X (As := [.int x1, .int (1 : Int32), .int (120 : Int32)]) (st := [va_rf (some a0)]) (n := 3) (c_X4_in hst h) m_1099 m_1100 m_34 m_1101 (by decide +kernel) (by decide +kernel) rfl rfl (by simp [cat_int, rf_cat]) ⟨(by decide +kernel), (by decide +kernel)⟩ dX4_person_5 (fun v2 w1 h => ?_)
  refine g_widen (c2 := (0)) (s2 := (0)) (by decide +kernel) (by decide +kernel) ?_
  obtain ⟨J3, hjJ3, h⟩ := h
  have jp3 : ∀ (q4 : Option Nat) (y5 : Int32) (w6 : Wd), J3 q4 y5 w6 → Gw l G L0 p e rm_X4_person s m args below meth c 3 (0) (0) (MQ below (gQi G L0 Q) args s rm_X4_person.cells rm_X4_person.slots (GA L0)) w6 39 [(0, .inr (some a0)), (1, .inl x1), (2, .inl x2)] [.int y5, va_rf q4] := by
    intro q4 y5 w6 hJ
    have h := hjJ3 q4 y5 w6 hJ
    clear hJ
    obtain ⟨a7, rfl, hk, h⟩ := h
    refine gp_500 X hk m_996 dX4_person_39 (fun w8 hv => ?_)
    replace h := h w8 hv; clear hv hk
    refine g_aload_n X dX4_person_42 rfl 0 rfl ?_
    have hk := h.1
    replace h := h.2
    refine gg_500 X hk m_996 dX4_person_43 (fun v9 hv => ?_)
    replace h := h v9 hv; clear hv hk
    refine g_if_eq X (tgt := 51) dX4_person_46 (by decide) (fun hc => ?_) (fun hc => ?_)
    · replace h := h.1 hc; clear hc
      refine g_aload_n X dX4_person_51 rfl 0 rfl ?_
      have hk := h.1
      replace h := h.2
      refine gg_502 X hk m_998 dX4_person_52 (fun z10 hv => ?_)
      replace h := h z10 hv; clear hv hk
      refine g_aload_n X dX4_person_55 rfl 0 rfl ?_
      have hk := h.1
      replace h := h.2
      refine gg_501 X hk m_997 dX4_person_56 (fun v11 hv => ?_)
      replace h := h v11 hv; clear hv hk
      refine g_iload_n X dX4_person_59 rfl 1 rfl ?_
      obtain ⟨a12, rfl, hk, h⟩ := h
      obtain ⟨j13, hi, hj, hN, h⟩ := h
      refine g_iast X hk hi hj hN dX4_person_60 (fun w14 hv => ?_)
      replace h := h w14 hv; clear hv hk hi hj hN
      refine g_aload_n X dX4_person_61 rfl 0 rfl ?_
      have hk := h.1
      replace h := h.2
      refine gg_503 X hk m_999 dX4_person_62 (fun z15 hv => ?_)
      replace h := h z15 hv; clear hv hk
      refine g_aload_n X dX4_person_65 rfl 0 rfl ?_
      have hk := h.1
      replace h := h.2
      refine gg_501 X hk m_997 dX4_person_66 (fun v16 hv => ?_)
      replace h := h v16 hv; clear hv hk
      refine g_iload_n X dX4_person_69 rfl 2 rfl ?_
      obtain ⟨a17, rfl, hk, h⟩ := h
      obtain ⟨j18, hi, hj, hN, h⟩ := h
      refine g_iast X hk hi hj hN dX4_person_70 (fun w19 hv => ?_)
      replace h := h w19 hv; clear hv hk hi hj hN
      refine g_aload_n X dX4_person_71 rfl 0 rfl ?_
      refine g_dup X dX4_person_72 rf_cat ?_
      have hk := h.1
      replace h := h.2
      refine gg_501 X hk m_997 dX4_person_73 (fun v20 hv => ?_)
      replace h := h v20 hv; clear hv hk
      refine g_iconst X (v := (1 : Int32)) dX4_person_76 (by decide) ?_
      refine g_iadd X dX4_person_77 (fun v21 hv => ?_)
      replace h := h v21 hv; clear hv
      have hk := h.1
      replace h := h.2
      refine gp_501 X hk m_997 dX4_person_78 (fun w22 hv => ?_)
      replace h := h w22 hv; clear hv hk
      refine g_aload_n X dX4_person_81 rfl 0 rfl ?_
      have hk := h.1
      replace h := h.2
      refine gg_501 X hk m_997 dX4_person_82 (fun v23 hv => ?_)
      replace h := h v23 hv; clear hv hk
      refine g_iconst X (v := (1 : Int32)) dX4_person_85 (by decide) ?_
      refine g_isub X dX4_person_86 (fun v24 hv => ?_)
      replace h := h v24 hv; clear hv
      exact g_iret X hr (by decide +kernel) (by decide +kernel) dX4_person_87 h
    · replace h := h.2 hc; clear hc
      refine g_iconst X (v := (0 : Int32)) dX4_person_49 (by decide) ?_
      exact g_iret X hr (by decide +kernel) (by decide +kernel) dX4_person_50 h
  obtain ⟨J25, hjJ25, h⟩ := h
  have jp25 : ∀ (q26 : Option Nat) (w27 : Wd), J25 q26 w27 → Gw l G L0 p e rm_X4_person s m args below meth c 3 (0) (0) (MQ below (gQi G L0 Q) args s rm_X4_person.cells rm_X4_person.slots (GA L0)) w27 21 [(0, .inr (some a0)), (1, .inl x1), (2, .inl x2)] [va_rf q26] := by
    intro q26 w27 hJ
    have h := hjJ25 q26 w27 hJ
    clear hJ
    refine g_iconst X (v := (1 : Int32)) dX4_person_21 (by decide) ?_
    refine g_goto X (tgt := 39) dX4_person_22 (by decide) ?_
    exact g_sub [0, 1, 2] [(0, .inr (some a0)), (1, .inl x1), (2, .inl x2)] rfl (jp3 q26 (1 : Int32) w27 h)
  refine g_if_eq X (tgt := 21) dX4_person_8 (by decide) (fun hc => ?_) (fun hc => ?_)
  · replace h := h.1 hc; clear hc
    exact g_sub [0, 1, 2] [(0, .inr (some a0)), (1, .inl x1), (2, .inl x2)] rfl (jp25 (some a0) w1 h)
  · replace h := h.2 hc; clear hc
    refine g_iload_n X dX4_person_11 rfl 2 rfl ?_
    refine g_iconst X (v := (0 : Int32)) dX4_person_12 (by decide) ?_
    refine g_ldc X (v := (99999 : Int32)) m_1102 dX4_person_13 ?_
    refine g_callS_i X (As := [.int x2, .int (0 : Int32), .int (99999 : Int32)]) (st := [va_rf (some a0)]) (n := 3) (c_X4_in hst h) m_1099 m_1100 m_34 m_1101 (by decide +kernel) (by decide +kernel) rfl rfl (by simp [cat_int, rf_cat]) ⟨(by decide +kernel), (by decide +kernel)⟩ dX4_person_15 (fun v29 w28 h => ?_)
    refine g_widen (c2 := (0)) (s2 := (0)) (by decide +kernel) (by decide +kernel) ?_
    refine g_if_ne X (tgt := 25) dX4_person_18 (by decide) (fun hc => ?_) (fun hc => ?_)
    · replace h := h.1 hc; clear hc
      refine g_aload_n X dX4_person_25 rfl 0 rfl ?_
      have hk := h.1
      replace h := h.2
      refine gg_501 X hk m_997 dX4_person_26 (fun v30 hv => ?_)
      replace h := h v30 hv; clear hv hk
      refine g_bipush X (v := (16 : Int32)) dX4_person_29 (by decide) ?_
      refine g_icmp_ne X (tgt := 38) dX4_person_31 (by decide) (fun hc => ?_) (fun hc => ?_)
      · replace h := h.1 hc; clear hc
        refine g_iconst X (v := (0 : Int32)) dX4_person_38 (by decide) ?_
        exact g_sub [0, 1, 2] [(0, .inr (some a0)), (1, .inl x1), (2, .inl x2)] rfl (jp3 (some a0) (0 : Int32) w28 h)
      · replace h := h.2 hc; clear hc
        refine g_iconst X (v := (2 : Int32)) dX4_person_34 (by decide) ?_
        refine g_goto X (tgt := 39) dX4_person_35 (by decide) ?_
        exact g_sub [0, 1, 2] [(0, .inr (some a0)), (1, .inl x1), (2, .inl x2)] rfl (jp3 (some a0) (2 : Int32) w28 h)
    · replace h := h.2 hc; clear hc
      exact g_sub [0, 1, 2] [(0, .inr (some a0)), (1, .inl x1), (2, .inl x2)] rfl (jp25 (some a0) w28 h)

abbrev rm_X4_earn : Room := { frames := 8, cells := 0, slots := 0, locals := 143 }
def wp_X4_earn (a0 : Nat) (x1 : Int32) (x2 : Int32) (w : Wd) (Q : Int32 → Wd → Prop) : Prop :=
  w.K a0 = 5 ∧
  wp_X4_isOne a0 x1 w (fun v2 w1 => 
  (¬ v2 = 0 → w1.K a0 = 5 ∧
  ∀ z3 : Option Nat, z3 = w1.R 512 a0 →
  ∃ a4, z3 = some a4 ∧ w1.K a4 = 12 ∧
  ∃ j5 : Nat, x1 = nI j5 ∧ j5 < w1.N a4 ∧ w1.N a4 < 2 ^ 31 ∧
  ∀ v6 : Int32, v6 = w1.A a4 j5 →
  ∃ J7 : Int32 → Prop, (∀ (y8 : Int32), J7 y8 →
  wp_X4_in x2 (-10000 : Int32) (10000 : Int32) w1 (fun v10 w9 => 
  ∃ J11 : Option Nat → Int32 → Prop, (∀ (q12 : Option Nat) (y13 : Int32), J11 q12 y13 →
  ∃ a14, q12 = some a14 ∧ w9.K a14 = 5 ∧
  ∀ w15 : Wd, w15 = w9.setI 500 a14 y13 →
  w15.K a0 = 5 ∧
  ∀ v16 : Int32, v16 = w15.I 500 a0 →
  (v16 = 0 → w15.K a0 = 5 ∧
  ∀ z17 : Option Nat, z17 = w15.R 504 a0 →
  ∃ a18, z17 = some a18 ∧ w15.K a18 = 11 ∧
  ∃ j19 : Nat, x1 = nI j19 ∧ j19 < w15.N a18 ∧ w15.N a18 < 2 ^ 31 ∧
  ∀ v20 : Int32, v20 = w15.A a18 j19 →
  ∀ v21 : Int32, v21 = v20 + x2 →
  w15.K a18 = 11 ∧
  ∃ j22 : Nat, x1 = nI j22 ∧ j22 < w15.N a18 ∧ w15.N a18 < 2 ^ 31 ∧
  ∀ w23 : Wd, w23 = w15.setA a18 j22 v21 →
  w23.K a0 = 5 ∧
  ∀ v24 : Int32, v24 = w23.I 529 a0 →
  ∀ v25 : Int32, v25 = v24 + x2 →
  w23.K a0 = 5 ∧
  ∀ w26 : Wd, w26 = w23.setI 529 a0 v25 →
  w26.K a0 = 5 ∧
  ∀ z27 : Option Nat, z27 = w26.R 504 a0 →
  ∃ a28, z27 = some a28 ∧ w26.K a28 = 11 ∧
  ∃ j29 : Nat, x1 = nI j29 ∧ j29 < w26.N a28 ∧ w26.N a28 < 2 ^ 31 ∧
  ∀ v30 : Int32, v30 = w26.A a28 j29 →
  Q v30 w26) ∧ (¬ v16 = 0 → Q (0 : Int32) w15)) ∧
  (¬ v10 = 0 → (¬ y8 = 0 → J11 (some a0) (0 : Int32)) ∧ (y8 = 0 → J11 (some a0) (3 : Int32))) ∧ (v10 = 0 → J11 (some a0) (2 : Int32)))) ∧
  ∃ J31 : Prop, (J31 →
  J7 (0 : Int32)) ∧
  (¬ v6 = 0 → J31) ∧ (v6 = 0 → w1.K a0 = 5 ∧
  ∀ z32 : Option Nat, z32 = w1.R 504 a0 →
  ∃ a33, z32 = some a33 ∧ w1.K a33 = 11 ∧
  ∃ j34 : Nat, x1 = nI j34 ∧ j34 < w1.N a33 ∧ w1.N a33 < 2 ^ 31 ∧
  ∀ v35 : Int32, v35 = w1.A a33 j34 →
  ∀ v36 : Int32, v36 = v35 + x2 →
  (v36 < 0 → J31) ∧ (¬ v36 < 0 → w1.K a0 = 5 ∧
  ∀ z37 : Option Nat, z37 = w1.R 504 a0 →
  ∃ a38, z37 = some a38 ∧ w1.K a38 = 11 ∧
  ∃ j39 : Nat, x1 = nI j39 ∧ j39 < w1.N a38 ∧ w1.N a38 < 2 ^ 31 ∧
  ∀ v40 : Int32, v40 = w1.A a38 j39 →
  ∀ v41 : Int32, v41 = v40 + x2 →
  ((10000000 : Int32) < v41 → J31) ∧ (¬ (10000000 : Int32) < v41 → J7 (1 : Int32))))) ∧ (v2 = 0 → w1.K a0 = 5 ∧
  ∀ w42 : Wd, w42 = w1.setI 500 a0 (1 : Int32) →
  Q (0 : Int32) w42))
set_option maxHeartbeats 4000000 in
set_option maxRecDepth 100000 in
theorem c_X4_earn {l : Launch} {G : GT} {L0 : Nat} (hst : l.stackTraces = false) {a0 : Nat} {x1 : Int32} {x2 : Int32} {w : Wd} {Q : Int32 → Wd → Prop} (h : wp_X4_earn a0 x1 x2 w Q) : GMi l G L0 yX4_earn cX4_earn 4 (some .int) rm_X4_earn [.ref a0, .int x1, .int x2] w Q := by
  refine g_enter hst (by decide +kernel) [.inr (some a0), .inl x1, .inl x2] rfl (show 3 ≤ 4 by decide) ?_
  intro p e s m args below meth c X hr hnm
  replace X : GC l G L0 p s m args meth c cX4_earn 4 "SusuRingModel" := X
  refine g_aload_n X dX4_earn_0 rfl 0 rfl ?_
  refine g_iload_n X dX4_earn_1 rfl 1 rfl ?_
  have hk := h.1
  replace h := h.2
  refine g_callV_i X (As := [.int x1]) (st := []) (n := 1) (c_X4_isOne hst h) rfl (by decide) hk (wE_5 G w a0) m_1107 m_1109 m_15 m_34 m_1110 (by decide +kernel) (by decide +kernel) rfl rfl (Nat.zero_le _) ⟨(by decide +kernel), (by decide +kernel)⟩ dX4_earn_2 (fun v2 w1 h => ?_)
  clear hk
  refine g_widen (c2 := (0)) (s2 := (0)) (by decide +kernel) (by decide +kernel) ?_
  refine g_if_ne X (tgt := 15) dX4_earn_5 (by decide) (fun hc => ?_) (fun hc => ?_)
  · replace h := h.1 hc; clear hc
    refine g_aload_n X dX4_earn_15 rfl 0 rfl ?_
    have hk := h.1
    replace h := h.2
    refine gg_512 X hk m_1008 dX4_earn_16 (fun z3 hv => ?_)
    replace h := h z3 hv; clear hv hk
    refine g_iload_n X dX4_earn_19 rfl 1 rfl ?_
    obtain ⟨a4, rfl, hk, h⟩ := h
    obtain ⟨j5, hi, hj, hN, h⟩ := h
    refine g_zald X hk hi hj hN dX4_earn_20 (fun v6 hv => ?_)
    replace h := h v6 hv; clear hv hk hi hj hN
    obtain ⟨J7, hjJ7, h⟩ := h
    have jp7 : ∀ (y8 : Int32), J7 y8 → Gw l G L0 p e rm_X4_earn s m args below meth c 4 (0) (0) (MQ below (gQi G L0 Q) args s rm_X4_earn.cells rm_X4_earn.slots (GA L0)) w1 53 [(0, .inr (some a0)), (1, .inl x1), (2, .inl x2)] [.int y8] := by
      intro y8 hJ
      have h := hjJ7 y8 hJ
      clear hJ
      refine g_istore_n X [(3, .inl y8), (0, .inr (some a0)), (1, .inl x1), (2, .inl x2)] dX4_earn_53 rfl (by decide) rfl ?_
      refine g_aload_n X dX4_earn_54 rfl 1 rfl ?_
      refine g_iload_n X dX4_earn_55 rfl 3 rfl ?_
      refine g_sipush X (v := (-10000 : Int32)) dX4_earn_56 (by decide) ?_
      refine g_sipush X (v := (10000 : Int32)) dX4_earn_59 (by decide) ?_
      refine g_callS_i X (As := [.int x2, .int (-10000 : Int32), .int (10000 : Int32)]) (st := [va_rf (some a0)]) (n := 3) (c_X4_in hst h) m_1099 m_1100 m_34 m_1101 (by decide +kernel) (by decide +kernel) rfl rfl (by simp [cat_int, rf_cat]) ⟨(by decide +kernel), (by decide +kernel)⟩ dX4_earn_62 (fun v10 w9 h => ?_)
      refine g_widen (c2 := (0)) (s2 := (0)) (by decide +kernel) (by decide +kernel) ?_
      obtain ⟨J11, hjJ11, h⟩ := h
      have jp11 : ∀ (q12 : Option Nat) (y13 : Int32), J11 q12 y13 → Gw l G L0 p e rm_X4_earn s m args below meth c 4 (0) (0) (MQ below (gQi G L0 Q) args s rm_X4_earn.cells rm_X4_earn.slots (GA L0)) w9 81 [(0, .inr (some a0)), (1, .inl x1), (2, .inl x2)] [.int y13, va_rf q12] := by
        intro q12 y13 hJ
        have h := hjJ11 q12 y13 hJ
        clear hJ
        obtain ⟨a14, rfl, hk, h⟩ := h
        refine gp_500 X hk m_996 dX4_earn_81 (fun w15 hv => ?_)
        replace h := h w15 hv; clear hv hk
        refine g_aload_n X dX4_earn_84 rfl 0 rfl ?_
        have hk := h.1
        replace h := h.2
        refine gg_500 X hk m_996 dX4_earn_85 (fun v16 hv => ?_)
        replace h := h v16 hv; clear hv hk
        refine g_if_eq X (tgt := 93) dX4_earn_88 (by decide) (fun hc => ?_) (fun hc => ?_)
        · replace h := h.1 hc; clear hc
          refine g_aload_n X dX4_earn_93 rfl 0 rfl ?_
          have hk := h.1
          replace h := h.2
          refine gg_504 X hk m_1000 dX4_earn_94 (fun z17 hv => ?_)
          replace h := h z17 hv; clear hv hk
          refine g_iload_n X dX4_earn_97 rfl 1 rfl ?_
          refine g_dup2 X dX4_earn_98 rfl rf_cat ?_
          obtain ⟨a18, rfl, hk, h⟩ := h
          obtain ⟨j19, hi, hj, hN, h⟩ := h
          refine g_iald X hk hi hj hN dX4_earn_99 (fun v20 hv => ?_)
          replace h := h v20 hv; clear hv hk hi hj hN
          refine g_iload_n X dX4_earn_100 rfl 2 rfl ?_
          refine g_iadd X dX4_earn_101 (fun v21 hv => ?_)
          replace h := h v21 hv; clear hv
          have hk := h.1
          replace h := h.2
          obtain ⟨j22, hi, hj, hN, h⟩ := h
          refine g_iast X hk hi hj hN dX4_earn_102 (fun w23 hv => ?_)
          replace h := h w23 hv; clear hv hk hi hj hN
          refine g_aload_n X dX4_earn_103 rfl 0 rfl ?_
          refine g_dup X dX4_earn_104 rf_cat ?_
          have hk := h.1
          replace h := h.2
          refine gg_529 X hk m_1025 dX4_earn_105 (fun v24 hv => ?_)
          replace h := h v24 hv; clear hv hk
          refine g_iload_n X dX4_earn_108 rfl 2 rfl ?_
          refine g_iadd X dX4_earn_109 (fun v25 hv => ?_)
          replace h := h v25 hv; clear hv
          have hk := h.1
          replace h := h.2
          refine gp_529 X hk m_1025 dX4_earn_110 (fun w26 hv => ?_)
          replace h := h w26 hv; clear hv hk
          refine g_aload_n X dX4_earn_113 rfl 0 rfl ?_
          have hk := h.1
          replace h := h.2
          refine gg_504 X hk m_1000 dX4_earn_114 (fun z27 hv => ?_)
          replace h := h z27 hv; clear hv hk
          refine g_iload_n X dX4_earn_117 rfl 1 rfl ?_
          obtain ⟨a28, rfl, hk, h⟩ := h
          obtain ⟨j29, hi, hj, hN, h⟩ := h
          refine g_iald X hk hi hj hN dX4_earn_118 (fun v30 hv => ?_)
          replace h := h v30 hv; clear hv hk hi hj hN
          exact g_iret X hr (by decide +kernel) (by decide +kernel) dX4_earn_119 h
        · replace h := h.2 hc; clear hc
          refine g_iconst X (v := (0 : Int32)) dX4_earn_91 (by decide) ?_
          exact g_iret X hr (by decide +kernel) (by decide +kernel) dX4_earn_92 h
      refine g_if_ne X (tgt := 72) dX4_earn_65 (by decide) (fun hc => ?_) (fun hc => ?_)
      · replace h := h.1 hc; clear hc
        refine g_iload_n X dX4_earn_72 rfl 0 rfl ?_
        refine g_if_ne X (tgt := 80) dX4_earn_73 (by decide) (fun hc => ?_) (fun hc => ?_)
        · replace h := h.1 hc; clear hc
          refine g_iconst X (v := (0 : Int32)) dX4_earn_80 (by decide) ?_
          exact g_sub [1, 2, 3] [(0, .inr (some a0)), (1, .inl x1), (2, .inl x2)] rfl (jp11 (some a0) (0 : Int32) h)
        · replace h := h.2 hc; clear hc
          refine g_iconst X (v := (3 : Int32)) dX4_earn_76 (by decide) ?_
          refine g_goto X (tgt := 81) dX4_earn_77 (by decide) ?_
          exact g_sub [1, 2, 3] [(0, .inr (some a0)), (1, .inl x1), (2, .inl x2)] rfl (jp11 (some a0) (3 : Int32) h)
      · replace h := h.2 hc; clear hc
        refine g_iconst X (v := (2 : Int32)) dX4_earn_68 (by decide) ?_
        refine g_goto X (tgt := 81) dX4_earn_69 (by decide) ?_
        exact g_sub [1, 2, 3] [(0, .inr (some a0)), (1, .inl x1), (2, .inl x2)] rfl (jp11 (some a0) (2 : Int32) h)
    obtain ⟨J31, hjJ31, h⟩ := h
    have jp31 : J31 → Gw l G L0 p e rm_X4_earn s m args below meth c 4 (0) (0) (MQ below (gQi G L0 Q) args s rm_X4_earn.cells rm_X4_earn.slots (GA L0)) w1 52 [(0, .inr (some a0)), (1, .inl x1), (2, .inl x2)] [] := by
      intro hJ
      have h := hjJ31 hJ
      clear hJ
      refine g_iconst X (v := (0 : Int32)) dX4_earn_52 (by decide) ?_
      exact g_sub [0, 1, 2] [(0, .inr (some a0)), (1, .inl x1), (2, .inl x2)] rfl (jp7 (0 : Int32) h)
    refine g_if_ne X (tgt := 52) dX4_earn_21 (by decide) (fun hc => ?_) (fun hc => ?_)
    · replace h := h.1 hc; clear hc
      exact g_sub [0, 1, 2] [(0, .inr (some a0)), (1, .inl x1), (2, .inl x2)] rfl (jp31  h)
    · replace h := h.2 hc; clear hc
      refine g_aload_n X dX4_earn_24 rfl 0 rfl ?_
      have hk := h.1
      replace h := h.2
      refine gg_504 X hk m_1000 dX4_earn_25 (fun z32 hv => ?_)
      replace h := h z32 hv; clear hv hk
      refine g_iload_n X dX4_earn_28 rfl 1 rfl ?_
      obtain ⟨a33, rfl, hk, h⟩ := h
      obtain ⟨j34, hi, hj, hN, h⟩ := h
      refine g_iald X hk hi hj hN dX4_earn_29 (fun v35 hv => ?_)
      replace h := h v35 hv; clear hv hk hi hj hN
      refine g_iload_n X dX4_earn_30 rfl 2 rfl ?_
      refine g_iadd X dX4_earn_31 (fun v36 hv => ?_)
      replace h := h v36 hv; clear hv
      refine g_if_lt X (tgt := 52) dX4_earn_32 (by decide) (fun hc => ?_) (fun hc => ?_)
      · replace h := h.1 hc; clear hc
        exact g_sub [0, 1, 2] [(0, .inr (some a0)), (1, .inl x1), (2, .inl x2)] rfl (jp31  h)
      · replace h := h.2 hc; clear hc
        refine g_aload_n X dX4_earn_35 rfl 0 rfl ?_
        have hk := h.1
        replace h := h.2
        refine gg_504 X hk m_1000 dX4_earn_36 (fun z37 hv => ?_)
        replace h := h z37 hv; clear hv hk
        refine g_iload_n X dX4_earn_39 rfl 1 rfl ?_
        obtain ⟨a38, rfl, hk, h⟩ := h
        obtain ⟨j39, hi, hj, hN, h⟩ := h
        refine g_iald X hk hi hj hN dX4_earn_40 (fun v40 hv => ?_)
        replace h := h v40 hv; clear hv hk hi hj hN
        refine g_iload_n X dX4_earn_41 rfl 2 rfl ?_
        refine g_iadd X dX4_earn_42 (fun v41 hv => ?_)
        replace h := h v41 hv; clear hv
        refine g_ldc X (v := (10000000 : Int32)) m_1111 dX4_earn_43 ?_
        refine g_icmp_gt X (tgt := 52) dX4_earn_45 (by decide) (fun hc => ?_) (fun hc => ?_)
        · replace h := h.1 hc; clear hc
          exact g_sub [0, 1, 2] [(0, .inr (some a0)), (1, .inl x1), (2, .inl x2)] rfl (jp31  h)
        · replace h := h.2 hc; clear hc
          refine g_iconst X (v := (1 : Int32)) dX4_earn_48 (by decide) ?_
          refine g_goto X (tgt := 53) dX4_earn_49 (by decide) ?_
          exact g_sub [0, 1, 2] [(0, .inr (some a0)), (1, .inl x1), (2, .inl x2)] rfl (jp7 (1 : Int32) h)
  · replace h := h.2 hc; clear hc
    refine g_aload_n X dX4_earn_8 rfl 0 rfl ?_
    refine g_iconst X (v := (1 : Int32)) dX4_earn_9 (by decide) ?_
    have hk := h.1
    replace h := h.2
    refine gp_500 X hk m_996 dX4_earn_10 (fun w42 hv => ?_)
    replace h := h w42 hv; clear hv hk
    refine g_iconst X (v := (0 : Int32)) dX4_earn_13 (by decide) ?_
    exact g_iret X hr (by decide +kernel) (by decide +kernel) dX4_earn_14 h

abbrev rm_X4_copies : Room := { frames := 6, cells := 0, slots := 0, locals := 100 }
def wp_X4_copies (a0 : Nat) (x1 : Int32) (x2 : Int32) (w : Wd) (Q : Wd → Prop) : Prop :=
  w.K a0 = 5 ∧
  ∀ z1 : Option Nat, z1 = w.R 521 a0 →
  w.K a0 = 5 ∧
  ∀ z2 : Option Nat, z2 = w.R 521 a0 →
  ∃ a3, z2 = some a3 ∧ w.K a3 = 11 ∧
  ∃ j4 : Nat, x2 = nI j4 ∧ j4 < w.N a3 ∧ w.N a3 < 2 ^ 31 ∧
  ∀ v5 : Int32, v5 = w.A a3 j4 →
  ∃ a6, z1 = some a6 ∧ w.K a6 = 11 ∧
  ∃ j7 : Nat, x1 = nI j7 ∧ j7 < w.N a6 ∧ w.N a6 < 2 ^ 31 ∧
  ∀ w8 : Wd, w8 = w.setA a6 j7 v5 →
  w8.K a0 = 5 ∧
  ∀ z9 : Option Nat, z9 = w8.R 522 a0 →
  w8.K a0 = 5 ∧
  ∀ z10 : Option Nat, z10 = w8.R 522 a0 →
  ∃ a11, z10 = some a11 ∧ w8.K a11 = 11 ∧
  ∃ j12 : Nat, x2 = nI j12 ∧ j12 < w8.N a11 ∧ w8.N a11 < 2 ^ 31 ∧
  ∀ v13 : Int32, v13 = w8.A a11 j12 →
  ∃ a14, z9 = some a14 ∧ w8.K a14 = 11 ∧
  ∃ j15 : Nat, x1 = nI j15 ∧ j15 < w8.N a14 ∧ w8.N a14 < 2 ^ 31 ∧
  ∀ w16 : Wd, w16 = w8.setA a14 j15 v13 →
  w16.K a0 = 5 ∧
  ∀ z17 : Option Nat, z17 = w16.R 523 a0 →
  w16.K a0 = 5 ∧
  ∀ z18 : Option Nat, z18 = w16.R 523 a0 →
  ∃ a19, z18 = some a19 ∧ w16.K a19 = 11 ∧
  ∃ j20 : Nat, x2 = nI j20 ∧ j20 < w16.N a19 ∧ w16.N a19 < 2 ^ 31 ∧
  ∀ v21 : Int32, v21 = w16.A a19 j20 →
  ∃ a22, z17 = some a22 ∧ w16.K a22 = 11 ∧
  ∃ j23 : Nat, x1 = nI j23 ∧ j23 < w16.N a22 ∧ w16.N a22 < 2 ^ 31 ∧
  ∀ w24 : Wd, w24 = w16.setA a22 j23 v21 →
  w24.K a0 = 5 ∧
  ∀ z25 : Option Nat, z25 = w24.R 524 a0 →
  w24.K a0 = 5 ∧
  ∀ z26 : Option Nat, z26 = w24.R 524 a0 →
  ∃ a27, z26 = some a27 ∧ w24.K a27 = 11 ∧
  ∃ j28 : Nat, x2 = nI j28 ∧ j28 < w24.N a27 ∧ w24.N a27 < 2 ^ 31 ∧
  ∀ v29 : Int32, v29 = w24.A a27 j28 →
  ∃ a30, z25 = some a30 ∧ w24.K a30 = 11 ∧
  ∃ j31 : Nat, x1 = nI j31 ∧ j31 < w24.N a30 ∧ w24.N a30 < 2 ^ 31 ∧
  ∀ w32 : Wd, w32 = w24.setA a30 j31 v29 →
  w32.K a0 = 5 ∧
  ∀ z33 : Option Nat, z33 = w32.R 525 a0 →
  w32.K a0 = 5 ∧
  ∀ z34 : Option Nat, z34 = w32.R 525 a0 →
  ∃ a35, z34 = some a35 ∧ w32.K a35 = 11 ∧
  ∃ j36 : Nat, x2 = nI j36 ∧ j36 < w32.N a35 ∧ w32.N a35 < 2 ^ 31 ∧
  ∀ v37 : Int32, v37 = w32.A a35 j36 →
  ∃ a38, z33 = some a38 ∧ w32.K a38 = 11 ∧
  ∃ j39 : Nat, x1 = nI j39 ∧ j39 < w32.N a38 ∧ w32.N a38 < 2 ^ 31 ∧
  ∀ w40 : Wd, w40 = w32.setA a38 j39 v37 →
  w40.K a0 = 5 ∧
  ∀ z41 : Option Nat, z41 = w40.R 526 a0 →
  w40.K a0 = 5 ∧
  ∀ z42 : Option Nat, z42 = w40.R 526 a0 →
  ∃ a43, z42 = some a43 ∧ w40.K a43 = 11 ∧
  ∃ j44 : Nat, x2 = nI j44 ∧ j44 < w40.N a43 ∧ w40.N a43 < 2 ^ 31 ∧
  ∀ v45 : Int32, v45 = w40.A a43 j44 →
  ∃ a46, z41 = some a46 ∧ w40.K a46 = 11 ∧
  ∃ j47 : Nat, x1 = nI j47 ∧ j47 < w40.N a46 ∧ w40.N a46 < 2 ^ 31 ∧
  ∀ w48 : Wd, w48 = w40.setA a46 j47 v45 →
  w48.K a0 = 5 ∧
  ∀ z49 : Option Nat, z49 = w48.R 527 a0 →
  w48.K a0 = 5 ∧
  ∀ z50 : Option Nat, z50 = w48.R 527 a0 →
  ∃ a51, z50 = some a51 ∧ w48.K a51 = 12 ∧
  ∃ j52 : Nat, x2 = nI j52 ∧ j52 < w48.N a51 ∧ w48.N a51 < 2 ^ 31 ∧
  ∀ v53 : Int32, v53 = w48.A a51 j52 →
  ∃ a54, z49 = some a54 ∧ w48.K a54 = 12 ∧
  ∃ j55 : Nat, x1 = nI j55 ∧ j55 < w48.N a54 ∧ w48.N a54 < 2 ^ 31 ∧
  ∀ w56 : Wd, w56 = w48.setA a54 j55 (vp_nar .boolean v53) →
  Q w56
set_option maxHeartbeats 4000000 in
set_option maxRecDepth 100000 in
theorem c_X4_copies {l : Launch} {G : GT} {L0 : Nat} (hst : l.stackTraces = false) {a0 : Nat} {x1 : Int32} {x2 : Int32} {w : Wd} {Q : Wd → Prop} (h : wp_X4_copies a0 x1 x2 w Q) : GMv l G L0 yX4_copies cX4_copies 3 none rm_X4_copies [.ref a0, .int x1, .int x2] w Q := by
  refine g_enter hst (by decide +kernel) [.inr (some a0), .inl x1, .inl x2] rfl (show 3 ≤ 3 by decide) ?_
  intro p e s m args below meth c X hr hnm
  replace X : GC l G L0 p s m args meth c cX4_copies 3 "SusuRingModel" := X
  refine g_aload_n X dX4_copies_0 rfl 0 rfl ?_
  have hk := h.1
  replace h := h.2
  refine gg_521 X hk m_1017 dX4_copies_1 (fun z1 hv => ?_)
  replace h := h z1 hv; clear hv hk
  refine g_iload_n X dX4_copies_4 rfl 1 rfl ?_
  refine g_aload_n X dX4_copies_5 rfl 0 rfl ?_
  have hk := h.1
  replace h := h.2
  refine gg_521 X hk m_1017 dX4_copies_6 (fun z2 hv => ?_)
  replace h := h z2 hv; clear hv hk
  refine g_iload_n X dX4_copies_9 rfl 2 rfl ?_
  obtain ⟨a3, rfl, hk, h⟩ := h
  obtain ⟨j4, hi, hj, hN, h⟩ := h
  refine g_iald X hk hi hj hN dX4_copies_10 (fun v5 hv => ?_)
  replace h := h v5 hv; clear hv hk hi hj hN
  obtain ⟨a6, rfl, hk, h⟩ := h
  obtain ⟨j7, hi, hj, hN, h⟩ := h
  refine g_iast X hk hi hj hN dX4_copies_11 (fun w8 hv => ?_)
  replace h := h w8 hv; clear hv hk hi hj hN
  refine g_aload_n X dX4_copies_12 rfl 0 rfl ?_
  have hk := h.1
  replace h := h.2
  refine gg_522 X hk m_1018 dX4_copies_13 (fun z9 hv => ?_)
  replace h := h z9 hv; clear hv hk
  refine g_iload_n X dX4_copies_16 rfl 1 rfl ?_
  refine g_aload_n X dX4_copies_17 rfl 0 rfl ?_
  have hk := h.1
  replace h := h.2
  refine gg_522 X hk m_1018 dX4_copies_18 (fun z10 hv => ?_)
  replace h := h z10 hv; clear hv hk
  refine g_iload_n X dX4_copies_21 rfl 2 rfl ?_
  obtain ⟨a11, rfl, hk, h⟩ := h
  obtain ⟨j12, hi, hj, hN, h⟩ := h
  refine g_iald X hk hi hj hN dX4_copies_22 (fun v13 hv => ?_)
  replace h := h v13 hv; clear hv hk hi hj hN
  obtain ⟨a14, rfl, hk, h⟩ := h
  obtain ⟨j15, hi, hj, hN, h⟩ := h
  refine g_iast X hk hi hj hN dX4_copies_23 (fun w16 hv => ?_)
  replace h := h w16 hv; clear hv hk hi hj hN
  refine g_aload_n X dX4_copies_24 rfl 0 rfl ?_
  have hk := h.1
  replace h := h.2
  refine gg_523 X hk m_1019 dX4_copies_25 (fun z17 hv => ?_)
  replace h := h z17 hv; clear hv hk
  refine g_iload_n X dX4_copies_28 rfl 1 rfl ?_
  refine g_aload_n X dX4_copies_29 rfl 0 rfl ?_
  have hk := h.1
  replace h := h.2
  refine gg_523 X hk m_1019 dX4_copies_30 (fun z18 hv => ?_)
  replace h := h z18 hv; clear hv hk
  refine g_iload_n X dX4_copies_33 rfl 2 rfl ?_
  obtain ⟨a19, rfl, hk, h⟩ := h
  obtain ⟨j20, hi, hj, hN, h⟩ := h
  refine g_iald X hk hi hj hN dX4_copies_34 (fun v21 hv => ?_)
  replace h := h v21 hv; clear hv hk hi hj hN
  obtain ⟨a22, rfl, hk, h⟩ := h
  obtain ⟨j23, hi, hj, hN, h⟩ := h
  refine g_iast X hk hi hj hN dX4_copies_35 (fun w24 hv => ?_)
  replace h := h w24 hv; clear hv hk hi hj hN
  refine g_aload_n X dX4_copies_36 rfl 0 rfl ?_
  have hk := h.1
  replace h := h.2
  refine gg_524 X hk m_1020 dX4_copies_37 (fun z25 hv => ?_)
  replace h := h z25 hv; clear hv hk
  refine g_iload_n X dX4_copies_40 rfl 1 rfl ?_
  refine g_aload_n X dX4_copies_41 rfl 0 rfl ?_
  have hk := h.1
  replace h := h.2
  refine gg_524 X hk m_1020 dX4_copies_42 (fun z26 hv => ?_)
  replace h := h z26 hv; clear hv hk
  refine g_iload_n X dX4_copies_45 rfl 2 rfl ?_
  obtain ⟨a27, rfl, hk, h⟩ := h
  obtain ⟨j28, hi, hj, hN, h⟩ := h
  refine g_iald X hk hi hj hN dX4_copies_46 (fun v29 hv => ?_)
  replace h := h v29 hv; clear hv hk hi hj hN
  obtain ⟨a30, rfl, hk, h⟩ := h
  obtain ⟨j31, hi, hj, hN, h⟩ := h
  refine g_iast X hk hi hj hN dX4_copies_47 (fun w32 hv => ?_)
  replace h := h w32 hv; clear hv hk hi hj hN
  refine g_aload_n X dX4_copies_48 rfl 0 rfl ?_
  have hk := h.1
  replace h := h.2
  refine gg_525 X hk m_1021 dX4_copies_49 (fun z33 hv => ?_)
  replace h := h z33 hv; clear hv hk
  refine g_iload_n X dX4_copies_52 rfl 1 rfl ?_
  refine g_aload_n X dX4_copies_53 rfl 0 rfl ?_
  have hk := h.1
  replace h := h.2
  refine gg_525 X hk m_1021 dX4_copies_54 (fun z34 hv => ?_)
  replace h := h z34 hv; clear hv hk
  refine g_iload_n X dX4_copies_57 rfl 2 rfl ?_
  obtain ⟨a35, rfl, hk, h⟩ := h
  obtain ⟨j36, hi, hj, hN, h⟩ := h
  refine g_iald X hk hi hj hN dX4_copies_58 (fun v37 hv => ?_)
  replace h := h v37 hv; clear hv hk hi hj hN
  obtain ⟨a38, rfl, hk, h⟩ := h
  obtain ⟨j39, hi, hj, hN, h⟩ := h
  refine g_iast X hk hi hj hN dX4_copies_59 (fun w40 hv => ?_)
  replace h := h w40 hv; clear hv hk hi hj hN
  refine g_aload_n X dX4_copies_60 rfl 0 rfl ?_
  have hk := h.1
  replace h := h.2
  refine gg_526 X hk m_1022 dX4_copies_61 (fun z41 hv => ?_)
  replace h := h z41 hv; clear hv hk
  refine g_iload_n X dX4_copies_64 rfl 1 rfl ?_
  refine g_aload_n X dX4_copies_65 rfl 0 rfl ?_
  have hk := h.1
  replace h := h.2
  refine gg_526 X hk m_1022 dX4_copies_66 (fun z42 hv => ?_)
  replace h := h z42 hv; clear hv hk
  refine g_iload_n X dX4_copies_69 rfl 2 rfl ?_
  obtain ⟨a43, rfl, hk, h⟩ := h
  obtain ⟨j44, hi, hj, hN, h⟩ := h
  refine g_iald X hk hi hj hN dX4_copies_70 (fun v45 hv => ?_)
  replace h := h v45 hv; clear hv hk hi hj hN
  obtain ⟨a46, rfl, hk, h⟩ := h
  obtain ⟨j47, hi, hj, hN, h⟩ := h
  refine g_iast X hk hi hj hN dX4_copies_71 (fun w48 hv => ?_)
  replace h := h w48 hv; clear hv hk hi hj hN
  refine g_aload_n X dX4_copies_72 rfl 0 rfl ?_
  have hk := h.1
  replace h := h.2
  refine gg_527 X hk m_1023 dX4_copies_73 (fun z49 hv => ?_)
  replace h := h z49 hv; clear hv hk
  refine g_iload_n X dX4_copies_76 rfl 1 rfl ?_
  refine g_aload_n X dX4_copies_77 rfl 0 rfl ?_
  have hk := h.1
  replace h := h.2
  refine gg_527 X hk m_1023 dX4_copies_78 (fun z50 hv => ?_)
  replace h := h z50 hv; clear hv hk
  refine g_iload_n X dX4_copies_81 rfl 2 rfl ?_
  obtain ⟨a51, rfl, hk, h⟩ := h
  obtain ⟨j52, hi, hj, hN, h⟩ := h
  refine g_zald X hk hi hj hN dX4_copies_82 (fun v53 hv => ?_)
  replace h := h v53 hv; clear hv hk hi hj hN
  obtain ⟨a54, rfl, hk, h⟩ := h
  obtain ⟨j55, hi, hj, hN, h⟩ := h
  refine g_zast X hk hi hj hN dX4_copies_83 (fun w56 hv => ?_)
  replace h := h w56 hv; clear hv hk hi hj hN
  exact g_vret X hr (by decide +kernel) (by decide +kernel) dX4_copies_84 h

abbrev rm_X4_rounds : Room := { frames := 6, cells := 0, slots := 0, locals := 100 }
def wp_X4_rounds (a0 : Nat) (x1 : Int32) (w : Wd) (Q : Wd → Prop) : Prop :=
  w.K a0 = 5 ∧
  ∀ z1 : Option Nat, z1 = w.R 517 a0 →
  ∃ a2, z1 = some a2 ∧ w.K a2 = 11 ∧
  ∃ j3 : Nat, x1 = nI j3 ∧ j3 < w.N a2 ∧ w.N a2 < 2 ^ 31 ∧
  ∀ v4 : Int32, v4 = w.A a2 j3 →
  ∃ J5 : Int32 → Prop, (∀ (y6 : Int32), J5 y6 →
  ∃ Inv8 : Nat → Int32 → Int32 → Prop, (∃ n : Nat, Inv8 n y6 (0 : Int32)) ∧ ∀ (n7 : Nat) (y9 : Int32) (y10 : Int32), Inv8 n7 y9 y10 →
  w.K a0 = 5 ∧
  ∀ z11 : Option Nat, z11 = w.R 517 a0 →
  ∃ a12, z11 = some a12 ∧ w.K a12 = 11 ∧
  ∃ j13 : Nat, x1 = nI j13 ∧ j13 < w.N a12 ∧ w.N a12 < 2 ^ 31 ∧
  ∀ v14 : Int32, v14 = w.A a12 j13 →
  (v14 ≤ y10 → w.K a0 = 5 ∧
  ∀ z15 : Option Nat, z15 = w.R 519 a0 →
  ∃ a16, z15 = some a16 ∧ w.K a16 = 11 ∧
  ∃ j17 : Nat, x1 = nI j17 ∧ j17 < w.N a16 ∧ w.N a16 < 2 ^ 31 ∧
  ∀ v18 : Int32, v18 = w.A a16 j17 →
  ∃ J19 : Option Nat → Int32 → Int32 → Int32 → Prop, (∀ (q20 : Option Nat) (y21 : Int32) (y22 : Int32) (y23 : Int32), J19 q20 y21 y22 y23 →
  ∀ v24 : Int32, v24 = y22 + y23 →
  ∃ a25, q20 = some a25 ∧ w.K a25 = 11 ∧
  ∃ j26 : Nat, y21 = nI j26 ∧ j26 < w.N a25 ∧ w.N a25 < 2 ^ 31 ∧
  ∀ w27 : Wd, w27 = w.setA a25 j26 v24 →
  ∃ Inv29 : Nat → Int32 → Wd → Prop, (∃ n : Nat, Inv29 n (0 : Int32) w27) ∧ ∀ (n28 : Nat) (y30 : Int32) (w31 : Wd), Inv29 n28 y30 w31 →
  w31.K a0 = 5 ∧
  ∀ z32 : Option Nat, z32 = w31.R 517 a0 →
  ∃ a33, z32 = some a33 ∧ w31.K a33 = 11 ∧
  ∃ j34 : Nat, x1 = nI j34 ∧ j34 < w31.N a33 ∧ w31.N a33 < 2 ^ 31 ∧
  ∀ v35 : Int32, v35 = w31.A a33 j34 →
  ∃ J36 : Prop, (J36 →
  Q w31) ∧
  (v35 ≤ y30 → J36) ∧ (¬ v35 ≤ y30 → (y9 = 0 → J36) ∧ (¬ y9 = 0 → w31.K a0 = 5 ∧
  ∀ z37 : Option Nat, z37 = w31.R 527 a0 →
  ∀ v38 : Int32, v38 = (10 : Int32) * x1 →
  ∀ v39 : Int32, v39 = v38 + y30 →
  ∃ a40, z37 = some a40 ∧ w31.K a40 = 12 ∧
  ∃ j41 : Nat, v39 = nI j41 ∧ j41 < w31.N a40 ∧ w31.N a40 < 2 ^ 31 ∧
  ∀ w42 : Wd, w42 = w31.setA a40 j41 (vp_nar .boolean (0 : Int32)) →
  w42.K a0 = 5 ∧
  ∀ z43 : Option Nat, z43 = w42.R 525 a0 →
  ∀ v44 : Int32, v44 = (10 : Int32) * x1 →
  ∀ v45 : Int32, v45 = v44 + y30 →
  ∃ a46, z43 = some a46 ∧ w42.K a46 = 11 ∧
  ∃ j47 : Nat, v45 = nI j47 ∧ j47 < w42.N a46 ∧ w42.N a46 < 2 ^ 31 ∧
  ∀ w48 : Wd, w48 = w42.setA a46 j47 (0 : Int32) →
  ∀ v49 : Int32, v49 = y30 + (1 : Int32) →
  ∃ n : Nat, n < n28 ∧ Inv29 n v49 w48))) ∧
  (y9 = 0 → J19 (some a16) x1 v18 (0 : Int32)) ∧ (¬ y9 = 0 → J19 (some a16) x1 v18 (1 : Int32))) ∧ (¬ v14 ≤ y10 → ∃ J50 : Int32 → Prop, (∀ (y51 : Int32), J50 y51 →
  ∀ v52 : Int32, v52 = y10 + (1 : Int32) →
  ∃ n : Nat, n < n7 ∧ Inv8 n y51 v52) ∧
  ∃ J53 : Prop, (J53 →
  J50 (0 : Int32)) ∧
  (y9 = 0 → J53) ∧ (¬ y9 = 0 → w.K a0 = 5 ∧
  ∀ z54 : Option Nat, z54 = w.R 527 a0 →
  ∀ v55 : Int32, v55 = (10 : Int32) * x1 →
  ∀ v56 : Int32, v56 = v55 + y10 →
  ∃ a57, z54 = some a57 ∧ w.K a57 = 12 ∧
  ∃ j58 : Nat, v56 = nI j58 ∧ j58 < w.N a57 ∧ w.N a57 < 2 ^ 31 ∧
  ∀ v59 : Int32, v59 = w.A a57 j58 →
  (v59 = 0 → J53) ∧ (¬ v59 = 0 → J50 (1 : Int32))))) ∧
  (v4 ≤ 0 → J5 (0 : Int32)) ∧ (¬ v4 ≤ 0 → J5 (1 : Int32))
set_option maxHeartbeats 4000000 in
set_option maxRecDepth 100000 in
theorem c_X4_rounds {l : Launch} {G : GT} {L0 : Nat} (hst : l.stackTraces = false) {a0 : Nat} {x1 : Int32} {w : Wd} {Q : Wd → Prop} (h : wp_X4_rounds a0 x1 w Q) : GMv l G L0 yX4_rounds cX4_rounds 4 none rm_X4_rounds [.ref a0, .int x1] w Q := by
  refine g_enter hst (by decide +kernel) [.inr (some a0), .inl x1] rfl (show 2 ≤ 4 by decide) ?_
  intro p e s m args below meth c X hr hnm
  replace X : GC l G L0 p s m args meth c cX4_rounds 4 "SusuRingModel" := X
  refine g_aload_n X dX4_rounds_0 rfl 0 rfl ?_
  have hk := h.1
  replace h := h.2
  refine gg_517 X hk m_1013 dX4_rounds_1 (fun z1 hv => ?_)
  replace h := h z1 hv; clear hv hk
  refine g_iload_n X dX4_rounds_4 rfl 1 rfl ?_
  obtain ⟨a2, rfl, hk, h⟩ := h
  obtain ⟨j3, hi, hj, hN, h⟩ := h
  refine g_iald X hk hi hj hN dX4_rounds_5 (fun v4 hv => ?_)
  replace h := h v4 hv; clear hv hk hi hj hN
  obtain ⟨J5, hjJ5, h⟩ := h
  have jp5 : ∀ (y6 : Int32), J5 y6 → Gw l G L0 p e rm_X4_rounds s m args below meth c 4 (0) (0) (MQ below (gQv G L0 Q) args s rm_X4_rounds.cells rm_X4_rounds.slots (GA L0)) w 14 [(0, .inr (some a0)), (1, .inl x1)] [.int y6] := by
    intro y6 hJ
    have h := hjJ5 y6 hJ
    clear hJ
    refine g_istore_n X [(2, .inl y6), (0, .inr (some a0)), (1, .inl x1)] dX4_rounds_14 rfl (by decide) rfl ?_
    refine g_iconst X (v := (0 : Int32)) dX4_rounds_15 (by decide) ?_
    refine g_istore_n X [(3, .inl (0 : Int32)), (2, .inl y6), (0, .inr (some a0)), (1, .inl x1)] dX4_rounds_16 rfl (by decide) rfl ?_
    obtain ⟨Inv8, ⟨n0, hi⟩, hsn7⟩ := h
    have lp8 : ∀ (n7 : Nat), ∀ (y9 : Int32) (y10 : Int32), Inv8 n7 y9 y10 → Gw l G L0 p e rm_X4_rounds s m args below meth c 4 (0) (0) (MQ below (gQv G L0 Q) args s rm_X4_rounds.cells rm_X4_rounds.slots (GA L0)) w 17 [(0, .inr (some a0)), (1, .inl x1), (2, .inl y9), (3, .inl y10)] [] := by
      intro n7
      induction n7 using Nat.strongRecOn with
      | ind n7 ihn7 =>
        intro y9 y10 hI
        have h := hsn7 n7 y9 y10 hI
        clear hI
        refine g_iload_n X dX4_rounds_17 rfl 3 rfl ?_
        refine g_aload_n X dX4_rounds_18 rfl 0 rfl ?_
        have hk := h.1
        replace h := h.2
        refine gg_517 X hk m_1013 dX4_rounds_19 (fun z11 hv => ?_)
        replace h := h z11 hv; clear hv hk
        refine g_iload_n X dX4_rounds_22 rfl 1 rfl ?_
        obtain ⟨a12, rfl, hk, h⟩ := h
        obtain ⟨j13, hi, hj, hN, h⟩ := h
        refine g_iald X hk hi hj hN dX4_rounds_23 (fun v14 hv => ?_)
        replace h := h v14 hv; clear hv hk hi hj hN
        refine g_icmp_ge X (tgt := 57) dX4_rounds_24 (by decide) (fun hc => ?_) (fun hc => ?_)
        · replace h := h.1 hc; clear hc
          refine g_aload_n X dX4_rounds_57 rfl 0 rfl ?_
          have hk := h.1
          replace h := h.2
          refine gg_519 X hk m_1015 dX4_rounds_58 (fun z15 hv => ?_)
          replace h := h z15 hv; clear hv hk
          refine g_iload_n X dX4_rounds_61 rfl 1 rfl ?_
          refine g_dup2 X dX4_rounds_62 rfl rf_cat ?_
          obtain ⟨a16, rfl, hk, h⟩ := h
          obtain ⟨j17, hi, hj, hN, h⟩ := h
          refine g_iald X hk hi hj hN dX4_rounds_63 (fun v18 hv => ?_)
          replace h := h v18 hv; clear hv hk hi hj hN
          refine g_iload_n X dX4_rounds_64 rfl 2 rfl ?_
          obtain ⟨J19, hjJ19, h⟩ := h
          have jp19 : ∀ (q20 : Option Nat) (y21 : Int32) (y22 : Int32) (y23 : Int32), J19 q20 y21 y22 y23 → Gw l G L0 p e rm_X4_rounds s m args below meth c 4 (0) (0) (MQ below (gQv G L0 Q) args s rm_X4_rounds.cells rm_X4_rounds.slots (GA L0)) w 73 [(0, .inr (some a0)), (1, .inl x1), (2, .inl y9)] [.int y23, .int y22, .int y21, va_rf q20] := by
            intro q20 y21 y22 y23 hJ
            have h := hjJ19 q20 y21 y22 y23 hJ
            clear hJ
            refine g_iadd X dX4_rounds_73 (fun v24 hv => ?_)
            replace h := h v24 hv; clear hv
            obtain ⟨a25, rfl, hk, h⟩ := h
            obtain ⟨j26, hi, hj, hN, h⟩ := h
            refine g_iast X hk hi hj hN dX4_rounds_74 (fun w27 hv => ?_)
            replace h := h w27 hv; clear hv hk hi hj hN
            refine g_iconst X (v := (0 : Int32)) dX4_rounds_75 (by decide) ?_
            refine g_istore_n X [(3, .inl (0 : Int32)), (0, .inr (some a0)), (1, .inl x1), (2, .inl y9)] dX4_rounds_76 rfl (by decide) rfl ?_
            obtain ⟨Inv29, ⟨n0, hi⟩, hsn28⟩ := h
            have lp29 : ∀ (n28 : Nat), ∀ (y30 : Int32) (w31 : Wd), Inv29 n28 y30 w31 → Gw l G L0 p e rm_X4_rounds s m args below meth c 4 (0) (0) (MQ below (gQv G L0 Q) args s rm_X4_rounds.cells rm_X4_rounds.slots (GA L0)) w31 77 [(0, .inr (some a0)), (1, .inl x1), (2, .inl y9), (3, .inl y30)] [] := by
              intro n28
              induction n28 using Nat.strongRecOn with
              | ind n28 ihn28 =>
                intro y30 w31 hI
                have h := hsn28 n28 y30 w31 hI
                clear hI
                refine g_iload_n X dX4_rounds_77 rfl 3 rfl ?_
                refine g_aload_n X dX4_rounds_78 rfl 0 rfl ?_
                have hk := h.1
                replace h := h.2
                refine gg_517 X hk m_1013 dX4_rounds_79 (fun z32 hv => ?_)
                replace h := h z32 hv; clear hv hk
                refine g_iload_n X dX4_rounds_82 rfl 1 rfl ?_
                obtain ⟨a33, rfl, hk, h⟩ := h
                obtain ⟨j34, hi, hj, hN, h⟩ := h
                refine g_iald X hk hi hj hN dX4_rounds_83 (fun v35 hv => ?_)
                replace h := h v35 hv; clear hv hk hi hj hN
                obtain ⟨J36, hjJ36, h⟩ := h
                have jp36 : J36 → Gw l G L0 p e rm_X4_rounds s m args below meth c 4 (0) (0) (MQ below (gQv G L0 Q) args s rm_X4_rounds.cells rm_X4_rounds.slots (GA L0)) w31 121 [] [] := by
                  intro hJ
                  have h := hjJ36 hJ
                  clear hJ
                  exact g_vret X hr (by decide +kernel) (by decide +kernel) dX4_rounds_121 h
                refine g_icmp_ge X (tgt := 121) dX4_rounds_84 (by decide) (fun hc => ?_) (fun hc => ?_)
                · replace h := h.1 hc; clear hc
                  exact g_sub [] [] rfl (jp36  h)
                · replace h := h.2 hc; clear hc
                  refine g_iload_n X dX4_rounds_87 rfl 2 rfl ?_
                  refine g_if_eq X (tgt := 121) dX4_rounds_88 (by decide) (fun hc => ?_) (fun hc => ?_)
                  · replace h := h.1 hc; clear hc
                    exact g_sub [] [] rfl (jp36  h)
                  · replace h := h.2 hc; clear hc
                    refine g_aload_n X dX4_rounds_91 rfl 0 rfl ?_
                    have hk := h.1
                    replace h := h.2
                    refine gg_527 X hk m_1023 dX4_rounds_92 (fun z37 hv => ?_)
                    replace h := h z37 hv; clear hv hk
                    refine g_bipush X (v := (10 : Int32)) dX4_rounds_95 (by decide) ?_
                    refine g_iload_n X dX4_rounds_97 rfl 1 rfl ?_
                    refine g_imul X dX4_rounds_98 (fun v38 hv => ?_)
                    replace h := h v38 hv; clear hv
                    refine g_iload_n X dX4_rounds_99 rfl 3 rfl ?_
                    refine g_iadd X dX4_rounds_100 (fun v39 hv => ?_)
                    replace h := h v39 hv; clear hv
                    refine g_iconst X (v := (0 : Int32)) dX4_rounds_101 (by decide) ?_
                    obtain ⟨a40, rfl, hk, h⟩ := h
                    obtain ⟨j41, hi, hj, hN, h⟩ := h
                    refine g_zast X hk hi hj hN dX4_rounds_102 (fun w42 hv => ?_)
                    replace h := h w42 hv; clear hv hk hi hj hN
                    refine g_aload_n X dX4_rounds_103 rfl 0 rfl ?_
                    have hk := h.1
                    replace h := h.2
                    refine gg_525 X hk m_1021 dX4_rounds_104 (fun z43 hv => ?_)
                    replace h := h z43 hv; clear hv hk
                    refine g_bipush X (v := (10 : Int32)) dX4_rounds_107 (by decide) ?_
                    refine g_iload_n X dX4_rounds_109 rfl 1 rfl ?_
                    refine g_imul X dX4_rounds_110 (fun v44 hv => ?_)
                    replace h := h v44 hv; clear hv
                    refine g_iload_n X dX4_rounds_111 rfl 3 rfl ?_
                    refine g_iadd X dX4_rounds_112 (fun v45 hv => ?_)
                    replace h := h v45 hv; clear hv
                    refine g_iconst X (v := (0 : Int32)) dX4_rounds_113 (by decide) ?_
                    obtain ⟨a46, rfl, hk, h⟩ := h
                    obtain ⟨j47, hi, hj, hN, h⟩ := h
                    refine g_iast X hk hi hj hN dX4_rounds_114 (fun w48 hv => ?_)
                    replace h := h w48 hv; clear hv hk hi hj hN
                    refine g_iinc X dX4_rounds_115 3 rfl (d := (1 : Int32)) (by decide) (by decide) (fun v49 hv => ?_)
                    replace h := h v49 hv; clear hv
                    refine g_sub [0, 1, 2, 3] [(3, .inl v49), (0, .inr (some a0)), (1, .inl x1), (2, .inl y9)] rfl ?_
                    refine g_goto X (tgt := 77) dX4_rounds_118 (by decide) ?_
                    obtain ⟨n, hn, hI⟩ := h
                    exact g_sub [1, 2, 3, 0] [(0, .inr (some a0)), (1, .inl x1), (2, .inl y9), (3, .inl v49)] rfl (ihn28 n hn v49 w48 hI)
            exact g_sub [1, 2, 3, 0] [(0, .inr (some a0)), (1, .inl x1), (2, .inl y9), (3, .inl (0 : Int32))] rfl (lp29 n0 (0 : Int32) w27 hi)
          refine g_if_eq X (tgt := 72) dX4_rounds_65 (by decide) (fun hc => ?_) (fun hc => ?_)
          · replace h := h.1 hc; clear hc
            refine g_iconst X (v := (0 : Int32)) dX4_rounds_72 (by decide) ?_
            exact g_sub [0, 1, 2] [(0, .inr (some a0)), (1, .inl x1), (2, .inl y9)] rfl (jp19 (some a16) x1 v18 (0 : Int32) h)
          · replace h := h.2 hc; clear hc
            refine g_iconst X (v := (1 : Int32)) dX4_rounds_68 (by decide) ?_
            refine g_goto X (tgt := 73) dX4_rounds_69 (by decide) ?_
            exact g_sub [0, 1, 2] [(0, .inr (some a0)), (1, .inl x1), (2, .inl y9)] rfl (jp19 (some a16) x1 v18 (1 : Int32) h)
        · replace h := h.2 hc; clear hc
          refine g_iload_n X dX4_rounds_27 rfl 2 rfl ?_
          obtain ⟨J50, hjJ50, h⟩ := h
          have jp50 : ∀ (y51 : Int32), J50 y51 → Gw l G L0 p e rm_X4_rounds s m args below meth c 4 (0) (0) (MQ below (gQv G L0 Q) args s rm_X4_rounds.cells rm_X4_rounds.slots (GA L0)) w 50 [(0, .inr (some a0)), (1, .inl x1), (3, .inl y10)] [.int y51] := by
            intro y51 hJ
            have h := hjJ50 y51 hJ
            clear hJ
            refine g_istore_n X [(2, .inl y51), (0, .inr (some a0)), (1, .inl x1), (3, .inl y10)] dX4_rounds_50 rfl (by decide) rfl ?_
            refine g_iinc X dX4_rounds_51 3 rfl (d := (1 : Int32)) (by decide) (by decide) (fun v52 hv => ?_)
            replace h := h v52 hv; clear hv
            refine g_sub [0, 1, 2, 3] [(3, .inl v52), (2, .inl y51), (0, .inr (some a0)), (1, .inl x1)] rfl ?_
            refine g_goto X (tgt := 17) dX4_rounds_54 (by decide) ?_
            obtain ⟨n, hn, hI⟩ := h
            exact g_sub [2, 3, 1, 0] [(0, .inr (some a0)), (1, .inl x1), (2, .inl y51), (3, .inl v52)] rfl (ihn7 n hn y51 v52 hI)
          obtain ⟨J53, hjJ53, h⟩ := h
          have jp53 : J53 → Gw l G L0 p e rm_X4_rounds s m args below meth c 4 (0) (0) (MQ below (gQv G L0 Q) args s rm_X4_rounds.cells rm_X4_rounds.slots (GA L0)) w 49 [(0, .inr (some a0)), (1, .inl x1), (3, .inl y10)] [] := by
            intro hJ
            have h := hjJ53 hJ
            clear hJ
            refine g_iconst X (v := (0 : Int32)) dX4_rounds_49 (by decide) ?_
            exact g_sub [0, 1, 2] [(0, .inr (some a0)), (1, .inl x1), (3, .inl y10)] rfl (jp50 (0 : Int32) h)
          refine g_if_eq X (tgt := 49) dX4_rounds_28 (by decide) (fun hc => ?_) (fun hc => ?_)
          · replace h := h.1 hc; clear hc
            exact g_sub [0, 1, 3] [(0, .inr (some a0)), (1, .inl x1), (3, .inl y10)] rfl (jp53  h)
          · replace h := h.2 hc; clear hc
            refine g_aload_n X dX4_rounds_31 rfl 0 rfl ?_
            have hk := h.1
            replace h := h.2
            refine gg_527 X hk m_1023 dX4_rounds_32 (fun z54 hv => ?_)
            replace h := h z54 hv; clear hv hk
            refine g_bipush X (v := (10 : Int32)) dX4_rounds_35 (by decide) ?_
            refine g_iload_n X dX4_rounds_37 rfl 1 rfl ?_
            refine g_imul X dX4_rounds_38 (fun v55 hv => ?_)
            replace h := h v55 hv; clear hv
            refine g_iload_n X dX4_rounds_39 rfl 3 rfl ?_
            refine g_iadd X dX4_rounds_40 (fun v56 hv => ?_)
            replace h := h v56 hv; clear hv
            obtain ⟨a57, rfl, hk, h⟩ := h
            obtain ⟨j58, hi, hj, hN, h⟩ := h
            refine g_zald X hk hi hj hN dX4_rounds_41 (fun v59 hv => ?_)
            replace h := h v59 hv; clear hv hk hi hj hN
            refine g_if_eq X (tgt := 49) dX4_rounds_42 (by decide) (fun hc => ?_) (fun hc => ?_)
            · replace h := h.1 hc; clear hc
              exact g_sub [0, 1, 3] [(0, .inr (some a0)), (1, .inl x1), (3, .inl y10)] rfl (jp53  h)
            · replace h := h.2 hc; clear hc
              refine g_iconst X (v := (1 : Int32)) dX4_rounds_45 (by decide) ?_
              refine g_goto X (tgt := 50) dX4_rounds_46 (by decide) ?_
              exact g_sub [0, 1, 3] [(0, .inr (some a0)), (1, .inl x1), (3, .inl y10)] rfl (jp50 (1 : Int32) h)
    exact g_sub [2, 3, 1, 0] [(0, .inr (some a0)), (1, .inl x1), (2, .inl y6), (3, .inl (0 : Int32))] rfl (lp8 n0 y6 (0 : Int32) hi)
  refine g_if_le X (tgt := 13) dX4_rounds_6 (by decide) (fun hc => ?_) (fun hc => ?_)
  · replace h := h.1 hc; clear hc
    refine g_iconst X (v := (0 : Int32)) dX4_rounds_13 (by decide) ?_
    exact g_sub [0, 1] [(0, .inr (some a0)), (1, .inl x1)] rfl (jp5 (0 : Int32) h)
  · replace h := h.2 hc; clear hc
    refine g_iconst X (v := (1 : Int32)) dX4_rounds_9 (by decide) ?_
    refine g_goto X (tgt := 14) dX4_rounds_10 (by decide) ?_
    exact g_sub [0, 1] [(0, .inr (some a0)), (1, .inl x1)] rfl (jp5 (1 : Int32) h)

abbrev rm_X4_goes : Room := { frames := 7, cells := 0, slots := 0, locals := 123 }
def wp_X4_goes (a0 : Nat) (x1 : Int32) (x2 : Int32) (w : Wd) (Q : Wd → Prop) : Prop :=
  w.K a0 = 5 ∧
  ∀ z1 : Option Nat, z1 = w.R 517 a0 →
  ∃ a2, z1 = some a2 ∧ w.K a2 = 11 ∧
  ∃ j3 : Nat, x1 = nI j3 ∧ j3 < w.N a2 ∧ w.N a2 < 2 ^ 31 ∧
  ∀ v4 : Int32, v4 = w.A a2 j3 →
  ∀ v5 : Int32, v5 = v4 - (1 : Int32) →
  w.K a2 = 11 ∧
  ∃ j6 : Nat, x1 = nI j6 ∧ j6 < w.N a2 ∧ w.N a2 < 2 ^ 31 ∧
  ∀ w7 : Wd, w7 = w.setA a2 j6 v5 →
  ∃ Inv9 : Nat → Int32 → Wd → Prop, (∃ n : Nat, Inv9 n x2 w7) ∧ ∀ (n8 : Nat) (y10 : Int32) (w11 : Wd), Inv9 n8 y10 w11 →
  w11.K a0 = 5 ∧
  ∀ z12 : Option Nat, z12 = w11.R 517 a0 →
  ∃ a13, z12 = some a13 ∧ w11.K a13 = 11 ∧
  ∃ j14 : Nat, x1 = nI j14 ∧ j14 < w11.N a13 ∧ w11.N a13 < 2 ^ 31 ∧
  ∀ v15 : Int32, v15 = w11.A a13 j14 →
  (v15 ≤ y10 → w11.K a0 = 5 ∧
  wp_X4_rounds a0 x1 w11 (fun w16 => 
  Q w16)) ∧ (¬ v15 ≤ y10 → ∀ v17 : Int32, v17 = (10 : Int32) * x1 →
  ∀ v18 : Int32, v18 = v17 + y10 →
  ∀ v19 : Int32, v19 = (10 : Int32) * x1 →
  ∀ v20 : Int32, v20 = v19 + y10 →
  ∀ v21 : Int32, v21 = v20 + (1 : Int32) →
  w11.K a0 = 5 ∧
  wp_X4_copies a0 v18 v21 w11 (fun w22 => 
  ∀ v23 : Int32, v23 = y10 + (1 : Int32) →
  ∃ n : Nat, n < n8 ∧ Inv9 n v23 w22))
set_option maxHeartbeats 4000000 in
set_option maxRecDepth 100000 in
theorem c_X4_goes {l : Launch} {G : GT} {L0 : Nat} (hst : l.stackTraces = false) {a0 : Nat} {x1 : Int32} {x2 : Int32} {w : Wd} {Q : Wd → Prop} (h : wp_X4_goes a0 x1 x2 w Q) : GMv l G L0 yX4_goes cX4_goes 4 none rm_X4_goes [.ref a0, .int x1, .int x2] w Q := by
  refine g_enter hst (by decide +kernel) [.inr (some a0), .inl x1, .inl x2] rfl (show 3 ≤ 4 by decide) ?_
  intro p e s m args below meth c X hr hnm
  replace X : GC l G L0 p s m args meth c cX4_goes 4 "SusuRingModel" := X
  refine g_aload_n X dX4_goes_0 rfl 0 rfl ?_
  have hk := h.1
  replace h := h.2
  refine gg_517 X hk m_1013 dX4_goes_1 (fun z1 hv => ?_)
  replace h := h z1 hv; clear hv hk
  refine g_iload_n X dX4_goes_4 rfl 1 rfl ?_
  refine g_dup2 X dX4_goes_5 rfl rf_cat ?_
  obtain ⟨a2, rfl, hk, h⟩ := h
  obtain ⟨j3, hi, hj, hN, h⟩ := h
  refine g_iald X hk hi hj hN dX4_goes_6 (fun v4 hv => ?_)
  replace h := h v4 hv; clear hv hk hi hj hN
  refine g_iconst X (v := (1 : Int32)) dX4_goes_7 (by decide) ?_
  refine g_isub X dX4_goes_8 (fun v5 hv => ?_)
  replace h := h v5 hv; clear hv
  have hk := h.1
  replace h := h.2
  obtain ⟨j6, hi, hj, hN, h⟩ := h
  refine g_iast X hk hi hj hN dX4_goes_9 (fun w7 hv => ?_)
  replace h := h w7 hv; clear hv hk hi hj hN
  refine g_iload_n X dX4_goes_10 rfl 2 rfl ?_
  refine g_istore_n X [(3, .inl x2), (0, .inr (some a0)), (1, .inl x1), (2, .inl x2)] dX4_goes_11 rfl (by decide) rfl ?_
  obtain ⟨Inv9, ⟨n0, hi⟩, hsn8⟩ := h
  have lp9 : ∀ (n8 : Nat), ∀ (y10 : Int32) (w11 : Wd), Inv9 n8 y10 w11 → Gw l G L0 p e rm_X4_goes s m args below meth c 4 (0) (0) (MQ below (gQv G L0 Q) args s rm_X4_goes.cells rm_X4_goes.slots (GA L0)) w11 12 [(0, .inr (some a0)), (1, .inl x1), (3, .inl y10)] [] := by
    intro n8
    induction n8 using Nat.strongRecOn with
    | ind n8 ihn8 =>
      intro y10 w11 hI
      have h := hsn8 n8 y10 w11 hI
      clear hI
      refine g_iload_n X dX4_goes_12 rfl 2 rfl ?_
      refine g_aload_n X dX4_goes_13 rfl 0 rfl ?_
      have hk := h.1
      replace h := h.2
      refine gg_517 X hk m_1013 dX4_goes_14 (fun z12 hv => ?_)
      replace h := h z12 hv; clear hv hk
      refine g_iload_n X dX4_goes_17 rfl 1 rfl ?_
      obtain ⟨a13, rfl, hk, h⟩ := h
      obtain ⟨j14, hi, hj, hN, h⟩ := h
      refine g_iald X hk hi hj hN dX4_goes_18 (fun v15 hv => ?_)
      replace h := h v15 hv; clear hv hk hi hj hN
      refine g_icmp_ge X (tgt := 46) dX4_goes_19 (by decide) (fun hc => ?_) (fun hc => ?_)
      · replace h := h.1 hc; clear hc
        refine g_aload_n X dX4_goes_46 rfl 0 rfl ?_
        refine g_iload_n X dX4_goes_47 rfl 1 rfl ?_
        have hk := h.1
        replace h := h.2
        refine g_callV_v X (As := [.int x1]) (st := []) (n := 1) (c_X4_rounds hst h) rfl (by decide) hk (wE_5 G w11 a0) m_1132 m_1134 m_20 m_34 m_1135 (by decide +kernel) (by decide +kernel) rfl rfl (Nat.zero_le _) ⟨(by decide +kernel), (by decide +kernel)⟩ dX4_goes_48 (fun w16 h => ?_)
        clear hk
        refine g_widen (c2 := (0)) (s2 := (0)) (by decide +kernel) (by decide +kernel) ?_
        exact g_vret X hr (by decide +kernel) (by decide +kernel) dX4_goes_51 h
      · replace h := h.2 hc; clear hc
        refine g_aload_n X dX4_goes_22 rfl 0 rfl ?_
        refine g_bipush X (v := (10 : Int32)) dX4_goes_23 (by decide) ?_
        refine g_iload_n X dX4_goes_25 rfl 1 rfl ?_
        refine g_imul X dX4_goes_26 (fun v17 hv => ?_)
        replace h := h v17 hv; clear hv
        refine g_iload_n X dX4_goes_27 rfl 2 rfl ?_
        refine g_iadd X dX4_goes_28 (fun v18 hv => ?_)
        replace h := h v18 hv; clear hv
        refine g_bipush X (v := (10 : Int32)) dX4_goes_29 (by decide) ?_
        refine g_iload_n X dX4_goes_31 rfl 1 rfl ?_
        refine g_imul X dX4_goes_32 (fun v19 hv => ?_)
        replace h := h v19 hv; clear hv
        refine g_iload_n X dX4_goes_33 rfl 2 rfl ?_
        refine g_iadd X dX4_goes_34 (fun v20 hv => ?_)
        replace h := h v20 hv; clear hv
        refine g_iconst X (v := (1 : Int32)) dX4_goes_35 (by decide) ?_
        refine g_iadd X dX4_goes_36 (fun v21 hv => ?_)
        replace h := h v21 hv; clear hv
        have hk := h.1
        replace h := h.2
        refine g_callV_v X (As := [.int v18, .int v21]) (st := []) (n := 2) (c_X4_copies hst h) rfl (by decide) hk (wE_5 G w11 a0) m_1128 m_1130 m_19 m_34 m_1131 (by decide +kernel) (by decide +kernel) rfl rfl (Nat.zero_le _) ⟨(by decide +kernel), (by decide +kernel)⟩ dX4_goes_37 (fun w22 h => ?_)
        clear hk
        refine g_widen (c2 := (0)) (s2 := (0)) (by decide +kernel) (by decide +kernel) ?_
        refine g_iinc X dX4_goes_40 2 rfl (d := (1 : Int32)) (by decide) (by decide) (fun v23 hv => ?_)
        replace h := h v23 hv; clear hv
        refine g_sub [0, 1, 2] [(3, .inl v23), (0, .inr (some a0)), (1, .inl x1)] rfl ?_
        refine g_goto X (tgt := 12) dX4_goes_43 (by decide) ?_
        obtain ⟨n, hn, hI⟩ := h
        exact g_sub [1, 2, 0] [(0, .inr (some a0)), (1, .inl x1), (3, .inl v23)] rfl (ihn8 n hn v23 w22 hI)
  exact g_sub [1, 2, 0] [(0, .inr (some a0)), (1, .inl x1), (3, .inl x2)] rfl (lp9 n0 x2 w7 hi)

abbrev rm_X4_leaves : Room := { frames := 6, cells := 0, slots := 0, locals := 100 }
def wp_X4_leaves (a0 : Nat) (x1 : Int32) (x2 : Int32) (w : Wd) (Q : Wd → Prop) : Prop :=
  w.K a0 = 5 ∧
  ∀ z1 : Option Nat, z1 = w.R 504 a0 →
  ∃ a2, z1 = some a2 ∧ w.K a2 = 11 ∧
  ∃ j3 : Nat, x2 = nI j3 ∧ j3 < w.N a2 ∧ w.N a2 < 2 ^ 31 ∧
  ∀ v4 : Int32, v4 = w.A a2 j3 →
  w.K a0 = 5 ∧
  ∀ z5 : Option Nat, z5 = w.R 504 a0 →
  ∃ a6, z5 = some a6 ∧ w.K a6 = 11 ∧
  ∃ j7 : Nat, x1 = nI j7 ∧ j7 < w.N a6 ∧ w.N a6 < 2 ^ 31 ∧
  ∀ v8 : Int32, v8 = w.A a6 j7 →
  ∀ v9 : Int32, v9 = v4 + v8 →
  w.K a2 = 11 ∧
  ∃ j10 : Nat, x2 = nI j10 ∧ j10 < w.N a2 ∧ w.N a2 < 2 ^ 31 ∧
  ∀ w11 : Wd, w11 = w.setA a2 j10 v9 →
  w11.K a0 = 5 ∧
  ∀ z12 : Option Nat, z12 = w11.R 505 a0 →
  ∃ a13, z12 = some a13 ∧ w11.K a13 = 11 ∧
  ∃ j14 : Nat, x2 = nI j14 ∧ j14 < w11.N a13 ∧ w11.N a13 < 2 ^ 31 ∧
  ∀ v15 : Int32, v15 = w11.A a13 j14 →
  w11.K a0 = 5 ∧
  ∀ z16 : Option Nat, z16 = w11.R 505 a0 →
  ∃ a17, z16 = some a17 ∧ w11.K a17 = 11 ∧
  ∃ j18 : Nat, x1 = nI j18 ∧ j18 < w11.N a17 ∧ w11.N a17 < 2 ^ 31 ∧
  ∀ v19 : Int32, v19 = w11.A a17 j18 →
  ∀ v20 : Int32, v20 = v15 + v19 →
  w11.K a13 = 11 ∧
  ∃ j21 : Nat, x2 = nI j21 ∧ j21 < w11.N a13 ∧ w11.N a13 < 2 ^ 31 ∧
  ∀ w22 : Wd, w22 = w11.setA a13 j21 v20 →
  w22.K a0 = 5 ∧
  ∀ z23 : Option Nat, z23 = w22.R 506 a0 →
  ∃ a24, z23 = some a24 ∧ w22.K a24 = 11 ∧
  ∃ j25 : Nat, x1 = nI j25 ∧ j25 < w22.N a24 ∧ w22.N a24 < 2 ^ 31 ∧
  ∀ v26 : Int32, v26 = w22.A a24 j25 →
  ∃ J27 : Wd → Prop, (∀  (w28 : Wd), J27 w28 →
  w28.K a0 = 5 ∧
  ∀ z29 : Option Nat, z29 = w28.R 506 a0 →
  ∃ a30, z29 = some a30 ∧ w28.K a30 = 11 ∧
  ∃ j31 : Nat, x2 = nI j31 ∧ j31 < w28.N a30 ∧ w28.N a30 < 2 ^ 31 ∧
  ∀ v32 : Int32, v32 = w28.A a30 j31 →
  w28.K a0 = 5 ∧
  ∀ z33 : Option Nat, z33 = w28.R 506 a0 →
  ∃ a34, z33 = some a34 ∧ w28.K a34 = 11 ∧
  ∃ j35 : Nat, x1 = nI j35 ∧ j35 < w28.N a34 ∧ w28.N a34 < 2 ^ 31 ∧
  ∀ v36 : Int32, v36 = w28.A a34 j35 →
  ∀ v37 : Int32, v37 = v32 + v36 →
  w28.K a30 = 11 ∧
  ∃ j38 : Nat, x2 = nI j38 ∧ j38 < w28.N a30 ∧ w28.N a30 < 2 ^ 31 ∧
  ∀ w39 : Wd, w39 = w28.setA a30 j38 v37 →
  w39.K a0 = 5 ∧
  ∀ z40 : Option Nat, z40 = w39.R 504 a0 →
  ∃ a41, z40 = some a41 ∧ w39.K a41 = 11 ∧
  ∃ j42 : Nat, x1 = nI j42 ∧ j42 < w39.N a41 ∧ w39.N a41 < 2 ^ 31 ∧
  ∀ w43 : Wd, w43 = w39.setA a41 j42 (0 : Int32) →
  w43.K a0 = 5 ∧
  ∀ z44 : Option Nat, z44 = w43.R 505 a0 →
  ∃ a45, z44 = some a45 ∧ w43.K a45 = 11 ∧
  ∃ j46 : Nat, x1 = nI j46 ∧ j46 < w43.N a45 ∧ w43.N a45 < 2 ^ 31 ∧
  ∀ w47 : Wd, w47 = w43.setA a45 j46 (0 : Int32) →
  w47.K a0 = 5 ∧
  ∀ z48 : Option Nat, z48 = w47.R 506 a0 →
  ∃ a49, z48 = some a49 ∧ w47.K a49 = 11 ∧
  ∃ j50 : Nat, x1 = nI j50 ∧ j50 < w47.N a49 ∧ w47.N a49 < 2 ^ 31 ∧
  ∀ w51 : Wd, w51 = w47.setA a49 j50 (0 : Int32) →
  w51.K a0 = 5 ∧
  ∀ z52 : Option Nat, z52 = w51.R 512 a0 →
  ∃ a53, z52 = some a53 ∧ w51.K a53 = 12 ∧
  ∃ j54 : Nat, x1 = nI j54 ∧ j54 < w51.N a53 ∧ w51.N a53 < 2 ^ 31 ∧
  ∀ w55 : Wd, w55 = w51.setA a53 j54 (vp_nar .boolean (1 : Int32)) →
  Q w55) ∧
  (v26 ≤ 0 → J27 w22) ∧ (¬ v26 ≤ 0 → w22.K a0 = 5 ∧
  ∀ z56 : Option Nat, z56 = w22.R 506 a0 →
  ∃ a57, z56 = some a57 ∧ w22.K a57 = 11 ∧
  ∃ j58 : Nat, x2 = nI j58 ∧ j58 < w22.N a57 ∧ w22.N a57 < 2 ^ 31 ∧
  ∀ v59 : Int32, v59 = w22.A a57 j58 →
  (¬ v59 = 0 → J27 w22) ∧ (v59 = 0 → w22.K a0 = 5 ∧
  ∀ z60 : Option Nat, z60 = w22.R 507 a0 →
  w22.K a0 = 5 ∧
  ∀ z61 : Option Nat, z61 = w22.R 507 a0 →
  ∃ a62, z61 = some a62 ∧ w22.K a62 = 11 ∧
  ∃ j63 : Nat, x1 = nI j63 ∧ j63 < w22.N a62 ∧ w22.N a62 < 2 ^ 31 ∧
  ∀ v64 : Int32, v64 = w22.A a62 j63 →
  ∃ a65, z60 = some a65 ∧ w22.K a65 = 11 ∧
  ∃ j66 : Nat, x2 = nI j66 ∧ j66 < w22.N a65 ∧ w22.N a65 < 2 ^ 31 ∧
  ∀ w67 : Wd, w67 = w22.setA a65 j66 v64 →
  w67.K a0 = 5 ∧
  ∀ z68 : Option Nat, z68 = w67.R 508 a0 →
  w67.K a0 = 5 ∧
  ∀ z69 : Option Nat, z69 = w67.R 508 a0 →
  ∃ a70, z69 = some a70 ∧ w67.K a70 = 11 ∧
  ∃ j71 : Nat, x1 = nI j71 ∧ j71 < w67.N a70 ∧ w67.N a70 < 2 ^ 31 ∧
  ∀ v72 : Int32, v72 = w67.A a70 j71 →
  ∃ a73, z68 = some a73 ∧ w67.K a73 = 11 ∧
  ∃ j74 : Nat, x2 = nI j74 ∧ j74 < w67.N a73 ∧ w67.N a73 < 2 ^ 31 ∧
  ∀ w75 : Wd, w75 = w67.setA a73 j74 v72 →
  w75.K a0 = 5 ∧
  ∀ z76 : Option Nat, z76 = w75.R 509 a0 →
  w75.K a0 = 5 ∧
  ∀ z77 : Option Nat, z77 = w75.R 509 a0 →
  ∃ a78, z77 = some a78 ∧ w75.K a78 = 11 ∧
  ∃ j79 : Nat, x1 = nI j79 ∧ j79 < w75.N a78 ∧ w75.N a78 < 2 ^ 31 ∧
  ∀ v80 : Int32, v80 = w75.A a78 j79 →
  ∃ a81, z76 = some a81 ∧ w75.K a81 = 11 ∧
  ∃ j82 : Nat, x2 = nI j82 ∧ j82 < w75.N a81 ∧ w75.N a81 < 2 ^ 31 ∧
  ∀ w83 : Wd, w83 = w75.setA a81 j82 v80 →
  J27 w83))
set_option maxHeartbeats 4000000 in
set_option maxRecDepth 100000 in
theorem c_X4_leaves {l : Launch} {G : GT} {L0 : Nat} (hst : l.stackTraces = false) {a0 : Nat} {x1 : Int32} {x2 : Int32} {w : Wd} {Q : Wd → Prop} (h : wp_X4_leaves a0 x1 x2 w Q) : GMv l G L0 yX4_leaves cX4_leaves 3 none rm_X4_leaves [.ref a0, .int x1, .int x2] w Q := by
  refine g_enter hst (by decide +kernel) [.inr (some a0), .inl x1, .inl x2] rfl (show 3 ≤ 3 by decide) ?_
  intro p e s m args below meth c X hr hnm
  replace X : GC l G L0 p s m args meth c cX4_leaves 3 "SusuRingModel" := X
  refine g_aload_n X dX4_leaves_0 rfl 0 rfl ?_
  have hk := h.1
  replace h := h.2
  refine gg_504 X hk m_1000 dX4_leaves_1 (fun z1 hv => ?_)
  replace h := h z1 hv; clear hv hk
  refine g_iload_n X dX4_leaves_4 rfl 2 rfl ?_
  refine g_dup2 X dX4_leaves_5 rfl rf_cat ?_
  obtain ⟨a2, rfl, hk, h⟩ := h
  obtain ⟨j3, hi, hj, hN, h⟩ := h
  refine g_iald X hk hi hj hN dX4_leaves_6 (fun v4 hv => ?_)
  replace h := h v4 hv; clear hv hk hi hj hN
  refine g_aload_n X dX4_leaves_7 rfl 0 rfl ?_
  have hk := h.1
  replace h := h.2
  refine gg_504 X hk m_1000 dX4_leaves_8 (fun z5 hv => ?_)
  replace h := h z5 hv; clear hv hk
  refine g_iload_n X dX4_leaves_11 rfl 1 rfl ?_
  obtain ⟨a6, rfl, hk, h⟩ := h
  obtain ⟨j7, hi, hj, hN, h⟩ := h
  refine g_iald X hk hi hj hN dX4_leaves_12 (fun v8 hv => ?_)
  replace h := h v8 hv; clear hv hk hi hj hN
  refine g_iadd X dX4_leaves_13 (fun v9 hv => ?_)
  replace h := h v9 hv; clear hv
  have hk := h.1
  replace h := h.2
  obtain ⟨j10, hi, hj, hN, h⟩ := h
  refine g_iast X hk hi hj hN dX4_leaves_14 (fun w11 hv => ?_)
  replace h := h w11 hv; clear hv hk hi hj hN
  refine g_aload_n X dX4_leaves_15 rfl 0 rfl ?_
  have hk := h.1
  replace h := h.2
  refine gg_505 X hk m_1001 dX4_leaves_16 (fun z12 hv => ?_)
  replace h := h z12 hv; clear hv hk
  refine g_iload_n X dX4_leaves_19 rfl 2 rfl ?_
  refine g_dup2 X dX4_leaves_20 rfl rf_cat ?_
  obtain ⟨a13, rfl, hk, h⟩ := h
  obtain ⟨j14, hi, hj, hN, h⟩ := h
  refine g_iald X hk hi hj hN dX4_leaves_21 (fun v15 hv => ?_)
  replace h := h v15 hv; clear hv hk hi hj hN
  refine g_aload_n X dX4_leaves_22 rfl 0 rfl ?_
  have hk := h.1
  replace h := h.2
  refine gg_505 X hk m_1001 dX4_leaves_23 (fun z16 hv => ?_)
  replace h := h z16 hv; clear hv hk
  refine g_iload_n X dX4_leaves_26 rfl 1 rfl ?_
  obtain ⟨a17, rfl, hk, h⟩ := h
  obtain ⟨j18, hi, hj, hN, h⟩ := h
  refine g_iald X hk hi hj hN dX4_leaves_27 (fun v19 hv => ?_)
  replace h := h v19 hv; clear hv hk hi hj hN
  refine g_iadd X dX4_leaves_28 (fun v20 hv => ?_)
  replace h := h v20 hv; clear hv
  have hk := h.1
  replace h := h.2
  obtain ⟨j21, hi, hj, hN, h⟩ := h
  refine g_iast X hk hi hj hN dX4_leaves_29 (fun w22 hv => ?_)
  replace h := h w22 hv; clear hv hk hi hj hN
  refine g_aload_n X dX4_leaves_30 rfl 0 rfl ?_
  have hk := h.1
  replace h := h.2
  refine gg_506 X hk m_1002 dX4_leaves_31 (fun z23 hv => ?_)
  replace h := h z23 hv; clear hv hk
  refine g_iload_n X dX4_leaves_34 rfl 1 rfl ?_
  obtain ⟨a24, rfl, hk, h⟩ := h
  obtain ⟨j25, hi, hj, hN, h⟩ := h
  refine g_iald X hk hi hj hN dX4_leaves_35 (fun v26 hv => ?_)
  replace h := h v26 hv; clear hv hk hi hj hN
  obtain ⟨J27, hjJ27, h⟩ := h
  have jp27 : ∀  (w28 : Wd), J27 w28 → Gw l G L0 p e rm_X4_leaves s m args below meth c 3 (0) (0) (MQ below (gQv G L0 Q) args s rm_X4_leaves.cells rm_X4_leaves.slots (GA L0)) w28 84 [(0, .inr (some a0)), (1, .inl x1), (2, .inl x2)] [] := by
    intro w28 hJ
    have h := hjJ27 w28 hJ
    clear hJ
    refine g_aload_n X dX4_leaves_84 rfl 0 rfl ?_
    have hk := h.1
    replace h := h.2
    refine gg_506 X hk m_1002 dX4_leaves_85 (fun z29 hv => ?_)
    replace h := h z29 hv; clear hv hk
    refine g_iload_n X dX4_leaves_88 rfl 2 rfl ?_
    refine g_dup2 X dX4_leaves_89 rfl rf_cat ?_
    obtain ⟨a30, rfl, hk, h⟩ := h
    obtain ⟨j31, hi, hj, hN, h⟩ := h
    refine g_iald X hk hi hj hN dX4_leaves_90 (fun v32 hv => ?_)
    replace h := h v32 hv; clear hv hk hi hj hN
    refine g_aload_n X dX4_leaves_91 rfl 0 rfl ?_
    have hk := h.1
    replace h := h.2
    refine gg_506 X hk m_1002 dX4_leaves_92 (fun z33 hv => ?_)
    replace h := h z33 hv; clear hv hk
    refine g_iload_n X dX4_leaves_95 rfl 1 rfl ?_
    obtain ⟨a34, rfl, hk, h⟩ := h
    obtain ⟨j35, hi, hj, hN, h⟩ := h
    refine g_iald X hk hi hj hN dX4_leaves_96 (fun v36 hv => ?_)
    replace h := h v36 hv; clear hv hk hi hj hN
    refine g_iadd X dX4_leaves_97 (fun v37 hv => ?_)
    replace h := h v37 hv; clear hv
    have hk := h.1
    replace h := h.2
    obtain ⟨j38, hi, hj, hN, h⟩ := h
    refine g_iast X hk hi hj hN dX4_leaves_98 (fun w39 hv => ?_)
    replace h := h w39 hv; clear hv hk hi hj hN
    refine g_aload_n X dX4_leaves_99 rfl 0 rfl ?_
    have hk := h.1
    replace h := h.2
    refine gg_504 X hk m_1000 dX4_leaves_100 (fun z40 hv => ?_)
    replace h := h z40 hv; clear hv hk
    refine g_iload_n X dX4_leaves_103 rfl 1 rfl ?_
    refine g_iconst X (v := (0 : Int32)) dX4_leaves_104 (by decide) ?_
    obtain ⟨a41, rfl, hk, h⟩ := h
    obtain ⟨j42, hi, hj, hN, h⟩ := h
    refine g_iast X hk hi hj hN dX4_leaves_105 (fun w43 hv => ?_)
    replace h := h w43 hv; clear hv hk hi hj hN
    refine g_aload_n X dX4_leaves_106 rfl 0 rfl ?_
    have hk := h.1
    replace h := h.2
    refine gg_505 X hk m_1001 dX4_leaves_107 (fun z44 hv => ?_)
    replace h := h z44 hv; clear hv hk
    refine g_iload_n X dX4_leaves_110 rfl 1 rfl ?_
    refine g_iconst X (v := (0 : Int32)) dX4_leaves_111 (by decide) ?_
    obtain ⟨a45, rfl, hk, h⟩ := h
    obtain ⟨j46, hi, hj, hN, h⟩ := h
    refine g_iast X hk hi hj hN dX4_leaves_112 (fun w47 hv => ?_)
    replace h := h w47 hv; clear hv hk hi hj hN
    refine g_aload_n X dX4_leaves_113 rfl 0 rfl ?_
    have hk := h.1
    replace h := h.2
    refine gg_506 X hk m_1002 dX4_leaves_114 (fun z48 hv => ?_)
    replace h := h z48 hv; clear hv hk
    refine g_iload_n X dX4_leaves_117 rfl 1 rfl ?_
    refine g_iconst X (v := (0 : Int32)) dX4_leaves_118 (by decide) ?_
    obtain ⟨a49, rfl, hk, h⟩ := h
    obtain ⟨j50, hi, hj, hN, h⟩ := h
    refine g_iast X hk hi hj hN dX4_leaves_119 (fun w51 hv => ?_)
    replace h := h w51 hv; clear hv hk hi hj hN
    refine g_aload_n X dX4_leaves_120 rfl 0 rfl ?_
    have hk := h.1
    replace h := h.2
    refine gg_512 X hk m_1008 dX4_leaves_121 (fun z52 hv => ?_)
    replace h := h z52 hv; clear hv hk
    refine g_iload_n X dX4_leaves_124 rfl 1 rfl ?_
    refine g_iconst X (v := (1 : Int32)) dX4_leaves_125 (by decide) ?_
    obtain ⟨a53, rfl, hk, h⟩ := h
    obtain ⟨j54, hi, hj, hN, h⟩ := h
    refine g_zast X hk hi hj hN dX4_leaves_126 (fun w55 hv => ?_)
    replace h := h w55 hv; clear hv hk hi hj hN
    exact g_vret X hr (by decide +kernel) (by decide +kernel) dX4_leaves_127 h
  refine g_if_le X (tgt := 84) dX4_leaves_36 (by decide) (fun hc => ?_) (fun hc => ?_)
  · replace h := h.1 hc; clear hc
    exact g_sub [0, 1, 2] [(0, .inr (some a0)), (1, .inl x1), (2, .inl x2)] rfl (jp27 w22 h)
  · replace h := h.2 hc; clear hc
    refine g_aload_n X dX4_leaves_39 rfl 0 rfl ?_
    have hk := h.1
    replace h := h.2
    refine gg_506 X hk m_1002 dX4_leaves_40 (fun z56 hv => ?_)
    replace h := h z56 hv; clear hv hk
    refine g_iload_n X dX4_leaves_43 rfl 2 rfl ?_
    obtain ⟨a57, rfl, hk, h⟩ := h
    obtain ⟨j58, hi, hj, hN, h⟩ := h
    refine g_iald X hk hi hj hN dX4_leaves_44 (fun v59 hv => ?_)
    replace h := h v59 hv; clear hv hk hi hj hN
    refine g_if_ne X (tgt := 84) dX4_leaves_45 (by decide) (fun hc => ?_) (fun hc => ?_)
    · replace h := h.1 hc; clear hc
      exact g_sub [0, 1, 2] [(0, .inr (some a0)), (1, .inl x1), (2, .inl x2)] rfl (jp27 w22 h)
    · replace h := h.2 hc; clear hc
      refine g_aload_n X dX4_leaves_48 rfl 0 rfl ?_
      have hk := h.1
      replace h := h.2
      refine gg_507 X hk m_1003 dX4_leaves_49 (fun z60 hv => ?_)
      replace h := h z60 hv; clear hv hk
      refine g_iload_n X dX4_leaves_52 rfl 2 rfl ?_
      refine g_aload_n X dX4_leaves_53 rfl 0 rfl ?_
      have hk := h.1
      replace h := h.2
      refine gg_507 X hk m_1003 dX4_leaves_54 (fun z61 hv => ?_)
      replace h := h z61 hv; clear hv hk
      refine g_iload_n X dX4_leaves_57 rfl 1 rfl ?_
      obtain ⟨a62, rfl, hk, h⟩ := h
      obtain ⟨j63, hi, hj, hN, h⟩ := h
      refine g_iald X hk hi hj hN dX4_leaves_58 (fun v64 hv => ?_)
      replace h := h v64 hv; clear hv hk hi hj hN
      obtain ⟨a65, rfl, hk, h⟩ := h
      obtain ⟨j66, hi, hj, hN, h⟩ := h
      refine g_iast X hk hi hj hN dX4_leaves_59 (fun w67 hv => ?_)
      replace h := h w67 hv; clear hv hk hi hj hN
      refine g_aload_n X dX4_leaves_60 rfl 0 rfl ?_
      have hk := h.1
      replace h := h.2
      refine gg_508 X hk m_1004 dX4_leaves_61 (fun z68 hv => ?_)
      replace h := h z68 hv; clear hv hk
      refine g_iload_n X dX4_leaves_64 rfl 2 rfl ?_
      refine g_aload_n X dX4_leaves_65 rfl 0 rfl ?_
      have hk := h.1
      replace h := h.2
      refine gg_508 X hk m_1004 dX4_leaves_66 (fun z69 hv => ?_)
      replace h := h z69 hv; clear hv hk
      refine g_iload_n X dX4_leaves_69 rfl 1 rfl ?_
      obtain ⟨a70, rfl, hk, h⟩ := h
      obtain ⟨j71, hi, hj, hN, h⟩ := h
      refine g_iald X hk hi hj hN dX4_leaves_70 (fun v72 hv => ?_)
      replace h := h v72 hv; clear hv hk hi hj hN
      obtain ⟨a73, rfl, hk, h⟩ := h
      obtain ⟨j74, hi, hj, hN, h⟩ := h
      refine g_iast X hk hi hj hN dX4_leaves_71 (fun w75 hv => ?_)
      replace h := h w75 hv; clear hv hk hi hj hN
      refine g_aload_n X dX4_leaves_72 rfl 0 rfl ?_
      have hk := h.1
      replace h := h.2
      refine gg_509 X hk m_1005 dX4_leaves_73 (fun z76 hv => ?_)
      replace h := h z76 hv; clear hv hk
      refine g_iload_n X dX4_leaves_76 rfl 2 rfl ?_
      refine g_aload_n X dX4_leaves_77 rfl 0 rfl ?_
      have hk := h.1
      replace h := h.2
      refine gg_509 X hk m_1005 dX4_leaves_78 (fun z77 hv => ?_)
      replace h := h z77 hv; clear hv hk
      refine g_iload_n X dX4_leaves_81 rfl 1 rfl ?_
      obtain ⟨a78, rfl, hk, h⟩ := h
      obtain ⟨j79, hi, hj, hN, h⟩ := h
      refine g_iald X hk hi hj hN dX4_leaves_82 (fun v80 hv => ?_)
      replace h := h v80 hv; clear hv hk hi hj hN
      obtain ⟨a81, rfl, hk, h⟩ := h
      obtain ⟨j82, hi, hj, hN, h⟩ := h
      refine g_iast X hk hi hj hN dX4_leaves_83 (fun w83 hv => ?_)
      replace h := h w83 hv; clear hv hk hi hj hN
      exact g_sub [0, 1, 2] [(0, .inr (some a0)), (1, .inl x1), (2, .inl x2)] rfl (jp27 w83 h)

abbrev rm_X4_die : Room := { frames := 8, cells := 0, slots := 0, locals := 146 }
def wp_X4_die (a0 : Nat) (x1 : Int32) (x2 : Int32) (w : Wd) (Q : Int32 → Wd → Prop) : Prop :=
  w.K a0 = 5 ∧
  wp_X4_isOne a0 x1 w (fun v2 w1 => 
  ∃ J3 : Option Nat → Int32 → Wd → Prop, (∀ (q4 : Option Nat) (y5 : Int32) (w6 : Wd), J3 q4 y5 w6 →
  ∃ a7, q4 = some a7 ∧ w6.K a7 = 5 ∧
  ∀ w8 : Wd, w8 = w6.setI 500 a7 y5 →
  w8.K a0 = 5 ∧
  ∀ v9 : Int32, v9 = w8.I 500 a0 →
  (v9 = 0 → w8.K a0 = 5 ∧
  wp_X4_leaves a0 x1 x2 w8 (fun w10 => 
  ∃ Inv12 : Nat → Int32 → Int32 → Wd → Prop, (∃ n : Nat, Inv12 n (0 : Int32) (0 : Int32) w10) ∧ ∀ (n11 : Nat) (y13 : Int32) (y14 : Int32) (w15 : Wd), Inv12 n11 y13 y14 w15 →
  w15.K a0 = 5 ∧
  ∀ v16 : Int32, v16 = w15.I 513 a0 →
  (v16 ≤ y14 → Q y13 w15) ∧ (¬ v16 ≤ y14 → w15.K a0 = 5 ∧
  wp_X4_placeOf a0 y14 x1 w15 (fun v18 w17 => 
  w17.K a0 = 5 ∧
  wp_X4_placeOf a0 y14 x2 w17 (fun v20 w19 => 
  ∃ J21 : Int32 → Wd → Prop, (∀ (y22 : Int32) (w23 : Wd), J21 y22 w23 →
  ∀ v24 : Int32, v24 = y14 + (1 : Int32) →
  ∃ n : Nat, n < n11 ∧ Inv12 n y22 v24 w23) ∧
  ∃ J25 : Prop, (J25 →
  (v18 < 0 → J21 y13 w19) ∧ (¬ v18 < 0 → w19.K a0 = 5 ∧
  ∀ z26 : Option Nat, z26 = w19.R 521 a0 →
  ∀ v27 : Int32, v27 = (10 : Int32) * y14 →
  ∀ v28 : Int32, v28 = v27 + v18 →
  ∃ a29, z26 = some a29 ∧ w19.K a29 = 11 ∧
  ∃ j30 : Nat, v28 = nI j30 ∧ j30 < w19.N a29 ∧ w19.N a29 < 2 ^ 31 ∧
  ∀ w31 : Wd, w31 = w19.setA a29 j30 x2 →
  ∀ v32 : Int32, v32 = y13 + (1 : Int32) →
  J21 v32 w31)) ∧
  (v18 < 0 → J25) ∧ (¬ v18 < 0 → (v20 < 0 → J25) ∧ (¬ v20 < 0 → w19.K a0 = 5 ∧
  ∀ z33 : Option Nat, z33 = w19.R 522 a0 →
  ∀ v34 : Int32, v34 = (10 : Int32) * y14 →
  ∀ v35 : Int32, v35 = v34 + v20 →
  ∃ a36, z33 = some a36 ∧ w19.K a36 = 11 ∧
  ∃ j37 : Nat, v35 = nI j37 ∧ j37 < w19.N a36 ∧ w19.N a36 < 2 ^ 31 ∧
  ∀ v38 : Int32, v38 = w19.A a36 j37 →
  w19.K a0 = 5 ∧
  ∀ z39 : Option Nat, z39 = w19.R 522 a0 →
  ∀ v40 : Int32, v40 = (10 : Int32) * y14 →
  ∀ v41 : Int32, v41 = v40 + v18 →
  ∃ a42, z39 = some a42 ∧ w19.K a42 = 11 ∧
  ∃ j43 : Nat, v41 = nI j43 ∧ j43 < w19.N a42 ∧ w19.N a42 < 2 ^ 31 ∧
  ∀ v44 : Int32, v44 = w19.A a42 j43 →
  ∀ v45 : Int32, v45 = v38 + v44 →
  w19.K a36 = 11 ∧
  ∃ j46 : Nat, v35 = nI j46 ∧ j46 < w19.N a36 ∧ w19.N a36 < 2 ^ 31 ∧
  ∀ w47 : Wd, w47 = w19.setA a36 j46 v45 →
  w47.K a0 = 5 ∧
  wp_X4_goes a0 y14 v18 w47 (fun w48 => 
  J21 y13 w48)))))))) ∧ (¬ v9 = 0 → Q (0 : Int32) w8)) ∧
  ∃ J49 : Option Nat → Wd → Prop, (∀ (q50 : Option Nat) (w51 : Wd), J49 q50 w51 →
  J3 q50 (1 : Int32) w51) ∧
  (v2 = 0 → J49 (some a0) w1) ∧ (¬ v2 = 0 → w1.K a0 = 5 ∧
  wp_X4_isOne a0 x2 w1 (fun v53 w52 => 
  (¬ v53 = 0 → (¬ x1 = x2 → w52.K a0 = 5 ∧
  ∀ z54 : Option Nat, z54 = w52.R 512 a0 →
  ∃ a55, z54 = some a55 ∧ w52.K a55 = 12 ∧
  ∃ j56 : Nat, x1 = nI j56 ∧ j56 < w52.N a55 ∧ w52.N a55 < 2 ^ 31 ∧
  ∀ v57 : Int32, v57 = w52.A a55 j56 →
  ∃ J58 : Option Nat → Prop, (∀ (q59 : Option Nat), J58 q59 →
  J3 q59 (3 : Int32) w52) ∧
  (¬ v57 = 0 → J58 (some a0)) ∧ (v57 = 0 → w52.K a0 = 5 ∧
  ∀ z60 : Option Nat, z60 = w52.R 512 a0 →
  ∃ a61, z60 = some a61 ∧ w52.K a61 = 12 ∧
  ∃ j62 : Nat, x2 = nI j62 ∧ j62 < w52.N a61 ∧ w52.N a61 < 2 ^ 31 ∧
  ∀ v63 : Int32, v63 = w52.A a61 j62 →
  (¬ v63 = 0 → J58 (some a0)) ∧ (v63 = 0 → w52.K a0 = 5 ∧
  ∀ z64 : Option Nat, z64 = w52.R 505 a0 →
  ∃ a65, z64 = some a65 ∧ w52.K a65 = 11 ∧
  ∃ j66 : Nat, x1 = nI j66 ∧ j66 < w52.N a65 ∧ w52.N a65 < 2 ^ 31 ∧
  ∀ v67 : Int32, v67 = w52.A a65 j66 →
  w52.K a0 = 5 ∧
  ∀ z68 : Option Nat, z68 = w52.R 505 a0 →
  ∃ a69, z68 = some a69 ∧ w52.K a69 = 11 ∧
  ∃ j70 : Nat, x2 = nI j70 ∧ j70 < w52.N a69 ∧ w52.N a69 < 2 ^ 31 ∧
  ∀ v71 : Int32, v71 = w52.A a69 j70 →
  ∀ v72 : Int32, v72 = v67 + v71 →
  (v72 ≤ (100 : Int32) → J3 (some a0) (0 : Int32) w52) ∧ (¬ v72 ≤ (100 : Int32) → J58 (some a0))))) ∧ (x1 = x2 → J3 (some a0) (2 : Int32) w52)) ∧ (v53 = 0 → J49 (some a0) w52))))
set_option maxHeartbeats 4000000 in
set_option maxRecDepth 100000 in
theorem c_X4_die {l : Launch} {G : GT} {L0 : Nat} (hst : l.stackTraces = false) {a0 : Nat} {x1 : Int32} {x2 : Int32} {w : Wd} {Q : Int32 → Wd → Prop} (h : wp_X4_die a0 x1 x2 w Q) : GMi l G L0 yX4_die cX4_die 7 (some .int) rm_X4_die [.ref a0, .int x1, .int x2] w Q := by
  refine g_enter hst (by decide +kernel) [.inr (some a0), .inl x1, .inl x2] rfl (show 3 ≤ 7 by decide) ?_
  intro p e s m args below meth c X hr hnm
  replace X : GC l G L0 p s m args meth c cX4_die 7 "SusuRingModel" := X
  refine g_aload_n X dX4_die_0 rfl 0 rfl ?_
  refine g_aload_n X dX4_die_1 rfl 0 rfl ?_
  refine g_iload_n X dX4_die_2 rfl 1 rfl ?_
  have hk := h.1
  replace h := h.2
  refine g_callV_i X (As := [.int x1]) (st := [va_rf (some a0)]) (n := 1) (c_X4_isOne hst h) rfl (by decide) hk (wE_5 G w a0) m_1107 m_1109 m_15 m_34 m_1110 (by decide +kernel) (by decide +kernel) rfl rfl (by simp [cat_int, rf_cat]) ⟨(by decide +kernel), (by decide +kernel)⟩ dX4_die_3 (fun v2 w1 h => ?_)
  clear hk
  refine g_widen (c2 := (0)) (s2 := (0)) (by decide +kernel) (by decide +kernel) ?_
  obtain ⟨J3, hjJ3, h⟩ := h
  have jp3 : ∀ (q4 : Option Nat) (y5 : Int32) (w6 : Wd), J3 q4 y5 w6 → Gw l G L0 p e rm_X4_die s m args below meth c 7 (0) (0) (MQ below (gQi G L0 Q) args s rm_X4_die.cells rm_X4_die.slots (GA L0)) w6 71 [(0, .inr (some a0)), (1, .inl x1), (2, .inl x2)] [.int y5, va_rf q4] := by
    intro q4 y5 w6 hJ
    have h := hjJ3 q4 y5 w6 hJ
    clear hJ
    obtain ⟨a7, rfl, hk, h⟩ := h
    refine gp_500 X hk m_996 dX4_die_71 (fun w8 hv => ?_)
    replace h := h w8 hv; clear hv hk
    refine g_aload_n X dX4_die_74 rfl 0 rfl ?_
    have hk := h.1
    replace h := h.2
    refine gg_500 X hk m_996 dX4_die_75 (fun v9 hv => ?_)
    replace h := h v9 hv; clear hv hk
    refine g_if_eq X (tgt := 83) dX4_die_78 (by decide) (fun hc => ?_) (fun hc => ?_)
    · replace h := h.1 hc; clear hc
      refine g_aload_n X dX4_die_83 rfl 0 rfl ?_
      refine g_iload_n X dX4_die_84 rfl 1 rfl ?_
      refine g_iload_n X dX4_die_85 rfl 2 rfl ?_
      have hk := h.1
      replace h := h.2
      refine g_callV_v X (As := [.int x1, .int x2]) (st := []) (n := 2) (c_X4_leaves hst h) rfl (by decide) hk (wE_5 G w8 a0) m_1116 m_1118 m_16 m_34 m_1119 (by decide +kernel) (by decide +kernel) rfl rfl (Nat.zero_le _) ⟨(by decide +kernel), (by decide +kernel)⟩ dX4_die_86 (fun w10 h => ?_)
      clear hk
      refine g_widen (c2 := (0)) (s2 := (0)) (by decide +kernel) (by decide +kernel) ?_
      refine g_iconst X (v := (0 : Int32)) dX4_die_89 (by decide) ?_
      refine g_istore_n X [(3, .inl (0 : Int32)), (0, .inr (some a0)), (1, .inl x1), (2, .inl x2)] dX4_die_90 rfl (by decide) rfl ?_
      refine g_iconst X (v := (0 : Int32)) dX4_die_91 (by decide) ?_
      refine g_istore X [(4, .inl (0 : Int32)), (3, .inl (0 : Int32)), (0, .inr (some a0)), (1, .inl x1), (2, .inl x2)] dX4_die_92 (by decide) rfl ?_
      obtain ⟨Inv12, ⟨n0, hi⟩, hsn11⟩ := h
      have lp12 : ∀ (n11 : Nat), ∀ (y13 : Int32) (y14 : Int32) (w15 : Wd), Inv12 n11 y13 y14 w15 → Gw l G L0 p e rm_X4_die s m args below meth c 7 (0) (0) (MQ below (gQi G L0 Q) args s rm_X4_die.cells rm_X4_die.slots (GA L0)) w15 94 [(0, .inr (some a0)), (1, .inl x1), (2, .inl x2), (3, .inl y13), (4, .inl y14)] [] := by
        intro n11
        induction n11 using Nat.strongRecOn with
        | ind n11 ihn11 =>
          intro y13 y14 w15 hI
          have h := hsn11 n11 y13 y14 w15 hI
          clear hI
          refine g_iload X dX4_die_94 4 rfl ?_
          refine g_aload_n X dX4_die_96 rfl 0 rfl ?_
          have hk := h.1
          replace h := h.2
          refine gg_513 X hk m_1009 dX4_die_97 (fun v16 hv => ?_)
          replace h := h v16 hv; clear hv hk
          refine g_icmp_ge X (tgt := 199) dX4_die_100 (by decide) (fun hc => ?_) (fun hc => ?_)
          · replace h := h.1 hc; clear hc
            refine g_iload_n X dX4_die_199 rfl 3 rfl ?_
            exact g_iret X hr (by decide +kernel) (by decide +kernel) dX4_die_200 h
          · replace h := h.2 hc; clear hc
            refine g_aload_n X dX4_die_103 rfl 0 rfl ?_
            refine g_iload X dX4_die_104 4 rfl ?_
            refine g_iload_n X dX4_die_106 rfl 1 rfl ?_
            have hk := h.1
            replace h := h.2
            refine g_callV_i X (As := [.int y14, .int x1]) (st := []) (n := 2) (c_X4_placeOf hst h) rfl (by decide) hk (wE_5 G w15 a0) m_1120 m_1122 m_17 m_34 m_1123 (by decide +kernel) (by decide +kernel) rfl rfl (Nat.zero_le _) ⟨(by decide +kernel), (by decide +kernel)⟩ dX4_die_107 (fun v18 w17 h => ?_)
            clear hk
            refine g_widen (c2 := (0)) (s2 := (0)) (by decide +kernel) (by decide +kernel) ?_
            refine g_istore X [(5, .inl v18), (0, .inr (some a0)), (1, .inl x1), (2, .inl x2), (3, .inl y13), (4, .inl y14)] dX4_die_110 (by decide) rfl ?_
            refine g_aload_n X dX4_die_112 rfl 1 rfl ?_
            refine g_iload X dX4_die_113 5 rfl ?_
            refine g_iload_n X dX4_die_115 rfl 3 rfl ?_
            have hk := h.1
            replace h := h.2
            refine g_callV_i X (As := [.int y14, .int x2]) (st := []) (n := 2) (c_X4_placeOf hst h) rfl (by decide) hk (wE_5 G w17 a0) m_1120 m_1122 m_17 m_34 m_1123 (by decide +kernel) (by decide +kernel) rfl rfl (Nat.zero_le _) ⟨(by decide +kernel), (by decide +kernel)⟩ dX4_die_116 (fun v20 w19 h => ?_)
            clear hk
            refine g_widen (c2 := (0)) (s2 := (0)) (by decide +kernel) (by decide +kernel) ?_
            refine g_istore X [(6, .inl v20), (5, .inl v18), (0, .inr (some a0)), (1, .inl x1), (2, .inl x2), (3, .inl y13), (4, .inl y14)] dX4_die_119 (by decide) rfl ?_
            refine g_iload X dX4_die_121 1 rfl ?_
            obtain ⟨J21, hjJ21, h⟩ := h
            have jp21 : ∀ (y22 : Int32) (w23 : Wd), J21 y22 w23 → Gw l G L0 p e rm_X4_die s m args below meth c 7 (0) (0) (MQ below (gQi G L0 Q) args s rm_X4_die.cells rm_X4_die.slots (GA L0)) w23 193 [(0, .inr (some a0)), (1, .inl x1), (2, .inl x2), (3, .inl y22), (4, .inl y14)] [] := by
              intro y22 w23 hJ
              have h := hjJ21 y22 w23 hJ
              clear hJ
              refine g_iinc X dX4_die_193 4 rfl (d := (1 : Int32)) (by decide) (by decide) (fun v24 hv => ?_)
              replace h := h v24 hv; clear hv
              refine g_sub [0, 1, 2, 3, 4] [(4, .inl v24), (0, .inr (some a0)), (1, .inl x1), (2, .inl x2), (3, .inl y22)] rfl ?_
              refine g_goto X (tgt := 94) dX4_die_196 (by decide) ?_
              obtain ⟨n, hn, hI⟩ := h
              exact g_sub [1, 2, 3, 4, 0] [(0, .inr (some a0)), (1, .inl x1), (2, .inl x2), (3, .inl y22), (4, .inl v24)] rfl (ihn11 n hn y22 v24 w23 hI)
            obtain ⟨J25, hjJ25, h⟩ := h
            have jp25 : J25 → Gw l G L0 p e rm_X4_die s m args below meth c 7 (0) (0) (MQ below (gQi G L0 Q) args s rm_X4_die.cells rm_X4_die.slots (GA L0)) w19 171 [(0, .inr (some a0)), (1, .inl x1), (2, .inl x2), (3, .inl y13), (4, .inl y14), (5, .inl v18)] [] := by
              intro hJ
              have h := hjJ25 hJ
              clear hJ
              refine g_iload X dX4_die_171 5 rfl ?_
              refine g_if_lt X (tgt := 193) dX4_die_173 (by decide) (fun hc => ?_) (fun hc => ?_)
              · replace h := h.1 hc; clear hc
                exact g_sub [0, 1, 2, 3, 4] [(0, .inr (some a0)), (1, .inl x1), (2, .inl x2), (3, .inl y13), (4, .inl y14)] rfl (jp21 y13 w19 h)
              · replace h := h.2 hc; clear hc
                refine g_aload_n X dX4_die_176 rfl 0 rfl ?_
                have hk := h.1
                replace h := h.2
                refine gg_521 X hk m_1017 dX4_die_177 (fun z26 hv => ?_)
                replace h := h z26 hv; clear hv hk
                refine g_bipush X (v := (10 : Int32)) dX4_die_180 (by decide) ?_
                refine g_iload X dX4_die_182 4 rfl ?_
                refine g_imul X dX4_die_184 (fun v27 hv => ?_)
                replace h := h v27 hv; clear hv
                refine g_iload X dX4_die_185 5 rfl ?_
                refine g_iadd X dX4_die_187 (fun v28 hv => ?_)
                replace h := h v28 hv; clear hv
                refine g_iload_n X dX4_die_188 rfl 2 rfl ?_
                obtain ⟨a29, rfl, hk, h⟩ := h
                obtain ⟨j30, hi, hj, hN, h⟩ := h
                refine g_iast X hk hi hj hN dX4_die_189 (fun w31 hv => ?_)
                replace h := h w31 hv; clear hv hk hi hj hN
                refine g_iinc X dX4_die_190 3 rfl (d := (1 : Int32)) (by decide) (by decide) (fun v32 hv => ?_)
                replace h := h v32 hv; clear hv
                refine g_sub [0, 1, 2, 3, 4, 5] [(3, .inl v32), (0, .inr (some a0)), (1, .inl x1), (2, .inl x2), (4, .inl y14), (5, .inl v18)] rfl ?_
                exact g_sub [1, 2, 3, 0, 4] [(0, .inr (some a0)), (1, .inl x1), (2, .inl x2), (3, .inl v32), (4, .inl y14)] rfl (jp21 v32 w31 h)
            refine g_if_lt X (tgt := 171) dX4_die_123 (by decide) (fun hc => ?_) (fun hc => ?_)
            · replace h := h.1 hc; clear hc
              exact g_sub [2, 3, 4, 5, 6, 1] [(0, .inr (some a0)), (1, .inl x1), (2, .inl x2), (3, .inl y13), (4, .inl y14), (5, .inl v18)] rfl (jp25  h)
            · replace h := h.2 hc; clear hc
              refine g_iload X dX4_die_126 0 rfl ?_
              refine g_if_lt X (tgt := 171) dX4_die_128 (by decide) (fun hc => ?_) (fun hc => ?_)
              · replace h := h.1 hc; clear hc
                exact g_sub [2, 3, 4, 5, 6, 1] [(0, .inr (some a0)), (1, .inl x1), (2, .inl x2), (3, .inl y13), (4, .inl y14), (5, .inl v18)] rfl (jp25  h)
              · replace h := h.2 hc; clear hc
                refine g_aload_n X dX4_die_131 rfl 2 rfl ?_
                have hk := h.1
                replace h := h.2
                refine gg_522 X hk m_1018 dX4_die_132 (fun z33 hv => ?_)
                replace h := h z33 hv; clear hv hk
                refine g_bipush X (v := (10 : Int32)) dX4_die_135 (by decide) ?_
                refine g_iload X dX4_die_137 6 rfl ?_
                refine g_imul X dX4_die_139 (fun v34 hv => ?_)
                replace h := h v34 hv; clear hv
                refine g_iload X dX4_die_140 0 rfl ?_
                refine g_iadd X dX4_die_142 (fun v35 hv => ?_)
                replace h := h v35 hv; clear hv
                refine g_dup2 X dX4_die_143 rfl rf_cat ?_
                obtain ⟨a36, rfl, hk, h⟩ := h
                obtain ⟨j37, hi, hj, hN, h⟩ := h
                refine g_iald X hk hi hj hN dX4_die_144 (fun v38 hv => ?_)
                replace h := h v38 hv; clear hv hk hi hj hN
                refine g_aload_n X dX4_die_145 rfl 2 rfl ?_
                have hk := h.1
                replace h := h.2
                refine gg_522 X hk m_1018 dX4_die_146 (fun z39 hv => ?_)
                replace h := h z39 hv; clear hv hk
                refine g_bipush X (v := (10 : Int32)) dX4_die_149 (by decide) ?_
                refine g_iload X dX4_die_151 6 rfl ?_
                refine g_imul X dX4_die_153 (fun v40 hv => ?_)
                replace h := h v40 hv; clear hv
                refine g_iload X dX4_die_154 1 rfl ?_
                refine g_iadd X dX4_die_156 (fun v41 hv => ?_)
                replace h := h v41 hv; clear hv
                obtain ⟨a42, rfl, hk, h⟩ := h
                obtain ⟨j43, hi, hj, hN, h⟩ := h
                refine g_iald X hk hi hj hN dX4_die_157 (fun v44 hv => ?_)
                replace h := h v44 hv; clear hv hk hi hj hN
                refine g_iadd X dX4_die_158 (fun v45 hv => ?_)
                replace h := h v45 hv; clear hv
                have hk := h.1
                replace h := h.2
                obtain ⟨j46, hi, hj, hN, h⟩ := h
                refine g_iast X hk hi hj hN dX4_die_159 (fun w47 hv => ?_)
                replace h := h w47 hv; clear hv hk hi hj hN
                refine g_aload_n X dX4_die_160 rfl 2 rfl ?_
                refine g_iload X dX4_die_161 6 rfl ?_
                refine g_iload X dX4_die_163 1 rfl ?_
                have hk := h.1
                replace h := h.2
                refine g_callV_v X (As := [.int y14, .int v18]) (st := []) (n := 2) (c_X4_goes hst h) rfl (by decide) hk (wE_5 G w47 a0) m_1124 m_1126 m_18 m_34 m_1127 (by decide +kernel) (by decide +kernel) rfl rfl (Nat.zero_le _) ⟨(by decide +kernel), (by decide +kernel)⟩ dX4_die_165 (fun w48 h => ?_)
                clear hk
                refine g_widen (c2 := (0)) (s2 := (0)) (by decide +kernel) (by decide +kernel) ?_
                refine g_goto X (tgt := 193) dX4_die_168 (by decide) ?_
                exact g_sub [2, 3, 4, 5, 6] [(0, .inr (some a0)), (1, .inl x1), (2, .inl x2), (3, .inl y13), (4, .inl y14)] rfl (jp21 y13 w48 h)
      exact g_sub [2, 3, 4, 1, 0] [(0, .inr (some a0)), (1, .inl x1), (2, .inl x2), (3, .inl (0 : Int32)), (4, .inl (0 : Int32))] rfl (lp12 n0 (0 : Int32) (0 : Int32) w10 hi)
    · replace h := h.2 hc; clear hc
      refine g_iconst X (v := (0 : Int32)) dX4_die_81 (by decide) ?_
      exact g_iret X hr (by decide +kernel) (by decide +kernel) dX4_die_82 h
  obtain ⟨J49, hjJ49, h⟩ := h
  have jp49 : ∀ (q50 : Option Nat) (w51 : Wd), J49 q50 w51 → Gw l G L0 p e rm_X4_die s m args below meth c 7 (0) (0) (MQ below (gQi G L0 Q) args s rm_X4_die.cells rm_X4_die.slots (GA L0)) w51 17 [(0, .inr (some a0)), (1, .inl x1), (2, .inl x2)] [va_rf q50] := by
    intro q50 w51 hJ
    have h := hjJ49 q50 w51 hJ
    clear hJ
    refine g_iconst X (v := (1 : Int32)) dX4_die_17 (by decide) ?_
    refine g_goto X (tgt := 71) dX4_die_18 (by decide) ?_
    exact g_sub [0, 1, 2] [(0, .inr (some a0)), (1, .inl x1), (2, .inl x2)] rfl (jp3 q50 (1 : Int32) w51 h)
  refine g_if_eq X (tgt := 17) dX4_die_6 (by decide) (fun hc => ?_) (fun hc => ?_)
  · replace h := h.1 hc; clear hc
    exact g_sub [0, 1, 2] [(0, .inr (some a0)), (1, .inl x1), (2, .inl x2)] rfl (jp49 (some a0) w1 h)
  · replace h := h.2 hc; clear hc
    refine g_aload_n X dX4_die_9 rfl 0 rfl ?_
    refine g_iload_n X dX4_die_10 rfl 2 rfl ?_
    have hk := h.1
    replace h := h.2
    refine g_callV_i X (As := [.int x2]) (st := [va_rf (some a0)]) (n := 1) (c_X4_isOne hst h) rfl (by decide) hk (wE_5 G w1 a0) m_1107 m_1109 m_15 m_34 m_1110 (by decide +kernel) (by decide +kernel) rfl rfl (by simp [cat_int, rf_cat]) ⟨(by decide +kernel), (by decide +kernel)⟩ dX4_die_11 (fun v53 w52 h => ?_)
    clear hk
    refine g_widen (c2 := (0)) (s2 := (0)) (by decide +kernel) (by decide +kernel) ?_
    refine g_if_ne X (tgt := 21) dX4_die_14 (by decide) (fun hc => ?_) (fun hc => ?_)
    · replace h := h.1 hc; clear hc
      refine g_iload_n X dX4_die_21 rfl 1 rfl ?_
      refine g_iload_n X dX4_die_22 rfl 2 rfl ?_
      refine g_icmp_ne X (tgt := 30) dX4_die_23 (by decide) (fun hc => ?_) (fun hc => ?_)
      · replace h := h.1 hc; clear hc
        refine g_aload_n X dX4_die_30 rfl 0 rfl ?_
        have hk := h.1
        replace h := h.2
        refine gg_512 X hk m_1008 dX4_die_31 (fun z54 hv => ?_)
        replace h := h z54 hv; clear hv hk
        refine g_iload_n X dX4_die_34 rfl 1 rfl ?_
        obtain ⟨a55, rfl, hk, h⟩ := h
        obtain ⟨j56, hi, hj, hN, h⟩ := h
        refine g_zald X hk hi hj hN dX4_die_35 (fun v57 hv => ?_)
        replace h := h v57 hv; clear hv hk hi hj hN
        obtain ⟨J58, hjJ58, h⟩ := h
        have jp58 : ∀ (q59 : Option Nat), J58 q59 → Gw l G L0 p e rm_X4_die s m args below meth c 7 (0) (0) (MQ below (gQi G L0 Q) args s rm_X4_die.cells rm_X4_die.slots (GA L0)) w52 66 [(0, .inr (some a0)), (1, .inl x1), (2, .inl x2)] [va_rf q59] := by
          intro q59 hJ
          have h := hjJ58 q59 hJ
          clear hJ
          refine g_iconst X (v := (3 : Int32)) dX4_die_66 (by decide) ?_
          refine g_goto X (tgt := 71) dX4_die_67 (by decide) ?_
          exact g_sub [0, 1, 2] [(0, .inr (some a0)), (1, .inl x1), (2, .inl x2)] rfl (jp3 q59 (3 : Int32) w52 h)
        refine g_if_ne X (tgt := 66) dX4_die_36 (by decide) (fun hc => ?_) (fun hc => ?_)
        · replace h := h.1 hc; clear hc
          exact g_sub [0, 1, 2] [(0, .inr (some a0)), (1, .inl x1), (2, .inl x2)] rfl (jp58 (some a0) h)
        · replace h := h.2 hc; clear hc
          refine g_aload_n X dX4_die_39 rfl 0 rfl ?_
          have hk := h.1
          replace h := h.2
          refine gg_512 X hk m_1008 dX4_die_40 (fun z60 hv => ?_)
          replace h := h z60 hv; clear hv hk
          refine g_iload_n X dX4_die_43 rfl 2 rfl ?_
          obtain ⟨a61, rfl, hk, h⟩ := h
          obtain ⟨j62, hi, hj, hN, h⟩ := h
          refine g_zald X hk hi hj hN dX4_die_44 (fun v63 hv => ?_)
          replace h := h v63 hv; clear hv hk hi hj hN
          refine g_if_ne X (tgt := 66) dX4_die_45 (by decide) (fun hc => ?_) (fun hc => ?_)
          · replace h := h.1 hc; clear hc
            exact g_sub [0, 1, 2] [(0, .inr (some a0)), (1, .inl x1), (2, .inl x2)] rfl (jp58 (some a0) h)
          · replace h := h.2 hc; clear hc
            refine g_aload_n X dX4_die_48 rfl 0 rfl ?_
            have hk := h.1
            replace h := h.2
            refine gg_505 X hk m_1001 dX4_die_49 (fun z64 hv => ?_)
            replace h := h z64 hv; clear hv hk
            refine g_iload_n X dX4_die_52 rfl 1 rfl ?_
            obtain ⟨a65, rfl, hk, h⟩ := h
            obtain ⟨j66, hi, hj, hN, h⟩ := h
            refine g_iald X hk hi hj hN dX4_die_53 (fun v67 hv => ?_)
            replace h := h v67 hv; clear hv hk hi hj hN
            refine g_aload_n X dX4_die_54 rfl 0 rfl ?_
            have hk := h.1
            replace h := h.2
            refine gg_505 X hk m_1001 dX4_die_55 (fun z68 hv => ?_)
            replace h := h z68 hv; clear hv hk
            refine g_iload_n X dX4_die_58 rfl 2 rfl ?_
            obtain ⟨a69, rfl, hk, h⟩ := h
            obtain ⟨j70, hi, hj, hN, h⟩ := h
            refine g_iald X hk hi hj hN dX4_die_59 (fun v71 hv => ?_)
            replace h := h v71 hv; clear hv hk hi hj hN
            refine g_iadd X dX4_die_60 (fun v72 hv => ?_)
            replace h := h v72 hv; clear hv
            refine g_bipush X (v := (100 : Int32)) dX4_die_61 (by decide) ?_
            refine g_icmp_le X (tgt := 70) dX4_die_63 (by decide) (fun hc => ?_) (fun hc => ?_)
            · replace h := h.1 hc; clear hc
              refine g_iconst X (v := (0 : Int32)) dX4_die_70 (by decide) ?_
              exact g_sub [0, 1, 2] [(0, .inr (some a0)), (1, .inl x1), (2, .inl x2)] rfl (jp3 (some a0) (0 : Int32) w52 h)
            · replace h := h.2 hc; clear hc
              exact g_sub [0, 1, 2] [(0, .inr (some a0)), (1, .inl x1), (2, .inl x2)] rfl (jp58 (some a0) h)
      · replace h := h.2 hc; clear hc
        refine g_iconst X (v := (2 : Int32)) dX4_die_26 (by decide) ?_
        refine g_goto X (tgt := 71) dX4_die_27 (by decide) ?_
        exact g_sub [0, 1, 2] [(0, .inr (some a0)), (1, .inl x1), (2, .inl x2)] rfl (jp3 (some a0) (2 : Int32) w52 h)
    · replace h := h.2 hc; clear hc
      exact g_sub [0, 1, 2] [(0, .inr (some a0)), (1, .inl x1), (2, .inl x2)] rfl (jp49 (some a0) w52 h)

abbrev rm_X4_circle : Room := { frames := 7, cells := 0, slots := 0, locals := 122 }
def wp_X4_circle (a0 : Nat) (x1 : Int32) (x2 : Int32) (w : Wd) (Q : Int32 → Wd → Prop) : Prop :=
  wp_X4_in x1 (1 : Int32) (1000 : Int32) w (fun v2 w1 => 
  ∃ J3 : Option Nat → Int32 → Wd → Prop, (∀ (q4 : Option Nat) (y5 : Int32) (w6 : Wd), J3 q4 y5 w6 →
  ∃ a7, q4 = some a7 ∧ w6.K a7 = 5 ∧
  ∀ w8 : Wd, w8 = w6.setI 500 a7 y5 →
  w8.K a0 = 5 ∧
  ∀ v9 : Int32, v9 = w8.I 500 a0 →
  (v9 = 0 → w8.K a0 = 5 ∧
  ∀ z10 : Option Nat, z10 = w8.R 514 a0 →
  w8.K a0 = 5 ∧
  ∀ v11 : Int32, v11 = w8.I 513 a0 →
  ∃ a12, z10 = some a12 ∧ w8.K a12 = 11 ∧
  ∃ j13 : Nat, v11 = nI j13 ∧ j13 < w8.N a12 ∧ w8.N a12 < 2 ^ 31 ∧
  ∀ w14 : Wd, w14 = w8.setA a12 j13 x1 →
  w14.K a0 = 5 ∧
  ∀ z15 : Option Nat, z15 = w14.R 515 a0 →
  w14.K a0 = 5 ∧
  ∀ v16 : Int32, v16 = w14.I 513 a0 →
  ∃ a17, z15 = some a17 ∧ w14.K a17 = 11 ∧
  ∃ j18 : Nat, v16 = nI j18 ∧ j18 < w14.N a17 ∧ w14.N a17 < 2 ^ 31 ∧
  ∀ w19 : Wd, w19 = w14.setA a17 j18 x2 →
  w19.K a0 = 5 ∧
  ∀ v20 : Int32, v20 = w19.I 513 a0 →
  ∀ v21 : Int32, v21 = v20 + (1 : Int32) →
  w19.K a0 = 5 ∧
  ∀ w22 : Wd, w22 = w19.setI 513 a0 v21 →
  w22.K a0 = 5 ∧
  ∀ v23 : Int32, v23 = w22.I 513 a0 →
  ∀ v24 : Int32, v24 = v23 - (1 : Int32) →
  Q v24 w22) ∧ (¬ v9 = 0 → Q (0 : Int32) w8)) ∧
  ∃ J25 : Option Nat → Wd → Prop, (∀ (q26 : Option Nat) (w27 : Wd), J25 q26 w27 →
  J3 q26 (1 : Int32) w27) ∧
  (v2 = 0 → J25 (some a0) w1) ∧ (¬ v2 = 0 → wp_X4_in x2 (0 : Int32) (3 : Int32) w1 (fun v29 w28 => 
  (¬ v29 = 0 → w28.K a0 = 5 ∧
  ∀ v30 : Int32, v30 = w28.I 513 a0 →
  (¬ v30 = (4 : Int32) → J3 (some a0) (0 : Int32) w28) ∧ (v30 = (4 : Int32) → J3 (some a0) (2 : Int32) w28)) ∧ (v29 = 0 → J25 (some a0) w28))))
set_option maxHeartbeats 4000000 in
set_option maxRecDepth 100000 in
theorem c_X4_circle {l : Launch} {G : GT} {L0 : Nat} (hst : l.stackTraces = false) {a0 : Nat} {x1 : Int32} {x2 : Int32} {w : Wd} {Q : Int32 → Wd → Prop} (h : wp_X4_circle a0 x1 x2 w Q) : GMi l G L0 yX4_circle cX4_circle 3 (some .int) rm_X4_circle [.ref a0, .int x1, .int x2] w Q := by
  refine g_enter hst (by decide +kernel) [.inr (some a0), .inl x1, .inl x2] rfl (show 3 ≤ 3 by decide) ?_
  intro p e s m args below meth c X hr hnm
  replace X : GC l G L0 p s m args meth c cX4_circle 3 "SusuRingModel" := X
  refine g_aload_n X dX4_circle_0 rfl 0 rfl ?_
  refine g_iload_n X dX4_circle_1 rfl 1 rfl ?_
  refine g_iconst X (v := (1 : Int32)) dX4_circle_2 (by decide) ?_
  refine g_sipush X (v := (1000 : Int32)) dX4_circle_3 (by decide) ?_
  refine g_callS_i X (As := [.int x1, .int (1 : Int32), .int (1000 : Int32)]) (st := [va_rf (some a0)]) (n := 3) (c_X4_in hst h) m_1099 m_1100 m_34 m_1101 (by decide +kernel) (by decide +kernel) rfl rfl (by simp [cat_int, rf_cat]) ⟨(by decide +kernel), (by decide +kernel)⟩ dX4_circle_6 (fun v2 w1 h => ?_)
  refine g_widen (c2 := (0)) (s2 := (0)) (by decide +kernel) (by decide +kernel) ?_
  obtain ⟨J3, hjJ3, h⟩ := h
  have jp3 : ∀ (q4 : Option Nat) (y5 : Int32) (w6 : Wd), J3 q4 y5 w6 → Gw l G L0 p e rm_X4_circle s m args below meth c 3 (0) (0) (MQ below (gQi G L0 Q) args s rm_X4_circle.cells rm_X4_circle.slots (GA L0)) w6 38 [(0, .inr (some a0)), (1, .inl x1), (2, .inl x2)] [.int y5, va_rf q4] := by
    intro q4 y5 w6 hJ
    have h := hjJ3 q4 y5 w6 hJ
    clear hJ
    obtain ⟨a7, rfl, hk, h⟩ := h
    refine gp_500 X hk m_996 dX4_circle_38 (fun w8 hv => ?_)
    replace h := h w8 hv; clear hv hk
    refine g_aload_n X dX4_circle_41 rfl 0 rfl ?_
    have hk := h.1
    replace h := h.2
    refine gg_500 X hk m_996 dX4_circle_42 (fun v9 hv => ?_)
    replace h := h v9 hv; clear hv hk
    refine g_if_eq X (tgt := 50) dX4_circle_45 (by decide) (fun hc => ?_) (fun hc => ?_)
    · replace h := h.1 hc; clear hc
      refine g_aload_n X dX4_circle_50 rfl 0 rfl ?_
      have hk := h.1
      replace h := h.2
      refine gg_514 X hk m_1010 dX4_circle_51 (fun z10 hv => ?_)
      replace h := h z10 hv; clear hv hk
      refine g_aload_n X dX4_circle_54 rfl 0 rfl ?_
      have hk := h.1
      replace h := h.2
      refine gg_513 X hk m_1009 dX4_circle_55 (fun v11 hv => ?_)
      replace h := h v11 hv; clear hv hk
      refine g_iload_n X dX4_circle_58 rfl 1 rfl ?_
      obtain ⟨a12, rfl, hk, h⟩ := h
      obtain ⟨j13, hi, hj, hN, h⟩ := h
      refine g_iast X hk hi hj hN dX4_circle_59 (fun w14 hv => ?_)
      replace h := h w14 hv; clear hv hk hi hj hN
      refine g_aload_n X dX4_circle_60 rfl 0 rfl ?_
      have hk := h.1
      replace h := h.2
      refine gg_515 X hk m_1011 dX4_circle_61 (fun z15 hv => ?_)
      replace h := h z15 hv; clear hv hk
      refine g_aload_n X dX4_circle_64 rfl 0 rfl ?_
      have hk := h.1
      replace h := h.2
      refine gg_513 X hk m_1009 dX4_circle_65 (fun v16 hv => ?_)
      replace h := h v16 hv; clear hv hk
      refine g_iload_n X dX4_circle_68 rfl 2 rfl ?_
      obtain ⟨a17, rfl, hk, h⟩ := h
      obtain ⟨j18, hi, hj, hN, h⟩ := h
      refine g_iast X hk hi hj hN dX4_circle_69 (fun w19 hv => ?_)
      replace h := h w19 hv; clear hv hk hi hj hN
      refine g_aload_n X dX4_circle_70 rfl 0 rfl ?_
      refine g_dup X dX4_circle_71 rf_cat ?_
      have hk := h.1
      replace h := h.2
      refine gg_513 X hk m_1009 dX4_circle_72 (fun v20 hv => ?_)
      replace h := h v20 hv; clear hv hk
      refine g_iconst X (v := (1 : Int32)) dX4_circle_75 (by decide) ?_
      refine g_iadd X dX4_circle_76 (fun v21 hv => ?_)
      replace h := h v21 hv; clear hv
      have hk := h.1
      replace h := h.2
      refine gp_513 X hk m_1009 dX4_circle_77 (fun w22 hv => ?_)
      replace h := h w22 hv; clear hv hk
      refine g_aload_n X dX4_circle_80 rfl 0 rfl ?_
      have hk := h.1
      replace h := h.2
      refine gg_513 X hk m_1009 dX4_circle_81 (fun v23 hv => ?_)
      replace h := h v23 hv; clear hv hk
      refine g_iconst X (v := (1 : Int32)) dX4_circle_84 (by decide) ?_
      refine g_isub X dX4_circle_85 (fun v24 hv => ?_)
      replace h := h v24 hv; clear hv
      exact g_iret X hr (by decide +kernel) (by decide +kernel) dX4_circle_86 h
    · replace h := h.2 hc; clear hc
      refine g_iconst X (v := (0 : Int32)) dX4_circle_48 (by decide) ?_
      exact g_iret X hr (by decide +kernel) (by decide +kernel) dX4_circle_49 h
  obtain ⟨J25, hjJ25, h⟩ := h
  have jp25 : ∀ (q26 : Option Nat) (w27 : Wd), J25 q26 w27 → Gw l G L0 p e rm_X4_circle s m args below meth c 3 (0) (0) (MQ below (gQi G L0 Q) args s rm_X4_circle.cells rm_X4_circle.slots (GA L0)) w27 21 [(0, .inr (some a0)), (1, .inl x1), (2, .inl x2)] [va_rf q26] := by
    intro q26 w27 hJ
    have h := hjJ25 q26 w27 hJ
    clear hJ
    refine g_iconst X (v := (1 : Int32)) dX4_circle_21 (by decide) ?_
    refine g_goto X (tgt := 38) dX4_circle_22 (by decide) ?_
    exact g_sub [0, 1, 2] [(0, .inr (some a0)), (1, .inl x1), (2, .inl x2)] rfl (jp3 q26 (1 : Int32) w27 h)
  refine g_if_eq X (tgt := 21) dX4_circle_9 (by decide) (fun hc => ?_) (fun hc => ?_)
  · replace h := h.1 hc; clear hc
    exact g_sub [0, 1, 2] [(0, .inr (some a0)), (1, .inl x1), (2, .inl x2)] rfl (jp25 (some a0) w1 h)
  · replace h := h.2 hc; clear hc
    refine g_iload_n X dX4_circle_12 rfl 2 rfl ?_
    refine g_iconst X (v := (0 : Int32)) dX4_circle_13 (by decide) ?_
    refine g_iconst X (v := (3 : Int32)) dX4_circle_14 (by decide) ?_
    refine g_callS_i X (As := [.int x2, .int (0 : Int32), .int (3 : Int32)]) (st := [va_rf (some a0)]) (n := 3) (c_X4_in hst h) m_1099 m_1100 m_34 m_1101 (by decide +kernel) (by decide +kernel) rfl rfl (by simp [cat_int, rf_cat]) ⟨(by decide +kernel), (by decide +kernel)⟩ dX4_circle_15 (fun v29 w28 h => ?_)
    refine g_widen (c2 := (0)) (s2 := (0)) (by decide +kernel) (by decide +kernel) ?_
    refine g_if_ne X (tgt := 25) dX4_circle_18 (by decide) (fun hc => ?_) (fun hc => ?_)
    · replace h := h.1 hc; clear hc
      refine g_aload_n X dX4_circle_25 rfl 0 rfl ?_
      have hk := h.1
      replace h := h.2
      refine gg_513 X hk m_1009 dX4_circle_26 (fun v30 hv => ?_)
      replace h := h v30 hv; clear hv hk
      refine g_iconst X (v := (4 : Int32)) dX4_circle_29 (by decide) ?_
      refine g_icmp_ne X (tgt := 37) dX4_circle_30 (by decide) (fun hc => ?_) (fun hc => ?_)
      · replace h := h.1 hc; clear hc
        refine g_iconst X (v := (0 : Int32)) dX4_circle_37 (by decide) ?_
        exact g_sub [0, 1, 2] [(0, .inr (some a0)), (1, .inl x1), (2, .inl x2)] rfl (jp3 (some a0) (0 : Int32) w28 h)
      · replace h := h.2 hc; clear hc
        refine g_iconst X (v := (2 : Int32)) dX4_circle_33 (by decide) ?_
        refine g_goto X (tgt := 38) dX4_circle_34 (by decide) ?_
        exact g_sub [0, 1, 2] [(0, .inr (some a0)), (1, .inl x1), (2, .inl x2)] rfl (jp3 (some a0) (2 : Int32) w28 h)
    · replace h := h.2 hc; clear hc
      exact g_sub [0, 1, 2] [(0, .inr (some a0)), (1, .inl x1), (2, .inl x2)] rfl (jp25 (some a0) w28 h)

abbrev rm_X4_enter : Room := { frames := 8, cells := 0, slots := 0, locals := 143 }
def wp_X4_enter (a0 : Nat) (x1 : Int32) (x2 : Int32) (w : Wd) (Q : Int32 → Wd → Prop) : Prop :=
  w.K a0 = 5 ∧
  wp_X4_isCircle a0 x1 w (fun v2 w1 => 
  ∃ J3 : Option Nat → Int32 → Wd → Prop, (∀ (q4 : Option Nat) (y5 : Int32) (w6 : Wd), J3 q4 y5 w6 →
  ∃ a7, q4 = some a7 ∧ w6.K a7 = 5 ∧
  ∀ w8 : Wd, w8 = w6.setI 500 a7 y5 →
  w8.K a0 = 5 ∧
  ∀ v9 : Int32, v9 = w8.I 500 a0 →
  (v9 = 0 → w8.K a0 = 5 ∧
  ∀ z10 : Option Nat, z10 = w8.R 520 a0 →
  ∃ a11, z10 = some a11 ∧ w8.K a11 = 12 ∧
  ∃ j12 : Nat, x1 = nI j12 ∧ j12 < w8.N a11 ∧ w8.N a11 < 2 ^ 31 ∧
  ∀ v13 : Int32, v13 = w8.A a11 j12 →
  ∃ J14 : Option Nat → Int32 → Wd → Prop, (∀ (q15 : Option Nat) (y16 : Int32) (w17 : Wd), J14 q15 y16 w17 →
  ∃ a18, q15 = some a18 ∧ w17.K a18 = 5 ∧
  ∀ w19 : Wd, w19 = w17.setI 500 a18 y16 →
  w19.K a0 = 5 ∧
  ∀ v20 : Int32, v20 = w19.I 500 a0 →
  (v20 = 0 → ∀ v21 : Int32, v21 = (10 : Int32) * x1 →
  w19.K a0 = 5 ∧
  ∀ z22 : Option Nat, z22 = w19.R 517 a0 →
  ∃ a23, z22 = some a23 ∧ w19.K a23 = 11 ∧
  ∃ j24 : Nat, x1 = nI j24 ∧ j24 < w19.N a23 ∧ w19.N a23 < 2 ^ 31 ∧
  ∀ v25 : Int32, v25 = w19.A a23 j24 →
  ∀ v26 : Int32, v26 = v21 + v25 →
  w19.K a0 = 5 ∧
  ∀ z27 : Option Nat, z27 = w19.R 521 a0 →
  ∃ a28, z27 = some a28 ∧ w19.K a28 = 11 ∧
  ∃ j29 : Nat, v26 = nI j29 ∧ j29 < w19.N a28 ∧ w19.N a28 < 2 ^ 31 ∧
  ∀ w30 : Wd, w30 = w19.setA a28 j29 x2 →
  w30.K a0 = 5 ∧
  ∀ z31 : Option Nat, z31 = w30.R 522 a0 →
  ∃ a32, z31 = some a32 ∧ w30.K a32 = 11 ∧
  ∃ j33 : Nat, v26 = nI j33 ∧ j33 < w30.N a32 ∧ w30.N a32 < 2 ^ 31 ∧
  ∀ w34 : Wd, w34 = w30.setA a32 j33 (0 : Int32) →
  w34.K a0 = 5 ∧
  ∀ z35 : Option Nat, z35 = w34.R 523 a0 →
  ∃ a36, z35 = some a36 ∧ w34.K a36 = 11 ∧
  ∃ j37 : Nat, v26 = nI j37 ∧ j37 < w34.N a36 ∧ w34.N a36 < 2 ^ 31 ∧
  ∀ w38 : Wd, w38 = w34.setA a36 j37 (0 : Int32) →
  w38.K a0 = 5 ∧
  ∀ z39 : Option Nat, z39 = w38.R 524 a0 →
  ∃ a40, z39 = some a40 ∧ w38.K a40 = 11 ∧
  ∃ j41 : Nat, v26 = nI j41 ∧ j41 < w38.N a40 ∧ w38.N a40 < 2 ^ 31 ∧
  ∀ w42 : Wd, w42 = w38.setA a40 j41 (0 : Int32) →
  w42.K a0 = 5 ∧
  ∀ z43 : Option Nat, z43 = w42.R 525 a0 →
  ∃ a44, z43 = some a44 ∧ w42.K a44 = 11 ∧
  ∃ j45 : Nat, v26 = nI j45 ∧ j45 < w42.N a44 ∧ w42.N a44 < 2 ^ 31 ∧
  ∀ w46 : Wd, w46 = w42.setA a44 j45 (0 : Int32) →
  w46.K a0 = 5 ∧
  ∀ z47 : Option Nat, z47 = w46.R 526 a0 →
  ∃ a48, z47 = some a48 ∧ w46.K a48 = 11 ∧
  ∃ j49 : Nat, v26 = nI j49 ∧ j49 < w46.N a48 ∧ w46.N a48 < 2 ^ 31 ∧
  ∀ w50 : Wd, w50 = w46.setA a48 j49 (-1 : Int32) →
  w50.K a0 = 5 ∧
  ∀ z51 : Option Nat, z51 = w50.R 527 a0 →
  ∃ a52, z51 = some a52 ∧ w50.K a52 = 12 ∧
  ∃ j53 : Nat, v26 = nI j53 ∧ j53 < w50.N a52 ∧ w50.N a52 < 2 ^ 31 ∧
  ∀ w54 : Wd, w54 = w50.setA a52 j53 (vp_nar .boolean (0 : Int32)) →
  w54.K a0 = 5 ∧
  ∀ z55 : Option Nat, z55 = w54.R 517 a0 →
  ∃ a56, z55 = some a56 ∧ w54.K a56 = 11 ∧
  ∃ j57 : Nat, x1 = nI j57 ∧ j57 < w54.N a56 ∧ w54.N a56 < 2 ^ 31 ∧
  ∀ v58 : Int32, v58 = w54.A a56 j57 →
  ∀ v59 : Int32, v59 = v58 + (1 : Int32) →
  w54.K a56 = 11 ∧
  ∃ j60 : Nat, x1 = nI j60 ∧ j60 < w54.N a56 ∧ w54.N a56 < 2 ^ 31 ∧
  ∀ w61 : Wd, w61 = w54.setA a56 j60 v59 →
  w61.K a0 = 5 ∧
  ∀ z62 : Option Nat, z62 = w61.R 517 a0 →
  ∃ a63, z62 = some a63 ∧ w61.K a63 = 11 ∧
  ∃ j64 : Nat, x1 = nI j64 ∧ j64 < w61.N a63 ∧ w61.N a63 < 2 ^ 31 ∧
  ∀ v65 : Int32, v65 = w61.A a63 j64 →
  Q v65 w61) ∧ (¬ v20 = 0 → Q (0 : Int32) w19)) ∧
  ∃ J66 : Option Nat → Wd → Prop, (∀ (q67 : Option Nat) (w68 : Wd), J66 q67 w68 →
  J14 q67 (2 : Int32) w68) ∧
  (¬ v13 = 0 → J66 (some a0) w8) ∧ (v13 = 0 → w8.K a0 = 5 ∧
  ∀ z69 : Option Nat, z69 = w8.R 517 a0 →
  ∃ a70, z69 = some a70 ∧ w8.K a70 = 11 ∧
  ∃ j71 : Nat, x1 = nI j71 ∧ j71 < w8.N a70 ∧ w8.N a70 < 2 ^ 31 ∧
  ∀ v72 : Int32, v72 = w8.A a70 j71 →
  (v72 = (10 : Int32) → J66 (some a0) w8) ∧ (¬ v72 = (10 : Int32) → w8.K a0 = 5 ∧
  wp_X4_placeOf a0 x1 x2 w8 (fun v74 w73 => 
  (0 ≤ v74 → J66 (some a0) w73) ∧ (¬ 0 ≤ v74 → w73.K a0 = 5 ∧
  ∀ z75 : Option Nat, z75 = w73.R 512 a0 →
  ∃ a76, z75 = some a76 ∧ w73.K a76 = 12 ∧
  ∃ j77 : Nat, x2 = nI j77 ∧ j77 < w73.N a76 ∧ w73.N a76 < 2 ^ 31 ∧
  ∀ v78 : Int32, v78 = w73.A a76 j77 →
  (v78 = 0 → J14 (some a0) (0 : Int32) w73) ∧ (¬ v78 = 0 → J66 (some a0) w73)))))) ∧ (¬ v9 = 0 → Q (0 : Int32) w8)) ∧
  ∃ J79 : Option Nat → Wd → Prop, (∀ (q80 : Option Nat) (w81 : Wd), J79 q80 w81 →
  J3 q80 (1 : Int32) w81) ∧
  (v2 = 0 → J79 (some a0) w1) ∧ (¬ v2 = 0 → w1.K a0 = 5 ∧
  wp_X4_isOne a0 x2 w1 (fun v83 w82 => 
  (¬ v83 = 0 → J3 (some a0) (0 : Int32) w82) ∧ (v83 = 0 → J79 (some a0) w82))))
set_option maxHeartbeats 4000000 in
set_option maxRecDepth 100000 in
theorem c_X4_enter {l : Launch} {G : GT} {L0 : Nat} (hst : l.stackTraces = false) {a0 : Nat} {x1 : Int32} {x2 : Int32} {w : Wd} {Q : Int32 → Wd → Prop} (h : wp_X4_enter a0 x1 x2 w Q) : GMi l G L0 yX4_enter cX4_enter 4 (some .int) rm_X4_enter [.ref a0, .int x1, .int x2] w Q := by
  refine g_enter hst (by decide +kernel) [.inr (some a0), .inl x1, .inl x2] rfl (show 3 ≤ 4 by decide) ?_
  intro p e s m args below meth c X hr hnm
  replace X : GC l G L0 p s m args meth c cX4_enter 4 "SusuRingModel" := X
  refine g_aload_n X dX4_enter_0 rfl 0 rfl ?_
  refine g_aload_n X dX4_enter_1 rfl 0 rfl ?_
  refine g_iload_n X dX4_enter_2 rfl 1 rfl ?_
  have hk := h.1
  replace h := h.2
  refine g_callV_i X (As := [.int x1]) (st := [va_rf (some a0)]) (n := 1) (c_X4_isCircle hst h) rfl (by decide) hk (wE_5 G w a0) m_1144 m_1146 m_21 m_34 m_1147 (by decide +kernel) (by decide +kernel) rfl rfl (by simp [cat_int, rf_cat]) ⟨(by decide +kernel), (by decide +kernel)⟩ dX4_enter_3 (fun v2 w1 h => ?_)
  clear hk
  refine g_widen (c2 := (0)) (s2 := (0)) (by decide +kernel) (by decide +kernel) ?_
  obtain ⟨J3, hjJ3, h⟩ := h
  have jp3 : ∀ (q4 : Option Nat) (y5 : Int32) (w6 : Wd), J3 q4 y5 w6 → Gw l G L0 p e rm_X4_enter s m args below meth c 4 (0) (0) (MQ below (gQi G L0 Q) args s rm_X4_enter.cells rm_X4_enter.slots (GA L0)) w6 22 [(0, .inr (some a0)), (1, .inl x1), (2, .inl x2)] [.int y5, va_rf q4] := by
    intro q4 y5 w6 hJ
    have h := hjJ3 q4 y5 w6 hJ
    clear hJ
    obtain ⟨a7, rfl, hk, h⟩ := h
    refine gp_500 X hk m_996 dX4_enter_22 (fun w8 hv => ?_)
    replace h := h w8 hv; clear hv hk
    refine g_aload_n X dX4_enter_25 rfl 0 rfl ?_
    have hk := h.1
    replace h := h.2
    refine gg_500 X hk m_996 dX4_enter_26 (fun v9 hv => ?_)
    replace h := h v9 hv; clear hv hk
    refine g_if_eq X (tgt := 34) dX4_enter_29 (by decide) (fun hc => ?_) (fun hc => ?_)
    · replace h := h.1 hc; clear hc
      refine g_aload_n X dX4_enter_34 rfl 0 rfl ?_
      refine g_aload_n X dX4_enter_35 rfl 0 rfl ?_
      have hk := h.1
      replace h := h.2
      refine gg_520 X hk m_1016 dX4_enter_36 (fun z10 hv => ?_)
      replace h := h z10 hv; clear hv hk
      refine g_iload_n X dX4_enter_39 rfl 1 rfl ?_
      obtain ⟨a11, rfl, hk, h⟩ := h
      obtain ⟨j12, hi, hj, hN, h⟩ := h
      refine g_zald X hk hi hj hN dX4_enter_40 (fun v13 hv => ?_)
      replace h := h v13 hv; clear hv hk hi hj hN
      obtain ⟨J14, hjJ14, h⟩ := h
      have jp14 : ∀ (q15 : Option Nat) (y16 : Int32) (w17 : Wd), J14 q15 y16 w17 → Gw l G L0 p e rm_X4_enter s m args below meth c 4 (0) (0) (MQ below (gQi G L0 Q) args s rm_X4_enter.cells rm_X4_enter.slots (GA L0)) w17 78 [(0, .inr (some a0)), (1, .inl x1), (2, .inl x2)] [.int y16, va_rf q15] := by
        intro q15 y16 w17 hJ
        have h := hjJ14 q15 y16 w17 hJ
        clear hJ
        obtain ⟨a18, rfl, hk, h⟩ := h
        refine gp_500 X hk m_996 dX4_enter_78 (fun w19 hv => ?_)
        replace h := h w19 hv; clear hv hk
        refine g_aload_n X dX4_enter_81 rfl 0 rfl ?_
        have hk := h.1
        replace h := h.2
        refine gg_500 X hk m_996 dX4_enter_82 (fun v20 hv => ?_)
        replace h := h v20 hv; clear hv hk
        refine g_if_eq X (tgt := 90) dX4_enter_85 (by decide) (fun hc => ?_) (fun hc => ?_)
        · replace h := h.1 hc; clear hc
          refine g_bipush X (v := (10 : Int32)) dX4_enter_90 (by decide) ?_
          refine g_iload_n X dX4_enter_92 rfl 1 rfl ?_
          refine g_imul X dX4_enter_93 (fun v21 hv => ?_)
          replace h := h v21 hv; clear hv
          refine g_aload_n X dX4_enter_94 rfl 0 rfl ?_
          have hk := h.1
          replace h := h.2
          refine gg_517 X hk m_1013 dX4_enter_95 (fun z22 hv => ?_)
          replace h := h z22 hv; clear hv hk
          refine g_iload_n X dX4_enter_98 rfl 1 rfl ?_
          obtain ⟨a23, rfl, hk, h⟩ := h
          obtain ⟨j24, hi, hj, hN, h⟩ := h
          refine g_iald X hk hi hj hN dX4_enter_99 (fun v25 hv => ?_)
          replace h := h v25 hv; clear hv hk hi hj hN
          refine g_iadd X dX4_enter_100 (fun v26 hv => ?_)
          replace h := h v26 hv; clear hv
          refine g_istore_n X [(3, .inl v26), (0, .inr (some a0)), (1, .inl x1), (2, .inl x2)] dX4_enter_101 rfl (by decide) rfl ?_
          refine g_aload_n X dX4_enter_102 rfl 1 rfl ?_
          have hk := h.1
          replace h := h.2
          refine gg_521 X hk m_1017 dX4_enter_103 (fun z27 hv => ?_)
          replace h := h z27 hv; clear hv hk
          refine g_iload_n X dX4_enter_106 rfl 0 rfl ?_
          refine g_iload_n X dX4_enter_107 rfl 3 rfl ?_
          obtain ⟨a28, rfl, hk, h⟩ := h
          obtain ⟨j29, hi, hj, hN, h⟩ := h
          refine g_iast X hk hi hj hN dX4_enter_108 (fun w30 hv => ?_)
          replace h := h w30 hv; clear hv hk hi hj hN
          refine g_aload_n X dX4_enter_109 rfl 1 rfl ?_
          have hk := h.1
          replace h := h.2
          refine gg_522 X hk m_1018 dX4_enter_110 (fun z31 hv => ?_)
          replace h := h z31 hv; clear hv hk
          refine g_iload_n X dX4_enter_113 rfl 0 rfl ?_
          refine g_iconst X (v := (0 : Int32)) dX4_enter_114 (by decide) ?_
          obtain ⟨a32, rfl, hk, h⟩ := h
          obtain ⟨j33, hi, hj, hN, h⟩ := h
          refine g_iast X hk hi hj hN dX4_enter_115 (fun w34 hv => ?_)
          replace h := h w34 hv; clear hv hk hi hj hN
          refine g_aload_n X dX4_enter_116 rfl 1 rfl ?_
          have hk := h.1
          replace h := h.2
          refine gg_523 X hk m_1019 dX4_enter_117 (fun z35 hv => ?_)
          replace h := h z35 hv; clear hv hk
          refine g_iload_n X dX4_enter_120 rfl 0 rfl ?_
          refine g_iconst X (v := (0 : Int32)) dX4_enter_121 (by decide) ?_
          obtain ⟨a36, rfl, hk, h⟩ := h
          obtain ⟨j37, hi, hj, hN, h⟩ := h
          refine g_iast X hk hi hj hN dX4_enter_122 (fun w38 hv => ?_)
          replace h := h w38 hv; clear hv hk hi hj hN
          refine g_aload_n X dX4_enter_123 rfl 1 rfl ?_
          have hk := h.1
          replace h := h.2
          refine gg_524 X hk m_1020 dX4_enter_124 (fun z39 hv => ?_)
          replace h := h z39 hv; clear hv hk
          refine g_iload_n X dX4_enter_127 rfl 0 rfl ?_
          refine g_iconst X (v := (0 : Int32)) dX4_enter_128 (by decide) ?_
          obtain ⟨a40, rfl, hk, h⟩ := h
          obtain ⟨j41, hi, hj, hN, h⟩ := h
          refine g_iast X hk hi hj hN dX4_enter_129 (fun w42 hv => ?_)
          replace h := h w42 hv; clear hv hk hi hj hN
          refine g_aload_n X dX4_enter_130 rfl 1 rfl ?_
          have hk := h.1
          replace h := h.2
          refine gg_525 X hk m_1021 dX4_enter_131 (fun z43 hv => ?_)
          replace h := h z43 hv; clear hv hk
          refine g_iload_n X dX4_enter_134 rfl 0 rfl ?_
          refine g_iconst X (v := (0 : Int32)) dX4_enter_135 (by decide) ?_
          obtain ⟨a44, rfl, hk, h⟩ := h
          obtain ⟨j45, hi, hj, hN, h⟩ := h
          refine g_iast X hk hi hj hN dX4_enter_136 (fun w46 hv => ?_)
          replace h := h w46 hv; clear hv hk hi hj hN
          refine g_aload_n X dX4_enter_137 rfl 1 rfl ?_
          have hk := h.1
          replace h := h.2
          refine gg_526 X hk m_1022 dX4_enter_138 (fun z47 hv => ?_)
          replace h := h z47 hv; clear hv hk
          refine g_iload_n X dX4_enter_141 rfl 0 rfl ?_
          refine g_iconst X (v := (-1 : Int32)) dX4_enter_142 (by decide) ?_
          obtain ⟨a48, rfl, hk, h⟩ := h
          obtain ⟨j49, hi, hj, hN, h⟩ := h
          refine g_iast X hk hi hj hN dX4_enter_143 (fun w50 hv => ?_)
          replace h := h w50 hv; clear hv hk hi hj hN
          refine g_aload_n X dX4_enter_144 rfl 1 rfl ?_
          have hk := h.1
          replace h := h.2
          refine gg_527 X hk m_1023 dX4_enter_145 (fun z51 hv => ?_)
          replace h := h z51 hv; clear hv hk
          refine g_iload_n X dX4_enter_148 rfl 0 rfl ?_
          refine g_iconst X (v := (0 : Int32)) dX4_enter_149 (by decide) ?_
          obtain ⟨a52, rfl, hk, h⟩ := h
          obtain ⟨j53, hi, hj, hN, h⟩ := h
          refine g_zast X hk hi hj hN dX4_enter_150 (fun w54 hv => ?_)
          replace h := h w54 hv; clear hv hk hi hj hN
          refine g_aload_n X dX4_enter_151 rfl 1 rfl ?_
          have hk := h.1
          replace h := h.2
          refine gg_517 X hk m_1013 dX4_enter_152 (fun z55 hv => ?_)
          replace h := h z55 hv; clear hv hk
          refine g_iload_n X dX4_enter_155 rfl 2 rfl ?_
          refine g_dup2 X dX4_enter_156 rfl rf_cat ?_
          obtain ⟨a56, rfl, hk, h⟩ := h
          obtain ⟨j57, hi, hj, hN, h⟩ := h
          refine g_iald X hk hi hj hN dX4_enter_157 (fun v58 hv => ?_)
          replace h := h v58 hv; clear hv hk hi hj hN
          refine g_iconst X (v := (1 : Int32)) dX4_enter_158 (by decide) ?_
          refine g_iadd X dX4_enter_159 (fun v59 hv => ?_)
          replace h := h v59 hv; clear hv
          have hk := h.1
          replace h := h.2
          obtain ⟨j60, hi, hj, hN, h⟩ := h
          refine g_iast X hk hi hj hN dX4_enter_160 (fun w61 hv => ?_)
          replace h := h w61 hv; clear hv hk hi hj hN
          refine g_aload_n X dX4_enter_161 rfl 1 rfl ?_
          have hk := h.1
          replace h := h.2
          refine gg_517 X hk m_1013 dX4_enter_162 (fun z62 hv => ?_)
          replace h := h z62 hv; clear hv hk
          refine g_iload_n X dX4_enter_165 rfl 2 rfl ?_
          obtain ⟨a63, rfl, hk, h⟩ := h
          obtain ⟨j64, hi, hj, hN, h⟩ := h
          refine g_iald X hk hi hj hN dX4_enter_166 (fun v65 hv => ?_)
          replace h := h v65 hv; clear hv hk hi hj hN
          exact g_iret X hr (by decide +kernel) (by decide +kernel) dX4_enter_167 h
        · replace h := h.2 hc; clear hc
          refine g_iconst X (v := (0 : Int32)) dX4_enter_88 (by decide) ?_
          exact g_iret X hr (by decide +kernel) (by decide +kernel) dX4_enter_89 h
      obtain ⟨J66, hjJ66, h⟩ := h
      have jp66 : ∀ (q67 : Option Nat) (w68 : Wd), J66 q67 w68 → Gw l G L0 p e rm_X4_enter s m args below meth c 4 (0) (0) (MQ below (gQi G L0 Q) args s rm_X4_enter.cells rm_X4_enter.slots (GA L0)) w68 73 [(0, .inr (some a0)), (1, .inl x1), (2, .inl x2)] [va_rf q67] := by
        intro q67 w68 hJ
        have h := hjJ66 q67 w68 hJ
        clear hJ
        refine g_iconst X (v := (2 : Int32)) dX4_enter_73 (by decide) ?_
        refine g_goto X (tgt := 78) dX4_enter_74 (by decide) ?_
        exact g_sub [0, 1, 2] [(0, .inr (some a0)), (1, .inl x1), (2, .inl x2)] rfl (jp14 q67 (2 : Int32) w68 h)
      refine g_if_ne X (tgt := 73) dX4_enter_41 (by decide) (fun hc => ?_) (fun hc => ?_)
      · replace h := h.1 hc; clear hc
        exact g_sub [0, 1, 2] [(0, .inr (some a0)), (1, .inl x1), (2, .inl x2)] rfl (jp66 (some a0) w8 h)
      · replace h := h.2 hc; clear hc
        refine g_aload_n X dX4_enter_44 rfl 0 rfl ?_
        have hk := h.1
        replace h := h.2
        refine gg_517 X hk m_1013 dX4_enter_45 (fun z69 hv => ?_)
        replace h := h z69 hv; clear hv hk
        refine g_iload_n X dX4_enter_48 rfl 1 rfl ?_
        obtain ⟨a70, rfl, hk, h⟩ := h
        obtain ⟨j71, hi, hj, hN, h⟩ := h
        refine g_iald X hk hi hj hN dX4_enter_49 (fun v72 hv => ?_)
        replace h := h v72 hv; clear hv hk hi hj hN
        refine g_bipush X (v := (10 : Int32)) dX4_enter_50 (by decide) ?_
        refine g_icmp_eq X (tgt := 73) dX4_enter_52 (by decide) (fun hc => ?_) (fun hc => ?_)
        · replace h := h.1 hc; clear hc
          exact g_sub [0, 1, 2] [(0, .inr (some a0)), (1, .inl x1), (2, .inl x2)] rfl (jp66 (some a0) w8 h)
        · replace h := h.2 hc; clear hc
          refine g_aload_n X dX4_enter_55 rfl 0 rfl ?_
          refine g_iload_n X dX4_enter_56 rfl 1 rfl ?_
          refine g_iload_n X dX4_enter_57 rfl 2 rfl ?_
          have hk := h.1
          replace h := h.2
          refine g_callV_i X (As := [.int x1, .int x2]) (st := [va_rf (some a0)]) (n := 2) (c_X4_placeOf hst h) rfl (by decide) hk (wE_5 G w8 a0) m_1120 m_1122 m_17 m_34 m_1123 (by decide +kernel) (by decide +kernel) rfl rfl (by simp [cat_int, rf_cat]) ⟨(by decide +kernel), (by decide +kernel)⟩ dX4_enter_58 (fun v74 w73 h => ?_)
          clear hk
          refine g_widen (c2 := (0)) (s2 := (0)) (by decide +kernel) (by decide +kernel) ?_
          refine g_if_ge X (tgt := 73) dX4_enter_61 (by decide) (fun hc => ?_) (fun hc => ?_)
          · replace h := h.1 hc; clear hc
            exact g_sub [0, 1, 2] [(0, .inr (some a0)), (1, .inl x1), (2, .inl x2)] rfl (jp66 (some a0) w73 h)
          · replace h := h.2 hc; clear hc
            refine g_aload_n X dX4_enter_64 rfl 0 rfl ?_
            have hk := h.1
            replace h := h.2
            refine gg_512 X hk m_1008 dX4_enter_65 (fun z75 hv => ?_)
            replace h := h z75 hv; clear hv hk
            refine g_iload_n X dX4_enter_68 rfl 2 rfl ?_
            obtain ⟨a76, rfl, hk, h⟩ := h
            obtain ⟨j77, hi, hj, hN, h⟩ := h
            refine g_zald X hk hi hj hN dX4_enter_69 (fun v78 hv => ?_)
            replace h := h v78 hv; clear hv hk hi hj hN
            refine g_if_eq X (tgt := 77) dX4_enter_70 (by decide) (fun hc => ?_) (fun hc => ?_)
            · replace h := h.1 hc; clear hc
              refine g_iconst X (v := (0 : Int32)) dX4_enter_77 (by decide) ?_
              exact g_sub [0, 1, 2] [(0, .inr (some a0)), (1, .inl x1), (2, .inl x2)] rfl (jp14 (some a0) (0 : Int32) w73 h)
            · replace h := h.2 hc; clear hc
              exact g_sub [0, 1, 2] [(0, .inr (some a0)), (1, .inl x1), (2, .inl x2)] rfl (jp66 (some a0) w73 h)
    · replace h := h.2 hc; clear hc
      refine g_iconst X (v := (0 : Int32)) dX4_enter_32 (by decide) ?_
      exact g_iret X hr (by decide +kernel) (by decide +kernel) dX4_enter_33 h
  obtain ⟨J79, hjJ79, h⟩ := h
  have jp79 : ∀ (q80 : Option Nat) (w81 : Wd), J79 q80 w81 → Gw l G L0 p e rm_X4_enter s m args below meth c 4 (0) (0) (MQ below (gQi G L0 Q) args s rm_X4_enter.cells rm_X4_enter.slots (GA L0)) w81 17 [(0, .inr (some a0)), (1, .inl x1), (2, .inl x2)] [va_rf q80] := by
    intro q80 w81 hJ
    have h := hjJ79 q80 w81 hJ
    clear hJ
    refine g_iconst X (v := (1 : Int32)) dX4_enter_17 (by decide) ?_
    refine g_goto X (tgt := 22) dX4_enter_18 (by decide) ?_
    exact g_sub [0, 1, 2] [(0, .inr (some a0)), (1, .inl x1), (2, .inl x2)] rfl (jp3 q80 (1 : Int32) w81 h)
  refine g_if_eq X (tgt := 17) dX4_enter_6 (by decide) (fun hc => ?_) (fun hc => ?_)
  · replace h := h.1 hc; clear hc
    exact g_sub [0, 1, 2] [(0, .inr (some a0)), (1, .inl x1), (2, .inl x2)] rfl (jp79 (some a0) w1 h)
  · replace h := h.2 hc; clear hc
    refine g_aload_n X dX4_enter_9 rfl 0 rfl ?_
    refine g_iload_n X dX4_enter_10 rfl 2 rfl ?_
    have hk := h.1
    replace h := h.2
    refine g_callV_i X (As := [.int x2]) (st := [va_rf (some a0)]) (n := 1) (c_X4_isOne hst h) rfl (by decide) hk (wE_5 G w1 a0) m_1107 m_1109 m_15 m_34 m_1110 (by decide +kernel) (by decide +kernel) rfl rfl (by simp [cat_int, rf_cat]) ⟨(by decide +kernel), (by decide +kernel)⟩ dX4_enter_11 (fun v83 w82 h => ?_)
    clear hk
    refine g_widen (c2 := (0)) (s2 := (0)) (by decide +kernel) (by decide +kernel) ?_
    refine g_if_ne X (tgt := 21) dX4_enter_14 (by decide) (fun hc => ?_) (fun hc => ?_)
    · replace h := h.1 hc; clear hc
      refine g_iconst X (v := (0 : Int32)) dX4_enter_21 (by decide) ?_
      exact g_sub [0, 1, 2] [(0, .inr (some a0)), (1, .inl x1), (2, .inl x2)] rfl (jp3 (some a0) (0 : Int32) w82 h)
    · replace h := h.2 hc; clear hc
      exact g_sub [0, 1, 2] [(0, .inr (some a0)), (1, .inl x1), (2, .inl x2)] rfl (jp79 (some a0) w82 h)

abbrev rm_X4_next : Room := { frames := 6, cells := 0, slots := 0, locals := 100 }
def wp_X4_next (a0 : Nat) (x1 : Int32) (x2 : Int32) (w : Wd) (Q : Int32 → Wd → Prop) : Prop :=
  ∃ Inv2 : Nat → Int32 → Int32 → Int32 → Prop, (∃ n : Nat, Inv2 n (-1 : Int32) x2 (0 : Int32)) ∧ ∀ (n1 : Nat) (y3 : Int32) (y4 : Int32) (y5 : Int32), Inv2 n1 y3 y4 y5 →
  w.K a0 = 5 ∧
  ∀ z6 : Option Nat, z6 = w.R 517 a0 →
  ∃ a7, z6 = some a7 ∧ w.K a7 = 11 ∧
  ∃ j8 : Nat, x1 = nI j8 ∧ j8 < w.N a7 ∧ w.N a7 < 2 ^ 31 ∧
  ∀ v9 : Int32, v9 = w.A a7 j8 →
  (v9 ≤ y5 → Q y3 w) ∧ (¬ v9 ≤ y5 → ∀ v10 : Int32, v10 = (10 : Int32) * x1 →
  ∀ v11 : Int32, v11 = v10 + y5 →
  w.K a0 = 5 ∧
  ∀ z12 : Option Nat, z12 = w.R 526 a0 →
  ∃ a13, z12 = some a13 ∧ w.K a13 = 11 ∧
  ∃ j14 : Nat, v11 = nI j14 ∧ j14 < w.N a13 ∧ w.N a13 < 2 ^ 31 ∧
  ∀ v15 : Int32, v15 = w.A a13 j14 →
  ∃ J16 : Int32 → Int32 → Prop, (∀ (y17 : Int32) (y18 : Int32), J16 y17 y18 →
  ∀ v19 : Int32, v19 = y5 + (1 : Int32) →
  ∃ n : Nat, n < n1 ∧ Inv2 n y17 y18 v19) ∧
  (0 ≤ v15 → J16 y3 y4) ∧ (¬ 0 ≤ v15 → w.K a0 = 5 ∧
  ∀ z20 : Option Nat, z20 = w.R 515 a0 →
  ∃ a21, z20 = some a21 ∧ w.K a21 = 11 ∧
  ∃ j22 : Nat, x1 = nI j22 ∧ j22 < w.N a21 ∧ w.N a21 < 2 ^ 31 ∧
  ∀ v23 : Int32, v23 = w.A a21 j22 →
  ∃ J24 : Int32 → Prop, (∀ (y25 : Int32), J24 y25 →
  ∃ J26 : Int32 → Prop, (∀ (y27 : Int32), J26 y27 →
  ∀ v28 : Int32, v28 = y4 + (-1 : Int32) →
  J16 y27 v28) ∧
  (y25 = 0 → J26 y3) ∧ (¬ y25 = 0 → J26 y5)) ∧
  (¬ v23 = 0 → ∃ J29 : Prop, (J29 →
  J24 (1 : Int32)) ∧
  (y3 < 0 → J29) ∧ (¬ y3 < 0 → w.K a0 = 5 ∧
  ∀ z30 : Option Nat, z30 = w.R 502 a0 →
  w.K a0 = 5 ∧
  ∀ z31 : Option Nat, z31 = w.R 521 a0 →
  ∃ a32, z31 = some a32 ∧ w.K a32 = 11 ∧
  ∃ j33 : Nat, v11 = nI j33 ∧ j33 < w.N a32 ∧ w.N a32 < 2 ^ 31 ∧
  ∀ v34 : Int32, v34 = w.A a32 j33 →
  ∃ a35, z30 = some a35 ∧ w.K a35 = 11 ∧
  ∃ j36 : Nat, v34 = nI j36 ∧ j36 < w.N a35 ∧ w.N a35 < 2 ^ 31 ∧
  ∀ v37 : Int32, v37 = w.A a35 j36 →
  w.K a0 = 5 ∧
  ∀ z38 : Option Nat, z38 = w.R 502 a0 →
  w.K a0 = 5 ∧
  ∀ z39 : Option Nat, z39 = w.R 521 a0 →
  ∀ v40 : Int32, v40 = (10 : Int32) * x1 →
  ∀ v41 : Int32, v41 = v40 + y3 →
  ∃ a42, z39 = some a42 ∧ w.K a42 = 11 ∧
  ∃ j43 : Nat, v41 = nI j43 ∧ j43 < w.N a42 ∧ w.N a42 < 2 ^ 31 ∧
  ∀ v44 : Int32, v44 = w.A a42 j43 →
  ∃ a45, z38 = some a45 ∧ w.K a45 = 11 ∧
  ∃ j46 : Nat, v44 = nI j46 ∧ j46 < w.N a45 ∧ w.N a45 < 2 ^ 31 ∧
  ∀ v47 : Int32, v47 = w.A a45 j46 →
  (v37 ≤ v47 → J24 (0 : Int32)) ∧ (¬ v37 ≤ v47 → J29))) ∧ (v23 = 0 → (¬ y4 = 0 → J24 (0 : Int32)) ∧ (y4 = 0 → J24 (1 : Int32)))))
set_option maxHeartbeats 4000000 in
set_option maxRecDepth 100000 in
theorem c_X4_next {l : Launch} {G : GT} {L0 : Nat} (hst : l.stackTraces = false) {a0 : Nat} {x1 : Int32} {x2 : Int32} {w : Wd} {Q : Int32 → Wd → Prop} (h : wp_X4_next a0 x1 x2 w Q) : GMi l G L0 yX4_next cX4_next 8 (some .int) rm_X4_next [.ref a0, .int x1, .int x2] w Q := by
  refine g_enter hst (by decide +kernel) [.inr (some a0), .inl x1, .inl x2] rfl (show 3 ≤ 8 by decide) ?_
  intro p e s m args below meth c X hr hnm
  replace X : GC l G L0 p s m args meth c cX4_next 8 "SusuRingModel" := X
  refine g_iconst X (v := (-1 : Int32)) dX4_next_0 (by decide) ?_
  refine g_istore_n X [(3, .inl (-1 : Int32)), (0, .inr (some a0)), (1, .inl x1), (2, .inl x2)] dX4_next_1 rfl (by decide) rfl ?_
  refine g_iload_n X dX4_next_2 rfl 3 rfl ?_
  refine g_istore X [(4, .inl x2), (3, .inl (-1 : Int32)), (0, .inr (some a0)), (1, .inl x1), (2, .inl x2)] dX4_next_3 (by decide) rfl ?_
  refine g_iconst X (v := (0 : Int32)) dX4_next_5 (by decide) ?_
  refine g_istore X [(5, .inl (0 : Int32)), (4, .inl x2), (3, .inl (-1 : Int32)), (0, .inr (some a0)), (1, .inl x1), (2, .inl x2)] dX4_next_6 (by decide) rfl ?_
  obtain ⟨Inv2, ⟨n0, hi⟩, hsn1⟩ := h
  have lp2 : ∀ (n1 : Nat), ∀ (y3 : Int32) (y4 : Int32) (y5 : Int32), Inv2 n1 y3 y4 y5 → Gw l G L0 p e rm_X4_next s m args below meth c 8 (0) (0) (MQ below (gQi G L0 Q) args s rm_X4_next.cells rm_X4_next.slots (GA L0)) w 8 [(0, .inr (some a0)), (1, .inl x1), (3, .inl y3), (4, .inl y4), (5, .inl y5)] [] := by
    intro n1
    induction n1 using Nat.strongRecOn with
    | ind n1 ihn1 =>
      intro y3 y4 y5 hI
      have h := hsn1 n1 y3 y4 y5 hI
      clear hI
      refine g_iload X dX4_next_8 4 rfl ?_
      refine g_aload_n X dX4_next_10 rfl 0 rfl ?_
      have hk := h.1
      replace h := h.2
      refine gg_517 X hk m_1013 dX4_next_11 (fun z6 hv => ?_)
      replace h := h z6 hv; clear hv hk
      refine g_iload_n X dX4_next_14 rfl 1 rfl ?_
      obtain ⟨a7, rfl, hk, h⟩ := h
      obtain ⟨j8, hi, hj, hN, h⟩ := h
      refine g_iald X hk hi hj hN dX4_next_15 (fun v9 hv => ?_)
      replace h := h v9 hv; clear hv hk hi hj hN
      refine g_icmp_ge X (tgt := 123) dX4_next_16 (by decide) (fun hc => ?_) (fun hc => ?_)
      · replace h := h.1 hc; clear hc
        refine g_iload_n X dX4_next_123 rfl 2 rfl ?_
        exact g_iret X hr (by decide +kernel) (by decide +kernel) dX4_next_124 h
      · replace h := h.2 hc; clear hc
        refine g_bipush X (v := (10 : Int32)) dX4_next_19 (by decide) ?_
        refine g_iload_n X dX4_next_21 rfl 1 rfl ?_
        refine g_imul X dX4_next_22 (fun v10 hv => ?_)
        replace h := h v10 hv; clear hv
        refine g_iload X dX4_next_23 4 rfl ?_
        refine g_iadd X dX4_next_25 (fun v11 hv => ?_)
        replace h := h v11 hv; clear hv
        refine g_istore X [(6, .inl v11), (0, .inr (some a0)), (1, .inl x1), (3, .inl y3), (4, .inl y4), (5, .inl y5)] dX4_next_26 (by decide) rfl ?_
        refine g_aload_n X dX4_next_28 rfl 1 rfl ?_
        have hk := h.1
        replace h := h.2
        refine gg_526 X hk m_1022 dX4_next_29 (fun z12 hv => ?_)
        replace h := h z12 hv; clear hv hk
        refine g_iload X dX4_next_32 0 rfl ?_
        obtain ⟨a13, rfl, hk, h⟩ := h
        obtain ⟨j14, hi, hj, hN, h⟩ := h
        refine g_iald X hk hi hj hN dX4_next_34 (fun v15 hv => ?_)
        replace h := h v15 hv; clear hv hk hi hj hN
        obtain ⟨J16, hjJ16, h⟩ := h
        have jp16 : ∀ (y17 : Int32) (y18 : Int32), J16 y17 y18 → Gw l G L0 p e rm_X4_next s m args below meth c 8 (0) (0) (MQ below (gQi G L0 Q) args s rm_X4_next.cells rm_X4_next.slots (GA L0)) w 117 [(0, .inr (some a0)), (1, .inl x1), (3, .inl y17), (4, .inl y18), (5, .inl y5)] [] := by
          intro y17 y18 hJ
          have h := hjJ16 y17 y18 hJ
          clear hJ
          refine g_iinc X dX4_next_117 4 rfl (d := (1 : Int32)) (by decide) (by decide) (fun v19 hv => ?_)
          replace h := h v19 hv; clear hv
          refine g_sub [0, 1, 2, 3, 4] [(5, .inl v19), (0, .inr (some a0)), (1, .inl x1), (3, .inl y17), (4, .inl y18)] rfl ?_
          refine g_goto X (tgt := 8) dX4_next_120 (by decide) ?_
          obtain ⟨n, hn, hI⟩ := h
          exact g_sub [1, 2, 3, 4, 0] [(0, .inr (some a0)), (1, .inl x1), (3, .inl y17), (4, .inl y18), (5, .inl v19)] rfl (ihn1 n hn y17 y18 v19 hI)
        refine g_if_ge X (tgt := 117) dX4_next_35 (by decide) (fun hc => ?_) (fun hc => ?_)
        · replace h := h.1 hc; clear hc
          exact g_sub [1, 2, 3, 4, 5] [(0, .inr (some a0)), (1, .inl x1), (3, .inl y3), (4, .inl y4), (5, .inl y5)] rfl (jp16 y3 y4 h)
        · replace h := h.2 hc; clear hc
          refine g_aload_n X dX4_next_38 rfl 1 rfl ?_
          have hk := h.1
          replace h := h.2
          refine gg_515 X hk m_1011 dX4_next_39 (fun z20 hv => ?_)
          replace h := h z20 hv; clear hv hk
          refine g_iload_n X dX4_next_42 rfl 2 rfl ?_
          obtain ⟨a21, rfl, hk, h⟩ := h
          obtain ⟨j22, hi, hj, hN, h⟩ := h
          refine g_iald X hk hi hj hN dX4_next_43 (fun v23 hv => ?_)
          replace h := h v23 hv; clear hv hk hi hj hN
          obtain ⟨J24, hjJ24, h⟩ := h
          have jp24 : ∀ (y25 : Int32), J24 y25 → Gw l G L0 p e rm_X4_next s m args below meth c 8 (0) (0) (MQ below (gQi G L0 Q) args s rm_X4_next.cells rm_X4_next.slots (GA L0)) w 100 [(0, .inr (some a0)), (1, .inl x1), (3, .inl y3), (4, .inl y4), (5, .inl y5)] [.int y25] := by
            intro y25 hJ
            have h := hjJ24 y25 hJ
            clear hJ
            refine g_istore X [(7, .inl y25), (0, .inr (some a0)), (1, .inl x1), (3, .inl y3), (4, .inl y4), (5, .inl y5)] dX4_next_100 (by decide) rfl ?_
            refine g_iload X dX4_next_102 0 rfl ?_
            obtain ⟨J26, hjJ26, h⟩ := h
            have jp26 : ∀ (y27 : Int32), J26 y27 → Gw l G L0 p e rm_X4_next s m args below meth c 8 (0) (0) (MQ below (gQi G L0 Q) args s rm_X4_next.cells rm_X4_next.slots (GA L0)) w 113 [(0, .inr (some a0)), (1, .inl x1), (4, .inl y4), (5, .inl y5)] [.int y27] := by
              intro y27 hJ
              have h := hjJ26 y27 hJ
              clear hJ
              refine g_istore_n X [(3, .inl y27), (0, .inr (some a0)), (1, .inl x1), (4, .inl y4), (5, .inl y5)] dX4_next_113 rfl (by decide) rfl ?_
              refine g_iinc X dX4_next_114 3 rfl (d := (-1 : Int32)) (by decide) (by decide) (fun v28 hv => ?_)
              replace h := h v28 hv; clear hv
              refine g_sub [0, 1, 2, 3, 4] [(4, .inl v28), (3, .inl y27), (0, .inr (some a0)), (1, .inl x1), (5, .inl y5)] rfl ?_
              exact g_sub [2, 3, 1, 0, 4] [(0, .inr (some a0)), (1, .inl x1), (3, .inl y27), (4, .inl v28), (5, .inl y5)] rfl (jp16 y27 v28 h)
            refine g_if_eq X (tgt := 112) dX4_next_104 (by decide) (fun hc => ?_) (fun hc => ?_)
            · replace h := h.1 hc; clear hc
              refine g_iload_n X dX4_next_112 rfl 3 rfl ?_
              exact g_sub [1, 2, 4, 5] [(0, .inr (some a0)), (1, .inl x1), (4, .inl y4), (5, .inl y5)] rfl (jp26 y3 h)
            · replace h := h.2 hc; clear hc
              refine g_iload X dX4_next_107 5 rfl ?_
              refine g_goto X (tgt := 113) dX4_next_109 (by decide) ?_
              exact g_sub [1, 2, 4, 5] [(0, .inr (some a0)), (1, .inl x1), (4, .inl y4), (5, .inl y5)] rfl (jp26 y5 h)
          refine g_if_ne X (tgt := 60) dX4_next_44 (by decide) (fun hc => ?_) (fun hc => ?_)
          · replace h := h.1 hc; clear hc
            refine g_iload_n X dX4_next_60 rfl 3 rfl ?_
            obtain ⟨J29, hjJ29, h⟩ := h
            have jp29 : J29 → Gw l G L0 p e rm_X4_next s m args below meth c 8 (0) (0) (MQ below (gQi G L0 Q) args s rm_X4_next.cells rm_X4_next.slots (GA L0)) w 95 [(0, .inr (some a0)), (1, .inl x1), (3, .inl y3), (4, .inl y4), (5, .inl y5)] [] := by
              intro hJ
              have h := hjJ29 hJ
              clear hJ
              refine g_iconst X (v := (1 : Int32)) dX4_next_95 (by decide) ?_
              refine g_goto X (tgt := 100) dX4_next_96 (by decide) ?_
              exact g_sub [0, 1, 2, 3, 4] [(0, .inr (some a0)), (1, .inl x1), (3, .inl y3), (4, .inl y4), (5, .inl y5)] rfl (jp24 (1 : Int32) h)
            refine g_if_lt X (tgt := 95) dX4_next_61 (by decide) (fun hc => ?_) (fun hc => ?_)
            · replace h := h.1 hc; clear hc
              exact g_sub [1, 2, 3, 4, 5] [(0, .inr (some a0)), (1, .inl x1), (3, .inl y3), (4, .inl y4), (5, .inl y5)] rfl (jp29  h)
            · replace h := h.2 hc; clear hc
              refine g_aload_n X dX4_next_64 rfl 1 rfl ?_
              have hk := h.1
              replace h := h.2
              refine gg_502 X hk m_998 dX4_next_65 (fun z30 hv => ?_)
              replace h := h z30 hv; clear hv hk
              refine g_aload_n X dX4_next_68 rfl 1 rfl ?_
              have hk := h.1
              replace h := h.2
              refine gg_521 X hk m_1017 dX4_next_69 (fun z31 hv => ?_)
              replace h := h z31 hv; clear hv hk
              refine g_iload X dX4_next_72 0 rfl ?_
              obtain ⟨a32, rfl, hk, h⟩ := h
              obtain ⟨j33, hi, hj, hN, h⟩ := h
              refine g_iald X hk hi hj hN dX4_next_74 (fun v34 hv => ?_)
              replace h := h v34 hv; clear hv hk hi hj hN
              obtain ⟨a35, rfl, hk, h⟩ := h
              obtain ⟨j36, hi, hj, hN, h⟩ := h
              refine g_iald X hk hi hj hN dX4_next_75 (fun v37 hv => ?_)
              replace h := h v37 hv; clear hv hk hi hj hN
              refine g_aload_n X dX4_next_76 rfl 1 rfl ?_
              have hk := h.1
              replace h := h.2
              refine gg_502 X hk m_998 dX4_next_77 (fun z38 hv => ?_)
              replace h := h z38 hv; clear hv hk
              refine g_aload_n X dX4_next_80 rfl 1 rfl ?_
              have hk := h.1
              replace h := h.2
              refine gg_521 X hk m_1017 dX4_next_81 (fun z39 hv => ?_)
              replace h := h z39 hv; clear hv hk
              refine g_bipush X (v := (10 : Int32)) dX4_next_84 (by decide) ?_
              refine g_iload_n X dX4_next_86 rfl 2 rfl ?_
              refine g_imul X dX4_next_87 (fun v40 hv => ?_)
              replace h := h v40 hv; clear hv
              refine g_iload_n X dX4_next_88 rfl 3 rfl ?_
              refine g_iadd X dX4_next_89 (fun v41 hv => ?_)
              replace h := h v41 hv; clear hv
              obtain ⟨a42, rfl, hk, h⟩ := h
              obtain ⟨j43, hi, hj, hN, h⟩ := h
              refine g_iald X hk hi hj hN dX4_next_90 (fun v44 hv => ?_)
              replace h := h v44 hv; clear hv hk hi hj hN
              obtain ⟨a45, rfl, hk, h⟩ := h
              obtain ⟨j46, hi, hj, hN, h⟩ := h
              refine g_iald X hk hi hj hN dX4_next_91 (fun v47 hv => ?_)
              replace h := h v47 hv; clear hv hk hi hj hN
              refine g_icmp_le X (tgt := 99) dX4_next_92 (by decide) (fun hc => ?_) (fun hc => ?_)
              · replace h := h.1 hc; clear hc
                refine g_iconst X (v := (0 : Int32)) dX4_next_99 (by decide) ?_
                exact g_sub [1, 2, 3, 4, 5] [(0, .inr (some a0)), (1, .inl x1), (3, .inl y3), (4, .inl y4), (5, .inl y5)] rfl (jp24 (0 : Int32) h)
              · replace h := h.2 hc; clear hc
                exact g_sub [1, 2, 3, 4, 5] [(0, .inr (some a0)), (1, .inl x1), (3, .inl y3), (4, .inl y4), (5, .inl y5)] rfl (jp29  h)
          · replace h := h.2 hc; clear hc
            refine g_iload X dX4_next_47 4 rfl ?_
            refine g_if_ne X (tgt := 56) dX4_next_49 (by decide) (fun hc => ?_) (fun hc => ?_)
            · replace h := h.1 hc; clear hc
              refine g_iconst X (v := (0 : Int32)) dX4_next_56 (by decide) ?_
              refine g_goto X (tgt := 100) dX4_next_57 (by decide) ?_
              exact g_sub [1, 2, 3, 4, 5] [(0, .inr (some a0)), (1, .inl x1), (3, .inl y3), (4, .inl y4), (5, .inl y5)] rfl (jp24 (0 : Int32) h)
            · replace h := h.2 hc; clear hc
              refine g_iconst X (v := (1 : Int32)) dX4_next_52 (by decide) ?_
              refine g_goto X (tgt := 100) dX4_next_53 (by decide) ?_
              exact g_sub [1, 2, 3, 4, 5] [(0, .inr (some a0)), (1, .inl x1), (3, .inl y3), (4, .inl y4), (5, .inl y5)] rfl (jp24 (1 : Int32) h)
  exact g_sub [3, 4, 2, 1, 0] [(0, .inr (some a0)), (1, .inl x1), (3, .inl (-1 : Int32)), (4, .inl x2), (5, .inl (0 : Int32))] rfl (lp2 n0 (-1 : Int32) x2 (0 : Int32) hi)

abbrev rm_X4_start : Room := { frames := 8, cells := 0, slots := 0, locals := 143 }
def wp_X4_start (a0 : Nat) (x1 : Int32) (x2 : Int32) (w : Wd) (Q : Int32 → Wd → Prop) : Prop :=
  w.K a0 = 5 ∧
  wp_X4_isCircle a0 x1 w (fun v2 w1 => 
  (¬ v2 = 0 → wp_X4_in x2 (0 : Int32) (9999 : Int32) w1 (fun v4 w3 => 
  ∃ J5 : Option Nat → Int32 → Prop, (∀ (q6 : Option Nat) (y7 : Int32), J5 q6 y7 →
  ∃ a8, q6 = some a8 ∧ w3.K a8 = 5 ∧
  ∀ w9 : Wd, w9 = w3.setI 500 a8 y7 →
  w9.K a0 = 5 ∧
  ∀ v10 : Int32, v10 = w9.I 500 a0 →
  (v10 = 0 → w9.K a0 = 5 ∧
  ∀ z11 : Option Nat, z11 = w9.R 520 a0 →
  ∃ a12, z11 = some a12 ∧ w9.K a12 = 12 ∧
  ∃ j13 : Nat, x1 = nI j13 ∧ j13 < w9.N a12 ∧ w9.N a12 < 2 ^ 31 ∧
  ∀ w14 : Wd, w14 = w9.setA a12 j13 (vp_nar .boolean (1 : Int32)) →
  ∃ Inv16 : Nat → Int32 → Int32 → Wd → Prop, (∃ n : Nat, Inv16 n (-1 : Int32) (0 : Int32) w14) ∧ ∀ (n15 : Nat) (y17 : Int32) (y18 : Int32) (w19 : Wd), Inv16 n15 y17 y18 w19 →
  w19.K a0 = 5 ∧
  ∀ z20 : Option Nat, z20 = w19.R 517 a0 →
  ∃ a21, z20 = some a21 ∧ w19.K a21 = 11 ∧
  ∃ j22 : Nat, x1 = nI j22 ∧ j22 < w19.N a21 ∧ w19.N a21 < 2 ^ 31 ∧
  ∀ v23 : Int32, v23 = w19.A a21 j22 →
  ∃ J24 : Prop, (J24 →
  Q y17 w19) ∧
  (v23 ≤ y18 → J24) ∧ (¬ v23 ≤ y18 → w19.K a0 = 5 ∧
  ∀ z25 : Option Nat, z25 = w19.R 515 a0 →
  ∃ a26, z25 = some a26 ∧ w19.K a26 = 11 ∧
  ∃ j27 : Nat, x1 = nI j27 ∧ j27 < w19.N a26 ∧ w19.N a26 < 2 ^ 31 ∧
  ∀ v28 : Int32, v28 = w19.A a26 j27 →
  ((1 : Int32) < v28 → J24) ∧ (¬ (1 : Int32) < v28 → ∀ v29 : Int32, v29 = (31 : Int32) * y18 →
  ∀ v30 : Int32, v30 = x2 + v29 →
  w19.K a0 = 5 ∧
  ∀ z31 : Option Nat, z31 = w19.R 517 a0 →
  ∃ a32, z31 = some a32 ∧ w19.K a32 = 11 ∧
  ∃ j33 : Nat, x1 = nI j33 ∧ j33 < w19.N a32 ∧ w19.N a32 < 2 ^ 31 ∧
  ∀ v34 : Int32, v34 = w19.A a32 j33 →
  ∀ v35 : Int32, v35 = v34 - y18 →
  ¬ v35 = 0 ∧ ∀ v36 : Int32, v36 = v30 - v30 / v35 * v35 →
  w19.K a0 = 5 ∧
  wp_X4_next a0 x1 v36 w19 (fun v38 w37 => 
  w37.K a0 = 5 ∧
  ∀ z39 : Option Nat, z39 = w37.R 526 a0 →
  ∀ v40 : Int32, v40 = (10 : Int32) * x1 →
  ∀ v41 : Int32, v41 = v40 + v38 →
  ∃ a42, z39 = some a42 ∧ w37.K a42 = 11 ∧
  ∃ j43 : Nat, v41 = nI j43 ∧ j43 < w37.N a42 ∧ w37.N a42 < 2 ^ 31 ∧
  ∀ w44 : Wd, w44 = w37.setA a42 j43 y18 →
  ∃ J45 : Int32 → Prop, (∀ (y46 : Int32), J45 y46 →
  ∀ v47 : Int32, v47 = y18 + (1 : Int32) →
  ∃ n : Nat, n < n15 ∧ Inv16 n y46 v47 w44) ∧
  (¬ y18 = 0 → J45 y17) ∧ (y18 = 0 → w44.K a0 = 5 ∧
  ∀ z48 : Option Nat, z48 = w44.R 521 a0 →
  ∀ v49 : Int32, v49 = (10 : Int32) * x1 →
  ∀ v50 : Int32, v50 = v49 + v38 →
  ∃ a51, z48 = some a51 ∧ w44.K a51 = 11 ∧
  ∃ j52 : Nat, v50 = nI j52 ∧ j52 < w44.N a51 ∧ w44.N a51 < 2 ^ 31 ∧
  ∀ v53 : Int32, v53 = w44.A a51 j52 →
  J45 v53))))) ∧ (¬ v10 = 0 → Q (0 : Int32) w9)) ∧
  (¬ v4 = 0 → w3.K a0 = 5 ∧
  ∀ z54 : Option Nat, z54 = w3.R 520 a0 →
  ∃ a55, z54 = some a55 ∧ w3.K a55 = 12 ∧
  ∃ j56 : Nat, x1 = nI j56 ∧ j56 < w3.N a55 ∧ w3.N a55 < 2 ^ 31 ∧
  ∀ v57 : Int32, v57 = w3.A a55 j56 →
  ∃ J58 : Option Nat → Prop, (∀ (q59 : Option Nat), J58 q59 →
  J5 q59 (3 : Int32)) ∧
  (¬ v57 = 0 → J58 (some a0)) ∧ (v57 = 0 → w3.K a0 = 5 ∧
  ∀ z60 : Option Nat, z60 = w3.R 517 a0 →
  ∃ a61, z60 = some a61 ∧ w3.K a61 = 11 ∧
  ∃ j62 : Nat, x1 = nI j62 ∧ j62 < w3.N a61 ∧ w3.N a61 < 2 ^ 31 ∧
  ∀ v63 : Int32, v63 = w3.A a61 j62 →
  ((2 : Int32) ≤ v63 → J5 (some a0) (0 : Int32)) ∧ (¬ (2 : Int32) ≤ v63 → J58 (some a0)))) ∧ (v4 = 0 → J5 (some a0) (2 : Int32)))) ∧ (v2 = 0 → w1.K a0 = 5 ∧
  ∀ w64 : Wd, w64 = w1.setI 500 a0 (1 : Int32) →
  Q (0 : Int32) w64))
set_option maxHeartbeats 4000000 in
set_option maxRecDepth 100000 in
theorem c_X4_start {l : Launch} {G : GT} {L0 : Nat} (hst : l.stackTraces = false) {a0 : Nat} {x1 : Int32} {x2 : Int32} {w : Wd} {Q : Int32 → Wd → Prop} (h : wp_X4_start a0 x1 x2 w Q) : GMi l G L0 yX4_start cX4_start 6 (some .int) rm_X4_start [.ref a0, .int x1, .int x2] w Q := by
  refine g_enter hst (by decide +kernel) [.inr (some a0), .inl x1, .inl x2] rfl (show 3 ≤ 6 by decide) ?_
  intro p e s m args below meth c X hr hnm
  replace X : GC l G L0 p s m args meth c cX4_start 6 "SusuRingModel" := X
  refine g_aload_n X dX4_start_0 rfl 0 rfl ?_
  refine g_iload_n X dX4_start_1 rfl 1 rfl ?_
  have hk := h.1
  replace h := h.2
  refine g_callV_i X (As := [.int x1]) (st := []) (n := 1) (c_X4_isCircle hst h) rfl (by decide) hk (wE_5 G w a0) m_1144 m_1146 m_21 m_34 m_1147 (by decide +kernel) (by decide +kernel) rfl rfl (Nat.zero_le _) ⟨(by decide +kernel), (by decide +kernel)⟩ dX4_start_2 (fun v2 w1 h => ?_)
  clear hk
  refine g_widen (c2 := (0)) (s2 := (0)) (by decide +kernel) (by decide +kernel) ?_
  refine g_if_ne X (tgt := 15) dX4_start_5 (by decide) (fun hc => ?_) (fun hc => ?_)
  · replace h := h.1 hc; clear hc
    refine g_aload_n X dX4_start_15 rfl 0 rfl ?_
    refine g_iload_n X dX4_start_16 rfl 2 rfl ?_
    refine g_iconst X (v := (0 : Int32)) dX4_start_17 (by decide) ?_
    refine g_sipush X (v := (9999 : Int32)) dX4_start_18 (by decide) ?_
    refine g_callS_i X (As := [.int x2, .int (0 : Int32), .int (9999 : Int32)]) (st := [va_rf (some a0)]) (n := 3) (c_X4_in hst h) m_1099 m_1100 m_34 m_1101 (by decide +kernel) (by decide +kernel) rfl rfl (by simp [cat_int, rf_cat]) ⟨(by decide +kernel), (by decide +kernel)⟩ dX4_start_21 (fun v4 w3 h => ?_)
    refine g_widen (c2 := (0)) (s2 := (0)) (by decide +kernel) (by decide +kernel) ?_
    obtain ⟨J5, hjJ5, h⟩ := h
    have jp5 : ∀ (q6 : Option Nat) (y7 : Int32), J5 q6 y7 → Gw l G L0 p e rm_X4_start s m args below meth c 6 (0) (0) (MQ below (gQi G L0 Q) args s rm_X4_start.cells rm_X4_start.slots (GA L0)) w3 55 [(0, .inr (some a0)), (1, .inl x1), (2, .inl x2)] [.int y7, va_rf q6] := by
      intro q6 y7 hJ
      have h := hjJ5 q6 y7 hJ
      clear hJ
      obtain ⟨a8, rfl, hk, h⟩ := h
      refine gp_500 X hk m_996 dX4_start_55 (fun w9 hv => ?_)
      replace h := h w9 hv; clear hv hk
      refine g_aload_n X dX4_start_58 rfl 0 rfl ?_
      have hk := h.1
      replace h := h.2
      refine gg_500 X hk m_996 dX4_start_59 (fun v10 hv => ?_)
      replace h := h v10 hv; clear hv hk
      refine g_if_eq X (tgt := 67) dX4_start_62 (by decide) (fun hc => ?_) (fun hc => ?_)
      · replace h := h.1 hc; clear hc
        refine g_aload_n X dX4_start_67 rfl 0 rfl ?_
        have hk := h.1
        replace h := h.2
        refine gg_520 X hk m_1016 dX4_start_68 (fun z11 hv => ?_)
        replace h := h z11 hv; clear hv hk
        refine g_iload_n X dX4_start_71 rfl 1 rfl ?_
        refine g_iconst X (v := (1 : Int32)) dX4_start_72 (by decide) ?_
        obtain ⟨a12, rfl, hk, h⟩ := h
        obtain ⟨j13, hi, hj, hN, h⟩ := h
        refine g_zast X hk hi hj hN dX4_start_73 (fun w14 hv => ?_)
        replace h := h w14 hv; clear hv hk hi hj hN
        refine g_iconst X (v := (-1 : Int32)) dX4_start_74 (by decide) ?_
        refine g_istore_n X [(3, .inl (-1 : Int32)), (0, .inr (some a0)), (1, .inl x1), (2, .inl x2)] dX4_start_75 rfl (by decide) rfl ?_
        refine g_iconst X (v := (0 : Int32)) dX4_start_76 (by decide) ?_
        refine g_istore X [(4, .inl (0 : Int32)), (3, .inl (-1 : Int32)), (0, .inr (some a0)), (1, .inl x1), (2, .inl x2)] dX4_start_77 (by decide) rfl ?_
        obtain ⟨Inv16, ⟨n0, hi⟩, hsn15⟩ := h
        have lp16 : ∀ (n15 : Nat), ∀ (y17 : Int32) (y18 : Int32) (w19 : Wd), Inv16 n15 y17 y18 w19 → Gw l G L0 p e rm_X4_start s m args below meth c 6 (0) (0) (MQ below (gQi G L0 Q) args s rm_X4_start.cells rm_X4_start.slots (GA L0)) w19 79 [(0, .inr (some a0)), (1, .inl x1), (2, .inl x2), (3, .inl y17), (4, .inl y18)] [] := by
          intro n15
          induction n15 using Nat.strongRecOn with
          | ind n15 ihn15 =>
            intro y17 y18 w19 hI
            have h := hsn15 n15 y17 y18 w19 hI
            clear hI
            refine g_iload X dX4_start_79 4 rfl ?_
            refine g_aload_n X dX4_start_81 rfl 0 rfl ?_
            have hk := h.1
            replace h := h.2
            refine gg_517 X hk m_1013 dX4_start_82 (fun z20 hv => ?_)
            replace h := h z20 hv; clear hv hk
            refine g_iload_n X dX4_start_85 rfl 1 rfl ?_
            obtain ⟨a21, rfl, hk, h⟩ := h
            obtain ⟨j22, hi, hj, hN, h⟩ := h
            refine g_iald X hk hi hj hN dX4_start_86 (fun v23 hv => ?_)
            replace h := h v23 hv; clear hv hk hi hj hN
            obtain ⟨J24, hjJ24, h⟩ := h
            have jp24 : J24 → Gw l G L0 p e rm_X4_start s m args below meth c 6 (0) (0) (MQ below (gQi G L0 Q) args s rm_X4_start.cells rm_X4_start.slots (GA L0)) w19 166 [(3, .inl y17)] [] := by
              intro hJ
              have h := hjJ24 hJ
              clear hJ
              refine g_iload_n X dX4_start_166 rfl 0 rfl ?_
              exact g_iret X hr (by decide +kernel) (by decide +kernel) dX4_start_167 h
            refine g_icmp_ge X (tgt := 166) dX4_start_87 (by decide) (fun hc => ?_) (fun hc => ?_)
            · replace h := h.1 hc; clear hc
              exact g_sub [3] [(3, .inl y17)] rfl (jp24  h)
            · replace h := h.2 hc; clear hc
              refine g_aload_n X dX4_start_90 rfl 0 rfl ?_
              have hk := h.1
              replace h := h.2
              refine gg_515 X hk m_1011 dX4_start_91 (fun z25 hv => ?_)
              replace h := h z25 hv; clear hv hk
              refine g_iload_n X dX4_start_94 rfl 1 rfl ?_
              obtain ⟨a26, rfl, hk, h⟩ := h
              obtain ⟨j27, hi, hj, hN, h⟩ := h
              refine g_iald X hk hi hj hN dX4_start_95 (fun v28 hv => ?_)
              replace h := h v28 hv; clear hv hk hi hj hN
              refine g_iconst X (v := (1 : Int32)) dX4_start_96 (by decide) ?_
              refine g_icmp_gt X (tgt := 166) dX4_start_97 (by decide) (fun hc => ?_) (fun hc => ?_)
              · replace h := h.1 hc; clear hc
                exact g_sub [3] [(3, .inl y17)] rfl (jp24  h)
              · replace h := h.2 hc; clear hc
                refine g_aload_n X dX4_start_100 rfl 0 rfl ?_
                refine g_iload_n X dX4_start_101 rfl 1 rfl ?_
                refine g_iload_n X dX4_start_102 rfl 2 rfl ?_
                refine g_bipush X (v := (31 : Int32)) dX4_start_103 (by decide) ?_
                refine g_iload X dX4_start_105 4 rfl ?_
                refine g_imul X dX4_start_107 (fun v29 hv => ?_)
                replace h := h v29 hv; clear hv
                refine g_iadd X dX4_start_108 (fun v30 hv => ?_)
                replace h := h v30 hv; clear hv
                refine g_aload_n X dX4_start_109 rfl 0 rfl ?_
                have hk := h.1
                replace h := h.2
                refine gg_517 X hk m_1013 dX4_start_110 (fun z31 hv => ?_)
                replace h := h z31 hv; clear hv hk
                refine g_iload_n X dX4_start_113 rfl 1 rfl ?_
                obtain ⟨a32, rfl, hk, h⟩ := h
                obtain ⟨j33, hi, hj, hN, h⟩ := h
                refine g_iald X hk hi hj hN dX4_start_114 (fun v34 hv => ?_)
                replace h := h v34 hv; clear hv hk hi hj hN
                refine g_iload X dX4_start_115 4 rfl ?_
                refine g_isub X dX4_start_117 (fun v35 hv => ?_)
                replace h := h v35 hv; clear hv
                refine g_irem X dX4_start_118 h.1 (fun v36 hv => ?_)
                replace h := h.2 v36 hv; clear hv
                have hk := h.1
                replace h := h.2
                refine g_callV_i X (As := [.int x1, .int v36]) (st := []) (n := 2) (c_X4_next hst h) rfl (by decide) hk (wE_5 G w19 a0) m_1152 m_1154 m_22 m_34 m_1155 (by decide +kernel) (by decide +kernel) rfl rfl (Nat.zero_le _) ⟨(by decide +kernel), (by decide +kernel)⟩ dX4_start_119 (fun v38 w37 h => ?_)
                clear hk
                refine g_widen (c2 := (0)) (s2 := (0)) (by decide +kernel) (by decide +kernel) ?_
                refine g_istore X [(5, .inl v38), (0, .inr (some a0)), (1, .inl x1), (2, .inl x2), (3, .inl y17), (4, .inl y18)] dX4_start_122 (by decide) rfl ?_
                refine g_aload_n X dX4_start_124 rfl 1 rfl ?_
                have hk := h.1
                replace h := h.2
                refine gg_526 X hk m_1022 dX4_start_125 (fun z39 hv => ?_)
                replace h := h z39 hv; clear hv hk
                refine g_bipush X (v := (10 : Int32)) dX4_start_128 (by decide) ?_
                refine g_iload_n X dX4_start_130 rfl 2 rfl ?_
                refine g_imul X dX4_start_131 (fun v40 hv => ?_)
                replace h := h v40 hv; clear hv
                refine g_iload X dX4_start_132 0 rfl ?_
                refine g_iadd X dX4_start_134 (fun v41 hv => ?_)
                replace h := h v41 hv; clear hv
                refine g_iload X dX4_start_135 5 rfl ?_
                obtain ⟨a42, rfl, hk, h⟩ := h
                obtain ⟨j43, hi, hj, hN, h⟩ := h
                refine g_iast X hk hi hj hN dX4_start_137 (fun w44 hv => ?_)
                replace h := h w44 hv; clear hv hk hi hj hN
                refine g_iload X dX4_start_138 5 rfl ?_
                obtain ⟨J45, hjJ45, h⟩ := h
                have jp45 : ∀ (y46 : Int32), J45 y46 → Gw l G L0 p e rm_X4_start s m args below meth c 6 (0) (0) (MQ below (gQi G L0 Q) args s rm_X4_start.cells rm_X4_start.slots (GA L0)) w44 159 [(0, .inr (some a0)), (1, .inl x1), (2, .inl x2), (4, .inl y18)] [.int y46] := by
                  intro y46 hJ
                  have h := hjJ45 y46 hJ
                  clear hJ
                  refine g_istore_n X [(3, .inl y46), (0, .inr (some a0)), (1, .inl x1), (2, .inl x2), (4, .inl y18)] dX4_start_159 rfl (by decide) rfl ?_
                  refine g_iinc X dX4_start_160 4 rfl (d := (1 : Int32)) (by decide) (by decide) (fun v47 hv => ?_)
                  replace h := h v47 hv; clear hv
                  refine g_sub [0, 1, 2, 3, 4] [(4, .inl v47), (3, .inl y46), (0, .inr (some a0)), (1, .inl x1), (2, .inl x2)] rfl ?_
                  refine g_goto X (tgt := 79) dX4_start_163 (by decide) ?_
                  obtain ⟨n, hn, hI⟩ := h
                  exact g_sub [2, 3, 4, 1, 0] [(0, .inr (some a0)), (1, .inl x1), (2, .inl x2), (3, .inl y46), (4, .inl v47)] rfl (ihn15 n hn y46 v47 w44 hI)
                refine g_if_ne X (tgt := 158) dX4_start_140 (by decide) (fun hc => ?_) (fun hc => ?_)
                · replace h := h.1 hc; clear hc
                  refine g_iload_n X dX4_start_158 rfl 4 rfl ?_
                  exact g_sub [1, 2, 3, 5] [(0, .inr (some a0)), (1, .inl x1), (2, .inl x2), (4, .inl y18)] rfl (jp45 y17 h)
                · replace h := h.2 hc; clear hc
                  refine g_aload_n X dX4_start_143 rfl 1 rfl ?_
                  have hk := h.1
                  replace h := h.2
                  refine gg_521 X hk m_1017 dX4_start_144 (fun z48 hv => ?_)
                  replace h := h z48 hv; clear hv hk
                  refine g_bipush X (v := (10 : Int32)) dX4_start_147 (by decide) ?_
                  refine g_iload_n X dX4_start_149 rfl 2 rfl ?_
                  refine g_imul X dX4_start_150 (fun v49 hv => ?_)
                  replace h := h v49 hv; clear hv
                  refine g_iload X dX4_start_151 0 rfl ?_
                  refine g_iadd X dX4_start_153 (fun v50 hv => ?_)
                  replace h := h v50 hv; clear hv
                  obtain ⟨a51, rfl, hk, h⟩ := h
                  obtain ⟨j52, hi, hj, hN, h⟩ := h
                  refine g_iald X hk hi hj hN dX4_start_154 (fun v53 hv => ?_)
                  replace h := h v53 hv; clear hv hk hi hj hN
                  refine g_goto X (tgt := 159) dX4_start_155 (by decide) ?_
                  exact g_sub [1, 2, 3, 5] [(0, .inr (some a0)), (1, .inl x1), (2, .inl x2), (4, .inl y18)] rfl (jp45 v53 h)
        exact g_sub [2, 3, 4, 1, 0] [(0, .inr (some a0)), (1, .inl x1), (2, .inl x2), (3, .inl (-1 : Int32)), (4, .inl (0 : Int32))] rfl (lp16 n0 (-1 : Int32) (0 : Int32) w14 hi)
      · replace h := h.2 hc; clear hc
        refine g_iconst X (v := (0 : Int32)) dX4_start_65 (by decide) ?_
        exact g_iret X hr (by decide +kernel) (by decide +kernel) dX4_start_66 h
    refine g_if_ne X (tgt := 31) dX4_start_24 (by decide) (fun hc => ?_) (fun hc => ?_)
    · replace h := h.1 hc; clear hc
      refine g_aload_n X dX4_start_31 rfl 0 rfl ?_
      have hk := h.1
      replace h := h.2
      refine gg_520 X hk m_1016 dX4_start_32 (fun z54 hv => ?_)
      replace h := h z54 hv; clear hv hk
      refine g_iload_n X dX4_start_35 rfl 1 rfl ?_
      obtain ⟨a55, rfl, hk, h⟩ := h
      obtain ⟨j56, hi, hj, hN, h⟩ := h
      refine g_zald X hk hi hj hN dX4_start_36 (fun v57 hv => ?_)
      replace h := h v57 hv; clear hv hk hi hj hN
      obtain ⟨J58, hjJ58, h⟩ := h
      have jp58 : ∀ (q59 : Option Nat), J58 q59 → Gw l G L0 p e rm_X4_start s m args below meth c 6 (0) (0) (MQ below (gQi G L0 Q) args s rm_X4_start.cells rm_X4_start.slots (GA L0)) w3 50 [(0, .inr (some a0)), (1, .inl x1), (2, .inl x2)] [va_rf q59] := by
        intro q59 hJ
        have h := hjJ58 q59 hJ
        clear hJ
        refine g_iconst X (v := (3 : Int32)) dX4_start_50 (by decide) ?_
        refine g_goto X (tgt := 55) dX4_start_51 (by decide) ?_
        exact g_sub [0, 1, 2] [(0, .inr (some a0)), (1, .inl x1), (2, .inl x2)] rfl (jp5 q59 (3 : Int32) h)
      refine g_if_ne X (tgt := 50) dX4_start_37 (by decide) (fun hc => ?_) (fun hc => ?_)
      · replace h := h.1 hc; clear hc
        exact g_sub [0, 1, 2] [(0, .inr (some a0)), (1, .inl x1), (2, .inl x2)] rfl (jp58 (some a0) h)
      · replace h := h.2 hc; clear hc
        refine g_aload_n X dX4_start_40 rfl 0 rfl ?_
        have hk := h.1
        replace h := h.2
        refine gg_517 X hk m_1013 dX4_start_41 (fun z60 hv => ?_)
        replace h := h z60 hv; clear hv hk
        refine g_iload_n X dX4_start_44 rfl 1 rfl ?_
        obtain ⟨a61, rfl, hk, h⟩ := h
        obtain ⟨j62, hi, hj, hN, h⟩ := h
        refine g_iald X hk hi hj hN dX4_start_45 (fun v63 hv => ?_)
        replace h := h v63 hv; clear hv hk hi hj hN
        refine g_iconst X (v := (2 : Int32)) dX4_start_46 (by decide) ?_
        refine g_icmp_ge X (tgt := 54) dX4_start_47 (by decide) (fun hc => ?_) (fun hc => ?_)
        · replace h := h.1 hc; clear hc
          refine g_iconst X (v := (0 : Int32)) dX4_start_54 (by decide) ?_
          exact g_sub [0, 1, 2] [(0, .inr (some a0)), (1, .inl x1), (2, .inl x2)] rfl (jp5 (some a0) (0 : Int32) h)
        · replace h := h.2 hc; clear hc
          exact g_sub [0, 1, 2] [(0, .inr (some a0)), (1, .inl x1), (2, .inl x2)] rfl (jp58 (some a0) h)
    · replace h := h.2 hc; clear hc
      refine g_iconst X (v := (2 : Int32)) dX4_start_27 (by decide) ?_
      refine g_goto X (tgt := 55) dX4_start_28 (by decide) ?_
      exact g_sub [0, 1, 2] [(0, .inr (some a0)), (1, .inl x1), (2, .inl x2)] rfl (jp5 (some a0) (2 : Int32) h)
  · replace h := h.2 hc; clear hc
    refine g_aload_n X dX4_start_8 rfl 0 rfl ?_
    refine g_iconst X (v := (1 : Int32)) dX4_start_9 (by decide) ?_
    have hk := h.1
    replace h := h.2
    refine gp_500 X hk m_996 dX4_start_10 (fun w64 hv => ?_)
    replace h := h w64 hv; clear hv hk
    refine g_iconst X (v := (0 : Int32)) dX4_start_13 (by decide) ?_
    exact g_iret X hr (by decide +kernel) (by decide +kernel) dX4_start_14 h

abbrev rm_X4_want : Room := { frames := 8, cells := 0, slots := 0, locals := 143 }
def wp_X4_want (a0 : Nat) (x1 : Int32) (x2 : Int32) (x3 : Int32) (x4 : Int32) (w : Wd) (Q : Int32 → Wd → Prop) : Prop :=
  w.K a0 = 5 ∧
  wp_X4_isCircle a0 x1 w (fun v2 w1 => 
  ∃ J3 : Option Nat → Int32 → Wd → Prop, (∀ (q4 : Option Nat) (y5 : Int32) (w6 : Wd), J3 q4 y5 w6 →
  ∃ a7, q4 = some a7 ∧ w6.K a7 = 5 ∧
  ∀ w8 : Wd, w8 = w6.setI 500 a7 y5 →
  w8.K a0 = 5 ∧
  ∀ v9 : Int32, v9 = w8.I 500 a0 →
  (v9 = 0 → ∀ v10 : Int32, v10 = (10 : Int32) * x1 →
  w8.K a0 = 5 ∧
  wp_X4_placeOf a0 x1 x2 w8 (fun v12 w11 => 
  ∀ v13 : Int32, v13 = v10 + v12 →
  ∃ J14 : Int32 → Prop, (∀ (y15 : Int32), J14 y15 →
  w11.K a0 = 5 ∧
  ∀ z16 : Option Nat, z16 = w11.R 524 a0 →
  ∃ J17 : Option Nat → Int32 → Int32 → Prop, (∀ (q18 : Option Nat) (y19 : Int32) (y20 : Int32), J17 q18 y19 y20 →
  ∃ a21, q18 = some a21 ∧ w11.K a21 = 11 ∧
  ∃ j22 : Nat, y19 = nI j22 ∧ j22 < w11.N a21 ∧ w11.N a21 < 2 ^ 31 ∧
  ∀ w23 : Wd, w23 = w11.setA a21 j22 y20 →
  w23.K a0 = 5 ∧
  ∀ z24 : Option Nat, z24 = w23.R 523 a0 →
  ∃ J25 : Option Nat → Int32 → Int32 → Prop, (∀ (q26 : Option Nat) (y27 : Int32) (y28 : Int32), J25 q26 y27 y28 →
  ∃ a29, q26 = some a29 ∧ w23.K a29 = 11 ∧
  ∃ j30 : Nat, y27 = nI j30 ∧ j30 < w23.N a29 ∧ w23.N a29 < 2 ^ 31 ∧
  ∀ w31 : Wd, w31 = w23.setA a29 j30 y28 →
  Q y15 w31) ∧
  (x4 = 0 → J25 z24 v13 x3) ∧ (¬ x4 = 0 → w23.K a0 = 5 ∧
  ∀ z32 : Option Nat, z32 = w23.R 523 a0 →
  ∃ a33, z32 = some a33 ∧ w23.K a33 = 11 ∧
  ∃ j34 : Nat, v13 = nI j34 ∧ j34 < w23.N a33 ∧ w23.N a33 < 2 ^ 31 ∧
  ∀ v35 : Int32, v35 = w23.A a33 j34 →
  J25 z24 v13 v35)) ∧
  (x4 = 0 → w11.K a0 = 5 ∧
  ∀ z36 : Option Nat, z36 = w11.R 524 a0 →
  ∃ a37, z36 = some a37 ∧ w11.K a37 = 11 ∧
  ∃ j38 : Nat, v13 = nI j38 ∧ j38 < w11.N a37 ∧ w11.N a37 < 2 ^ 31 ∧
  ∀ v39 : Int32, v39 = w11.A a37 j38 →
  J17 z16 v13 v39) ∧ (¬ x4 = 0 → J17 z16 v13 x3)) ∧
  (x4 = 0 → w11.K a0 = 5 ∧
  ∀ z40 : Option Nat, z40 = w11.R 523 a0 →
  ∃ a41, z40 = some a41 ∧ w11.K a41 = 11 ∧
  ∃ j42 : Nat, v13 = nI j42 ∧ j42 < w11.N a41 ∧ w11.N a41 < 2 ^ 31 ∧
  ∀ v43 : Int32, v43 = w11.A a41 j42 →
  J14 v43) ∧ (¬ x4 = 0 → w11.K a0 = 5 ∧
  ∀ z44 : Option Nat, z44 = w11.R 524 a0 →
  ∃ a45, z44 = some a45 ∧ w11.K a45 = 11 ∧
  ∃ j46 : Nat, v13 = nI j46 ∧ j46 < w11.N a45 ∧ w11.N a45 < 2 ^ 31 ∧
  ∀ v47 : Int32, v47 = w11.A a45 j46 →
  J14 v47))) ∧ (¬ v9 = 0 → Q (0 : Int32) w8)) ∧
  ∃ J48 : Option Nat → Wd → Prop, (∀ (q49 : Option Nat) (w50 : Wd), J48 q49 w50 →
  J3 q49 (1 : Int32) w50) ∧
  (v2 = 0 → J48 (some a0) w1) ∧ (¬ v2 = 0 → w1.K a0 = 5 ∧
  wp_X4_isOne a0 x2 w1 (fun v52 w51 => 
  (¬ v52 = 0 → wp_X4_in x3 (0 : Int32) (10000 : Int32) w51 (fun v54 w53 => 
  (¬ v54 = 0 → w53.K a0 = 5 ∧
  wp_X4_placeOf a0 x1 x2 w53 (fun v56 w55 => 
  (0 ≤ v56 → J3 (some a0) (0 : Int32) w55) ∧ (¬ 0 ≤ v56 → J3 (some a0) (3 : Int32) w55))) ∧ (v54 = 0 → J3 (some a0) (2 : Int32) w53))) ∧ (v52 = 0 → J48 (some a0) w51))))
set_option maxHeartbeats 4000000 in
set_option maxRecDepth 100000 in
theorem c_X4_want {l : Launch} {G : GT} {L0 : Nat} (hst : l.stackTraces = false) {a0 : Nat} {x1 : Int32} {x2 : Int32} {x3 : Int32} {x4 : Int32} {w : Wd} {Q : Int32 → Wd → Prop} (h : wp_X4_want a0 x1 x2 x3 x4 w Q) : GMi l G L0 yX4_want cX4_want 7 (some .int) rm_X4_want [.ref a0, .int x1, .int x2, .int x3, .int x4] w Q := by
  refine g_enter hst (by decide +kernel) [.inr (some a0), .inl x1, .inl x2, .inl x3, .inl x4] rfl (show 5 ≤ 7 by decide) ?_
  intro p e s m args below meth c X hr hnm
  replace X : GC l G L0 p s m args meth c cX4_want 7 "SusuRingModel" := X
  refine g_aload_n X dX4_want_0 rfl 0 rfl ?_
  refine g_aload_n X dX4_want_1 rfl 0 rfl ?_
  refine g_iload_n X dX4_want_2 rfl 1 rfl ?_
  have hk := h.1
  replace h := h.2
  refine g_callV_i X (As := [.int x1]) (st := [va_rf (some a0)]) (n := 1) (c_X4_isCircle hst h) rfl (by decide) hk (wE_5 G w a0) m_1144 m_1146 m_21 m_34 m_1147 (by decide +kernel) (by decide +kernel) rfl rfl (by simp [cat_int, rf_cat]) ⟨(by decide +kernel), (by decide +kernel)⟩ dX4_want_3 (fun v2 w1 h => ?_)
  clear hk
  refine g_widen (c2 := (0)) (s2 := (0)) (by decide +kernel) (by decide +kernel) ?_
  obtain ⟨J3, hjJ3, h⟩ := h
  have jp3 : ∀ (q4 : Option Nat) (y5 : Int32) (w6 : Wd), J3 q4 y5 w6 → Gw l G L0 p e rm_X4_want s m args below meth c 7 (0) (0) (MQ below (gQi G L0 Q) args s rm_X4_want.cells rm_X4_want.slots (GA L0)) w6 50 [(0, .inr (some a0)), (1, .inl x1), (2, .inl x2), (3, .inl x3), (4, .inl x4)] [.int y5, va_rf q4] := by
    intro q4 y5 w6 hJ
    have h := hjJ3 q4 y5 w6 hJ
    clear hJ
    obtain ⟨a7, rfl, hk, h⟩ := h
    refine gp_500 X hk m_996 dX4_want_50 (fun w8 hv => ?_)
    replace h := h w8 hv; clear hv hk
    refine g_aload_n X dX4_want_53 rfl 0 rfl ?_
    have hk := h.1
    replace h := h.2
    refine gg_500 X hk m_996 dX4_want_54 (fun v9 hv => ?_)
    replace h := h v9 hv; clear hv hk
    refine g_if_eq X (tgt := 62) dX4_want_57 (by decide) (fun hc => ?_) (fun hc => ?_)
    · replace h := h.1 hc; clear hc
      refine g_bipush X (v := (10 : Int32)) dX4_want_62 (by decide) ?_
      refine g_iload_n X dX4_want_64 rfl 1 rfl ?_
      refine g_imul X dX4_want_65 (fun v10 hv => ?_)
      replace h := h v10 hv; clear hv
      refine g_aload_n X dX4_want_66 rfl 0 rfl ?_
      refine g_iload_n X dX4_want_67 rfl 1 rfl ?_
      refine g_iload_n X dX4_want_68 rfl 2 rfl ?_
      have hk := h.1
      replace h := h.2
      refine g_callV_i X (As := [.int x1, .int x2]) (st := [.int v10]) (n := 2) (c_X4_placeOf hst h) rfl (by decide) hk (wE_5 G w8 a0) m_1120 m_1122 m_17 m_34 m_1123 (by decide +kernel) (by decide +kernel) rfl rfl (by simp [cat_int, rf_cat]) ⟨(by decide +kernel), (by decide +kernel)⟩ dX4_want_69 (fun v12 w11 h => ?_)
      clear hk
      refine g_widen (c2 := (0)) (s2 := (0)) (by decide +kernel) (by decide +kernel) ?_
      refine g_iadd X dX4_want_72 (fun v13 hv => ?_)
      replace h := h v13 hv; clear hv
      refine g_istore X [(5, .inl v13), (0, .inr (some a0)), (1, .inl x1), (2, .inl x2), (3, .inl x3), (4, .inl x4)] dX4_want_73 (by decide) rfl ?_
      refine g_iload X dX4_want_75 5 rfl ?_
      obtain ⟨J14, hjJ14, h⟩ := h
      have jp14 : ∀ (y15 : Int32), J14 y15 → Gw l G L0 p e rm_X4_want s m args below meth c 7 (0) (0) (MQ below (gQi G L0 Q) args s rm_X4_want.cells rm_X4_want.slots (GA L0)) w11 97 [(0, .inr (some a0)), (3, .inl x3), (4, .inl x4), (5, .inl v13)] [.int y15] := by
        intro y15 hJ
        have h := hjJ14 y15 hJ
        clear hJ
        refine g_istore X [(6, .inl y15), (0, .inr (some a0)), (3, .inl x3), (4, .inl x4), (5, .inl v13)] dX4_want_97 (by decide) rfl ?_
        refine g_aload_n X dX4_want_99 rfl 1 rfl ?_
        have hk := h.1
        replace h := h.2
        refine gg_524 X hk m_1020 dX4_want_100 (fun z16 hv => ?_)
        replace h := h z16 hv; clear hv hk
        refine g_iload X dX4_want_103 4 rfl ?_
        refine g_iload X dX4_want_105 3 rfl ?_
        obtain ⟨J17, hjJ17, h⟩ := h
        have jp17 : ∀ (q18 : Option Nat) (y19 : Int32) (y20 : Int32), J17 q18 y19 y20 → Gw l G L0 p e rm_X4_want s m args below meth c 7 (0) (0) (MQ below (gQi G L0 Q) args s rm_X4_want.cells rm_X4_want.slots (GA L0)) w11 121 [(0, .inr (some a0)), (3, .inl x3), (4, .inl x4), (5, .inl v13), (6, .inl y15)] [.int y20, .int y19, va_rf q18] := by
          intro q18 y19 y20 hJ
          have h := hjJ17 q18 y19 y20 hJ
          clear hJ
          obtain ⟨a21, rfl, hk, h⟩ := h
          obtain ⟨j22, hi, hj, hN, h⟩ := h
          refine g_iast X hk hi hj hN dX4_want_121 (fun w23 hv => ?_)
          replace h := h w23 hv; clear hv hk hi hj hN
          refine g_aload_n X dX4_want_122 rfl 0 rfl ?_
          have hk := h.1
          replace h := h.2
          refine gg_523 X hk m_1019 dX4_want_123 (fun z24 hv => ?_)
          replace h := h z24 hv; clear hv hk
          refine g_iload X dX4_want_126 3 rfl ?_
          refine g_iload X dX4_want_128 2 rfl ?_
          obtain ⟨J25, hjJ25, h⟩ := h
          have jp25 : ∀ (q26 : Option Nat) (y27 : Int32) (y28 : Int32), J25 q26 y27 y28 → Gw l G L0 p e rm_X4_want s m args below meth c 7 (0) (0) (MQ below (gQi G L0 Q) args s rm_X4_want.cells rm_X4_want.slots (GA L0)) w23 144 [(6, .inl y15)] [.int y28, .int y27, va_rf q26] := by
            intro q26 y27 y28 hJ
            have h := hjJ25 q26 y27 y28 hJ
            clear hJ
            obtain ⟨a29, rfl, hk, h⟩ := h
            obtain ⟨j30, hi, hj, hN, h⟩ := h
            refine g_iast X hk hi hj hN dX4_want_144 (fun w31 hv => ?_)
            replace h := h w31 hv; clear hv hk hi hj hN
            refine g_iload X dX4_want_145 0 rfl ?_
            exact g_iret X hr (by decide +kernel) (by decide +kernel) dX4_want_147 h
          refine g_if_eq X (tgt := 143) dX4_want_130 (by decide) (fun hc => ?_) (fun hc => ?_)
          · replace h := h.1 hc; clear hc
            refine g_iload_n X dX4_want_143 rfl 1 rfl ?_
            exact g_sub [4] [(6, .inl y15)] rfl (jp25 z24 v13 x3 h)
          · replace h := h.2 hc; clear hc
            refine g_aload_n X dX4_want_133 rfl 0 rfl ?_
            have hk := h.1
            replace h := h.2
            refine gg_523 X hk m_1019 dX4_want_134 (fun z32 hv => ?_)
            replace h := h z32 hv; clear hv hk
            refine g_iload X dX4_want_137 3 rfl ?_
            obtain ⟨a33, rfl, hk, h⟩ := h
            obtain ⟨j34, hi, hj, hN, h⟩ := h
            refine g_iald X hk hi hj hN dX4_want_139 (fun v35 hv => ?_)
            replace h := h v35 hv; clear hv hk hi hj hN
            refine g_goto X (tgt := 144) dX4_want_140 (by decide) ?_
            exact g_sub [4] [(6, .inl y15)] rfl (jp25 z24 v13 v35 h)
        refine g_if_eq X (tgt := 114) dX4_want_107 (by decide) (fun hc => ?_) (fun hc => ?_)
        · replace h := h.1 hc; clear hc
          refine g_aload_n X dX4_want_114 rfl 1 rfl ?_
          have hk := h.1
          replace h := h.2
          refine gg_524 X hk m_1020 dX4_want_115 (fun z36 hv => ?_)
          replace h := h z36 hv; clear hv hk
          refine g_iload X dX4_want_118 4 rfl ?_
          obtain ⟨a37, rfl, hk, h⟩ := h
          obtain ⟨j38, hi, hj, hN, h⟩ := h
          refine g_iald X hk hi hj hN dX4_want_120 (fun v39 hv => ?_)
          replace h := h v39 hv; clear hv hk hi hj hN
          exact g_sub [1, 2, 3, 4, 0] [(0, .inr (some a0)), (3, .inl x3), (4, .inl x4), (5, .inl v13), (6, .inl y15)] rfl (jp17 z16 v13 v39 h)
        · replace h := h.2 hc; clear hc
          refine g_iload_n X dX4_want_110 rfl 2 rfl ?_
          refine g_goto X (tgt := 121) dX4_want_111 (by decide) ?_
          exact g_sub [1, 2, 3, 4, 0] [(0, .inr (some a0)), (3, .inl x3), (4, .inl x4), (5, .inl v13), (6, .inl y15)] rfl (jp17 z16 v13 x3 h)
      refine g_if_eq X (tgt := 90) dX4_want_77 (by decide) (fun hc => ?_) (fun hc => ?_)
      · replace h := h.1 hc; clear hc
        refine g_aload_n X dX4_want_90 rfl 1 rfl ?_
        have hk := h.1
        replace h := h.2
        refine gg_523 X hk m_1019 dX4_want_91 (fun z40 hv => ?_)
        replace h := h z40 hv; clear hv hk
        refine g_iload X dX4_want_94 0 rfl ?_
        obtain ⟨a41, rfl, hk, h⟩ := h
        obtain ⟨j42, hi, hj, hN, h⟩ := h
        refine g_iald X hk hi hj hN dX4_want_96 (fun v43 hv => ?_)
        replace h := h v43 hv; clear hv hk hi hj hN
        exact g_sub [1, 4, 5, 0] [(0, .inr (some a0)), (3, .inl x3), (4, .inl x4), (5, .inl v13)] rfl (jp14 v43 h)
      · replace h := h.2 hc; clear hc
        refine g_aload_n X dX4_want_80 rfl 1 rfl ?_
        have hk := h.1
        replace h := h.2
        refine gg_524 X hk m_1020 dX4_want_81 (fun z44 hv => ?_)
        replace h := h z44 hv; clear hv hk
        refine g_iload X dX4_want_84 0 rfl ?_
        obtain ⟨a45, rfl, hk, h⟩ := h
        obtain ⟨j46, hi, hj, hN, h⟩ := h
        refine g_iald X hk hi hj hN dX4_want_86 (fun v47 hv => ?_)
        replace h := h v47 hv; clear hv hk hi hj hN
        refine g_goto X (tgt := 97) dX4_want_87 (by decide) ?_
        exact g_sub [1, 4, 5, 0] [(0, .inr (some a0)), (3, .inl x3), (4, .inl x4), (5, .inl v13)] rfl (jp14 v47 h)
    · replace h := h.2 hc; clear hc
      refine g_iconst X (v := (0 : Int32)) dX4_want_60 (by decide) ?_
      exact g_iret X hr (by decide +kernel) (by decide +kernel) dX4_want_61 h
  obtain ⟨J48, hjJ48, h⟩ := h
  have jp48 : ∀ (q49 : Option Nat) (w50 : Wd), J48 q49 w50 → Gw l G L0 p e rm_X4_want s m args below meth c 7 (0) (0) (MQ below (gQi G L0 Q) args s rm_X4_want.cells rm_X4_want.slots (GA L0)) w50 17 [(0, .inr (some a0)), (1, .inl x1), (2, .inl x2), (3, .inl x3), (4, .inl x4)] [va_rf q49] := by
    intro q49 w50 hJ
    have h := hjJ48 q49 w50 hJ
    clear hJ
    refine g_iconst X (v := (1 : Int32)) dX4_want_17 (by decide) ?_
    refine g_goto X (tgt := 50) dX4_want_18 (by decide) ?_
    exact g_sub [0, 1, 2, 3, 4] [(0, .inr (some a0)), (1, .inl x1), (2, .inl x2), (3, .inl x3), (4, .inl x4)] rfl (jp3 q49 (1 : Int32) w50 h)
  refine g_if_eq X (tgt := 17) dX4_want_6 (by decide) (fun hc => ?_) (fun hc => ?_)
  · replace h := h.1 hc; clear hc
    exact g_sub [0, 1, 2, 3, 4] [(0, .inr (some a0)), (1, .inl x1), (2, .inl x2), (3, .inl x3), (4, .inl x4)] rfl (jp48 (some a0) w1 h)
  · replace h := h.2 hc; clear hc
    refine g_aload_n X dX4_want_9 rfl 0 rfl ?_
    refine g_iload_n X dX4_want_10 rfl 2 rfl ?_
    have hk := h.1
    replace h := h.2
    refine g_callV_i X (As := [.int x2]) (st := [va_rf (some a0)]) (n := 1) (c_X4_isOne hst h) rfl (by decide) hk (wE_5 G w1 a0) m_1107 m_1109 m_15 m_34 m_1110 (by decide +kernel) (by decide +kernel) rfl rfl (by simp [cat_int, rf_cat]) ⟨(by decide +kernel), (by decide +kernel)⟩ dX4_want_11 (fun v52 w51 h => ?_)
    clear hk
    refine g_widen (c2 := (0)) (s2 := (0)) (by decide +kernel) (by decide +kernel) ?_
    refine g_if_ne X (tgt := 21) dX4_want_14 (by decide) (fun hc => ?_) (fun hc => ?_)
    · replace h := h.1 hc; clear hc
      refine g_iload_n X dX4_want_21 rfl 3 rfl ?_
      refine g_iconst X (v := (0 : Int32)) dX4_want_22 (by decide) ?_
      refine g_sipush X (v := (10000 : Int32)) dX4_want_23 (by decide) ?_
      refine g_callS_i X (As := [.int x3, .int (0 : Int32), .int (10000 : Int32)]) (st := [va_rf (some a0)]) (n := 3) (c_X4_in hst h) m_1099 m_1100 m_34 m_1101 (by decide +kernel) (by decide +kernel) rfl rfl (by simp [cat_int, rf_cat]) ⟨(by decide +kernel), (by decide +kernel)⟩ dX4_want_26 (fun v54 w53 h => ?_)
      refine g_widen (c2 := (0)) (s2 := (0)) (by decide +kernel) (by decide +kernel) ?_
      refine g_if_ne X (tgt := 36) dX4_want_29 (by decide) (fun hc => ?_) (fun hc => ?_)
      · replace h := h.1 hc; clear hc
        refine g_aload_n X dX4_want_36 rfl 0 rfl ?_
        refine g_iload_n X dX4_want_37 rfl 1 rfl ?_
        refine g_iload_n X dX4_want_38 rfl 2 rfl ?_
        have hk := h.1
        replace h := h.2
        refine g_callV_i X (As := [.int x1, .int x2]) (st := [va_rf (some a0)]) (n := 2) (c_X4_placeOf hst h) rfl (by decide) hk (wE_5 G w53 a0) m_1120 m_1122 m_17 m_34 m_1123 (by decide +kernel) (by decide +kernel) rfl rfl (by simp [cat_int, rf_cat]) ⟨(by decide +kernel), (by decide +kernel)⟩ dX4_want_39 (fun v56 w55 h => ?_)
        clear hk
        refine g_widen (c2 := (0)) (s2 := (0)) (by decide +kernel) (by decide +kernel) ?_
        refine g_if_ge X (tgt := 49) dX4_want_42 (by decide) (fun hc => ?_) (fun hc => ?_)
        · replace h := h.1 hc; clear hc
          refine g_iconst X (v := (0 : Int32)) dX4_want_49 (by decide) ?_
          exact g_sub [0, 1, 2, 3, 4] [(0, .inr (some a0)), (1, .inl x1), (2, .inl x2), (3, .inl x3), (4, .inl x4)] rfl (jp3 (some a0) (0 : Int32) w55 h)
        · replace h := h.2 hc; clear hc
          refine g_iconst X (v := (3 : Int32)) dX4_want_45 (by decide) ?_
          refine g_goto X (tgt := 50) dX4_want_46 (by decide) ?_
          exact g_sub [0, 1, 2, 3, 4] [(0, .inr (some a0)), (1, .inl x1), (2, .inl x2), (3, .inl x3), (4, .inl x4)] rfl (jp3 (some a0) (3 : Int32) w55 h)
      · replace h := h.2 hc; clear hc
        refine g_iconst X (v := (2 : Int32)) dX4_want_32 (by decide) ?_
        refine g_goto X (tgt := 50) dX4_want_33 (by decide) ?_
        exact g_sub [0, 1, 2, 3, 4] [(0, .inr (some a0)), (1, .inl x1), (2, .inl x2), (3, .inl x3), (4, .inl x4)] rfl (jp3 (some a0) (2 : Int32) w53 h)
    · replace h := h.2 hc; clear hc
      exact g_sub [0, 1, 2, 3, 4] [(0, .inr (some a0)), (1, .inl x1), (2, .inl x2), (3, .inl x3), (4, .inl x4)] rfl (jp48 (some a0) w51 h)

abbrev rm_X4_turnOf : Room := { frames := 6, cells := 0, slots := 0, locals := 100 }
def wp_X4_turnOf (a0 : Nat) (x1 : Int32) (w : Wd) (Q : Int32 → Wd → Prop) : Prop :=
  ∃ Inv2 : Nat → Int32 → Int32 → Prop, (∃ n : Nat, Inv2 n (-1 : Int32) (0 : Int32)) ∧ ∀ (n1 : Nat) (y3 : Int32) (y4 : Int32), Inv2 n1 y3 y4 →
  w.K a0 = 5 ∧
  ∀ z5 : Option Nat, z5 = w.R 517 a0 →
  ∃ a6, z5 = some a6 ∧ w.K a6 = 11 ∧
  ∃ j7 : Nat, x1 = nI j7 ∧ j7 < w.N a6 ∧ w.N a6 < 2 ^ 31 ∧
  ∀ v8 : Int32, v8 = w.A a6 j7 →
  (v8 ≤ y4 → Q y3 w) ∧ (¬ v8 ≤ y4 → ∀ v9 : Int32, v9 = (10 : Int32) * x1 →
  ∀ v10 : Int32, v10 = v9 + y4 →
  ∀ v11 : Int32, v11 = (10 : Int32) * x1 →
  ∀ v12 : Int32, v12 = v11 + y3 →
  ∃ J13 : Int32 → Prop, (∀ (y14 : Int32), J13 y14 →
  w.K a0 = 5 ∧
  ∀ z15 : Option Nat, z15 = w.R 527 a0 →
  ∃ a16, z15 = some a16 ∧ w.K a16 = 12 ∧
  ∃ j17 : Nat, v10 = nI j17 ∧ j17 < w.N a16 ∧ w.N a16 < 2 ^ 31 ∧
  ∀ v18 : Int32, v18 = w.A a16 j17 →
  ∃ J19 : Int32 → Prop, (∀ (y20 : Int32), J19 y20 →
  ∀ v21 : Int32, v21 = y4 + (1 : Int32) →
  ∃ n : Nat, n < n1 ∧ Inv2 n y20 v21) ∧
  ∃ J22 : Prop, (J22 →
  J19 y3) ∧
  (¬ v18 = 0 → J22) ∧ (v18 = 0 → (y14 = 0 → J22) ∧ (¬ y14 = 0 → J19 y4))) ∧
  ∃ J23 : Prop, (J23 →
  J13 (1 : Int32)) ∧
  (y3 < 0 → J23) ∧ (¬ y3 < 0 → w.K a0 = 5 ∧
  ∀ z24 : Option Nat, z24 = w.R 515 a0 →
  ∃ a25, z24 = some a25 ∧ w.K a25 = 11 ∧
  ∃ j26 : Nat, x1 = nI j26 ∧ j26 < w.N a25 ∧ w.N a25 < 2 ^ 31 ∧
  ∀ v27 : Int32, v27 = w.A a25 j26 →
  ∃ J28 : Prop, (J28 →
  J13 (0 : Int32)) ∧
  ((1 : Int32) < v27 → w.K a0 = 5 ∧
  ∀ z29 : Option Nat, z29 = w.R 515 a0 →
  ∃ a30, z29 = some a30 ∧ w.K a30 = 11 ∧
  ∃ j31 : Nat, x1 = nI j31 ∧ j31 < w.N a30 ∧ w.N a30 < 2 ^ 31 ∧
  ∀ v32 : Int32, v32 = w.A a30 j31 →
  (¬ v32 = (3 : Int32) → w.K a0 = 5 ∧
  ∀ z33 : Option Nat, z33 = w.R 523 a0 →
  ∃ a34, z33 = some a34 ∧ w.K a34 = 11 ∧
  ∃ j35 : Nat, v10 = nI j35 ∧ j35 < w.N a34 ∧ w.N a34 < 2 ^ 31 ∧
  ∀ v36 : Int32, v36 = w.A a34 j35 →
  w.K a0 = 5 ∧
  ∀ z37 : Option Nat, z37 = w.R 523 a0 →
  ∃ a38, z37 = some a38 ∧ w.K a38 = 11 ∧
  ∃ j39 : Nat, v12 = nI j39 ∧ j39 < w.N a38 ∧ w.N a38 < 2 ^ 31 ∧
  ∀ v40 : Int32, v40 = w.A a38 j39 →
  (v36 ≤ v40 → J28) ∧ (¬ v36 ≤ v40 → J23)) ∧ (v32 = (3 : Int32) → w.K a0 = 5 ∧
  ∀ z41 : Option Nat, z41 = w.R 524 a0 →
  ∃ a42, z41 = some a42 ∧ w.K a42 = 11 ∧
  ∃ j43 : Nat, v10 = nI j43 ∧ j43 < w.N a42 ∧ w.N a42 < 2 ^ 31 ∧
  ∀ v44 : Int32, v44 = w.A a42 j43 →
  w.K a0 = 5 ∧
  ∀ z45 : Option Nat, z45 = w.R 524 a0 →
  ∃ a46, z45 = some a46 ∧ w.K a46 = 11 ∧
  ∃ j47 : Nat, v12 = nI j47 ∧ j47 < w.N a46 ∧ w.N a46 < 2 ^ 31 ∧
  ∀ v48 : Int32, v48 = w.A a46 j47 →
  (v44 ≤ v48 → J28) ∧ (¬ v44 ≤ v48 → J23))) ∧ (¬ (1 : Int32) < v27 → w.K a0 = 5 ∧
  ∀ z49 : Option Nat, z49 = w.R 526 a0 →
  ∃ a50, z49 = some a50 ∧ w.K a50 = 11 ∧
  ∃ j51 : Nat, v10 = nI j51 ∧ j51 < w.N a50 ∧ w.N a50 < 2 ^ 31 ∧
  ∀ v52 : Int32, v52 = w.A a50 j51 →
  w.K a0 = 5 ∧
  ∀ z53 : Option Nat, z53 = w.R 526 a0 →
  ∃ a54, z53 = some a54 ∧ w.K a54 = 11 ∧
  ∃ j55 : Nat, v12 = nI j55 ∧ j55 < w.N a54 ∧ w.N a54 < 2 ^ 31 ∧
  ∀ v56 : Int32, v56 = w.A a54 j55 →
  (v56 ≤ v52 → J28) ∧ (¬ v56 ≤ v52 → J23))))
set_option maxHeartbeats 4000000 in
set_option maxRecDepth 100000 in
theorem c_X4_turnOf {l : Launch} {G : GT} {L0 : Nat} (hst : l.stackTraces = false) {a0 : Nat} {x1 : Int32} {w : Wd} {Q : Int32 → Wd → Prop} (h : wp_X4_turnOf a0 x1 w Q) : GMi l G L0 yX4_turnOf cX4_turnOf 7 (some .int) rm_X4_turnOf [.ref a0, .int x1] w Q := by
  refine g_enter hst (by decide +kernel) [.inr (some a0), .inl x1] rfl (show 2 ≤ 7 by decide) ?_
  intro p e s m args below meth c X hr hnm
  replace X : GC l G L0 p s m args meth c cX4_turnOf 7 "SusuRingModel" := X
  refine g_iconst X (v := (-1 : Int32)) dX4_turnOf_0 (by decide) ?_
  refine g_istore_n X [(2, .inl (-1 : Int32)), (0, .inr (some a0)), (1, .inl x1)] dX4_turnOf_1 rfl (by decide) rfl ?_
  refine g_iconst X (v := (0 : Int32)) dX4_turnOf_2 (by decide) ?_
  refine g_istore_n X [(3, .inl (0 : Int32)), (2, .inl (-1 : Int32)), (0, .inr (some a0)), (1, .inl x1)] dX4_turnOf_3 rfl (by decide) rfl ?_
  obtain ⟨Inv2, ⟨n0, hi⟩, hsn1⟩ := h
  have lp2 : ∀ (n1 : Nat), ∀ (y3 : Int32) (y4 : Int32), Inv2 n1 y3 y4 → Gw l G L0 p e rm_X4_turnOf s m args below meth c 7 (0) (0) (MQ below (gQi G L0 Q) args s rm_X4_turnOf.cells rm_X4_turnOf.slots (GA L0)) w 4 [(0, .inr (some a0)), (1, .inl x1), (2, .inl y3), (3, .inl y4)] [] := by
    intro n1
    induction n1 using Nat.strongRecOn with
    | ind n1 ihn1 =>
      intro y3 y4 hI
      have h := hsn1 n1 y3 y4 hI
      clear hI
      refine g_iload_n X dX4_turnOf_4 rfl 3 rfl ?_
      refine g_aload_n X dX4_turnOf_5 rfl 0 rfl ?_
      have hk := h.1
      replace h := h.2
      refine gg_517 X hk m_1013 dX4_turnOf_6 (fun z5 hv => ?_)
      replace h := h z5 hv; clear hv hk
      refine g_iload_n X dX4_turnOf_9 rfl 1 rfl ?_
      obtain ⟨a6, rfl, hk, h⟩ := h
      obtain ⟨j7, hi, hj, hN, h⟩ := h
      refine g_iald X hk hi hj hN dX4_turnOf_10 (fun v8 hv => ?_)
      replace h := h v8 hv; clear hv hk hi hj hN
      refine g_icmp_ge X (tgt := 145) dX4_turnOf_11 (by decide) (fun hc => ?_) (fun hc => ?_)
      · replace h := h.1 hc; clear hc
        refine g_iload_n X dX4_turnOf_145 rfl 2 rfl ?_
        exact g_iret X hr (by decide +kernel) (by decide +kernel) dX4_turnOf_146 h
      · replace h := h.2 hc; clear hc
        refine g_bipush X (v := (10 : Int32)) dX4_turnOf_14 (by decide) ?_
        refine g_iload_n X dX4_turnOf_16 rfl 1 rfl ?_
        refine g_imul X dX4_turnOf_17 (fun v9 hv => ?_)
        replace h := h v9 hv; clear hv
        refine g_iload_n X dX4_turnOf_18 rfl 3 rfl ?_
        refine g_iadd X dX4_turnOf_19 (fun v10 hv => ?_)
        replace h := h v10 hv; clear hv
        refine g_istore X [(4, .inl v10), (0, .inr (some a0)), (1, .inl x1), (2, .inl y3), (3, .inl y4)] dX4_turnOf_20 (by decide) rfl ?_
        refine g_bipush X (v := (10 : Int32)) dX4_turnOf_22 (by decide) ?_
        refine g_iload_n X dX4_turnOf_24 rfl 2 rfl ?_
        refine g_imul X dX4_turnOf_25 (fun v11 hv => ?_)
        replace h := h v11 hv; clear hv
        refine g_iload_n X dX4_turnOf_26 rfl 3 rfl ?_
        refine g_iadd X dX4_turnOf_27 (fun v12 hv => ?_)
        replace h := h v12 hv; clear hv
        refine g_istore X [(5, .inl v12), (4, .inl v10), (0, .inr (some a0)), (1, .inl x1), (2, .inl y3), (3, .inl y4)] dX4_turnOf_28 (by decide) rfl ?_
        refine g_iload_n X dX4_turnOf_30 rfl 4 rfl ?_
        obtain ⟨J13, hjJ13, h⟩ := h
        have jp13 : ∀ (y14 : Int32), J13 y14 → Gw l G L0 p e rm_X4_turnOf s m args below meth c 7 (0) (0) (MQ below (gQi G L0 Q) args s rm_X4_turnOf.cells rm_X4_turnOf.slots (GA L0)) w 116 [(0, .inr (some a0)), (1, .inl x1), (2, .inl y3), (3, .inl y4), (4, .inl v10)] [.int y14] := by
          intro y14 hJ
          have h := hjJ13 y14 hJ
          clear hJ
          refine g_istore X [(6, .inl y14), (0, .inr (some a0)), (1, .inl x1), (2, .inl y3), (3, .inl y4), (4, .inl v10)] dX4_turnOf_116 (by decide) rfl ?_
          refine g_aload_n X dX4_turnOf_118 rfl 1 rfl ?_
          have hk := h.1
          replace h := h.2
          refine gg_527 X hk m_1023 dX4_turnOf_119 (fun z15 hv => ?_)
          replace h := h z15 hv; clear hv hk
          refine g_iload X dX4_turnOf_122 5 rfl ?_
          obtain ⟨a16, rfl, hk, h⟩ := h
          obtain ⟨j17, hi, hj, hN, h⟩ := h
          refine g_zald X hk hi hj hN dX4_turnOf_124 (fun v18 hv => ?_)
          replace h := h v18 hv; clear hv hk hi hj hN
          obtain ⟨J19, hjJ19, h⟩ := h
          have jp19 : ∀ (y20 : Int32), J19 y20 → Gw l G L0 p e rm_X4_turnOf s m args below meth c 7 (0) (0) (MQ below (gQi G L0 Q) args s rm_X4_turnOf.cells rm_X4_turnOf.slots (GA L0)) w 138 [(0, .inr (some a0)), (1, .inl x1), (3, .inl y4)] [.int y20] := by
            intro y20 hJ
            have h := hjJ19 y20 hJ
            clear hJ
            refine g_istore_n X [(2, .inl y20), (0, .inr (some a0)), (1, .inl x1), (3, .inl y4)] dX4_turnOf_138 rfl (by decide) rfl ?_
            refine g_iinc X dX4_turnOf_139 3 rfl (d := (1 : Int32)) (by decide) (by decide) (fun v21 hv => ?_)
            replace h := h v21 hv; clear hv
            refine g_sub [0, 1, 2, 3] [(3, .inl v21), (2, .inl y20), (0, .inr (some a0)), (1, .inl x1)] rfl ?_
            refine g_goto X (tgt := 4) dX4_turnOf_142 (by decide) ?_
            obtain ⟨n, hn, hI⟩ := h
            exact g_sub [2, 3, 1, 0] [(0, .inr (some a0)), (1, .inl x1), (2, .inl y20), (3, .inl v21)] rfl (ihn1 n hn y20 v21 hI)
          obtain ⟨J22, hjJ22, h⟩ := h
          have jp22 : J22 → Gw l G L0 p e rm_X4_turnOf s m args below meth c 7 (0) (0) (MQ below (gQi G L0 Q) args s rm_X4_turnOf.cells rm_X4_turnOf.slots (GA L0)) w 137 [(0, .inr (some a0)), (1, .inl x1), (2, .inl y3), (3, .inl y4)] [] := by
            intro hJ
            have h := hjJ22 hJ
            clear hJ
            refine g_iload_n X dX4_turnOf_137 rfl 2 rfl ?_
            exact g_sub [0, 1, 3] [(0, .inr (some a0)), (1, .inl x1), (3, .inl y4)] rfl (jp19 y3 h)
          refine g_if_ne X (tgt := 137) dX4_turnOf_125 (by decide) (fun hc => ?_) (fun hc => ?_)
          · replace h := h.1 hc; clear hc
            exact g_sub [1, 2, 3, 4] [(0, .inr (some a0)), (1, .inl x1), (2, .inl y3), (3, .inl y4)] rfl (jp22  h)
          · replace h := h.2 hc; clear hc
            refine g_iload X dX4_turnOf_128 0 rfl ?_
            refine g_if_eq X (tgt := 137) dX4_turnOf_130 (by decide) (fun hc => ?_) (fun hc => ?_)
            · replace h := h.1 hc; clear hc
              exact g_sub [1, 2, 3, 4] [(0, .inr (some a0)), (1, .inl x1), (2, .inl y3), (3, .inl y4)] rfl (jp22  h)
            · replace h := h.2 hc; clear hc
              refine g_iload_n X dX4_turnOf_133 rfl 4 rfl ?_
              refine g_goto X (tgt := 138) dX4_turnOf_134 (by decide) ?_
              exact g_sub [1, 2, 4] [(0, .inr (some a0)), (1, .inl x1), (3, .inl y4)] rfl (jp19 y4 h)
        obtain ⟨J23, hjJ23, h⟩ := h
        have jp23 : J23 → Gw l G L0 p e rm_X4_turnOf s m args below meth c 7 (0) (0) (MQ below (gQi G L0 Q) args s rm_X4_turnOf.cells rm_X4_turnOf.slots (GA L0)) w 111 [(0, .inr (some a0)), (1, .inl x1), (2, .inl y3), (3, .inl y4), (4, .inl v10)] [] := by
          intro hJ
          have h := hjJ23 hJ
          clear hJ
          refine g_iconst X (v := (1 : Int32)) dX4_turnOf_111 (by decide) ?_
          refine g_goto X (tgt := 116) dX4_turnOf_112 (by decide) ?_
          exact g_sub [0, 1, 2, 3, 4] [(0, .inr (some a0)), (1, .inl x1), (2, .inl y3), (3, .inl y4), (4, .inl v10)] rfl (jp13 (1 : Int32) h)
        refine g_if_lt X (tgt := 111) dX4_turnOf_31 (by decide) (fun hc => ?_) (fun hc => ?_)
        · replace h := h.1 hc; clear hc
          exact g_sub [2, 3, 4, 5, 1] [(0, .inr (some a0)), (1, .inl x1), (2, .inl y3), (3, .inl y4), (4, .inl v10)] rfl (jp23  h)
        · replace h := h.2 hc; clear hc
          refine g_aload_n X dX4_turnOf_34 rfl 2 rfl ?_
          have hk := h.1
          replace h := h.2
          refine gg_515 X hk m_1011 dX4_turnOf_35 (fun z24 hv => ?_)
          replace h := h z24 hv; clear hv hk
          refine g_iload_n X dX4_turnOf_38 rfl 3 rfl ?_
          obtain ⟨a25, rfl, hk, h⟩ := h
          obtain ⟨j26, hi, hj, hN, h⟩ := h
          refine g_iald X hk hi hj hN dX4_turnOf_39 (fun v27 hv => ?_)
          replace h := h v27 hv; clear hv hk hi hj hN
          refine g_iconst X (v := (1 : Int32)) dX4_turnOf_40 (by decide) ?_
          obtain ⟨J28, hjJ28, h⟩ := h
          have jp28 : J28 → Gw l G L0 p e rm_X4_turnOf s m args below meth c 7 (0) (0) (MQ below (gQi G L0 Q) args s rm_X4_turnOf.cells rm_X4_turnOf.slots (GA L0)) w 115 [(0, .inr (some a0)), (1, .inl x1), (2, .inl y3), (3, .inl y4), (4, .inl v10)] [] := by
            intro hJ
            have h := hjJ28 hJ
            clear hJ
            refine g_iconst X (v := (0 : Int32)) dX4_turnOf_115 (by decide) ?_
            exact g_sub [0, 1, 2, 3, 4] [(0, .inr (some a0)), (1, .inl x1), (2, .inl y3), (3, .inl y4), (4, .inl v10)] rfl (jp13 (0 : Int32) h)
          refine g_icmp_gt X (tgt := 64) dX4_turnOf_41 (by decide) (fun hc => ?_) (fun hc => ?_)
          · replace h := h.1 hc; clear hc
            refine g_aload_n X dX4_turnOf_64 rfl 2 rfl ?_
            have hk := h.1
            replace h := h.2
            refine gg_515 X hk m_1011 dX4_turnOf_65 (fun z29 hv => ?_)
            replace h := h z29 hv; clear hv hk
            refine g_iload_n X dX4_turnOf_68 rfl 3 rfl ?_
            obtain ⟨a30, rfl, hk, h⟩ := h
            obtain ⟨j31, hi, hj, hN, h⟩ := h
            refine g_iald X hk hi hj hN dX4_turnOf_69 (fun v32 hv => ?_)
            replace h := h v32 hv; clear hv hk hi hj hN
            refine g_iconst X (v := (3 : Int32)) dX4_turnOf_70 (by decide) ?_
            refine g_icmp_ne X (tgt := 94) dX4_turnOf_71 (by decide) (fun hc => ?_) (fun hc => ?_)
            · replace h := h.1 hc; clear hc
              refine g_aload_n X dX4_turnOf_94 rfl 2 rfl ?_
              have hk := h.1
              replace h := h.2
              refine gg_523 X hk m_1019 dX4_turnOf_95 (fun z33 hv => ?_)
              replace h := h z33 hv; clear hv hk
              refine g_iload X dX4_turnOf_98 1 rfl ?_
              obtain ⟨a34, rfl, hk, h⟩ := h
              obtain ⟨j35, hi, hj, hN, h⟩ := h
              refine g_iald X hk hi hj hN dX4_turnOf_100 (fun v36 hv => ?_)
              replace h := h v36 hv; clear hv hk hi hj hN
              refine g_aload_n X dX4_turnOf_101 rfl 2 rfl ?_
              have hk := h.1
              replace h := h.2
              refine gg_523 X hk m_1019 dX4_turnOf_102 (fun z37 hv => ?_)
              replace h := h z37 hv; clear hv hk
              refine g_iload X dX4_turnOf_105 0 rfl ?_
              obtain ⟨a38, rfl, hk, h⟩ := h
              obtain ⟨j39, hi, hj, hN, h⟩ := h
              refine g_iald X hk hi hj hN dX4_turnOf_107 (fun v40 hv => ?_)
              replace h := h v40 hv; clear hv hk hi hj hN
              refine g_icmp_le X (tgt := 115) dX4_turnOf_108 (by decide) (fun hc => ?_) (fun hc => ?_)
              · replace h := h.1 hc; clear hc
                exact g_sub [2, 3, 4, 5, 1] [(0, .inr (some a0)), (1, .inl x1), (2, .inl y3), (3, .inl y4), (4, .inl v10)] rfl (jp28  h)
              · replace h := h.2 hc; clear hc
                exact g_sub [2, 3, 4, 5, 1] [(0, .inr (some a0)), (1, .inl x1), (2, .inl y3), (3, .inl y4), (4, .inl v10)] rfl (jp23  h)
            · replace h := h.2 hc; clear hc
              refine g_aload_n X dX4_turnOf_74 rfl 2 rfl ?_
              have hk := h.1
              replace h := h.2
              refine gg_524 X hk m_1020 dX4_turnOf_75 (fun z41 hv => ?_)
              replace h := h z41 hv; clear hv hk
              refine g_iload X dX4_turnOf_78 1 rfl ?_
              obtain ⟨a42, rfl, hk, h⟩ := h
              obtain ⟨j43, hi, hj, hN, h⟩ := h
              refine g_iald X hk hi hj hN dX4_turnOf_80 (fun v44 hv => ?_)
              replace h := h v44 hv; clear hv hk hi hj hN
              refine g_aload_n X dX4_turnOf_81 rfl 2 rfl ?_
              have hk := h.1
              replace h := h.2
              refine gg_524 X hk m_1020 dX4_turnOf_82 (fun z45 hv => ?_)
              replace h := h z45 hv; clear hv hk
              refine g_iload X dX4_turnOf_85 0 rfl ?_
              obtain ⟨a46, rfl, hk, h⟩ := h
              obtain ⟨j47, hi, hj, hN, h⟩ := h
              refine g_iald X hk hi hj hN dX4_turnOf_87 (fun v48 hv => ?_)
              replace h := h v48 hv; clear hv hk hi hj hN
              refine g_icmp_le X (tgt := 115) dX4_turnOf_88 (by decide) (fun hc => ?_) (fun hc => ?_)
              · replace h := h.1 hc; clear hc
                exact g_sub [2, 3, 4, 5, 1] [(0, .inr (some a0)), (1, .inl x1), (2, .inl y3), (3, .inl y4), (4, .inl v10)] rfl (jp28  h)
              · replace h := h.2 hc; clear hc
                refine g_goto X (tgt := 111) dX4_turnOf_91 (by decide) ?_
                exact g_sub [2, 3, 4, 5, 1] [(0, .inr (some a0)), (1, .inl x1), (2, .inl y3), (3, .inl y4), (4, .inl v10)] rfl (jp23  h)
          · replace h := h.2 hc; clear hc
            refine g_aload_n X dX4_turnOf_44 rfl 2 rfl ?_
            have hk := h.1
            replace h := h.2
            refine gg_526 X hk m_1022 dX4_turnOf_45 (fun z49 hv => ?_)
            replace h := h z49 hv; clear hv hk
            refine g_iload X dX4_turnOf_48 1 rfl ?_
            obtain ⟨a50, rfl, hk, h⟩ := h
            obtain ⟨j51, hi, hj, hN, h⟩ := h
            refine g_iald X hk hi hj hN dX4_turnOf_50 (fun v52 hv => ?_)
            replace h := h v52 hv; clear hv hk hi hj hN
            refine g_aload_n X dX4_turnOf_51 rfl 2 rfl ?_
            have hk := h.1
            replace h := h.2
            refine gg_526 X hk m_1022 dX4_turnOf_52 (fun z53 hv => ?_)
            replace h := h z53 hv; clear hv hk
            refine g_iload X dX4_turnOf_55 0 rfl ?_
            obtain ⟨a54, rfl, hk, h⟩ := h
            obtain ⟨j55, hi, hj, hN, h⟩ := h
            refine g_iald X hk hi hj hN dX4_turnOf_57 (fun v56 hv => ?_)
            replace h := h v56 hv; clear hv hk hi hj hN
            refine g_icmp_ge X (tgt := 115) dX4_turnOf_58 (by decide) (fun hc => ?_) (fun hc => ?_)
            · replace h := h.1 hc; clear hc
              exact g_sub [2, 3, 4, 5, 1] [(0, .inr (some a0)), (1, .inl x1), (2, .inl y3), (3, .inl y4), (4, .inl v10)] rfl (jp28  h)
            · replace h := h.2 hc; clear hc
              refine g_goto X (tgt := 111) dX4_turnOf_61 (by decide) ?_
              exact g_sub [2, 3, 4, 5, 1] [(0, .inr (some a0)), (1, .inl x1), (2, .inl y3), (3, .inl y4), (4, .inl v10)] rfl (jp23  h)
  exact g_sub [2, 3, 1, 0] [(0, .inr (some a0)), (1, .inl x1), (2, .inl (-1 : Int32)), (3, .inl (0 : Int32))] rfl (lp2 n0 (-1 : Int32) (0 : Int32) hi)

abbrev rm_X4_collects : Room := { frames := 7, cells := 0, slots := 0, locals := 122 }
def wp_X4_collects (a0 : Nat) (x1 : Int32) (x2 : Int32) (x3 : Int32) (w : Wd) (Q : Wd → Prop) : Prop :=
  w.K a0 = 5 ∧
  ∀ z1 : Option Nat, z1 = w.R 521 a0 →
  ∃ a2, z1 = some a2 ∧ w.K a2 = 11 ∧
  ∃ j3 : Nat, x2 = nI j3 ∧ j3 < w.N a2 ∧ w.N a2 < 2 ^ 31 ∧
  ∀ v4 : Int32, v4 = w.A a2 j3 →
  w.K a0 = 5 ∧
  ∀ z5 : Option Nat, z5 = w.R 514 a0 →
  ∃ a6, z5 = some a6 ∧ w.K a6 = 11 ∧
  ∃ j7 : Nat, x1 = nI j7 ∧ j7 < w.N a6 ∧ w.N a6 < 2 ^ 31 ∧
  ∀ v8 : Int32, v8 = w.A a6 j7 →
  w.K a0 = 5 ∧
  ∀ z9 : Option Nat, z9 = w.R 522 a0 →
  ∃ a10, z9 = some a10 ∧ w.K a10 = 11 ∧
  ∃ j11 : Nat, x2 = nI j11 ∧ j11 < w.N a10 ∧ w.N a10 < 2 ^ 31 ∧
  ∀ v12 : Int32, v12 = w.A a10 j11 →
  ∀ v13 : Int32, v13 = v8 + v12 →
  w.K a0 = 5 ∧
  ∀ z14 : Option Nat, z14 = w.R 504 a0 →
  ∃ a15, z14 = some a15 ∧ w.K a15 = 11 ∧
  ∃ j16 : Nat, v4 = nI j16 ∧ j16 < w.N a15 ∧ w.N a15 < 2 ^ 31 ∧
  ∀ v17 : Int32, v17 = w.A a15 j16 →
  ∃ J18 : Int32 → Prop, (∀ (y19 : Int32), J18 y19 →
  w.K a0 = 5 ∧
  wp_X4_pays a0 v4 y19 w (fun w20 => 
  w20.K a0 = 5 ∧
  ∀ z21 : Option Nat, z21 = w20.R 516 a0 →
  ∃ a22, z21 = some a22 ∧ w20.K a22 = 11 ∧
  ∃ j23 : Nat, x1 = nI j23 ∧ j23 < w20.N a22 ∧ w20.N a22 < 2 ^ 31 ∧
  ∀ v24 : Int32, v24 = w20.A a22 j23 →
  ∀ v25 : Int32, v25 = v24 + y19 →
  w20.K a22 = 11 ∧
  ∃ j26 : Nat, x1 = nI j26 ∧ j26 < w20.N a22 ∧ w20.N a22 < 2 ^ 31 ∧
  ∀ w27 : Wd, w27 = w20.setA a22 j26 v25 →
  w27.K a0 = 5 ∧
  ∀ z28 : Option Nat, z28 = w27.R 525 a0 →
  ∃ a29, z28 = some a29 ∧ w27.K a29 = 11 ∧
  ∃ j30 : Nat, x2 = nI j30 ∧ j30 < w27.N a29 ∧ w27.N a29 < 2 ^ 31 ∧
  ∀ v31 : Int32, v31 = w27.A a29 j30 →
  ∀ v32 : Int32, v32 = v31 + y19 →
  w27.K a29 = 11 ∧
  ∃ j33 : Nat, x2 = nI j33 ∧ j33 < w27.N a29 ∧ w27.N a29 < 2 ^ 31 ∧
  ∀ w34 : Wd, w34 = w27.setA a29 j33 v32 →
  w34.K a0 = 5 ∧
  ∀ z35 : Option Nat, z35 = w34.R 522 a0 →
  ∀ v36 : Int32, v36 = v13 - y19 →
  ∃ a37, z35 = some a37 ∧ w34.K a37 = 11 ∧
  ∃ j38 : Nat, x2 = nI j38 ∧ j38 < w34.N a37 ∧ w34.N a37 < 2 ^ 31 ∧
  ∀ w39 : Wd, w39 = w34.setA a37 j38 v36 →
  w39.K a0 = 5 ∧
  ∀ z40 : Option Nat, z40 = w39.R 522 a0 →
  ∃ a41, z40 = some a41 ∧ w39.K a41 = 11 ∧
  ∃ j42 : Nat, x2 = nI j42 ∧ j42 < w39.N a41 ∧ w39.N a41 < 2 ^ 31 ∧
  ∀ v43 : Int32, v43 = w39.A a41 j42 →
  w39.K a0 = 5 ∧
  ∀ z44 : Option Nat, z44 = w39.R 522 a0 →
  ∃ a45, z44 = some a45 ∧ w39.K a45 = 11 ∧
  ∃ j46 : Nat, x2 = nI j46 ∧ j46 < w39.N a45 ∧ w39.N a45 < 2 ^ 31 ∧
  ∀ v47 : Int32, v47 = w39.A a45 j46 →
  ∃ J48 : Option Nat → Int32 → Int32 → Int32 → Prop, (∀ (q49 : Option Nat) (y50 : Int32) (y51 : Int32) (y52 : Int32), J48 q49 y50 y51 y52 →
  ∀ v53 : Int32, v53 = y51 + y52 →
  ∃ a54, q49 = some a54 ∧ w39.K a54 = 11 ∧
  ∃ j55 : Nat, y50 = nI j55 ∧ j55 < w39.N a54 ∧ w39.N a54 < 2 ^ 31 ∧
  ∀ w56 : Wd, w56 = w39.setA a54 j55 v53 →
  Q w56) ∧
  ∃ J57 : Option Nat → Int32 → Int32 → Prop, (∀ (q58 : Option Nat) (y59 : Int32) (y60 : Int32), J57 q58 y59 y60 →
  J48 q58 y59 y60 (0 : Int32)) ∧
  (v47 ≤ 0 → J57 (some a41) x2 v43) ∧ (¬ v47 ≤ 0 → (¬ x3 = 0 → J57 (some a41) x2 v43) ∧ (x3 = 0 → w39.K a0 = 5 ∧
  ∀ z61 : Option Nat, z61 = w39.R 514 a0 →
  ∃ a62, z61 = some a62 ∧ w39.K a62 = 11 ∧
  ∃ j63 : Nat, x1 = nI j63 ∧ j63 < w39.N a62 ∧ w39.N a62 < 2 ^ 31 ∧
  ∀ v64 : Int32, v64 = w39.A a62 j63 →
  ¬ (10 : Int32) = 0 ∧ ∀ v65 : Int32, v65 = v64 / (10 : Int32) →
  J48 (some a41) x2 v43 v65)))) ∧
  (v17 ≤ v13 → w.K a0 = 5 ∧
  ∀ z66 : Option Nat, z66 = w.R 504 a0 →
  ∃ a67, z66 = some a67 ∧ w.K a67 = 11 ∧
  ∃ j68 : Nat, v4 = nI j68 ∧ j68 < w.N a67 ∧ w.N a67 < 2 ^ 31 ∧
  ∀ v69 : Int32, v69 = w.A a67 j68 →
  J18 v69) ∧ (¬ v17 ≤ v13 → J18 v13)
set_option maxHeartbeats 4000000 in
set_option maxRecDepth 100000 in
theorem c_X4_collects {l : Launch} {G : GT} {L0 : Nat} (hst : l.stackTraces = false) {a0 : Nat} {x1 : Int32} {x2 : Int32} {x3 : Int32} {w : Wd} {Q : Wd → Prop} (h : wp_X4_collects a0 x1 x2 x3 w Q) : GMv l G L0 yX4_collects cX4_collects 7 none rm_X4_collects [.ref a0, .int x1, .int x2, .int x3] w Q := by
  refine g_enter hst (by decide +kernel) [.inr (some a0), .inl x1, .inl x2, .inl x3] rfl (show 4 ≤ 7 by decide) ?_
  intro p e s m args below meth c X hr hnm
  replace X : GC l G L0 p s m args meth c cX4_collects 7 "SusuRingModel" := X
  refine g_aload_n X dX4_collects_0 rfl 0 rfl ?_
  have hk := h.1
  replace h := h.2
  refine gg_521 X hk m_1017 dX4_collects_1 (fun z1 hv => ?_)
  replace h := h z1 hv; clear hv hk
  refine g_iload_n X dX4_collects_4 rfl 2 rfl ?_
  obtain ⟨a2, rfl, hk, h⟩ := h
  obtain ⟨j3, hi, hj, hN, h⟩ := h
  refine g_iald X hk hi hj hN dX4_collects_5 (fun v4 hv => ?_)
  replace h := h v4 hv; clear hv hk hi hj hN
  refine g_istore X [(4, .inl v4), (0, .inr (some a0)), (1, .inl x1), (2, .inl x2), (3, .inl x3)] dX4_collects_6 (by decide) rfl ?_
  refine g_aload_n X dX4_collects_8 rfl 1 rfl ?_
  have hk := h.1
  replace h := h.2
  refine gg_514 X hk m_1010 dX4_collects_9 (fun z5 hv => ?_)
  replace h := h z5 hv; clear hv hk
  refine g_iload_n X dX4_collects_12 rfl 2 rfl ?_
  obtain ⟨a6, rfl, hk, h⟩ := h
  obtain ⟨j7, hi, hj, hN, h⟩ := h
  refine g_iald X hk hi hj hN dX4_collects_13 (fun v8 hv => ?_)
  replace h := h v8 hv; clear hv hk hi hj hN
  refine g_aload_n X dX4_collects_14 rfl 1 rfl ?_
  have hk := h.1
  replace h := h.2
  refine gg_522 X hk m_1018 dX4_collects_15 (fun z9 hv => ?_)
  replace h := h z9 hv; clear hv hk
  refine g_iload_n X dX4_collects_18 rfl 3 rfl ?_
  obtain ⟨a10, rfl, hk, h⟩ := h
  obtain ⟨j11, hi, hj, hN, h⟩ := h
  refine g_iald X hk hi hj hN dX4_collects_19 (fun v12 hv => ?_)
  replace h := h v12 hv; clear hv hk hi hj hN
  refine g_iadd X dX4_collects_20 (fun v13 hv => ?_)
  replace h := h v13 hv; clear hv
  refine g_istore X [(5, .inl v13), (4, .inl v4), (0, .inr (some a0)), (1, .inl x1), (2, .inl x2), (3, .inl x3)] dX4_collects_21 (by decide) rfl ?_
  refine g_iload X dX4_collects_23 0 rfl ?_
  refine g_aload_n X dX4_collects_25 rfl 2 rfl ?_
  have hk := h.1
  replace h := h.2
  refine gg_504 X hk m_1000 dX4_collects_26 (fun z14 hv => ?_)
  replace h := h z14 hv; clear hv hk
  refine g_iload X dX4_collects_29 1 rfl ?_
  obtain ⟨a15, rfl, hk, h⟩ := h
  obtain ⟨j16, hi, hj, hN, h⟩ := h
  refine g_iald X hk hi hj hN dX4_collects_31 (fun v17 hv => ?_)
  replace h := h v17 hv; clear hv hk hi hj hN
  obtain ⟨J18, hjJ18, h⟩ := h
  have jp18 : ∀ (y19 : Int32), J18 y19 → Gw l G L0 p e rm_X4_collects s m args below meth c 7 (0) (0) (MQ below (gQv G L0 Q) args s rm_X4_collects.cells rm_X4_collects.slots (GA L0)) w 47 [(0, .inr (some a0)), (1, .inl x1), (2, .inl x2), (3, .inl x3), (4, .inl v4), (5, .inl v13)] [.int y19] := by
    intro y19 hJ
    have h := hjJ18 y19 hJ
    clear hJ
    refine g_istore X [(6, .inl y19), (0, .inr (some a0)), (1, .inl x1), (2, .inl x2), (3, .inl x3), (4, .inl v4), (5, .inl v13)] dX4_collects_47 (by decide) rfl ?_
    refine g_aload_n X dX4_collects_49 rfl 1 rfl ?_
    refine g_iload X dX4_collects_50 5 rfl ?_
    refine g_iload X dX4_collects_52 0 rfl ?_
    have hk := h.1
    replace h := h.2
    refine g_callV_v X (As := [.int v4, .int y19]) (st := []) (n := 2) (c_X4_pays hst h) rfl (by decide) hk (wE_5 G w a0) m_1168 m_1170 m_24 m_34 m_1171 (by decide +kernel) (by decide +kernel) rfl rfl (Nat.zero_le _) ⟨(by decide +kernel), (by decide +kernel)⟩ dX4_collects_54 (fun w20 h => ?_)
    clear hk
    refine g_widen (c2 := (0)) (s2 := (0)) (by decide +kernel) (by decide +kernel) ?_
    refine g_aload_n X dX4_collects_57 rfl 1 rfl ?_
    have hk := h.1
    replace h := h.2
    refine gg_516 X hk m_1012 dX4_collects_58 (fun z21 hv => ?_)
    replace h := h z21 hv; clear hv hk
    refine g_iload_n X dX4_collects_61 rfl 2 rfl ?_
    refine g_dup2 X dX4_collects_62 rfl rf_cat ?_
    obtain ⟨a22, rfl, hk, h⟩ := h
    obtain ⟨j23, hi, hj, hN, h⟩ := h
    refine g_iald X hk hi hj hN dX4_collects_63 (fun v24 hv => ?_)
    replace h := h v24 hv; clear hv hk hi hj hN
    refine g_iload X dX4_collects_64 0 rfl ?_
    refine g_iadd X dX4_collects_66 (fun v25 hv => ?_)
    replace h := h v25 hv; clear hv
    have hk := h.1
    replace h := h.2
    obtain ⟨j26, hi, hj, hN, h⟩ := h
    refine g_iast X hk hi hj hN dX4_collects_67 (fun w27 hv => ?_)
    replace h := h w27 hv; clear hv hk hi hj hN
    refine g_aload_n X dX4_collects_68 rfl 1 rfl ?_
    have hk := h.1
    replace h := h.2
    refine gg_525 X hk m_1021 dX4_collects_69 (fun z28 hv => ?_)
    replace h := h z28 hv; clear hv hk
    refine g_iload_n X dX4_collects_72 rfl 3 rfl ?_
    refine g_dup2 X dX4_collects_73 rfl rf_cat ?_
    obtain ⟨a29, rfl, hk, h⟩ := h
    obtain ⟨j30, hi, hj, hN, h⟩ := h
    refine g_iald X hk hi hj hN dX4_collects_74 (fun v31 hv => ?_)
    replace h := h v31 hv; clear hv hk hi hj hN
    refine g_iload X dX4_collects_75 0 rfl ?_
    refine g_iadd X dX4_collects_77 (fun v32 hv => ?_)
    replace h := h v32 hv; clear hv
    have hk := h.1
    replace h := h.2
    obtain ⟨j33, hi, hj, hN, h⟩ := h
    refine g_iast X hk hi hj hN dX4_collects_78 (fun w34 hv => ?_)
    replace h := h w34 hv; clear hv hk hi hj hN
    refine g_aload_n X dX4_collects_79 rfl 1 rfl ?_
    have hk := h.1
    replace h := h.2
    refine gg_522 X hk m_1018 dX4_collects_80 (fun z35 hv => ?_)
    replace h := h z35 hv; clear hv hk
    refine g_iload_n X dX4_collects_83 rfl 3 rfl ?_
    refine g_iload X dX4_collects_84 6 rfl ?_
    refine g_iload X dX4_collects_86 0 rfl ?_
    refine g_isub X dX4_collects_88 (fun v36 hv => ?_)
    replace h := h v36 hv; clear hv
    obtain ⟨a37, rfl, hk, h⟩ := h
    obtain ⟨j38, hi, hj, hN, h⟩ := h
    refine g_iast X hk hi hj hN dX4_collects_89 (fun w39 hv => ?_)
    replace h := h w39 hv; clear hv hk hi hj hN
    refine g_aload_n X dX4_collects_90 rfl 1 rfl ?_
    have hk := h.1
    replace h := h.2
    refine gg_522 X hk m_1018 dX4_collects_91 (fun z40 hv => ?_)
    replace h := h z40 hv; clear hv hk
    refine g_iload_n X dX4_collects_94 rfl 3 rfl ?_
    refine g_dup2 X dX4_collects_95 rfl rf_cat ?_
    obtain ⟨a41, rfl, hk, h⟩ := h
    obtain ⟨j42, hi, hj, hN, h⟩ := h
    refine g_iald X hk hi hj hN dX4_collects_96 (fun v43 hv => ?_)
    replace h := h v43 hv; clear hv hk hi hj hN
    refine g_aload_n X dX4_collects_97 rfl 1 rfl ?_
    have hk := h.1
    replace h := h.2
    refine gg_522 X hk m_1018 dX4_collects_98 (fun z44 hv => ?_)
    replace h := h z44 hv; clear hv hk
    refine g_iload_n X dX4_collects_101 rfl 3 rfl ?_
    obtain ⟨a45, rfl, hk, h⟩ := h
    obtain ⟨j46, hi, hj, hN, h⟩ := h
    refine g_iald X hk hi hj hN dX4_collects_102 (fun v47 hv => ?_)
    replace h := h v47 hv; clear hv hk hi hj hN
    obtain ⟨J48, hjJ48, h⟩ := h
    have jp48 : ∀ (q49 : Option Nat) (y50 : Int32) (y51 : Int32) (y52 : Int32), J48 q49 y50 y51 y52 → Gw l G L0 p e rm_X4_collects s m args below meth c 7 (0) (0) (MQ below (gQv G L0 Q) args s rm_X4_collects.cells rm_X4_collects.slots (GA L0)) w39 123 [] [.int y52, .int y51, .int y50, va_rf q49] := by
      intro q49 y50 y51 y52 hJ
      have h := hjJ48 q49 y50 y51 y52 hJ
      clear hJ
      refine g_iadd X dX4_collects_123 (fun v53 hv => ?_)
      replace h := h v53 hv; clear hv
      obtain ⟨a54, rfl, hk, h⟩ := h
      obtain ⟨j55, hi, hj, hN, h⟩ := h
      refine g_iast X hk hi hj hN dX4_collects_124 (fun w56 hv => ?_)
      replace h := h w56 hv; clear hv hk hi hj hN
      exact g_vret X hr (by decide +kernel) (by decide +kernel) dX4_collects_125 h
    obtain ⟨J57, hjJ57, h⟩ := h
    have jp57 : ∀ (q58 : Option Nat) (y59 : Int32) (y60 : Int32), J57 q58 y59 y60 → Gw l G L0 p e rm_X4_collects s m args below meth c 7 (0) (0) (MQ below (gQv G L0 Q) args s rm_X4_collects.cells rm_X4_collects.slots (GA L0)) w39 122 [] [.int y60, .int y59, va_rf q58] := by
      intro q58 y59 y60 hJ
      have h := hjJ57 q58 y59 y60 hJ
      clear hJ
      refine g_iconst X (v := (0 : Int32)) dX4_collects_122 (by decide) ?_
      exact g_sub [] [] rfl (jp48 q58 y59 y60 (0 : Int32) h)
    refine g_if_le X (tgt := 122) dX4_collects_103 (by decide) (fun hc => ?_) (fun hc => ?_)
    · replace h := h.1 hc; clear hc
      exact g_sub [] [] rfl (jp57 (some a41) x2 v43 h)
    · replace h := h.2 hc; clear hc
      refine g_iload_n X dX4_collects_106 rfl 4 rfl ?_
      refine g_if_ne X (tgt := 122) dX4_collects_107 (by decide) (fun hc => ?_) (fun hc => ?_)
      · replace h := h.1 hc; clear hc
        exact g_sub [] [] rfl (jp57 (some a41) x2 v43 h)
      · replace h := h.2 hc; clear hc
        refine g_aload_n X dX4_collects_110 rfl 1 rfl ?_
        have hk := h.1
        replace h := h.2
        refine gg_514 X hk m_1010 dX4_collects_111 (fun z61 hv => ?_)
        replace h := h z61 hv; clear hv hk
        refine g_iload_n X dX4_collects_114 rfl 2 rfl ?_
        obtain ⟨a62, rfl, hk, h⟩ := h
        obtain ⟨j63, hi, hj, hN, h⟩ := h
        refine g_iald X hk hi hj hN dX4_collects_115 (fun v64 hv => ?_)
        replace h := h v64 hv; clear hv hk hi hj hN
        refine g_bipush X (v := (10 : Int32)) dX4_collects_116 (by decide) ?_
        refine g_idiv X dX4_collects_118 h.1 (fun v65 hv => ?_)
        replace h := h.2 v65 hv; clear hv
        refine g_goto X (tgt := 123) dX4_collects_119 (by decide) ?_
        exact g_sub [] [] rfl (jp48 (some a41) x2 v43 v65 h)
  refine g_icmp_ge X (tgt := 40) dX4_collects_32 (by decide) (fun hc => ?_) (fun hc => ?_)
  · replace h := h.1 hc; clear hc
    refine g_aload_n X dX4_collects_40 rfl 2 rfl ?_
    have hk := h.1
    replace h := h.2
    refine gg_504 X hk m_1000 dX4_collects_41 (fun z66 hv => ?_)
    replace h := h z66 hv; clear hv hk
    refine g_iload X dX4_collects_44 1 rfl ?_
    obtain ⟨a67, rfl, hk, h⟩ := h
    obtain ⟨j68, hi, hj, hN, h⟩ := h
    refine g_iald X hk hi hj hN dX4_collects_46 (fun v69 hv => ?_)
    replace h := h v69 hv; clear hv hk hi hj hN
    exact g_sub [2, 3, 4, 5, 1, 0] [(0, .inr (some a0)), (1, .inl x1), (2, .inl x2), (3, .inl x3), (4, .inl v4), (5, .inl v13)] rfl (jp18 v69 h)
  · replace h := h.2 hc; clear hc
    refine g_iload X dX4_collects_35 0 rfl ?_
    refine g_goto X (tgt := 47) dX4_collects_37 (by decide) ?_
    exact g_sub [2, 3, 4, 5, 1, 0] [(0, .inr (some a0)), (1, .inl x1), (2, .inl x2), (3, .inl x3), (4, .inl v4), (5, .inl v13)] rfl (jp18 v13 h)

abbrev rm_X4_meet : Room := { frames := 8, cells := 0, slots := 0, locals := 148 }
def wp_X4_meet (a0 : Nat) (x1 : Int32) (x2 : Int32) (w : Wd) (Q : Int32 → Wd → Prop) : Prop :=
  w.K a0 = 5 ∧
  wp_X4_isCircle a0 x1 w (fun v2 w1 => 
  ∃ J3 : Option Nat → Int32 → Prop, (∀ (q4 : Option Nat) (y5 : Int32), J3 q4 y5 →
  ∃ a6, q4 = some a6 ∧ w1.K a6 = 5 ∧
  ∀ w7 : Wd, w7 = w1.setI 500 a6 y5 →
  w7.K a0 = 5 ∧
  ∀ v8 : Int32, v8 = w7.I 500 a0 →
  (v8 = 0 → ∃ Inv10 : Nat → Int32 → Wd → Prop, (∃ n : Nat, Inv10 n (0 : Int32) w7) ∧ ∀ (n9 : Nat) (y11 : Int32) (w12 : Wd), Inv10 n9 y11 w12 →
  w12.K a0 = 5 ∧
  ∀ z13 : Option Nat, z13 = w12.R 517 a0 →
  ∃ a14, z13 = some a14 ∧ w12.K a14 = 11 ∧
  ∃ j15 : Nat, x1 = nI j15 ∧ j15 < w12.N a14 ∧ w12.N a14 < 2 ^ 31 ∧
  ∀ v16 : Int32, v16 = w12.A a14 j15 →
  (v16 ≤ y11 → w12.K a0 = 5 ∧
  wp_X4_turnOf a0 x1 w12 (fun v18 w17 => 
  w17.K a0 = 5 ∧
  ∀ z19 : Option Nat, z19 = w17.R 521 a0 →
  ∀ v20 : Int32, v20 = (10 : Int32) * x1 →
  ∀ v21 : Int32, v21 = v20 + v18 →
  ∃ a22, z19 = some a22 ∧ w17.K a22 = 11 ∧
  ∃ j23 : Nat, v21 = nI j23 ∧ j23 < w17.N a22 ∧ w17.N a22 < 2 ^ 31 ∧
  ∀ v24 : Int32, v24 = w17.A a22 j23 →
  w17.K a0 = 5 ∧
  ∀ z25 : Option Nat, z25 = w17.R 516 a0 →
  ∃ a26, z25 = some a26 ∧ w17.K a26 = 11 ∧
  ∃ j27 : Nat, x1 = nI j27 ∧ j27 < w17.N a26 ∧ w17.N a26 < 2 ^ 31 ∧
  ∀ v28 : Int32, v28 = w17.A a26 j27 →
  w17.K a0 = 5 ∧
  ∀ z29 : Option Nat, z29 = w17.R 514 a0 →
  ∃ a30, z29 = some a30 ∧ w17.K a30 = 11 ∧
  ∃ j31 : Nat, x1 = nI j31 ∧ j31 < w17.N a30 ∧ w17.N a30 < 2 ^ 31 ∧
  ∀ v32 : Int32, v32 = w17.A a30 j31 →
  w17.K a0 = 5 ∧
  ∀ z33 : Option Nat, z33 = w17.R 517 a0 →
  ∃ a34, z33 = some a34 ∧ w17.K a34 = 11 ∧
  ∃ j35 : Nat, x1 = nI j35 ∧ j35 < w17.N a34 ∧ w17.N a34 < 2 ^ 31 ∧
  ∀ v36 : Int32, v36 = w17.A a34 j35 →
  ∀ v37 : Int32, v37 = v32 * v36 →
  ∃ J38 : Int32 → Prop, (∀ (y39 : Int32), J38 y39 →
  w17.K a0 = 5 ∧
  ∀ z40 : Option Nat, z40 = w17.R 515 a0 →
  ∃ a41, z40 = some a41 ∧ w17.K a41 = 11 ∧
  ∃ j42 : Nat, x1 = nI j42 ∧ j42 < w17.N a41 ∧ w17.N a41 < 2 ^ 31 ∧
  ∀ v43 : Int32, v43 = w17.A a41 j42 →
  ∃ J44 : Int32 → Prop, (∀ (y45 : Int32), J44 y45 →
  ¬ (2 : Int32) = 0 ∧ ∀ v46 : Int32, v46 = y39 / (2 : Int32) →
  ∃ J47 : Int32 → Prop, (∀ (y48 : Int32), J47 y48 →
  w17.K a0 = 5 ∧
  ∀ z49 : Option Nat, z49 = w17.R 517 a0 →
  ∃ a50, z49 = some a50 ∧ w17.K a50 = 11 ∧
  ∃ j51 : Nat, x1 = nI j51 ∧ j51 < w17.N a50 ∧ w17.N a50 < 2 ^ 31 ∧
  ∀ v52 : Int32, v52 = w17.A a50 j51 →
  ∀ v53 : Int32, v53 = v52 - (1 : Int32) →
  ¬ v53 = 0 ∧ ∀ v54 : Int32, v54 = y48 / v53 →
  ∃ Inv56 : Nat → Int32 → Wd → Prop, (∃ n : Nat, Inv56 n (0 : Int32) w17) ∧ ∀ (n55 : Nat) (y57 : Int32) (w58 : Wd), Inv56 n55 y57 w58 →
  w58.K a0 = 5 ∧
  ∀ z59 : Option Nat, z59 = w58.R 517 a0 →
  ∃ a60, z59 = some a60 ∧ w58.K a60 = 11 ∧
  ∃ j61 : Nat, x1 = nI j61 ∧ j61 < w58.N a60 ∧ w58.N a60 < 2 ^ 31 ∧
  ∀ v62 : Int32, v62 = w58.A a60 j61 →
  (v62 ≤ y57 → w58.K a0 = 5 ∧
  ∀ z63 : Option Nat, z63 = w58.R 527 a0 →
  ∀ v64 : Int32, v64 = (10 : Int32) * x1 →
  ∀ v65 : Int32, v65 = v64 + v18 →
  ∃ a66, z63 = some a66 ∧ w58.K a66 = 12 ∧
  ∃ j67 : Nat, v65 = nI j67 ∧ j67 < w58.N a66 ∧ w58.N a66 < 2 ^ 31 ∧
  ∀ w68 : Wd, w68 = w58.setA a66 j67 (vp_nar .boolean (1 : Int32)) →
  w68.K a0 = 5 ∧
  ∀ z69 : Option Nat, z69 = w68.R 518 a0 →
  ∃ a70, z69 = some a70 ∧ w68.K a70 = 11 ∧
  ∃ j71 : Nat, x1 = nI j71 ∧ j71 < w68.N a70 ∧ w68.N a70 < 2 ^ 31 ∧
  ∀ v72 : Int32, v72 = w68.A a70 j71 →
  ∀ v73 : Int32, v73 = v72 + (1 : Int32) →
  w68.K a70 = 11 ∧
  ∃ j74 : Nat, x1 = nI j74 ∧ j74 < w68.N a70 ∧ w68.N a70 < 2 ^ 31 ∧
  ∀ w75 : Wd, w75 = w68.setA a70 j74 v73 →
  w75.K a0 = 5 ∧
  wp_X4_rounds a0 x1 w75 (fun w76 => 
  Q v24 w76)) ∧ (¬ v62 ≤ y57 → ∃ J77 : Int32 → Prop, (∀ (y78 : Int32), J77 y78 →
  w58.K a0 = 5 ∧
  ∀ z79 : Option Nat, z79 = w58.R 521 a0 →
  ∀ v80 : Int32, v80 = (10 : Int32) * x1 →
  ∀ v81 : Int32, v81 = v80 + y57 →
  ∃ a82, z79 = some a82 ∧ w58.K a82 = 11 ∧
  ∃ j83 : Nat, v81 = nI j83 ∧ j83 < w58.N a82 ∧ w58.N a82 < 2 ^ 31 ∧
  ∀ v84 : Int32, v84 = w58.A a82 j83 →
  ∀ v85 : Int32, v85 = -y78 →
  w58.K a0 = 5 ∧
  wp_X4_pays a0 v84 v85 w58 (fun w86 => 
  w86.K a0 = 5 ∧
  ∀ z87 : Option Nat, z87 = w86.R 516 a0 →
  ∃ a88, z87 = some a88 ∧ w86.K a88 = 11 ∧
  ∃ j89 : Nat, x1 = nI j89 ∧ j89 < w86.N a88 ∧ w86.N a88 < 2 ^ 31 ∧
  ∀ v90 : Int32, v90 = w86.A a88 j89 →
  ∀ v91 : Int32, v91 = v90 - y78 →
  w86.K a88 = 11 ∧
  ∃ j92 : Nat, x1 = nI j92 ∧ j92 < w86.N a88 ∧ w86.N a88 < 2 ^ 31 ∧
  ∀ w93 : Wd, w93 = w86.setA a88 j92 v91 →
  w93.K a0 = 5 ∧
  ∀ z94 : Option Nat, z94 = w93.R 524 a0 →
  ∀ v95 : Int32, v95 = (10 : Int32) * x1 →
  ∀ v96 : Int32, v96 = v95 + y57 →
  ∃ a97, z94 = some a97 ∧ w93.K a97 = 11 ∧
  ∃ j98 : Nat, v96 = nI j98 ∧ j98 < w93.N a97 ∧ w93.N a97 < 2 ^ 31 ∧
  ∀ w99 : Wd, w99 = w93.setA a97 j98 (0 : Int32) →
  ∀ v100 : Int32, v100 = y57 + (1 : Int32) →
  ∃ n : Nat, n < n55 ∧ Inv56 n v100 w99)) ∧
  (¬ y57 = v18 → J77 v54) ∧ (y57 = v18 → ∀ v101 : Int32, v101 = y39 - y48 →
  J77 v101))) ∧
  (v46 ≤ y45 → ¬ (2 : Int32) = 0 ∧ ∀ v102 : Int32, v102 = y39 / (2 : Int32) →
  J47 v102) ∧ (¬ v46 ≤ y45 → J47 y45)) ∧
  (¬ v43 = (3 : Int32) → J44 (0 : Int32)) ∧ (v43 = (3 : Int32) → w17.K a0 = 5 ∧
  ∀ z103 : Option Nat, z103 = w17.R 524 a0 →
  ∀ v104 : Int32, v104 = (10 : Int32) * x1 →
  ∀ v105 : Int32, v105 = v104 + v18 →
  ∃ a106, z103 = some a106 ∧ w17.K a106 = 11 ∧
  ∃ j107 : Nat, v105 = nI j107 ∧ j107 < w17.N a106 ∧ w17.N a106 < 2 ^ 31 ∧
  ∀ v108 : Int32, v108 = w17.A a106 j107 →
  J44 v108)) ∧
  (v37 ≤ v28 → w17.K a0 = 5 ∧
  ∀ z109 : Option Nat, z109 = w17.R 514 a0 →
  ∃ a110, z109 = some a110 ∧ w17.K a110 = 11 ∧
  ∃ j111 : Nat, x1 = nI j111 ∧ j111 < w17.N a110 ∧ w17.N a110 < 2 ^ 31 ∧
  ∀ v112 : Int32, v112 = w17.A a110 j111 →
  w17.K a0 = 5 ∧
  ∀ z113 : Option Nat, z113 = w17.R 517 a0 →
  ∃ a114, z113 = some a114 ∧ w17.K a114 = 11 ∧
  ∃ j115 : Nat, x1 = nI j115 ∧ j115 < w17.N a114 ∧ w17.N a114 < 2 ^ 31 ∧
  ∀ v116 : Int32, v116 = w17.A a114 j115 →
  ∀ v117 : Int32, v117 = v112 * v116 →
  J38 v117) ∧ (¬ v37 ≤ v28 → w17.K a0 = 5 ∧
  ∀ z118 : Option Nat, z118 = w17.R 516 a0 →
  ∃ a119, z118 = some a119 ∧ w17.K a119 = 11 ∧
  ∃ j120 : Nat, x1 = nI j120 ∧ j120 < w17.N a119 ∧ w17.N a119 < 2 ^ 31 ∧
  ∀ v121 : Int32, v121 = w17.A a119 j120 →
  J38 v121))) ∧ (¬ v16 ≤ y11 → ∀ v122 : Int32, v122 = (10 : Int32) * x1 →
  ∀ v123 : Int32, v123 = v122 + y11 →
  w12.K a0 = 5 ∧
  wp_X4_collects a0 x1 v123 x2 w12 (fun w124 => 
  ∀ v125 : Int32, v125 = y11 + (1 : Int32) →
  ∃ n : Nat, n < n9 ∧ Inv10 n v125 w124))) ∧ (¬ v8 = 0 → Q (0 : Int32) w7)) ∧
  (¬ v2 = 0 → w1.K a0 = 5 ∧
  ∀ z126 : Option Nat, z126 = w1.R 520 a0 →
  ∃ a127, z126 = some a127 ∧ w1.K a127 = 12 ∧
  ∃ j128 : Nat, x1 = nI j128 ∧ j128 < w1.N a127 ∧ w1.N a127 < 2 ^ 31 ∧
  ∀ v129 : Int32, v129 = w1.A a127 j128 →
  ∃ J130 : Option Nat → Prop, (∀ (q131 : Option Nat), J130 q131 →
  J3 q131 (2 : Int32)) ∧
  (v129 = 0 → J130 (some a0)) ∧ (¬ v129 = 0 → w1.K a0 = 5 ∧
  ∀ z132 : Option Nat, z132 = w1.R 517 a0 →
  ∃ a133, z132 = some a133 ∧ w1.K a133 = 11 ∧
  ∃ j134 : Nat, x1 = nI j134 ∧ j134 < w1.N a133 ∧ w1.N a133 < 2 ^ 31 ∧
  ∀ v135 : Int32, v135 = w1.A a133 j134 →
  ((2 : Int32) ≤ v135 → J3 (some a0) (0 : Int32)) ∧ (¬ (2 : Int32) ≤ v135 → J130 (some a0)))) ∧ (v2 = 0 → J3 (some a0) (1 : Int32)))
set_option maxHeartbeats 4000000 in
set_option maxRecDepth 100000 in
theorem c_X4_meet {l : Launch} {G : GT} {L0 : Nat} (hst : l.stackTraces = false) {a0 : Nat} {x1 : Int32} {x2 : Int32} {w : Wd} {Q : Int32 → Wd → Prop} (h : wp_X4_meet a0 x1 x2 w Q) : GMi l G L0 yX4_meet cX4_meet 11 (some .int) rm_X4_meet [.ref a0, .int x1, .int x2] w Q := by
  refine g_enter hst (by decide +kernel) [.inr (some a0), .inl x1, .inl x2] rfl (show 3 ≤ 11 by decide) ?_
  intro p e s m args below meth c X hr hnm
  replace X : GC l G L0 p s m args meth c cX4_meet 11 "SusuRingModel" := X
  refine g_aload_n X dX4_meet_0 rfl 0 rfl ?_
  refine g_aload_n X dX4_meet_1 rfl 0 rfl ?_
  refine g_iload_n X dX4_meet_2 rfl 1 rfl ?_
  have hk := h.1
  replace h := h.2
  refine g_callV_i X (As := [.int x1]) (st := [va_rf (some a0)]) (n := 1) (c_X4_isCircle hst h) rfl (by decide) hk (wE_5 G w a0) m_1144 m_1146 m_21 m_34 m_1147 (by decide +kernel) (by decide +kernel) rfl rfl (by simp [cat_int, rf_cat]) ⟨(by decide +kernel), (by decide +kernel)⟩ dX4_meet_3 (fun v2 w1 h => ?_)
  clear hk
  refine g_widen (c2 := (0)) (s2 := (0)) (by decide +kernel) (by decide +kernel) ?_
  obtain ⟨J3, hjJ3, h⟩ := h
  have jp3 : ∀ (q4 : Option Nat) (y5 : Int32), J3 q4 y5 → Gw l G L0 p e rm_X4_meet s m args below meth c 11 (0) (0) (MQ below (gQi G L0 Q) args s rm_X4_meet.cells rm_X4_meet.slots (GA L0)) w1 37 [(0, .inr (some a0)), (1, .inl x1), (2, .inl x2)] [.int y5, va_rf q4] := by
    intro q4 y5 hJ
    have h := hjJ3 q4 y5 hJ
    clear hJ
    obtain ⟨a6, rfl, hk, h⟩ := h
    refine gp_500 X hk m_996 dX4_meet_37 (fun w7 hv => ?_)
    replace h := h w7 hv; clear hv hk
    refine g_aload_n X dX4_meet_40 rfl 0 rfl ?_
    have hk := h.1
    replace h := h.2
    refine gg_500 X hk m_996 dX4_meet_41 (fun v8 hv => ?_)
    replace h := h v8 hv; clear hv hk
    refine g_if_eq X (tgt := 49) dX4_meet_44 (by decide) (fun hc => ?_) (fun hc => ?_)
    · replace h := h.1 hc; clear hc
      refine g_iconst X (v := (0 : Int32)) dX4_meet_49 (by decide) ?_
      refine g_istore_n X [(3, .inl (0 : Int32)), (0, .inr (some a0)), (1, .inl x1), (2, .inl x2)] dX4_meet_50 rfl (by decide) rfl ?_
      obtain ⟨Inv10, ⟨n0, hi⟩, hsn9⟩ := h
      have lp10 : ∀ (n9 : Nat), ∀ (y11 : Int32) (w12 : Wd), Inv10 n9 y11 w12 → Gw l G L0 p e rm_X4_meet s m args below meth c 11 (0) (0) (MQ below (gQi G L0 Q) args s rm_X4_meet.cells rm_X4_meet.slots (GA L0)) w12 51 [(0, .inr (some a0)), (1, .inl x1), (2, .inl x2), (3, .inl y11)] [] := by
        intro n9
        induction n9 using Nat.strongRecOn with
        | ind n9 ihn9 =>
          intro y11 w12 hI
          have h := hsn9 n9 y11 w12 hI
          clear hI
          refine g_iload_n X dX4_meet_51 rfl 3 rfl ?_
          refine g_aload_n X dX4_meet_52 rfl 0 rfl ?_
          have hk := h.1
          replace h := h.2
          refine gg_517 X hk m_1013 dX4_meet_53 (fun z13 hv => ?_)
          replace h := h z13 hv; clear hv hk
          refine g_iload_n X dX4_meet_56 rfl 1 rfl ?_
          obtain ⟨a14, rfl, hk, h⟩ := h
          obtain ⟨j15, hi, hj, hN, h⟩ := h
          refine g_iald X hk hi hj hN dX4_meet_57 (fun v16 hv => ?_)
          replace h := h v16 hv; clear hv hk hi hj hN
          refine g_icmp_ge X (tgt := 79) dX4_meet_58 (by decide) (fun hc => ?_) (fun hc => ?_)
          · replace h := h.1 hc; clear hc
            refine g_aload_n X dX4_meet_79 rfl 0 rfl ?_
            refine g_iload_n X dX4_meet_80 rfl 1 rfl ?_
            have hk := h.1
            replace h := h.2
            refine g_callV_i X (As := [.int x1]) (st := []) (n := 1) (c_X4_turnOf hst h) rfl (by decide) hk (wE_5 G w12 a0) m_1172 m_1174 m_25 m_34 m_1175 (by decide +kernel) (by decide +kernel) rfl rfl (Nat.zero_le _) ⟨(by decide +kernel), (by decide +kernel)⟩ dX4_meet_81 (fun v18 w17 h => ?_)
            clear hk
            refine g_widen (c2 := (0)) (s2 := (0)) (by decide +kernel) (by decide +kernel) ?_
            refine g_istore_n X [(3, .inl v18), (0, .inr (some a0)), (1, .inl x1), (2, .inl x2)] dX4_meet_84 rfl (by decide) rfl ?_
            refine g_aload_n X dX4_meet_85 rfl 1 rfl ?_
            have hk := h.1
            replace h := h.2
            refine gg_521 X hk m_1017 dX4_meet_86 (fun z19 hv => ?_)
            replace h := h z19 hv; clear hv hk
            refine g_bipush X (v := (10 : Int32)) dX4_meet_89 (by decide) ?_
            refine g_iload_n X dX4_meet_91 rfl 2 rfl ?_
            refine g_imul X dX4_meet_92 (fun v20 hv => ?_)
            replace h := h v20 hv; clear hv
            refine g_iload_n X dX4_meet_93 rfl 0 rfl ?_
            refine g_iadd X dX4_meet_94 (fun v21 hv => ?_)
            replace h := h v21 hv; clear hv
            obtain ⟨a22, rfl, hk, h⟩ := h
            obtain ⟨j23, hi, hj, hN, h⟩ := h
            refine g_iald X hk hi hj hN dX4_meet_95 (fun v24 hv => ?_)
            replace h := h v24 hv; clear hv hk hi hj hN
            refine g_istore X [(4, .inl v24), (3, .inl v18), (0, .inr (some a0)), (1, .inl x1), (2, .inl x2)] dX4_meet_96 (by decide) rfl ?_
            refine g_aload_n X dX4_meet_98 rfl 2 rfl ?_
            have hk := h.1
            replace h := h.2
            refine gg_516 X hk m_1012 dX4_meet_99 (fun z25 hv => ?_)
            replace h := h z25 hv; clear hv hk
            refine g_iload_n X dX4_meet_102 rfl 3 rfl ?_
            obtain ⟨a26, rfl, hk, h⟩ := h
            obtain ⟨j27, hi, hj, hN, h⟩ := h
            refine g_iald X hk hi hj hN dX4_meet_103 (fun v28 hv => ?_)
            replace h := h v28 hv; clear hv hk hi hj hN
            refine g_aload_n X dX4_meet_104 rfl 2 rfl ?_
            have hk := h.1
            replace h := h.2
            refine gg_514 X hk m_1010 dX4_meet_105 (fun z29 hv => ?_)
            replace h := h z29 hv; clear hv hk
            refine g_iload_n X dX4_meet_108 rfl 3 rfl ?_
            obtain ⟨a30, rfl, hk, h⟩ := h
            obtain ⟨j31, hi, hj, hN, h⟩ := h
            refine g_iald X hk hi hj hN dX4_meet_109 (fun v32 hv => ?_)
            replace h := h v32 hv; clear hv hk hi hj hN
            refine g_aload_n X dX4_meet_110 rfl 2 rfl ?_
            have hk := h.1
            replace h := h.2
            refine gg_517 X hk m_1013 dX4_meet_111 (fun z33 hv => ?_)
            replace h := h z33 hv; clear hv hk
            refine g_iload_n X dX4_meet_114 rfl 3 rfl ?_
            obtain ⟨a34, rfl, hk, h⟩ := h
            obtain ⟨j35, hi, hj, hN, h⟩ := h
            refine g_iald X hk hi hj hN dX4_meet_115 (fun v36 hv => ?_)
            replace h := h v36 hv; clear hv hk hi hj hN
            refine g_imul X dX4_meet_116 (fun v37 hv => ?_)
            replace h := h v37 hv; clear hv
            obtain ⟨J38, hjJ38, h⟩ := h
            have jp38 : ∀ (y39 : Int32), J38 y39 → Gw l G L0 p e rm_X4_meet s m args below meth c 11 (0) (0) (MQ below (gQi G L0 Q) args s rm_X4_meet.cells rm_X4_meet.slots (GA L0)) w17 142 [(0, .inr (some a0)), (1, .inl x1), (3, .inl v18), (4, .inl v24)] [.int y39] := by
              intro y39 hJ
              have h := hjJ38 y39 hJ
              clear hJ
              refine g_istore X [(5, .inl y39), (0, .inr (some a0)), (1, .inl x1), (3, .inl v18), (4, .inl v24)] dX4_meet_142 (by decide) rfl ?_
              refine g_aload_n X dX4_meet_144 rfl 1 rfl ?_
              have hk := h.1
              replace h := h.2
              refine gg_515 X hk m_1011 dX4_meet_145 (fun z40 hv => ?_)
              replace h := h z40 hv; clear hv hk
              refine g_iload_n X dX4_meet_148 rfl 2 rfl ?_
              obtain ⟨a41, rfl, hk, h⟩ := h
              obtain ⟨j42, hi, hj, hN, h⟩ := h
              refine g_iald X hk hi hj hN dX4_meet_149 (fun v43 hv => ?_)
              replace h := h v43 hv; clear hv hk hi hj hN
              refine g_iconst X (v := (3 : Int32)) dX4_meet_150 (by decide) ?_
              obtain ⟨J44, hjJ44, h⟩ := h
              have jp44 : ∀ (y45 : Int32), J44 y45 → Gw l G L0 p e rm_X4_meet s m args below meth c 11 (0) (0) (MQ below (gQi G L0 Q) args s rm_X4_meet.cells rm_X4_meet.slots (GA L0)) w17 169 [(0, .inr (some a0)), (1, .inl x1), (3, .inl v18), (4, .inl v24), (5, .inl y39)] [.int y45] := by
                intro y45 hJ
                have h := hjJ44 y45 hJ
                clear hJ
                refine g_istore X [(6, .inl y45), (0, .inr (some a0)), (1, .inl x1), (3, .inl v18), (4, .inl v24), (5, .inl y39)] dX4_meet_169 (by decide) rfl ?_
                refine g_iload X dX4_meet_171 0 rfl ?_
                refine g_iload X dX4_meet_173 5 rfl ?_
                refine g_iconst X (v := (2 : Int32)) dX4_meet_175 (by decide) ?_
                refine g_idiv X dX4_meet_176 h.1 (fun v46 hv => ?_)
                replace h := h.2 v46 hv; clear hv
                obtain ⟨J47, hjJ47, h⟩ := h
                have jp47 : ∀ (y48 : Int32), J47 y48 → Gw l G L0 p e rm_X4_meet s m args below meth c 11 (0) (0) (MQ below (gQi G L0 Q) args s rm_X4_meet.cells rm_X4_meet.slots (GA L0)) w17 189 [(0, .inr (some a0)), (1, .inl x1), (3, .inl v18), (4, .inl v24), (5, .inl y39)] [.int y48] := by
                  intro y48 hJ
                  have h := hjJ47 y48 hJ
                  clear hJ
                  refine g_istore X [(7, .inl y48), (0, .inr (some a0)), (1, .inl x1), (3, .inl v18), (4, .inl v24), (5, .inl y39)] dX4_meet_189 (by decide) rfl ?_
                  refine g_iload X dX4_meet_191 0 rfl ?_
                  refine g_aload_n X dX4_meet_193 rfl 1 rfl ?_
                  have hk := h.1
                  replace h := h.2
                  refine gg_517 X hk m_1013 dX4_meet_194 (fun z49 hv => ?_)
                  replace h := h z49 hv; clear hv hk
                  refine g_iload_n X dX4_meet_197 rfl 2 rfl ?_
                  obtain ⟨a50, rfl, hk, h⟩ := h
                  obtain ⟨j51, hi, hj, hN, h⟩ := h
                  refine g_iald X hk hi hj hN dX4_meet_198 (fun v52 hv => ?_)
                  replace h := h v52 hv; clear hv hk hi hj hN
                  refine g_iconst X (v := (1 : Int32)) dX4_meet_199 (by decide) ?_
                  refine g_isub X dX4_meet_200 (fun v53 hv => ?_)
                  replace h := h v53 hv; clear hv
                  refine g_idiv X dX4_meet_201 h.1 (fun v54 hv => ?_)
                  replace h := h.2 v54 hv; clear hv
                  refine g_istore X [(8, .inl v54), (7, .inl y48), (0, .inr (some a0)), (1, .inl x1), (3, .inl v18), (4, .inl v24), (5, .inl y39)] dX4_meet_202 (by decide) rfl ?_
                  refine g_iconst X (v := (0 : Int32)) dX4_meet_204 (by decide) ?_
                  refine g_istore X [(9, .inl (0 : Int32)), (8, .inl v54), (7, .inl y48), (0, .inr (some a0)), (1, .inl x1), (3, .inl v18), (4, .inl v24), (5, .inl y39)] dX4_meet_205 (by decide) rfl ?_
                  obtain ⟨Inv56, ⟨n0, hi⟩, hsn55⟩ := h
                  have lp56 : ∀ (n55 : Nat), ∀ (y57 : Int32) (w58 : Wd), Inv56 n55 y57 w58 → Gw l G L0 p e rm_X4_meet s m args below meth c 11 (0) (0) (MQ below (gQi G L0 Q) args s rm_X4_meet.cells rm_X4_meet.slots (GA L0)) w58 207 [(0, .inr (some a0)), (1, .inl x1), (3, .inl v18), (4, .inl v24), (5, .inl y39), (7, .inl y48), (8, .inl v54), (9, .inl y57)] [] := by
                    intro n55
                    induction n55 using Nat.strongRecOn with
                    | ind n55 ihn55 =>
                      intro y57 w58 hI
                      have h := hsn55 n55 y57 w58 hI
                      clear hI
                      refine g_iload X dX4_meet_207 7 rfl ?_
                      refine g_aload_n X dX4_meet_209 rfl 0 rfl ?_
                      have hk := h.1
                      replace h := h.2
                      refine gg_517 X hk m_1013 dX4_meet_210 (fun z59 hv => ?_)
                      replace h := h z59 hv; clear hv hk
                      refine g_iload_n X dX4_meet_213 rfl 1 rfl ?_
                      obtain ⟨a60, rfl, hk, h⟩ := h
                      obtain ⟨j61, hi, hj, hN, h⟩ := h
                      refine g_iald X hk hi hj hN dX4_meet_214 (fun v62 hv => ?_)
                      replace h := h v62 hv; clear hv hk hi hj hN
                      refine g_icmp_ge X (tgt := 285) dX4_meet_215 (by decide) (fun hc => ?_) (fun hc => ?_)
                      · replace h := h.1 hc; clear hc
                        refine g_aload_n X dX4_meet_285 rfl 0 rfl ?_
                        have hk := h.1
                        replace h := h.2
                        refine gg_527 X hk m_1023 dX4_meet_286 (fun z63 hv => ?_)
                        replace h := h z63 hv; clear hv hk
                        refine g_bipush X (v := (10 : Int32)) dX4_meet_289 (by decide) ?_
                        refine g_iload_n X dX4_meet_291 rfl 1 rfl ?_
                        refine g_imul X dX4_meet_292 (fun v64 hv => ?_)
                        replace h := h v64 hv; clear hv
                        refine g_iload_n X dX4_meet_293 rfl 2 rfl ?_
                        refine g_iadd X dX4_meet_294 (fun v65 hv => ?_)
                        replace h := h v65 hv; clear hv
                        refine g_iconst X (v := (1 : Int32)) dX4_meet_295 (by decide) ?_
                        obtain ⟨a66, rfl, hk, h⟩ := h
                        obtain ⟨j67, hi, hj, hN, h⟩ := h
                        refine g_zast X hk hi hj hN dX4_meet_296 (fun w68 hv => ?_)
                        replace h := h w68 hv; clear hv hk hi hj hN
                        refine g_aload_n X dX4_meet_297 rfl 0 rfl ?_
                        have hk := h.1
                        replace h := h.2
                        refine gg_518 X hk m_1014 dX4_meet_298 (fun z69 hv => ?_)
                        replace h := h z69 hv; clear hv hk
                        refine g_iload_n X dX4_meet_301 rfl 1 rfl ?_
                        refine g_dup2 X dX4_meet_302 rfl rf_cat ?_
                        obtain ⟨a70, rfl, hk, h⟩ := h
                        obtain ⟨j71, hi, hj, hN, h⟩ := h
                        refine g_iald X hk hi hj hN dX4_meet_303 (fun v72 hv => ?_)
                        replace h := h v72 hv; clear hv hk hi hj hN
                        refine g_iconst X (v := (1 : Int32)) dX4_meet_304 (by decide) ?_
                        refine g_iadd X dX4_meet_305 (fun v73 hv => ?_)
                        replace h := h v73 hv; clear hv
                        have hk := h.1
                        replace h := h.2
                        obtain ⟨j74, hi, hj, hN, h⟩ := h
                        refine g_iast X hk hi hj hN dX4_meet_306 (fun w75 hv => ?_)
                        replace h := h w75 hv; clear hv hk hi hj hN
                        refine g_aload_n X dX4_meet_307 rfl 0 rfl ?_
                        refine g_iload_n X dX4_meet_308 rfl 1 rfl ?_
                        have hk := h.1
                        replace h := h.2
                        refine g_callV_v X (As := [.int x1]) (st := []) (n := 1) (c_X4_rounds hst h) rfl (by decide) hk (wE_5 G w75 a0) m_1132 m_1134 m_20 m_34 m_1135 (by decide +kernel) (by decide +kernel) rfl rfl (Nat.zero_le _) ⟨(by decide +kernel), (by decide +kernel)⟩ dX4_meet_309 (fun w76 h => ?_)
                        clear hk
                        refine g_widen (c2 := (0)) (s2 := (0)) (by decide +kernel) (by decide +kernel) ?_
                        refine g_iload X dX4_meet_312 3 rfl ?_
                        exact g_iret X hr (by decide +kernel) (by decide +kernel) dX4_meet_314 h
                      · replace h := h.2 hc; clear hc
                        refine g_iload X dX4_meet_218 7 rfl ?_
                        refine g_iload_n X dX4_meet_220 rfl 2 rfl ?_
                        obtain ⟨J77, hjJ77, h⟩ := h
                        have jp77 : ∀ (y78 : Int32), J77 y78 → Gw l G L0 p e rm_X4_meet s m args below meth c 11 (0) (0) (MQ below (gQi G L0 Q) args s rm_X4_meet.cells rm_X4_meet.slots (GA L0)) w58 234 [(0, .inr (some a0)), (1, .inl x1), (3, .inl v18), (4, .inl v24), (5, .inl y39), (7, .inl y48), (8, .inl v54), (9, .inl y57)] [.int y78] := by
                          intro y78 hJ
                          have h := hjJ77 y78 hJ
                          clear hJ
                          refine g_istore X [(10, .inl y78), (0, .inr (some a0)), (1, .inl x1), (3, .inl v18), (4, .inl v24), (5, .inl y39), (7, .inl y48), (8, .inl v54), (9, .inl y57)] dX4_meet_234 (by decide) rfl ?_
                          refine g_aload_n X dX4_meet_236 rfl 1 rfl ?_
                          refine g_aload_n X dX4_meet_237 rfl 1 rfl ?_
                          have hk := h.1
                          replace h := h.2
                          refine gg_521 X hk m_1017 dX4_meet_238 (fun z79 hv => ?_)
                          replace h := h z79 hv; clear hv hk
                          refine g_bipush X (v := (10 : Int32)) dX4_meet_241 (by decide) ?_
                          refine g_iload_n X dX4_meet_243 rfl 2 rfl ?_
                          refine g_imul X dX4_meet_244 (fun v80 hv => ?_)
                          replace h := h v80 hv; clear hv
                          refine g_iload X dX4_meet_245 8 rfl ?_
                          refine g_iadd X dX4_meet_247 (fun v81 hv => ?_)
                          replace h := h v81 hv; clear hv
                          obtain ⟨a82, rfl, hk, h⟩ := h
                          obtain ⟨j83, hi, hj, hN, h⟩ := h
                          refine g_iald X hk hi hj hN dX4_meet_248 (fun v84 hv => ?_)
                          replace h := h v84 hv; clear hv hk hi hj hN
                          refine g_iload X dX4_meet_249 0 rfl ?_
                          refine g_ineg X dX4_meet_251 (fun v85 hv => ?_)
                          replace h := h v85 hv; clear hv
                          have hk := h.1
                          replace h := h.2
                          refine g_callV_v X (As := [.int v84, .int v85]) (st := []) (n := 2) (c_X4_pays hst h) rfl (by decide) hk (wE_5 G w58 a0) m_1168 m_1170 m_24 m_34 m_1171 (by decide +kernel) (by decide +kernel) rfl rfl (Nat.zero_le _) ⟨(by decide +kernel), (by decide +kernel)⟩ dX4_meet_252 (fun w86 h => ?_)
                          clear hk
                          refine g_widen (c2 := (0)) (s2 := (0)) (by decide +kernel) (by decide +kernel) ?_
                          refine g_aload_n X dX4_meet_255 rfl 1 rfl ?_
                          have hk := h.1
                          replace h := h.2
                          refine gg_516 X hk m_1012 dX4_meet_256 (fun z87 hv => ?_)
                          replace h := h z87 hv; clear hv hk
                          refine g_iload_n X dX4_meet_259 rfl 2 rfl ?_
                          refine g_dup2 X dX4_meet_260 rfl rf_cat ?_
                          obtain ⟨a88, rfl, hk, h⟩ := h
                          obtain ⟨j89, hi, hj, hN, h⟩ := h
                          refine g_iald X hk hi hj hN dX4_meet_261 (fun v90 hv => ?_)
                          replace h := h v90 hv; clear hv hk hi hj hN
                          refine g_iload X dX4_meet_262 0 rfl ?_
                          refine g_isub X dX4_meet_264 (fun v91 hv => ?_)
                          replace h := h v91 hv; clear hv
                          have hk := h.1
                          replace h := h.2
                          obtain ⟨j92, hi, hj, hN, h⟩ := h
                          refine g_iast X hk hi hj hN dX4_meet_265 (fun w93 hv => ?_)
                          replace h := h w93 hv; clear hv hk hi hj hN
                          refine g_aload_n X dX4_meet_266 rfl 1 rfl ?_
                          have hk := h.1
                          replace h := h.2
                          refine gg_524 X hk m_1020 dX4_meet_267 (fun z94 hv => ?_)
                          replace h := h z94 hv; clear hv hk
                          refine g_bipush X (v := (10 : Int32)) dX4_meet_270 (by decide) ?_
                          refine g_iload_n X dX4_meet_272 rfl 2 rfl ?_
                          refine g_imul X dX4_meet_273 (fun v95 hv => ?_)
                          replace h := h v95 hv; clear hv
                          refine g_iload X dX4_meet_274 8 rfl ?_
                          refine g_iadd X dX4_meet_276 (fun v96 hv => ?_)
                          replace h := h v96 hv; clear hv
                          refine g_iconst X (v := (0 : Int32)) dX4_meet_277 (by decide) ?_
                          obtain ⟨a97, rfl, hk, h⟩ := h
                          obtain ⟨j98, hi, hj, hN, h⟩ := h
                          refine g_iast X hk hi hj hN dX4_meet_278 (fun w99 hv => ?_)
                          replace h := h w99 hv; clear hv hk hi hj hN
                          refine g_iinc X dX4_meet_279 8 rfl (d := (1 : Int32)) (by decide) (by decide) (fun v100 hv => ?_)
                          replace h := h v100 hv; clear hv
                          refine g_sub [0, 1, 2, 3, 4, 5, 6, 7, 8] [(9, .inl v100), (10, .inl y78), (0, .inr (some a0)), (1, .inl x1), (3, .inl v18), (4, .inl v24), (5, .inl y39), (7, .inl y48), (8, .inl v54)] rfl ?_
                          refine g_goto X (tgt := 207) dX4_meet_282 (by decide) ?_
                          obtain ⟨n, hn, hI⟩ := h
                          exact g_sub [2, 3, 4, 5, 6, 7, 8, 0] [(0, .inr (some a0)), (1, .inl x1), (3, .inl v18), (4, .inl v24), (5, .inl y39), (7, .inl y48), (8, .inl v54), (9, .inl v100)] rfl (ihn55 n hn v100 w99 hI)
                        refine g_icmp_ne X (tgt := 232) dX4_meet_221 (by decide) (fun hc => ?_) (fun hc => ?_)
                        · replace h := h.1 hc; clear hc
                          refine g_iload X dX4_meet_232 6 rfl ?_
                          exact g_sub [0, 1, 2, 3, 4, 5, 6, 7] [(0, .inr (some a0)), (1, .inl x1), (3, .inl v18), (4, .inl v24), (5, .inl y39), (7, .inl y48), (8, .inl v54), (9, .inl y57)] rfl (jp77 v54 h)
                        · replace h := h.2 hc; clear hc
                          refine g_iload X dX4_meet_224 4 rfl ?_
                          refine g_iload X dX4_meet_226 5 rfl ?_
                          refine g_isub X dX4_meet_228 (fun v101 hv => ?_)
                          replace h := h v101 hv; clear hv
                          refine g_goto X (tgt := 234) dX4_meet_229 (by decide) ?_
                          exact g_sub [0, 1, 2, 3, 4, 5, 6, 7] [(0, .inr (some a0)), (1, .inl x1), (3, .inl v18), (4, .inl v24), (5, .inl y39), (7, .inl y48), (8, .inl v54), (9, .inl y57)] rfl (jp77 v101 h)
                  exact g_sub [3, 4, 5, 6, 7, 2, 1, 0] [(0, .inr (some a0)), (1, .inl x1), (3, .inl v18), (4, .inl v24), (5, .inl y39), (7, .inl y48), (8, .inl v54), (9, .inl (0 : Int32))] rfl (lp56 n0 (0 : Int32) w17 hi)
                refine g_icmp_ge X (tgt := 185) dX4_meet_177 (by decide) (fun hc => ?_) (fun hc => ?_)
                · replace h := h.1 hc; clear hc
                  refine g_iload X dX4_meet_185 5 rfl ?_
                  refine g_iconst X (v := (2 : Int32)) dX4_meet_187 (by decide) ?_
                  refine g_idiv X dX4_meet_188 h.1 (fun v102 hv => ?_)
                  replace h := h.2 v102 hv; clear hv
                  exact g_sub [1, 2, 3, 4, 5] [(0, .inr (some a0)), (1, .inl x1), (3, .inl v18), (4, .inl v24), (5, .inl y39)] rfl (jp47 v102 h)
                · replace h := h.2 hc; clear hc
                  refine g_iload X dX4_meet_180 0 rfl ?_
                  refine g_goto X (tgt := 189) dX4_meet_182 (by decide) ?_
                  exact g_sub [1, 2, 3, 4, 5] [(0, .inr (some a0)), (1, .inl x1), (3, .inl v18), (4, .inl v24), (5, .inl y39)] rfl (jp47 y45 h)
              refine g_icmp_ne X (tgt := 168) dX4_meet_151 (by decide) (fun hc => ?_) (fun hc => ?_)
              · replace h := h.1 hc; clear hc
                refine g_iconst X (v := (0 : Int32)) dX4_meet_168 (by decide) ?_
                exact g_sub [1, 2, 3, 4, 0] [(0, .inr (some a0)), (1, .inl x1), (3, .inl v18), (4, .inl v24), (5, .inl y39)] rfl (jp44 (0 : Int32) h)
              · replace h := h.2 hc; clear hc
                refine g_aload_n X dX4_meet_154 rfl 1 rfl ?_
                have hk := h.1
                replace h := h.2
                refine gg_524 X hk m_1020 dX4_meet_155 (fun z103 hv => ?_)
                replace h := h z103 hv; clear hv hk
                refine g_bipush X (v := (10 : Int32)) dX4_meet_158 (by decide) ?_
                refine g_iload_n X dX4_meet_160 rfl 2 rfl ?_
                refine g_imul X dX4_meet_161 (fun v104 hv => ?_)
                replace h := h v104 hv; clear hv
                refine g_iload_n X dX4_meet_162 rfl 3 rfl ?_
                refine g_iadd X dX4_meet_163 (fun v105 hv => ?_)
                replace h := h v105 hv; clear hv
                obtain ⟨a106, rfl, hk, h⟩ := h
                obtain ⟨j107, hi, hj, hN, h⟩ := h
                refine g_iald X hk hi hj hN dX4_meet_164 (fun v108 hv => ?_)
                replace h := h v108 hv; clear hv hk hi hj hN
                refine g_goto X (tgt := 169) dX4_meet_165 (by decide) ?_
                exact g_sub [1, 2, 3, 4, 0] [(0, .inr (some a0)), (1, .inl x1), (3, .inl v18), (4, .inl v24), (5, .inl y39)] rfl (jp44 v108 h)
            refine g_icmp_ge X (tgt := 129) dX4_meet_117 (by decide) (fun hc => ?_) (fun hc => ?_)
            · replace h := h.1 hc; clear hc
              refine g_aload_n X dX4_meet_129 rfl 2 rfl ?_
              have hk := h.1
              replace h := h.2
              refine gg_514 X hk m_1010 dX4_meet_130 (fun z109 hv => ?_)
              replace h := h z109 hv; clear hv hk
              refine g_iload_n X dX4_meet_133 rfl 3 rfl ?_
              obtain ⟨a110, rfl, hk, h⟩ := h
              obtain ⟨j111, hi, hj, hN, h⟩ := h
              refine g_iald X hk hi hj hN dX4_meet_134 (fun v112 hv => ?_)
              replace h := h v112 hv; clear hv hk hi hj hN
              refine g_aload_n X dX4_meet_135 rfl 2 rfl ?_
              have hk := h.1
              replace h := h.2
              refine gg_517 X hk m_1013 dX4_meet_136 (fun z113 hv => ?_)
              replace h := h z113 hv; clear hv hk
              refine g_iload_n X dX4_meet_139 rfl 3 rfl ?_
              obtain ⟨a114, rfl, hk, h⟩ := h
              obtain ⟨j115, hi, hj, hN, h⟩ := h
              refine g_iald X hk hi hj hN dX4_meet_140 (fun v116 hv => ?_)
              replace h := h v116 hv; clear hv hk hi hj hN
              refine g_imul X dX4_meet_141 (fun v117 hv => ?_)
              replace h := h v117 hv; clear hv
              exact g_sub [2, 3, 1, 0] [(0, .inr (some a0)), (1, .inl x1), (3, .inl v18), (4, .inl v24)] rfl (jp38 v117 h)
            · replace h := h.2 hc; clear hc
              refine g_aload_n X dX4_meet_120 rfl 2 rfl ?_
              have hk := h.1
              replace h := h.2
              refine gg_516 X hk m_1012 dX4_meet_121 (fun z118 hv => ?_)
              replace h := h z118 hv; clear hv hk
              refine g_iload_n X dX4_meet_124 rfl 3 rfl ?_
              obtain ⟨a119, rfl, hk, h⟩ := h
              obtain ⟨j120, hi, hj, hN, h⟩ := h
              refine g_iald X hk hi hj hN dX4_meet_125 (fun v121 hv => ?_)
              replace h := h v121 hv; clear hv hk hi hj hN
              refine g_goto X (tgt := 142) dX4_meet_126 (by decide) ?_
              exact g_sub [2, 3, 1, 0] [(0, .inr (some a0)), (1, .inl x1), (3, .inl v18), (4, .inl v24)] rfl (jp38 v121 h)
          · replace h := h.2 hc; clear hc
            refine g_aload_n X dX4_meet_61 rfl 0 rfl ?_
            refine g_iload_n X dX4_meet_62 rfl 1 rfl ?_
            refine g_bipush X (v := (10 : Int32)) dX4_meet_63 (by decide) ?_
            refine g_iload_n X dX4_meet_65 rfl 1 rfl ?_
            refine g_imul X dX4_meet_66 (fun v122 hv => ?_)
            replace h := h v122 hv; clear hv
            refine g_iload_n X dX4_meet_67 rfl 3 rfl ?_
            refine g_iadd X dX4_meet_68 (fun v123 hv => ?_)
            replace h := h v123 hv; clear hv
            refine g_iload_n X dX4_meet_69 rfl 2 rfl ?_
            have hk := h.1
            replace h := h.2
            refine g_callV_v X (As := [.int x1, .int v123, .int x2]) (st := []) (n := 3) (c_X4_collects hst h) rfl (by decide) hk (wE_5 G w12 a0) m_1164 m_1166 m_23 m_34 m_1167 (by decide +kernel) (by decide +kernel) rfl rfl (Nat.zero_le _) ⟨(by decide +kernel), (by decide +kernel)⟩ dX4_meet_70 (fun w124 h => ?_)
            clear hk
            refine g_widen (c2 := (0)) (s2 := (0)) (by decide +kernel) (by decide +kernel) ?_
            refine g_iinc X dX4_meet_73 3 rfl (d := (1 : Int32)) (by decide) (by decide) (fun v125 hv => ?_)
            replace h := h v125 hv; clear hv
            refine g_sub [0, 1, 2, 3] [(3, .inl v125), (0, .inr (some a0)), (1, .inl x1), (2, .inl x2)] rfl ?_
            refine g_goto X (tgt := 51) dX4_meet_76 (by decide) ?_
            obtain ⟨n, hn, hI⟩ := h
            exact g_sub [1, 2, 3, 0] [(0, .inr (some a0)), (1, .inl x1), (2, .inl x2), (3, .inl v125)] rfl (ihn9 n hn v125 w124 hI)
      exact g_sub [1, 2, 3, 0] [(0, .inr (some a0)), (1, .inl x1), (2, .inl x2), (3, .inl (0 : Int32))] rfl (lp10 n0 (0 : Int32) w7 hi)
    · replace h := h.2 hc; clear hc
      refine g_iconst X (v := (0 : Int32)) dX4_meet_47 (by decide) ?_
      exact g_iret X hr (by decide +kernel) (by decide +kernel) dX4_meet_48 h
  refine g_if_ne X (tgt := 13) dX4_meet_6 (by decide) (fun hc => ?_) (fun hc => ?_)
  · replace h := h.1 hc; clear hc
    refine g_aload_n X dX4_meet_13 rfl 0 rfl ?_
    have hk := h.1
    replace h := h.2
    refine gg_520 X hk m_1016 dX4_meet_14 (fun z126 hv => ?_)
    replace h := h z126 hv; clear hv hk
    refine g_iload_n X dX4_meet_17 rfl 1 rfl ?_
    obtain ⟨a127, rfl, hk, h⟩ := h
    obtain ⟨j128, hi, hj, hN, h⟩ := h
    refine g_zald X hk hi hj hN dX4_meet_18 (fun v129 hv => ?_)
    replace h := h v129 hv; clear hv hk hi hj hN
    obtain ⟨J130, hjJ130, h⟩ := h
    have jp130 : ∀ (q131 : Option Nat), J130 q131 → Gw l G L0 p e rm_X4_meet s m args below meth c 11 (0) (0) (MQ below (gQi G L0 Q) args s rm_X4_meet.cells rm_X4_meet.slots (GA L0)) w1 32 [(0, .inr (some a0)), (1, .inl x1), (2, .inl x2)] [va_rf q131] := by
      intro q131 hJ
      have h := hjJ130 q131 hJ
      clear hJ
      refine g_iconst X (v := (2 : Int32)) dX4_meet_32 (by decide) ?_
      refine g_goto X (tgt := 37) dX4_meet_33 (by decide) ?_
      exact g_sub [0, 1, 2] [(0, .inr (some a0)), (1, .inl x1), (2, .inl x2)] rfl (jp3 q131 (2 : Int32) h)
    refine g_if_eq X (tgt := 32) dX4_meet_19 (by decide) (fun hc => ?_) (fun hc => ?_)
    · replace h := h.1 hc; clear hc
      exact g_sub [0, 1, 2] [(0, .inr (some a0)), (1, .inl x1), (2, .inl x2)] rfl (jp130 (some a0) h)
    · replace h := h.2 hc; clear hc
      refine g_aload_n X dX4_meet_22 rfl 0 rfl ?_
      have hk := h.1
      replace h := h.2
      refine gg_517 X hk m_1013 dX4_meet_23 (fun z132 hv => ?_)
      replace h := h z132 hv; clear hv hk
      refine g_iload_n X dX4_meet_26 rfl 1 rfl ?_
      obtain ⟨a133, rfl, hk, h⟩ := h
      obtain ⟨j134, hi, hj, hN, h⟩ := h
      refine g_iald X hk hi hj hN dX4_meet_27 (fun v135 hv => ?_)
      replace h := h v135 hv; clear hv hk hi hj hN
      refine g_iconst X (v := (2 : Int32)) dX4_meet_28 (by decide) ?_
      refine g_icmp_ge X (tgt := 36) dX4_meet_29 (by decide) (fun hc => ?_) (fun hc => ?_)
      · replace h := h.1 hc; clear hc
        refine g_iconst X (v := (0 : Int32)) dX4_meet_36 (by decide) ?_
        exact g_sub [0, 1, 2] [(0, .inr (some a0)), (1, .inl x1), (2, .inl x2)] rfl (jp3 (some a0) (0 : Int32) h)
      · replace h := h.2 hc; clear hc
        exact g_sub [0, 1, 2] [(0, .inr (some a0)), (1, .inl x1), (2, .inl x2)] rfl (jp130 (some a0) h)
  · replace h := h.2 hc; clear hc
    refine g_iconst X (v := (1 : Int32)) dX4_meet_9 (by decide) ?_
    refine g_goto X (tgt := 37) dX4_meet_10 (by decide) ?_
    exact g_sub [0, 1, 2] [(0, .inr (some a0)), (1, .inl x1), (2, .inl x2)] rfl (jp3 (some a0) (1 : Int32) h)

abbrev rm_X4_leave : Room := { frames := 8, cells := 0, slots := 0, locals := 146 }
def wp_X4_leave (a0 : Nat) (x1 : Int32) (x2 : Int32) (w : Wd) (Q : Int32 → Wd → Prop) : Prop :=
  w.K a0 = 5 ∧
  wp_X4_isCircle a0 x1 w (fun v2 w1 => 
  ∃ J3 : Option Nat → Int32 → Wd → Prop, (∀ (q4 : Option Nat) (y5 : Int32) (w6 : Wd), J3 q4 y5 w6 →
  ∃ a7, q4 = some a7 ∧ w6.K a7 = 5 ∧
  ∀ w8 : Wd, w8 = w6.setI 500 a7 y5 →
  w8.K a0 = 5 ∧
  ∀ v9 : Int32, v9 = w8.I 500 a0 →
  (v9 = 0 → w8.K a0 = 5 ∧
  wp_X4_placeOf a0 x1 x2 w8 (fun v11 w10 => 
  ∃ J12 : Option Nat → Int32 → Prop, (∀ (q13 : Option Nat) (y14 : Int32), J12 q13 y14 →
  ∃ a15, q13 = some a15 ∧ w10.K a15 = 5 ∧
  ∀ w16 : Wd, w16 = w10.setI 500 a15 y14 →
  w16.K a0 = 5 ∧
  ∀ v17 : Int32, v17 = w16.I 500 a0 →
  (v17 = 0 → w16.K a0 = 5 ∧
  ∀ z18 : Option Nat, z18 = w16.R 525 a0 →
  ∀ v19 : Int32, v19 = (10 : Int32) * x1 →
  ∀ v20 : Int32, v20 = v19 + v11 →
  ∃ a21, z18 = some a21 ∧ w16.K a21 = 11 ∧
  ∃ j22 : Nat, v20 = nI j22 ∧ j22 < w16.N a21 ∧ w16.N a21 < 2 ^ 31 ∧
  ∀ v23 : Int32, v23 = w16.A a21 j22 →
  w16.K a0 = 5 ∧
  ∀ z24 : Option Nat, z24 = w16.R 516 a0 →
  ∃ a25, z24 = some a25 ∧ w16.K a25 = 11 ∧
  ∃ j26 : Nat, x1 = nI j26 ∧ j26 < w16.N a25 ∧ w16.N a25 < 2 ^ 31 ∧
  ∀ v27 : Int32, v27 = w16.A a25 j26 →
  ∃ J28 : Int32 → Prop, (∀ (y29 : Int32), J28 y29 →
  w16.K a0 = 5 ∧
  ∀ z30 : Option Nat, z30 = w16.R 516 a0 →
  ∃ a31, z30 = some a31 ∧ w16.K a31 = 11 ∧
  ∃ j32 : Nat, x1 = nI j32 ∧ j32 < w16.N a31 ∧ w16.N a31 < 2 ^ 31 ∧
  ∀ v33 : Int32, v33 = w16.A a31 j32 →
  ∀ v34 : Int32, v34 = v33 - y29 →
  w16.K a31 = 11 ∧
  ∃ j35 : Nat, x1 = nI j35 ∧ j35 < w16.N a31 ∧ w16.N a31 < 2 ^ 31 ∧
  ∀ w36 : Wd, w36 = w16.setA a31 j35 v34 →
  ∀ v37 : Int32, v37 = -y29 →
  w36.K a0 = 5 ∧
  wp_X4_pays a0 x2 v37 w36 (fun w38 => 
  w38.K a0 = 5 ∧
  wp_X4_goes a0 x1 v11 w38 (fun w39 => 
  Q y29 w39))) ∧
  (v27 ≤ v23 → w16.K a0 = 5 ∧
  ∀ z40 : Option Nat, z40 = w16.R 516 a0 →
  ∃ a41, z40 = some a41 ∧ w16.K a41 = 11 ∧
  ∃ j42 : Nat, x1 = nI j42 ∧ j42 < w16.N a41 ∧ w16.N a41 < 2 ^ 31 ∧
  ∀ v43 : Int32, v43 = w16.A a41 j42 →
  J28 v43) ∧ (¬ v27 ≤ v23 → J28 v23)) ∧ (¬ v17 = 0 → Q (0 : Int32) w16)) ∧
  ∃ J44 : Option Nat → Prop, (∀ (q45 : Option Nat), J44 q45 →
  J12 q45 (2 : Int32)) ∧
  (v11 < 0 → J44 (some a0)) ∧ (¬ v11 < 0 → w10.K a0 = 5 ∧
  ∀ z46 : Option Nat, z46 = w10.R 527 a0 →
  ∀ v47 : Int32, v47 = (10 : Int32) * x1 →
  ∀ v48 : Int32, v48 = v47 + v11 →
  ∃ a49, z46 = some a49 ∧ w10.K a49 = 12 ∧
  ∃ j50 : Nat, v48 = nI j50 ∧ j50 < w10.N a49 ∧ w10.N a49 < 2 ^ 31 ∧
  ∀ v51 : Int32, v51 = w10.A a49 j50 →
  (¬ v51 = 0 → J44 (some a0)) ∧ (v51 = 0 → w10.K a0 = 5 ∧
  ∀ z52 : Option Nat, z52 = w10.R 522 a0 →
  ∀ v53 : Int32, v53 = (10 : Int32) * x1 →
  ∀ v54 : Int32, v54 = v53 + v11 →
  ∃ a55, z52 = some a55 ∧ w10.K a55 = 11 ∧
  ∃ j56 : Nat, v54 = nI j56 ∧ j56 < w10.N a55 ∧ w10.N a55 < 2 ^ 31 ∧
  ∀ v57 : Int32, v57 = w10.A a55 j56 →
  (v57 ≤ 0 → J12 (some a0) (0 : Int32)) ∧ (¬ v57 ≤ 0 → J44 (some a0)))))) ∧ (¬ v9 = 0 → Q (0 : Int32) w8)) ∧
  ∃ J58 : Option Nat → Wd → Prop, (∀ (q59 : Option Nat) (w60 : Wd), J58 q59 w60 →
  J3 q59 (1 : Int32) w60) ∧
  (v2 = 0 → J58 (some a0) w1) ∧ (¬ v2 = 0 → w1.K a0 = 5 ∧
  wp_X4_isOne a0 x2 w1 (fun v62 w61 => 
  (¬ v62 = 0 → J3 (some a0) (0 : Int32) w61) ∧ (v62 = 0 → J58 (some a0) w61))))
set_option maxHeartbeats 4000000 in
set_option maxRecDepth 100000 in
theorem c_X4_leave {l : Launch} {G : GT} {L0 : Nat} (hst : l.stackTraces = false) {a0 : Nat} {x1 : Int32} {x2 : Int32} {w : Wd} {Q : Int32 → Wd → Prop} (h : wp_X4_leave a0 x1 x2 w Q) : GMi l G L0 yX4_leave cX4_leave 6 (some .int) rm_X4_leave [.ref a0, .int x1, .int x2] w Q := by
  refine g_enter hst (by decide +kernel) [.inr (some a0), .inl x1, .inl x2] rfl (show 3 ≤ 6 by decide) ?_
  intro p e s m args below meth c X hr hnm
  replace X : GC l G L0 p s m args meth c cX4_leave 6 "SusuRingModel" := X
  refine g_aload_n X dX4_leave_0 rfl 0 rfl ?_
  refine g_aload_n X dX4_leave_1 rfl 0 rfl ?_
  refine g_iload_n X dX4_leave_2 rfl 1 rfl ?_
  have hk := h.1
  replace h := h.2
  refine g_callV_i X (As := [.int x1]) (st := [va_rf (some a0)]) (n := 1) (c_X4_isCircle hst h) rfl (by decide) hk (wE_5 G w a0) m_1144 m_1146 m_21 m_34 m_1147 (by decide +kernel) (by decide +kernel) rfl rfl (by simp [cat_int, rf_cat]) ⟨(by decide +kernel), (by decide +kernel)⟩ dX4_leave_3 (fun v2 w1 h => ?_)
  clear hk
  refine g_widen (c2 := (0)) (s2 := (0)) (by decide +kernel) (by decide +kernel) ?_
  obtain ⟨J3, hjJ3, h⟩ := h
  have jp3 : ∀ (q4 : Option Nat) (y5 : Int32) (w6 : Wd), J3 q4 y5 w6 → Gw l G L0 p e rm_X4_leave s m args below meth c 6 (0) (0) (MQ below (gQi G L0 Q) args s rm_X4_leave.cells rm_X4_leave.slots (GA L0)) w6 22 [(0, .inr (some a0)), (1, .inl x1), (2, .inl x2)] [.int y5, va_rf q4] := by
    intro q4 y5 w6 hJ
    have h := hjJ3 q4 y5 w6 hJ
    clear hJ
    obtain ⟨a7, rfl, hk, h⟩ := h
    refine gp_500 X hk m_996 dX4_leave_22 (fun w8 hv => ?_)
    replace h := h w8 hv; clear hv hk
    refine g_aload_n X dX4_leave_25 rfl 0 rfl ?_
    have hk := h.1
    replace h := h.2
    refine gg_500 X hk m_996 dX4_leave_26 (fun v9 hv => ?_)
    replace h := h v9 hv; clear hv hk
    refine g_if_eq X (tgt := 34) dX4_leave_29 (by decide) (fun hc => ?_) (fun hc => ?_)
    · replace h := h.1 hc; clear hc
      refine g_aload_n X dX4_leave_34 rfl 0 rfl ?_
      refine g_iload_n X dX4_leave_35 rfl 1 rfl ?_
      refine g_iload_n X dX4_leave_36 rfl 2 rfl ?_
      have hk := h.1
      replace h := h.2
      refine g_callV_i X (As := [.int x1, .int x2]) (st := []) (n := 2) (c_X4_placeOf hst h) rfl (by decide) hk (wE_5 G w8 a0) m_1120 m_1122 m_17 m_34 m_1123 (by decide +kernel) (by decide +kernel) rfl rfl (Nat.zero_le _) ⟨(by decide +kernel), (by decide +kernel)⟩ dX4_leave_37 (fun v11 w10 h => ?_)
      clear hk
      refine g_widen (c2 := (0)) (s2 := (0)) (by decide +kernel) (by decide +kernel) ?_
      refine g_istore_n X [(3, .inl v11), (0, .inr (some a0)), (1, .inl x1), (2, .inl x2)] dX4_leave_40 rfl (by decide) rfl ?_
      refine g_aload_n X dX4_leave_41 rfl 1 rfl ?_
      refine g_iload_n X dX4_leave_42 rfl 0 rfl ?_
      obtain ⟨J12, hjJ12, h⟩ := h
      have jp12 : ∀ (q13 : Option Nat) (y14 : Int32), J12 q13 y14 → Gw l G L0 p e rm_X4_leave s m args below meth c 6 (0) (0) (MQ below (gQi G L0 Q) args s rm_X4_leave.cells rm_X4_leave.slots (GA L0)) w10 79 [(0, .inr (some a0)), (1, .inl x1), (2, .inl x2), (3, .inl v11)] [.int y14, va_rf q13] := by
        intro q13 y14 hJ
        have h := hjJ12 q13 y14 hJ
        clear hJ
        obtain ⟨a15, rfl, hk, h⟩ := h
        refine gp_500 X hk m_996 dX4_leave_79 (fun w16 hv => ?_)
        replace h := h w16 hv; clear hv hk
        refine g_aload_n X dX4_leave_82 rfl 0 rfl ?_
        have hk := h.1
        replace h := h.2
        refine gg_500 X hk m_996 dX4_leave_83 (fun v17 hv => ?_)
        replace h := h v17 hv; clear hv hk
        refine g_if_eq X (tgt := 91) dX4_leave_86 (by decide) (fun hc => ?_) (fun hc => ?_)
        · replace h := h.1 hc; clear hc
          refine g_aload_n X dX4_leave_91 rfl 0 rfl ?_
          have hk := h.1
          replace h := h.2
          refine gg_525 X hk m_1021 dX4_leave_92 (fun z18 hv => ?_)
          replace h := h z18 hv; clear hv hk
          refine g_bipush X (v := (10 : Int32)) dX4_leave_95 (by decide) ?_
          refine g_iload_n X dX4_leave_97 rfl 1 rfl ?_
          refine g_imul X dX4_leave_98 (fun v19 hv => ?_)
          replace h := h v19 hv; clear hv
          refine g_iload_n X dX4_leave_99 rfl 3 rfl ?_
          refine g_iadd X dX4_leave_100 (fun v20 hv => ?_)
          replace h := h v20 hv; clear hv
          obtain ⟨a21, rfl, hk, h⟩ := h
          obtain ⟨j22, hi, hj, hN, h⟩ := h
          refine g_iald X hk hi hj hN dX4_leave_101 (fun v23 hv => ?_)
          replace h := h v23 hv; clear hv hk hi hj hN
          refine g_istore X [(4, .inl v23), (0, .inr (some a0)), (1, .inl x1), (2, .inl x2), (3, .inl v11)] dX4_leave_102 (by decide) rfl ?_
          refine g_iload X dX4_leave_104 0 rfl ?_
          refine g_aload_n X dX4_leave_106 rfl 1 rfl ?_
          have hk := h.1
          replace h := h.2
          refine gg_516 X hk m_1012 dX4_leave_107 (fun z24 hv => ?_)
          replace h := h z24 hv; clear hv hk
          refine g_iload_n X dX4_leave_110 rfl 2 rfl ?_
          obtain ⟨a25, rfl, hk, h⟩ := h
          obtain ⟨j26, hi, hj, hN, h⟩ := h
          refine g_iald X hk hi hj hN dX4_leave_111 (fun v27 hv => ?_)
          replace h := h v27 hv; clear hv hk hi hj hN
          obtain ⟨J28, hjJ28, h⟩ := h
          have jp28 : ∀ (y29 : Int32), J28 y29 → Gw l G L0 p e rm_X4_leave s m args below meth c 6 (0) (0) (MQ below (gQi G L0 Q) args s rm_X4_leave.cells rm_X4_leave.slots (GA L0)) w16 126 [(0, .inr (some a0)), (1, .inl x1), (2, .inl x2), (3, .inl v11)] [.int y29] := by
            intro y29 hJ
            have h := hjJ28 y29 hJ
            clear hJ
            refine g_istore X [(5, .inl y29), (0, .inr (some a0)), (1, .inl x1), (2, .inl x2), (3, .inl v11)] dX4_leave_126 (by decide) rfl ?_
            refine g_aload_n X dX4_leave_128 rfl 1 rfl ?_
            have hk := h.1
            replace h := h.2
            refine gg_516 X hk m_1012 dX4_leave_129 (fun z30 hv => ?_)
            replace h := h z30 hv; clear hv hk
            refine g_iload_n X dX4_leave_132 rfl 2 rfl ?_
            refine g_dup2 X dX4_leave_133 rfl rf_cat ?_
            obtain ⟨a31, rfl, hk, h⟩ := h
            obtain ⟨j32, hi, hj, hN, h⟩ := h
            refine g_iald X hk hi hj hN dX4_leave_134 (fun v33 hv => ?_)
            replace h := h v33 hv; clear hv hk hi hj hN
            refine g_iload X dX4_leave_135 0 rfl ?_
            refine g_isub X dX4_leave_137 (fun v34 hv => ?_)
            replace h := h v34 hv; clear hv
            have hk := h.1
            replace h := h.2
            obtain ⟨j35, hi, hj, hN, h⟩ := h
            refine g_iast X hk hi hj hN dX4_leave_138 (fun w36 hv => ?_)
            replace h := h w36 hv; clear hv hk hi hj hN
            refine g_aload_n X dX4_leave_139 rfl 1 rfl ?_
            refine g_iload_n X dX4_leave_140 rfl 3 rfl ?_
            refine g_iload X dX4_leave_141 0 rfl ?_
            refine g_ineg X dX4_leave_143 (fun v37 hv => ?_)
            replace h := h v37 hv; clear hv
            have hk := h.1
            replace h := h.2
            refine g_callV_v X (As := [.int x2, .int v37]) (st := []) (n := 2) (c_X4_pays hst h) rfl (by decide) hk (wE_5 G w36 a0) m_1168 m_1170 m_24 m_34 m_1171 (by decide +kernel) (by decide +kernel) rfl rfl (Nat.zero_le _) ⟨(by decide +kernel), (by decide +kernel)⟩ dX4_leave_144 (fun w38 h => ?_)
            clear hk
            refine g_widen (c2 := (0)) (s2 := (0)) (by decide +kernel) (by decide +kernel) ?_
            refine g_aload_n X dX4_leave_147 rfl 1 rfl ?_
            refine g_iload_n X dX4_leave_148 rfl 2 rfl ?_
            refine g_iload_n X dX4_leave_149 rfl 4 rfl ?_
            have hk := h.1
            replace h := h.2
            refine g_callV_v X (As := [.int x1, .int v11]) (st := []) (n := 2) (c_X4_goes hst h) rfl (by decide) hk (wE_5 G w38 a0) m_1124 m_1126 m_18 m_34 m_1127 (by decide +kernel) (by decide +kernel) rfl rfl (Nat.zero_le _) ⟨(by decide +kernel), (by decide +kernel)⟩ dX4_leave_150 (fun w39 h => ?_)
            clear hk
            refine g_widen (c2 := (0)) (s2 := (0)) (by decide +kernel) (by decide +kernel) ?_
            refine g_iload X dX4_leave_153 0 rfl ?_
            exact g_iret X hr (by decide +kernel) (by decide +kernel) dX4_leave_155 h
          refine g_icmp_ge X (tgt := 120) dX4_leave_112 (by decide) (fun hc => ?_) (fun hc => ?_)
          · replace h := h.1 hc; clear hc
            refine g_aload_n X dX4_leave_120 rfl 1 rfl ?_
            have hk := h.1
            replace h := h.2
            refine gg_516 X hk m_1012 dX4_leave_121 (fun z40 hv => ?_)
            replace h := h z40 hv; clear hv hk
            refine g_iload_n X dX4_leave_124 rfl 2 rfl ?_
            obtain ⟨a41, rfl, hk, h⟩ := h
            obtain ⟨j42, hi, hj, hN, h⟩ := h
            refine g_iald X hk hi hj hN dX4_leave_125 (fun v43 hv => ?_)
            replace h := h v43 hv; clear hv hk hi hj hN
            exact g_sub [1, 2, 3, 4] [(0, .inr (some a0)), (1, .inl x1), (2, .inl x2), (3, .inl v11)] rfl (jp28 v43 h)
          · replace h := h.2 hc; clear hc
            refine g_iload X dX4_leave_115 0 rfl ?_
            refine g_goto X (tgt := 126) dX4_leave_117 (by decide) ?_
            exact g_sub [1, 2, 3, 4] [(0, .inr (some a0)), (1, .inl x1), (2, .inl x2), (3, .inl v11)] rfl (jp28 v23 h)
        · replace h := h.2 hc; clear hc
          refine g_iconst X (v := (0 : Int32)) dX4_leave_89 (by decide) ?_
          exact g_iret X hr (by decide +kernel) (by decide +kernel) dX4_leave_90 h
      obtain ⟨J44, hjJ44, h⟩ := h
      have jp44 : ∀ (q45 : Option Nat), J44 q45 → Gw l G L0 p e rm_X4_leave s m args below meth c 6 (0) (0) (MQ below (gQi G L0 Q) args s rm_X4_leave.cells rm_X4_leave.slots (GA L0)) w10 74 [(0, .inr (some a0)), (1, .inl x1), (2, .inl x2), (3, .inl v11)] [va_rf q45] := by
        intro q45 hJ
        have h := hjJ44 q45 hJ
        clear hJ
        refine g_iconst X (v := (2 : Int32)) dX4_leave_74 (by decide) ?_
        refine g_goto X (tgt := 79) dX4_leave_75 (by decide) ?_
        exact g_sub [0, 1, 2, 3] [(0, .inr (some a0)), (1, .inl x1), (2, .inl x2), (3, .inl v11)] rfl (jp12 q45 (2 : Int32) h)
      refine g_if_lt X (tgt := 74) dX4_leave_43 (by decide) (fun hc => ?_) (fun hc => ?_)
      · replace h := h.1 hc; clear hc
        exact g_sub [1, 2, 3, 0] [(0, .inr (some a0)), (1, .inl x1), (2, .inl x2), (3, .inl v11)] rfl (jp44 (some a0) h)
      · replace h := h.2 hc; clear hc
        refine g_aload_n X dX4_leave_46 rfl 1 rfl ?_
        have hk := h.1
        replace h := h.2
        refine gg_527 X hk m_1023 dX4_leave_47 (fun z46 hv => ?_)
        replace h := h z46 hv; clear hv hk
        refine g_bipush X (v := (10 : Int32)) dX4_leave_50 (by decide) ?_
        refine g_iload_n X dX4_leave_52 rfl 2 rfl ?_
        refine g_imul X dX4_leave_53 (fun v47 hv => ?_)
        replace h := h v47 hv; clear hv
        refine g_iload_n X dX4_leave_54 rfl 0 rfl ?_
        refine g_iadd X dX4_leave_55 (fun v48 hv => ?_)
        replace h := h v48 hv; clear hv
        obtain ⟨a49, rfl, hk, h⟩ := h
        obtain ⟨j50, hi, hj, hN, h⟩ := h
        refine g_zald X hk hi hj hN dX4_leave_56 (fun v51 hv => ?_)
        replace h := h v51 hv; clear hv hk hi hj hN
        refine g_if_ne X (tgt := 74) dX4_leave_57 (by decide) (fun hc => ?_) (fun hc => ?_)
        · replace h := h.1 hc; clear hc
          exact g_sub [1, 2, 3, 0] [(0, .inr (some a0)), (1, .inl x1), (2, .inl x2), (3, .inl v11)] rfl (jp44 (some a0) h)
        · replace h := h.2 hc; clear hc
          refine g_aload_n X dX4_leave_60 rfl 1 rfl ?_
          have hk := h.1
          replace h := h.2
          refine gg_522 X hk m_1018 dX4_leave_61 (fun z52 hv => ?_)
          replace h := h z52 hv; clear hv hk
          refine g_bipush X (v := (10 : Int32)) dX4_leave_64 (by decide) ?_
          refine g_iload_n X dX4_leave_66 rfl 2 rfl ?_
          refine g_imul X dX4_leave_67 (fun v53 hv => ?_)
          replace h := h v53 hv; clear hv
          refine g_iload_n X dX4_leave_68 rfl 0 rfl ?_
          refine g_iadd X dX4_leave_69 (fun v54 hv => ?_)
          replace h := h v54 hv; clear hv
          obtain ⟨a55, rfl, hk, h⟩ := h
          obtain ⟨j56, hi, hj, hN, h⟩ := h
          refine g_iald X hk hi hj hN dX4_leave_70 (fun v57 hv => ?_)
          replace h := h v57 hv; clear hv hk hi hj hN
          refine g_if_le X (tgt := 78) dX4_leave_71 (by decide) (fun hc => ?_) (fun hc => ?_)
          · replace h := h.1 hc; clear hc
            refine g_iconst X (v := (0 : Int32)) dX4_leave_78 (by decide) ?_
            exact g_sub [1, 2, 3, 0] [(0, .inr (some a0)), (1, .inl x1), (2, .inl x2), (3, .inl v11)] rfl (jp12 (some a0) (0 : Int32) h)
          · replace h := h.2 hc; clear hc
            exact g_sub [1, 2, 3, 0] [(0, .inr (some a0)), (1, .inl x1), (2, .inl x2), (3, .inl v11)] rfl (jp44 (some a0) h)
    · replace h := h.2 hc; clear hc
      refine g_iconst X (v := (0 : Int32)) dX4_leave_32 (by decide) ?_
      exact g_iret X hr (by decide +kernel) (by decide +kernel) dX4_leave_33 h
  obtain ⟨J58, hjJ58, h⟩ := h
  have jp58 : ∀ (q59 : Option Nat) (w60 : Wd), J58 q59 w60 → Gw l G L0 p e rm_X4_leave s m args below meth c 6 (0) (0) (MQ below (gQi G L0 Q) args s rm_X4_leave.cells rm_X4_leave.slots (GA L0)) w60 17 [(0, .inr (some a0)), (1, .inl x1), (2, .inl x2)] [va_rf q59] := by
    intro q59 w60 hJ
    have h := hjJ58 q59 w60 hJ
    clear hJ
    refine g_iconst X (v := (1 : Int32)) dX4_leave_17 (by decide) ?_
    refine g_goto X (tgt := 22) dX4_leave_18 (by decide) ?_
    exact g_sub [0, 1, 2] [(0, .inr (some a0)), (1, .inl x1), (2, .inl x2)] rfl (jp3 q59 (1 : Int32) w60 h)
  refine g_if_eq X (tgt := 17) dX4_leave_6 (by decide) (fun hc => ?_) (fun hc => ?_)
  · replace h := h.1 hc; clear hc
    exact g_sub [0, 1, 2] [(0, .inr (some a0)), (1, .inl x1), (2, .inl x2)] rfl (jp58 (some a0) w1 h)
  · replace h := h.2 hc; clear hc
    refine g_aload_n X dX4_leave_9 rfl 0 rfl ?_
    refine g_iload_n X dX4_leave_10 rfl 2 rfl ?_
    have hk := h.1
    replace h := h.2
    refine g_callV_i X (As := [.int x2]) (st := [va_rf (some a0)]) (n := 1) (c_X4_isOne hst h) rfl (by decide) hk (wE_5 G w1 a0) m_1107 m_1109 m_15 m_34 m_1110 (by decide +kernel) (by decide +kernel) rfl rfl (by simp [cat_int, rf_cat]) ⟨(by decide +kernel), (by decide +kernel)⟩ dX4_leave_11 (fun v62 w61 h => ?_)
    clear hk
    refine g_widen (c2 := (0)) (s2 := (0)) (by decide +kernel) (by decide +kernel) ?_
    refine g_if_ne X (tgt := 21) dX4_leave_14 (by decide) (fun hc => ?_) (fun hc => ?_)
    · replace h := h.1 hc; clear hc
      refine g_iconst X (v := (0 : Int32)) dX4_leave_21 (by decide) ?_
      exact g_sub [0, 1, 2] [(0, .inr (some a0)), (1, .inl x1), (2, .inl x2)] rfl (jp3 (some a0) (0 : Int32) w61 h)
    · replace h := h.2 hc; clear hc
      exact g_sub [0, 1, 2] [(0, .inr (some a0)), (1, .inl x1), (2, .inl x2)] rfl (jp58 (some a0) w61 h)

abbrev rm_X4_buy : Room := { frames := 8, cells := 0, slots := 0, locals := 143 }
def wp_X4_buy (a0 : Nat) (x1 : Int32) (x2 : Int32) (w : Wd) (Q : Int32 → Wd → Prop) : Prop :=
  w.K a0 = 5 ∧
  wp_X4_isOne a0 x1 w (fun v2 w1 => 
  (¬ v2 = 0 → wp_X4_in x2 (1 : Int32) (100 : Int32) w1 (fun v4 w3 => 
  ∃ J5 : Option Nat → Int32 → Prop, (∀ (q6 : Option Nat) (y7 : Int32), J5 q6 y7 →
  ∃ a8, q6 = some a8 ∧ w3.K a8 = 5 ∧
  ∀ w9 : Wd, w9 = w3.setI 500 a8 y7 →
  w9.K a0 = 5 ∧
  ∀ v10 : Int32, v10 = w9.I 500 a0 →
  (v10 = 0 → ∀ v11 : Int32, v11 = (10 : Int32) * x2 →
  w9.K a0 = 5 ∧
  wp_X4_pays a0 x1 v11 w9 (fun w12 => 
  w12.K a0 = 5 ∧
  ∀ v13 : Int32, v13 = w12.I 528 a0 →
  ∀ v14 : Int32, v14 = (10 : Int32) * x2 →
  ∀ v15 : Int32, v15 = v13 + v14 →
  w12.K a0 = 5 ∧
  ∀ w16 : Wd, w16 = w12.setI 528 a0 v15 →
  w16.K a0 = 5 ∧
  ∀ z17 : Option Nat, z17 = w16.R 505 a0 →
  ∃ a18, z17 = some a18 ∧ w16.K a18 = 11 ∧
  ∃ j19 : Nat, x1 = nI j19 ∧ j19 < w16.N a18 ∧ w16.N a18 < 2 ^ 31 ∧
  ∀ v20 : Int32, v20 = w16.A a18 j19 →
  ∀ v21 : Int32, v21 = v20 + x2 →
  w16.K a18 = 11 ∧
  ∃ j22 : Nat, x1 = nI j22 ∧ j22 < w16.N a18 ∧ w16.N a18 < 2 ^ 31 ∧
  ∀ w23 : Wd, w23 = w16.setA a18 j22 v21 →
  w23.K a0 = 5 ∧
  ∀ z24 : Option Nat, z24 = w23.R 505 a0 →
  ∃ a25, z24 = some a25 ∧ w23.K a25 = 11 ∧
  ∃ j26 : Nat, x1 = nI j26 ∧ j26 < w23.N a25 ∧ w23.N a25 < 2 ^ 31 ∧
  ∀ v27 : Int32, v27 = w23.A a25 j26 →
  Q v27 w23)) ∧ (¬ v10 = 0 → Q (0 : Int32) w9)) ∧
  (¬ v4 = 0 → w3.K a0 = 5 ∧
  ∀ z28 : Option Nat, z28 = w3.R 512 a0 →
  ∃ a29, z28 = some a29 ∧ w3.K a29 = 12 ∧
  ∃ j30 : Nat, x1 = nI j30 ∧ j30 < w3.N a29 ∧ w3.N a29 < 2 ^ 31 ∧
  ∀ v31 : Int32, v31 = w3.A a29 j30 →
  ∃ J32 : Option Nat → Prop, (∀ (q33 : Option Nat), J32 q33 →
  J5 q33 (3 : Int32)) ∧
  (¬ v31 = 0 → J32 (some a0)) ∧ (v31 = 0 → w3.K a0 = 5 ∧
  ∀ z34 : Option Nat, z34 = w3.R 505 a0 →
  ∃ a35, z34 = some a35 ∧ w3.K a35 = 11 ∧
  ∃ j36 : Nat, x1 = nI j36 ∧ j36 < w3.N a35 ∧ w3.N a35 < 2 ^ 31 ∧
  ∀ v37 : Int32, v37 = w3.A a35 j36 →
  ∀ v38 : Int32, v38 = v37 + x2 →
  ((100 : Int32) < v38 → J32 (some a0)) ∧ (¬ (100 : Int32) < v38 → w3.K a0 = 5 ∧
  ∀ z39 : Option Nat, z39 = w3.R 504 a0 →
  ∃ a40, z39 = some a40 ∧ w3.K a40 = 11 ∧
  ∃ j41 : Nat, x1 = nI j41 ∧ j41 < w3.N a40 ∧ w3.N a40 < 2 ^ 31 ∧
  ∀ v42 : Int32, v42 = w3.A a40 j41 →
  ∀ v43 : Int32, v43 = (10 : Int32) * x2 →
  (v43 ≤ v42 → J5 (some a0) (0 : Int32)) ∧ (¬ v43 ≤ v42 → J32 (some a0))))) ∧ (v4 = 0 → J5 (some a0) (2 : Int32)))) ∧ (v2 = 0 → w1.K a0 = 5 ∧
  ∀ w44 : Wd, w44 = w1.setI 500 a0 (1 : Int32) →
  Q (0 : Int32) w44))
set_option maxHeartbeats 4000000 in
set_option maxRecDepth 100000 in
theorem c_X4_buy {l : Launch} {G : GT} {L0 : Nat} (hst : l.stackTraces = false) {a0 : Nat} {x1 : Int32} {x2 : Int32} {w : Wd} {Q : Int32 → Wd → Prop} (h : wp_X4_buy a0 x1 x2 w Q) : GMi l G L0 yX4_buy cX4_buy 3 (some .int) rm_X4_buy [.ref a0, .int x1, .int x2] w Q := by
  refine g_enter hst (by decide +kernel) [.inr (some a0), .inl x1, .inl x2] rfl (show 3 ≤ 3 by decide) ?_
  intro p e s m args below meth c X hr hnm
  replace X : GC l G L0 p s m args meth c cX4_buy 3 "SusuRingModel" := X
  refine g_aload_n X dX4_buy_0 rfl 0 rfl ?_
  refine g_iload_n X dX4_buy_1 rfl 1 rfl ?_
  have hk := h.1
  replace h := h.2
  refine g_callV_i X (As := [.int x1]) (st := []) (n := 1) (c_X4_isOne hst h) rfl (by decide) hk (wE_5 G w a0) m_1107 m_1109 m_15 m_34 m_1110 (by decide +kernel) (by decide +kernel) rfl rfl (Nat.zero_le _) ⟨(by decide +kernel), (by decide +kernel)⟩ dX4_buy_2 (fun v2 w1 h => ?_)
  clear hk
  refine g_widen (c2 := (0)) (s2 := (0)) (by decide +kernel) (by decide +kernel) ?_
  refine g_if_ne X (tgt := 15) dX4_buy_5 (by decide) (fun hc => ?_) (fun hc => ?_)
  · replace h := h.1 hc; clear hc
    refine g_aload_n X dX4_buy_15 rfl 0 rfl ?_
    refine g_iload_n X dX4_buy_16 rfl 2 rfl ?_
    refine g_iconst X (v := (1 : Int32)) dX4_buy_17 (by decide) ?_
    refine g_bipush X (v := (100 : Int32)) dX4_buy_18 (by decide) ?_
    refine g_callS_i X (As := [.int x2, .int (1 : Int32), .int (100 : Int32)]) (st := [va_rf (some a0)]) (n := 3) (c_X4_in hst h) m_1099 m_1100 m_34 m_1101 (by decide +kernel) (by decide +kernel) rfl rfl (by simp [cat_int, rf_cat]) ⟨(by decide +kernel), (by decide +kernel)⟩ dX4_buy_20 (fun v4 w3 h => ?_)
    refine g_widen (c2 := (0)) (s2 := (0)) (by decide +kernel) (by decide +kernel) ?_
    obtain ⟨J5, hjJ5, h⟩ := h
    have jp5 : ∀ (q6 : Option Nat) (y7 : Int32), J5 q6 y7 → Gw l G L0 p e rm_X4_buy s m args below meth c 3 (0) (0) (MQ below (gQi G L0 Q) args s rm_X4_buy.cells rm_X4_buy.slots (GA L0)) w3 70 [(0, .inr (some a0)), (1, .inl x1), (2, .inl x2)] [.int y7, va_rf q6] := by
      intro q6 y7 hJ
      have h := hjJ5 q6 y7 hJ
      clear hJ
      obtain ⟨a8, rfl, hk, h⟩ := h
      refine gp_500 X hk m_996 dX4_buy_70 (fun w9 hv => ?_)
      replace h := h w9 hv; clear hv hk
      refine g_aload_n X dX4_buy_73 rfl 0 rfl ?_
      have hk := h.1
      replace h := h.2
      refine gg_500 X hk m_996 dX4_buy_74 (fun v10 hv => ?_)
      replace h := h v10 hv; clear hv hk
      refine g_if_eq X (tgt := 82) dX4_buy_77 (by decide) (fun hc => ?_) (fun hc => ?_)
      · replace h := h.1 hc; clear hc
        refine g_aload_n X dX4_buy_82 rfl 0 rfl ?_
        refine g_iload_n X dX4_buy_83 rfl 1 rfl ?_
        refine g_bipush X (v := (10 : Int32)) dX4_buy_84 (by decide) ?_
        refine g_iload_n X dX4_buy_86 rfl 2 rfl ?_
        refine g_imul X dX4_buy_87 (fun v11 hv => ?_)
        replace h := h v11 hv; clear hv
        have hk := h.1
        replace h := h.2
        refine g_callV_v X (As := [.int x1, .int v11]) (st := []) (n := 2) (c_X4_pays hst h) rfl (by decide) hk (wE_5 G w9 a0) m_1168 m_1170 m_24 m_34 m_1171 (by decide +kernel) (by decide +kernel) rfl rfl (Nat.zero_le _) ⟨(by decide +kernel), (by decide +kernel)⟩ dX4_buy_88 (fun w12 h => ?_)
        clear hk
        refine g_widen (c2 := (0)) (s2 := (0)) (by decide +kernel) (by decide +kernel) ?_
        refine g_aload_n X dX4_buy_91 rfl 0 rfl ?_
        refine g_dup X dX4_buy_92 rf_cat ?_
        have hk := h.1
        replace h := h.2
        refine gg_528 X hk m_1024 dX4_buy_93 (fun v13 hv => ?_)
        replace h := h v13 hv; clear hv hk
        refine g_bipush X (v := (10 : Int32)) dX4_buy_96 (by decide) ?_
        refine g_iload_n X dX4_buy_98 rfl 2 rfl ?_
        refine g_imul X dX4_buy_99 (fun v14 hv => ?_)
        replace h := h v14 hv; clear hv
        refine g_iadd X dX4_buy_100 (fun v15 hv => ?_)
        replace h := h v15 hv; clear hv
        have hk := h.1
        replace h := h.2
        refine gp_528 X hk m_1024 dX4_buy_101 (fun w16 hv => ?_)
        replace h := h w16 hv; clear hv hk
        refine g_aload_n X dX4_buy_104 rfl 0 rfl ?_
        have hk := h.1
        replace h := h.2
        refine gg_505 X hk m_1001 dX4_buy_105 (fun z17 hv => ?_)
        replace h := h z17 hv; clear hv hk
        refine g_iload_n X dX4_buy_108 rfl 1 rfl ?_
        refine g_dup2 X dX4_buy_109 rfl rf_cat ?_
        obtain ⟨a18, rfl, hk, h⟩ := h
        obtain ⟨j19, hi, hj, hN, h⟩ := h
        refine g_iald X hk hi hj hN dX4_buy_110 (fun v20 hv => ?_)
        replace h := h v20 hv; clear hv hk hi hj hN
        refine g_iload_n X dX4_buy_111 rfl 2 rfl ?_
        refine g_iadd X dX4_buy_112 (fun v21 hv => ?_)
        replace h := h v21 hv; clear hv
        have hk := h.1
        replace h := h.2
        obtain ⟨j22, hi, hj, hN, h⟩ := h
        refine g_iast X hk hi hj hN dX4_buy_113 (fun w23 hv => ?_)
        replace h := h w23 hv; clear hv hk hi hj hN
        refine g_aload_n X dX4_buy_114 rfl 0 rfl ?_
        have hk := h.1
        replace h := h.2
        refine gg_505 X hk m_1001 dX4_buy_115 (fun z24 hv => ?_)
        replace h := h z24 hv; clear hv hk
        refine g_iload_n X dX4_buy_118 rfl 1 rfl ?_
        obtain ⟨a25, rfl, hk, h⟩ := h
        obtain ⟨j26, hi, hj, hN, h⟩ := h
        refine g_iald X hk hi hj hN dX4_buy_119 (fun v27 hv => ?_)
        replace h := h v27 hv; clear hv hk hi hj hN
        exact g_iret X hr (by decide +kernel) (by decide +kernel) dX4_buy_120 h
      · replace h := h.2 hc; clear hc
        refine g_iconst X (v := (0 : Int32)) dX4_buy_80 (by decide) ?_
        exact g_iret X hr (by decide +kernel) (by decide +kernel) dX4_buy_81 h
    refine g_if_ne X (tgt := 30) dX4_buy_23 (by decide) (fun hc => ?_) (fun hc => ?_)
    · replace h := h.1 hc; clear hc
      refine g_aload_n X dX4_buy_30 rfl 0 rfl ?_
      have hk := h.1
      replace h := h.2
      refine gg_512 X hk m_1008 dX4_buy_31 (fun z28 hv => ?_)
      replace h := h z28 hv; clear hv hk
      refine g_iload_n X dX4_buy_34 rfl 1 rfl ?_
      obtain ⟨a29, rfl, hk, h⟩ := h
      obtain ⟨j30, hi, hj, hN, h⟩ := h
      refine g_zald X hk hi hj hN dX4_buy_35 (fun v31 hv => ?_)
      replace h := h v31 hv; clear hv hk hi hj hN
      obtain ⟨J32, hjJ32, h⟩ := h
      have jp32 : ∀ (q33 : Option Nat), J32 q33 → Gw l G L0 p e rm_X4_buy s m args below meth c 3 (0) (0) (MQ below (gQi G L0 Q) args s rm_X4_buy.cells rm_X4_buy.slots (GA L0)) w3 65 [(0, .inr (some a0)), (1, .inl x1), (2, .inl x2)] [va_rf q33] := by
        intro q33 hJ
        have h := hjJ32 q33 hJ
        clear hJ
        refine g_iconst X (v := (3 : Int32)) dX4_buy_65 (by decide) ?_
        refine g_goto X (tgt := 70) dX4_buy_66 (by decide) ?_
        exact g_sub [0, 1, 2] [(0, .inr (some a0)), (1, .inl x1), (2, .inl x2)] rfl (jp5 q33 (3 : Int32) h)
      refine g_if_ne X (tgt := 65) dX4_buy_36 (by decide) (fun hc => ?_) (fun hc => ?_)
      · replace h := h.1 hc; clear hc
        exact g_sub [0, 1, 2] [(0, .inr (some a0)), (1, .inl x1), (2, .inl x2)] rfl (jp32 (some a0) h)
      · replace h := h.2 hc; clear hc
        refine g_aload_n X dX4_buy_39 rfl 0 rfl ?_
        have hk := h.1
        replace h := h.2
        refine gg_505 X hk m_1001 dX4_buy_40 (fun z34 hv => ?_)
        replace h := h z34 hv; clear hv hk
        refine g_iload_n X dX4_buy_43 rfl 1 rfl ?_
        obtain ⟨a35, rfl, hk, h⟩ := h
        obtain ⟨j36, hi, hj, hN, h⟩ := h
        refine g_iald X hk hi hj hN dX4_buy_44 (fun v37 hv => ?_)
        replace h := h v37 hv; clear hv hk hi hj hN
        refine g_iload_n X dX4_buy_45 rfl 2 rfl ?_
        refine g_iadd X dX4_buy_46 (fun v38 hv => ?_)
        replace h := h v38 hv; clear hv
        refine g_bipush X (v := (100 : Int32)) dX4_buy_47 (by decide) ?_
        refine g_icmp_gt X (tgt := 65) dX4_buy_49 (by decide) (fun hc => ?_) (fun hc => ?_)
        · replace h := h.1 hc; clear hc
          exact g_sub [0, 1, 2] [(0, .inr (some a0)), (1, .inl x1), (2, .inl x2)] rfl (jp32 (some a0) h)
        · replace h := h.2 hc; clear hc
          refine g_aload_n X dX4_buy_52 rfl 0 rfl ?_
          have hk := h.1
          replace h := h.2
          refine gg_504 X hk m_1000 dX4_buy_53 (fun z39 hv => ?_)
          replace h := h z39 hv; clear hv hk
          refine g_iload_n X dX4_buy_56 rfl 1 rfl ?_
          obtain ⟨a40, rfl, hk, h⟩ := h
          obtain ⟨j41, hi, hj, hN, h⟩ := h
          refine g_iald X hk hi hj hN dX4_buy_57 (fun v42 hv => ?_)
          replace h := h v42 hv; clear hv hk hi hj hN
          refine g_bipush X (v := (10 : Int32)) dX4_buy_58 (by decide) ?_
          refine g_iload_n X dX4_buy_60 rfl 2 rfl ?_
          refine g_imul X dX4_buy_61 (fun v43 hv => ?_)
          replace h := h v43 hv; clear hv
          refine g_icmp_ge X (tgt := 69) dX4_buy_62 (by decide) (fun hc => ?_) (fun hc => ?_)
          · replace h := h.1 hc; clear hc
            refine g_iconst X (v := (0 : Int32)) dX4_buy_69 (by decide) ?_
            exact g_sub [0, 1, 2] [(0, .inr (some a0)), (1, .inl x1), (2, .inl x2)] rfl (jp5 (some a0) (0 : Int32) h)
          · replace h := h.2 hc; clear hc
            exact g_sub [0, 1, 2] [(0, .inr (some a0)), (1, .inl x1), (2, .inl x2)] rfl (jp32 (some a0) h)
    · replace h := h.2 hc; clear hc
      refine g_iconst X (v := (2 : Int32)) dX4_buy_26 (by decide) ?_
      refine g_goto X (tgt := 70) dX4_buy_27 (by decide) ?_
      exact g_sub [0, 1, 2] [(0, .inr (some a0)), (1, .inl x1), (2, .inl x2)] rfl (jp5 (some a0) (2 : Int32) h)
  · replace h := h.2 hc; clear hc
    refine g_aload_n X dX4_buy_8 rfl 0 rfl ?_
    refine g_iconst X (v := (1 : Int32)) dX4_buy_9 (by decide) ?_
    have hk := h.1
    replace h := h.2
    refine gp_500 X hk m_996 dX4_buy_10 (fun w44 hv => ?_)
    replace h := h w44 hv; clear hv hk
    refine g_iconst X (v := (0 : Int32)) dX4_buy_13 (by decide) ?_
    exact g_iret X hr (by decide +kernel) (by decide +kernel) dX4_buy_14 h

abbrev rm_X4_house : Room := { frames := 7, cells := 0, slots := 0, locals := 125 }
def wp_X4_house (a0 : Nat) (x1 : Int32) (x2 : Int32) (w : Wd) (Q : Int32 → Wd → Prop) : Prop :=
  ∃ Inv2 : Nat → Int32 → Int32 → Wd → Prop, (∃ n : Nat, Inv2 n (0 : Int32) (0 : Int32) w) ∧ ∀ (n1 : Nat) (y3 : Int32) (y4 : Int32) (w5 : Wd), Inv2 n1 y3 y4 w5 →
  w5.K a0 = 5 ∧
  ∀ v6 : Int32, v6 = w5.I 501 a0 →
  (v6 ≤ y4 → Q y3 w5) ∧ (¬ v6 ≤ y4 → w5.K a0 = 5 ∧
  ∀ z7 : Option Nat, z7 = w5.R 512 a0 →
  ∃ a8, z7 = some a8 ∧ w5.K a8 = 12 ∧
  ∃ j9 : Nat, y4 = nI j9 ∧ j9 < w5.N a8 ∧ w5.N a8 < 2 ^ 31 ∧
  ∀ v10 : Int32, v10 = w5.A a8 j9 →
  ∃ J11 : Int32 → Int32 → Wd → Prop, (∀ (y12 : Int32) (y13 : Int32) (w14 : Wd), J11 y12 y13 w14 →
  ∀ v15 : Int32, v15 = y12 + y13 →
  ∀ v16 : Int32, v16 = y4 + (1 : Int32) →
  ∃ n : Nat, n < n1 ∧ Inv2 n v15 v16 w14) ∧
  ∃ J17 : Int32 → Wd → Prop, (∀ (y18 : Int32) (w19 : Wd), J17 y18 w19 →
  J11 y18 (0 : Int32) w19) ∧
  (¬ v10 = 0 → J17 y3 w5) ∧ (v10 = 0 → w5.K a0 = 5 ∧
  ∀ z20 : Option Nat, z20 = w5.R 503 a0 →
  ∃ a21, z20 = some a21 ∧ w5.K a21 = 11 ∧
  ∃ j22 : Nat, x1 = nI j22 ∧ j22 < w5.N a21 ∧ w5.N a21 < 2 ^ 31 ∧
  ∀ v23 : Int32, v23 = w5.A a21 j22 →
  w5.K a0 = 5 ∧
  ∀ z24 : Option Nat, z24 = w5.R 503 a0 →
  ∃ a25, z24 = some a25 ∧ w5.K a25 = 11 ∧
  ∃ j26 : Nat, y4 = nI j26 ∧ j26 < w5.N a25 ∧ w5.N a25 < 2 ^ 31 ∧
  ∀ v27 : Int32, v27 = w5.A a25 j26 →
  wp_X4_areAlike v23 v27 w5 (fun v29 w28 => 
  (v29 = 0 → J17 y3 w28) ∧ (¬ v29 = 0 → (x2 = 0 → J11 y3 (1 : Int32) w28) ∧ (¬ x2 = 0 → w28.K a0 = 5 ∧
  ∀ z30 : Option Nat, z30 = w28.R 506 a0 →
  ∃ a31, z30 = some a31 ∧ w28.K a31 = 11 ∧
  ∃ j32 : Nat, y4 = nI j32 ∧ j32 < w28.N a31 ∧ w28.N a31 < 2 ^ 31 ∧
  ∀ v33 : Int32, v33 = w28.A a31 j32 →
  J11 y3 v33 w28)))))
set_option maxHeartbeats 4000000 in
set_option maxRecDepth 100000 in
theorem c_X4_house {l : Launch} {G : GT} {L0 : Nat} (hst : l.stackTraces = false) {a0 : Nat} {x1 : Int32} {x2 : Int32} {w : Wd} {Q : Int32 → Wd → Prop} (h : wp_X4_house a0 x1 x2 w Q) : GMi l G L0 yX4_house cX4_house 5 (some .int) rm_X4_house [.ref a0, .int x1, .int x2] w Q := by
  refine g_enter hst (by decide +kernel) [.inr (some a0), .inl x1, .inl x2] rfl (show 3 ≤ 5 by decide) ?_
  intro p e s m args below meth c X hr hnm
  replace X : GC l G L0 p s m args meth c cX4_house 5 "SusuRingModel" := X
  refine g_iconst X (v := (0 : Int32)) dX4_house_0 (by decide) ?_
  refine g_istore_n X [(3, .inl (0 : Int32)), (0, .inr (some a0)), (1, .inl x1), (2, .inl x2)] dX4_house_1 rfl (by decide) rfl ?_
  refine g_iconst X (v := (0 : Int32)) dX4_house_2 (by decide) ?_
  refine g_istore X [(4, .inl (0 : Int32)), (3, .inl (0 : Int32)), (0, .inr (some a0)), (1, .inl x1), (2, .inl x2)] dX4_house_3 (by decide) rfl ?_
  obtain ⟨Inv2, ⟨n0, hi⟩, hsn1⟩ := h
  have lp2 : ∀ (n1 : Nat), ∀ (y3 : Int32) (y4 : Int32) (w5 : Wd), Inv2 n1 y3 y4 w5 → Gw l G L0 p e rm_X4_house s m args below meth c 5 (0) (0) (MQ below (gQi G L0 Q) args s rm_X4_house.cells rm_X4_house.slots (GA L0)) w5 5 [(0, .inr (some a0)), (1, .inl x1), (2, .inl x2), (3, .inl y3), (4, .inl y4)] [] := by
    intro n1
    induction n1 using Nat.strongRecOn with
    | ind n1 ihn1 =>
      intro y3 y4 w5 hI
      have h := hsn1 n1 y3 y4 w5 hI
      clear hI
      refine g_iload X dX4_house_5 4 rfl ?_
      refine g_aload_n X dX4_house_7 rfl 0 rfl ?_
      have hk := h.1
      replace h := h.2
      refine gg_501 X hk m_997 dX4_house_8 (fun v6 hv => ?_)
      replace h := h v6 hv; clear hv hk
      refine g_icmp_ge X (tgt := 71) dX4_house_11 (by decide) (fun hc => ?_) (fun hc => ?_)
      · replace h := h.1 hc; clear hc
        refine g_iload_n X dX4_house_71 rfl 3 rfl ?_
        exact g_iret X hr (by decide +kernel) (by decide +kernel) dX4_house_72 h
      · replace h := h.2 hc; clear hc
        refine g_iload_n X dX4_house_14 rfl 3 rfl ?_
        refine g_aload_n X dX4_house_15 rfl 0 rfl ?_
        have hk := h.1
        replace h := h.2
        refine gg_512 X hk m_1008 dX4_house_16 (fun z7 hv => ?_)
        replace h := h z7 hv; clear hv hk
        refine g_iload X dX4_house_19 4 rfl ?_
        obtain ⟨a8, rfl, hk, h⟩ := h
        obtain ⟨j9, hi, hj, hN, h⟩ := h
        refine g_zald X hk hi hj hN dX4_house_21 (fun v10 hv => ?_)
        replace h := h v10 hv; clear hv hk hi hj hN
        obtain ⟨J11, hjJ11, h⟩ := h
        have jp11 : ∀ (y12 : Int32) (y13 : Int32) (w14 : Wd), J11 y12 y13 w14 → Gw l G L0 p e rm_X4_house s m args below meth c 5 (0) (0) (MQ below (gQi G L0 Q) args s rm_X4_house.cells rm_X4_house.slots (GA L0)) w14 63 [(0, .inr (some a0)), (1, .inl x1), (2, .inl x2), (4, .inl y4)] [.int y13, .int y12] := by
          intro y12 y13 w14 hJ
          have h := hjJ11 y12 y13 w14 hJ
          clear hJ
          refine g_iadd X dX4_house_63 (fun v15 hv => ?_)
          replace h := h v15 hv; clear hv
          refine g_istore_n X [(3, .inl v15), (0, .inr (some a0)), (1, .inl x1), (2, .inl x2), (4, .inl y4)] dX4_house_64 rfl (by decide) rfl ?_
          refine g_iinc X dX4_house_65 4 rfl (d := (1 : Int32)) (by decide) (by decide) (fun v16 hv => ?_)
          replace h := h v16 hv; clear hv
          refine g_sub [0, 1, 2, 3, 4] [(4, .inl v16), (3, .inl v15), (0, .inr (some a0)), (1, .inl x1), (2, .inl x2)] rfl ?_
          refine g_goto X (tgt := 5) dX4_house_68 (by decide) ?_
          obtain ⟨n, hn, hI⟩ := h
          exact g_sub [2, 3, 4, 1, 0] [(0, .inr (some a0)), (1, .inl x1), (2, .inl x2), (3, .inl v15), (4, .inl v16)] rfl (ihn1 n hn v15 v16 w14 hI)
        obtain ⟨J17, hjJ17, h⟩ := h
        have jp17 : ∀ (y18 : Int32) (w19 : Wd), J17 y18 w19 → Gw l G L0 p e rm_X4_house s m args below meth c 5 (0) (0) (MQ below (gQi G L0 Q) args s rm_X4_house.cells rm_X4_house.slots (GA L0)) w19 62 [(0, .inr (some a0)), (1, .inl x1), (2, .inl x2), (4, .inl y4)] [.int y18] := by
          intro y18 w19 hJ
          have h := hjJ17 y18 w19 hJ
          clear hJ
          refine g_iconst X (v := (0 : Int32)) dX4_house_62 (by decide) ?_
          exact g_sub [0, 1, 2, 3] [(0, .inr (some a0)), (1, .inl x1), (2, .inl x2), (4, .inl y4)] rfl (jp11 y18 (0 : Int32) w19 h)
        refine g_if_ne X (tgt := 62) dX4_house_22 (by decide) (fun hc => ?_) (fun hc => ?_)
        · replace h := h.1 hc; clear hc
          exact g_sub [0, 1, 2, 4] [(0, .inr (some a0)), (1, .inl x1), (2, .inl x2), (4, .inl y4)] rfl (jp17 y3 w5 h)
        · replace h := h.2 hc; clear hc
          refine g_aload_n X dX4_house_25 rfl 0 rfl ?_
          have hk := h.1
          replace h := h.2
          refine gg_503 X hk m_999 dX4_house_26 (fun z20 hv => ?_)
          replace h := h z20 hv; clear hv hk
          refine g_iload_n X dX4_house_29 rfl 1 rfl ?_
          obtain ⟨a21, rfl, hk, h⟩ := h
          obtain ⟨j22, hi, hj, hN, h⟩ := h
          refine g_iald X hk hi hj hN dX4_house_30 (fun v23 hv => ?_)
          replace h := h v23 hv; clear hv hk hi hj hN
          refine g_aload_n X dX4_house_31 rfl 0 rfl ?_
          have hk := h.1
          replace h := h.2
          refine gg_503 X hk m_999 dX4_house_32 (fun z24 hv => ?_)
          replace h := h z24 hv; clear hv hk
          refine g_iload X dX4_house_35 4 rfl ?_
          obtain ⟨a25, rfl, hk, h⟩ := h
          obtain ⟨j26, hi, hj, hN, h⟩ := h
          refine g_iald X hk hi hj hN dX4_house_37 (fun v27 hv => ?_)
          replace h := h v27 hv; clear hv hk hi hj hN
          refine g_callS_i X (As := [.int v23, .int v27]) (st := [.int y3]) (n := 2) (c_X4_areAlike hst h) m_1196 m_1197 m_34 m_1198 (by decide +kernel) (by decide +kernel) rfl rfl (by simp [cat_int, rf_cat]) ⟨(by decide +kernel), (by decide +kernel)⟩ dX4_house_38 (fun v29 w28 h => ?_)
          refine g_widen (c2 := (0)) (s2 := (0)) (by decide +kernel) (by decide +kernel) ?_
          refine g_if_eq X (tgt := 62) dX4_house_41 (by decide) (fun hc => ?_) (fun hc => ?_)
          · replace h := h.1 hc; clear hc
            exact g_sub [0, 1, 2, 4] [(0, .inr (some a0)), (1, .inl x1), (2, .inl x2), (4, .inl y4)] rfl (jp17 y3 w28 h)
          · replace h := h.2 hc; clear hc
            refine g_iload_n X dX4_house_44 rfl 2 rfl ?_
            refine g_if_eq X (tgt := 58) dX4_house_45 (by decide) (fun hc => ?_) (fun hc => ?_)
            · replace h := h.1 hc; clear hc
              refine g_iconst X (v := (1 : Int32)) dX4_house_58 (by decide) ?_
              refine g_goto X (tgt := 63) dX4_house_59 (by decide) ?_
              exact g_sub [0, 1, 2, 4] [(0, .inr (some a0)), (1, .inl x1), (2, .inl x2), (4, .inl y4)] rfl (jp11 y3 (1 : Int32) w28 h)
            · replace h := h.2 hc; clear hc
              refine g_aload_n X dX4_house_48 rfl 0 rfl ?_
              have hk := h.1
              replace h := h.2
              refine gg_506 X hk m_1002 dX4_house_49 (fun z30 hv => ?_)
              replace h := h z30 hv; clear hv hk
              refine g_iload X dX4_house_52 4 rfl ?_
              obtain ⟨a31, rfl, hk, h⟩ := h
              obtain ⟨j32, hi, hj, hN, h⟩ := h
              refine g_iald X hk hi hj hN dX4_house_54 (fun v33 hv => ?_)
              replace h := h v33 hv; clear hv hk hi hj hN
              refine g_goto X (tgt := 63) dX4_house_55 (by decide) ?_
              exact g_sub [0, 1, 2, 4] [(0, .inr (some a0)), (1, .inl x1), (2, .inl x2), (4, .inl y4)] rfl (jp11 y3 v33 w28 h)
  exact g_sub [2, 3, 4, 1, 0] [(0, .inr (some a0)), (1, .inl x1), (2, .inl x2), (3, .inl (0 : Int32)), (4, .inl (0 : Int32))] rfl (lp2 n0 (0 : Int32) (0 : Int32) w hi)

abbrev rm_X4_has : Room := { frames := 6, cells := 0, slots := 0, locals := 100 }
def wp_X4_has (a0 : Nat) (x1 : Int32) (w : Wd) (Q : Int32 → Wd → Prop) : Prop :=
  w.K a0 = 5 ∧
  ∀ z1 : Option Nat, z1 = w.R 512 a0 →
  ∃ a2, z1 = some a2 ∧ w.K a2 = 12 ∧
  ∃ j3 : Nat, x1 = nI j3 ∧ j3 < w.N a2 ∧ w.N a2 < 2 ^ 31 ∧
  ∀ v4 : Int32, v4 = w.A a2 j3 →
  ∃ J5 : Int32 → Prop, (∀ (y6 : Int32), J5 y6 →
  (y6 = 0 ∨ y6 = 1) ∧ Q y6 w) ∧
  ∃ J7 : Prop, (J7 →
  J5 (0 : Int32)) ∧
  (¬ v4 = 0 → J7) ∧ (v4 = 0 → w.K a0 = 5 ∧
  ∀ z8 : Option Nat, z8 = w.R 505 a0 →
  ∃ a9, z8 = some a9 ∧ w.K a9 = 11 ∧
  ∃ j10 : Nat, x1 = nI j10 ∧ j10 < w.N a9 ∧ w.N a9 < 2 ^ 31 ∧
  ∀ v11 : Int32, v11 = w.A a9 j10 →
  (v11 ≤ 0 → J7) ∧ (¬ v11 ≤ 0 → J5 (1 : Int32)))
set_option maxHeartbeats 4000000 in
set_option maxRecDepth 100000 in
theorem c_X4_has {l : Launch} {G : GT} {L0 : Nat} (hst : l.stackTraces = false) {a0 : Nat} {x1 : Int32} {w : Wd} {Q : Int32 → Wd → Prop} (h : wp_X4_has a0 x1 w Q) : GMi l G L0 yX4_has cX4_has 2 (some .boolean) rm_X4_has [.ref a0, .int x1] w Q := by
  refine g_enter hst (by decide +kernel) [.inr (some a0), .inl x1] rfl (show 2 ≤ 2 by decide) ?_
  intro p e s m args below meth c X hr hnm
  replace X : GC l G L0 p s m args meth c cX4_has 2 "SusuRingModel" := X
  refine g_aload_n X dX4_has_0 rfl 0 rfl ?_
  have hk := h.1
  replace h := h.2
  refine gg_512 X hk m_1008 dX4_has_1 (fun z1 hv => ?_)
  replace h := h z1 hv; clear hv hk
  refine g_iload_n X dX4_has_4 rfl 1 rfl ?_
  obtain ⟨a2, rfl, hk, h⟩ := h
  obtain ⟨j3, hi, hj, hN, h⟩ := h
  refine g_zald X hk hi hj hN dX4_has_5 (fun v4 hv => ?_)
  replace h := h v4 hv; clear hv hk hi hj hN
  obtain ⟨J5, hjJ5, h⟩ := h
  have jp5 : ∀ (y6 : Int32), J5 y6 → Gw l G L0 p e rm_X4_has s m args below meth c 2 (0) (0) (MQ below (gQi G L0 Q) args s rm_X4_has.cells rm_X4_has.slots (GA L0)) w 23 [] [.int y6] := by
    intro y6 hJ
    have h := hjJ5 y6 hJ
    clear hJ
    exact g_zret X hr (by decide +kernel) (by decide +kernel) dX4_has_23 h.1 h.2
  obtain ⟨J7, hjJ7, h⟩ := h
  have jp7 : J7 → Gw l G L0 p e rm_X4_has s m args below meth c 2 (0) (0) (MQ below (gQi G L0 Q) args s rm_X4_has.cells rm_X4_has.slots (GA L0)) w 22 [] [] := by
    intro hJ
    have h := hjJ7 hJ
    clear hJ
    refine g_iconst X (v := (0 : Int32)) dX4_has_22 (by decide) ?_
    exact g_sub [] [] rfl (jp5 (0 : Int32) h)
  refine g_if_ne X (tgt := 22) dX4_has_6 (by decide) (fun hc => ?_) (fun hc => ?_)
  · replace h := h.1 hc; clear hc
    exact g_sub [] [] rfl (jp7  h)
  · replace h := h.2 hc; clear hc
    refine g_aload_n X dX4_has_9 rfl 0 rfl ?_
    have hk := h.1
    replace h := h.2
    refine gg_505 X hk m_1001 dX4_has_10 (fun z8 hv => ?_)
    replace h := h z8 hv; clear hv hk
    refine g_iload_n X dX4_has_13 rfl 1 rfl ?_
    obtain ⟨a9, rfl, hk, h⟩ := h
    obtain ⟨j10, hi, hj, hN, h⟩ := h
    refine g_iald X hk hi hj hN dX4_has_14 (fun v11 hv => ?_)
    replace h := h v11 hv; clear hv hk hi hj hN
    refine g_if_le X (tgt := 22) dX4_has_15 (by decide) (fun hc => ?_) (fun hc => ?_)
    · replace h := h.1 hc; clear hc
      exact g_sub [] [] rfl (jp7  h)
    · replace h := h.2 hc; clear hc
      refine g_iconst X (v := (1 : Int32)) dX4_has_18 (by decide) ?_
      refine g_goto X (tgt := 23) dX4_has_19 (by decide) ?_
      exact g_sub [] [] rfl (jp5 (1 : Int32) h)

abbrev rm_X4_borrow : Room := { frames := 8, cells := 0, slots := 0, locals := 149 }
def wp_X4_borrow (a0 : Nat) (x1 : Int32) (x2 : Int32) (x3 : Int32) (x4 : Int32) (w : Wd) (Q : Int32 → Wd → Prop) : Prop :=
  w.K a0 = 5 ∧
  wp_X4_isOne a0 x1 w (fun v2 w1 => 
  ∃ J3 : Option Nat → Int32 → Wd → Prop, (∀ (q4 : Option Nat) (y5 : Int32) (w6 : Wd), J3 q4 y5 w6 →
  ∃ a7, q4 = some a7 ∧ w6.K a7 = 5 ∧
  ∀ w8 : Wd, w8 = w6.setI 500 a7 y5 →
  w8.K a0 = 5 ∧
  ∀ v9 : Int32, v9 = w8.I 500 a0 →
  (v9 = 0 → w8.K a0 = 5 ∧
  wp_X4_has a0 x1 w8 (fun v11 w10 => 
  ∃ J12 : Int32 → Wd → Prop, (∀ (y13 : Int32) (w14 : Wd), J12 y13 w14 →
  ∃ J15 : Option Nat → Int32 → Wd → Prop, (∀ (q16 : Option Nat) (y17 : Int32) (w18 : Wd), J15 q16 y17 w18 →
  ∃ a19, q16 = some a19 ∧ w18.K a19 = 5 ∧
  ∀ w20 : Wd, w20 = w18.setI 500 a19 y17 →
  w20.K a0 = 5 ∧
  ∀ v21 : Int32, v21 = w20.I 500 a0 →
  (v21 = 0 → ∀ v22 : Int32, v22 = -x2 →
  w20.K a0 = 5 ∧
  wp_X4_pays a0 x1 v22 w20 (fun w23 => 
  w23.K a0 = 5 ∧
  ∀ v24 : Int32, v24 = w23.I 528 a0 →
  ∀ v25 : Int32, v25 = v24 - x2 →
  w23.K a0 = 5 ∧
  ∀ w26 : Wd, w26 = w23.setI 528 a0 v25 →
  w26.K a0 = 5 ∧
  ∀ z27 : Option Nat, z27 = w26.R 506 a0 →
  ∃ a28, z27 = some a28 ∧ w26.K a28 = 11 ∧
  ∃ j29 : Nat, x1 = nI j29 ∧ j29 < w26.N a28 ∧ w26.N a28 < 2 ^ 31 ∧
  ∀ w30 : Wd, w30 = w26.setA a28 j29 x2 →
  w30.K a0 = 5 ∧
  ∀ z31 : Option Nat, z31 = w30.R 507 a0 →
  ∃ a32, z31 = some a32 ∧ w30.K a32 = 11 ∧
  ∃ j33 : Nat, x1 = nI j33 ∧ j33 < w30.N a32 ∧ w30.N a32 < 2 ^ 31 ∧
  ∀ w34 : Wd, w34 = w30.setA a32 j33 (0 : Int32) →
  w34.K a0 = 5 ∧
  ∀ z35 : Option Nat, z35 = w34.R 508 a0 →
  ∃ a36, z35 = some a36 ∧ w34.K a36 = 11 ∧
  ∃ j37 : Nat, x1 = nI j37 ∧ j37 < w34.N a36 ∧ w34.N a36 < 2 ^ 31 ∧
  ∀ w38 : Wd, w38 = w34.setA a36 j37 x3 →
  w38.K a0 = 5 ∧
  ∀ z39 : Option Nat, z39 = w38.R 509 a0 →
  ∃ a40, z39 = some a40 ∧ w38.K a40 = 11 ∧
  ∃ j41 : Nat, x1 = nI j41 ∧ j41 < w38.N a40 ∧ w38.N a40 < 2 ^ 31 ∧
  ∀ w42 : Wd, w42 = w38.setA a40 j41 x4 →
  w42.K a0 = 5 ∧
  ∀ z43 : Option Nat, z43 = w42.R 504 a0 →
  ∃ a44, z43 = some a44 ∧ w42.K a44 = 11 ∧
  ∃ j45 : Nat, x1 = nI j45 ∧ j45 < w42.N a44 ∧ w42.N a44 < 2 ^ 31 ∧
  ∀ v46 : Int32, v46 = w42.A a44 j45 →
  Q v46 w42)) ∧ (¬ v21 = 0 → Q (0 : Int32) w20)) ∧
  ∃ J47 : Option Nat → Wd → Prop, (∀ (q48 : Option Nat) (w49 : Wd), J47 q48 w49 →
  J15 q48 (3 : Int32) w49) ∧
  (y13 = 0 → J47 (some a0) w14) ∧ (¬ y13 = 0 → w14.K a0 = 5 ∧
  ∀ z50 : Option Nat, z50 = w14.R 510 a0 →
  ∃ a51, z50 = some a51 ∧ w14.K a51 = 11 ∧
  ∃ j52 : Nat, x1 = nI j52 ∧ j52 < w14.N a51 ∧ w14.N a51 < 2 ^ 31 ∧
  ∀ v53 : Int32, v53 = w14.A a51 j52 →
  ∀ v54 : Int32, v54 = (1 : Int32) + v53 →
  ∀ v55 : Int32, v55 = (50 : Int32) * v54 →
  (v55 < x2 → J47 (some a0) w14) ∧ (¬ v55 < x2 → w14.K a0 = 5 ∧
  wp_X4_house a0 x1 (1 : Int32) w14 (fun v57 w56 => 
  ∀ v58 : Int32, v58 = v57 + x2 →
  ((500 : Int32) < v58 → J47 (some a0) w56) ∧ (¬ (500 : Int32) < v58 → w56.K a0 = 5 ∧
  ∀ v59 : Int32, v59 = w56.I 528 a0 →
  (x2 ≤ v59 → J15 (some a0) (0 : Int32) w56) ∧ (¬ x2 ≤ v59 → J47 (some a0) w56)))))) ∧
  ∃ J60 : Wd → Prop, (∀  (w61 : Wd), J60 w61 →
  J12 (0 : Int32) w61) ∧
  (v11 = 0 → J60 w10) ∧ (¬ v11 = 0 → w10.K a0 = 5 ∧
  wp_X4_has a0 x3 w10 (fun v63 w62 => 
  (v63 = 0 → J60 w62) ∧ (¬ v63 = 0 → w62.K a0 = 5 ∧
  wp_X4_has a0 x4 w62 (fun v65 w64 => 
  (v65 = 0 → J60 w64) ∧ (¬ v65 = 0 → w64.K a0 = 5 ∧
  ∀ z66 : Option Nat, z66 = w64.R 506 a0 →
  ∃ a67, z66 = some a67 ∧ w64.K a67 = 11 ∧
  ∃ j68 : Nat, x1 = nI j68 ∧ j68 < w64.N a67 ∧ w64.N a67 < 2 ^ 31 ∧
  ∀ v69 : Int32, v69 = w64.A a67 j68 →
  (¬ v69 = 0 → J60 w64) ∧ (v69 = 0 → J12 (1 : Int32) w64)))))))) ∧ (¬ v9 = 0 → Q (0 : Int32) w8)) ∧
  ∃ J70 : Option Nat → Wd → Prop, (∀ (q71 : Option Nat) (w72 : Wd), J70 q71 w72 →
  J3 q71 (1 : Int32) w72) ∧
  (v2 = 0 → J70 (some a0) w1) ∧ (¬ v2 = 0 → w1.K a0 = 5 ∧
  wp_X4_isOne a0 x3 w1 (fun v74 w73 => 
  (v74 = 0 → J70 (some a0) w73) ∧ (¬ v74 = 0 → w73.K a0 = 5 ∧
  wp_X4_isOne a0 x4 w73 (fun v76 w75 => 
  (¬ v76 = 0 → ∃ J77 : Option Nat → Wd → Prop, (∀ (q78 : Option Nat) (w79 : Wd), J77 q78 w79 →
  J3 q78 (2 : Int32) w79) ∧
  (x1 = x3 → J77 (some a0) w75) ∧ (¬ x1 = x3 → (x1 = x4 → J77 (some a0) w75) ∧ (¬ x1 = x4 → (x3 = x4 → J77 (some a0) w75) ∧ (¬ x3 = x4 → wp_X4_in x2 (1 : Int32) (1000 : Int32) w75 (fun v81 w80 => 
  (¬ v81 = 0 → J3 (some a0) (0 : Int32) w80) ∧ (v81 = 0 → J77 (some a0) w80)))))) ∧ (v76 = 0 → J70 (some a0) w75))))))
set_option maxHeartbeats 4000000 in
set_option maxRecDepth 100000 in
theorem c_X4_borrow {l : Launch} {G : GT} {L0 : Nat} (hst : l.stackTraces = false) {a0 : Nat} {x1 : Int32} {x2 : Int32} {x3 : Int32} {x4 : Int32} {w : Wd} {Q : Int32 → Wd → Prop} (h : wp_X4_borrow a0 x1 x2 x3 x4 w Q) : GMi l G L0 yX4_borrow cX4_borrow 6 (some .int) rm_X4_borrow [.ref a0, .int x1, .int x2, .int x3, .int x4] w Q := by
  refine g_enter hst (by decide +kernel) [.inr (some a0), .inl x1, .inl x2, .inl x3, .inl x4] rfl (show 5 ≤ 6 by decide) ?_
  intro p e s m args below meth c X hr hnm
  replace X : GC l G L0 p s m args meth c cX4_borrow 6 "SusuRingModel" := X
  refine g_aload_n X dX4_borrow_0 rfl 0 rfl ?_
  refine g_aload_n X dX4_borrow_1 rfl 0 rfl ?_
  refine g_iload_n X dX4_borrow_2 rfl 1 rfl ?_
  have hk := h.1
  replace h := h.2
  refine g_callV_i X (As := [.int x1]) (st := [va_rf (some a0)]) (n := 1) (c_X4_isOne hst h) rfl (by decide) hk (wE_5 G w a0) m_1107 m_1109 m_15 m_34 m_1110 (by decide +kernel) (by decide +kernel) rfl rfl (by simp [cat_int, rf_cat]) ⟨(by decide +kernel), (by decide +kernel)⟩ dX4_borrow_3 (fun v2 w1 h => ?_)
  clear hk
  refine g_widen (c2 := (0)) (s2 := (0)) (by decide +kernel) (by decide +kernel) ?_
  obtain ⟨J3, hjJ3, h⟩ := h
  have jp3 : ∀ (q4 : Option Nat) (y5 : Int32) (w6 : Wd), J3 q4 y5 w6 → Gw l G L0 p e rm_X4_borrow s m args below meth c 6 (0) (0) (MQ below (gQi G L0 Q) args s rm_X4_borrow.cells rm_X4_borrow.slots (GA L0)) w6 63 [(0, .inr (some a0)), (1, .inl x1), (2, .inl x2), (3, .inl x3), (4, .inl x4)] [.int y5, va_rf q4] := by
    intro q4 y5 w6 hJ
    have h := hjJ3 q4 y5 w6 hJ
    clear hJ
    obtain ⟨a7, rfl, hk, h⟩ := h
    refine gp_500 X hk m_996 dX4_borrow_63 (fun w8 hv => ?_)
    replace h := h w8 hv; clear hv hk
    refine g_aload_n X dX4_borrow_66 rfl 0 rfl ?_
    have hk := h.1
    replace h := h.2
    refine gg_500 X hk m_996 dX4_borrow_67 (fun v9 hv => ?_)
    replace h := h v9 hv; clear hv hk
    refine g_if_eq X (tgt := 75) dX4_borrow_70 (by decide) (fun hc => ?_) (fun hc => ?_)
    · replace h := h.1 hc; clear hc
      refine g_aload_n X dX4_borrow_75 rfl 0 rfl ?_
      refine g_iload_n X dX4_borrow_76 rfl 1 rfl ?_
      have hk := h.1
      replace h := h.2
      refine g_callV_i X (As := [.int x1]) (st := []) (n := 1) (c_X4_has hst h) rfl (by decide) hk (wE_5 G w8 a0) m_1188 m_1190 m_26 m_34 m_1191 (by decide +kernel) (by decide +kernel) rfl rfl (Nat.zero_le _) ⟨(by decide +kernel), (by decide +kernel)⟩ dX4_borrow_77 (fun v11 w10 h => ?_)
      clear hk
      refine g_widen (c2 := (0)) (s2 := (0)) (by decide +kernel) (by decide +kernel) ?_
      obtain ⟨J12, hjJ12, h⟩ := h
      have jp12 : ∀ (y13 : Int32) (w14 : Wd), J12 y13 w14 → Gw l G L0 p e rm_X4_borrow s m args below meth c 6 (0) (0) (MQ below (gQi G L0 Q) args s rm_X4_borrow.cells rm_X4_borrow.slots (GA L0)) w14 114 [(0, .inr (some a0)), (1, .inl x1), (2, .inl x2), (3, .inl x3), (4, .inl x4)] [.int y13] := by
        intro y13 w14 hJ
        have h := hjJ12 y13 w14 hJ
        clear hJ
        refine g_istore X [(5, .inl y13), (0, .inr (some a0)), (1, .inl x1), (2, .inl x2), (3, .inl x3), (4, .inl x4)] dX4_borrow_114 (by decide) rfl ?_
        refine g_aload_n X dX4_borrow_116 rfl 1 rfl ?_
        refine g_iload X dX4_borrow_117 0 rfl ?_
        obtain ⟨J15, hjJ15, h⟩ := h
        have jp15 : ∀ (q16 : Option Nat) (y17 : Int32) (w18 : Wd), J15 q16 y17 w18 → Gw l G L0 p e rm_X4_borrow s m args below meth c 6 (0) (0) (MQ below (gQi G L0 Q) args s rm_X4_borrow.cells rm_X4_borrow.slots (GA L0)) w18 164 [(0, .inr (some a0)), (1, .inl x1), (2, .inl x2), (3, .inl x3), (4, .inl x4)] [.int y17, va_rf q16] := by
          intro q16 y17 w18 hJ
          have h := hjJ15 q16 y17 w18 hJ
          clear hJ
          obtain ⟨a19, rfl, hk, h⟩ := h
          refine gp_500 X hk m_996 dX4_borrow_164 (fun w20 hv => ?_)
          replace h := h w20 hv; clear hv hk
          refine g_aload_n X dX4_borrow_167 rfl 0 rfl ?_
          have hk := h.1
          replace h := h.2
          refine gg_500 X hk m_996 dX4_borrow_168 (fun v21 hv => ?_)
          replace h := h v21 hv; clear hv hk
          refine g_if_eq X (tgt := 176) dX4_borrow_171 (by decide) (fun hc => ?_) (fun hc => ?_)
          · replace h := h.1 hc; clear hc
            refine g_aload_n X dX4_borrow_176 rfl 0 rfl ?_
            refine g_iload_n X dX4_borrow_177 rfl 1 rfl ?_
            refine g_iload_n X dX4_borrow_178 rfl 2 rfl ?_
            refine g_ineg X dX4_borrow_179 (fun v22 hv => ?_)
            replace h := h v22 hv; clear hv
            have hk := h.1
            replace h := h.2
            refine g_callV_v X (As := [.int x1, .int v22]) (st := []) (n := 2) (c_X4_pays hst h) rfl (by decide) hk (wE_5 G w20 a0) m_1168 m_1170 m_24 m_34 m_1171 (by decide +kernel) (by decide +kernel) rfl rfl (Nat.zero_le _) ⟨(by decide +kernel), (by decide +kernel)⟩ dX4_borrow_180 (fun w23 h => ?_)
            clear hk
            refine g_widen (c2 := (0)) (s2 := (0)) (by decide +kernel) (by decide +kernel) ?_
            refine g_aload_n X dX4_borrow_183 rfl 0 rfl ?_
            refine g_dup X dX4_borrow_184 rf_cat ?_
            have hk := h.1
            replace h := h.2
            refine gg_528 X hk m_1024 dX4_borrow_185 (fun v24 hv => ?_)
            replace h := h v24 hv; clear hv hk
            refine g_iload_n X dX4_borrow_188 rfl 2 rfl ?_
            refine g_isub X dX4_borrow_189 (fun v25 hv => ?_)
            replace h := h v25 hv; clear hv
            have hk := h.1
            replace h := h.2
            refine gp_528 X hk m_1024 dX4_borrow_190 (fun w26 hv => ?_)
            replace h := h w26 hv; clear hv hk
            refine g_aload_n X dX4_borrow_193 rfl 0 rfl ?_
            have hk := h.1
            replace h := h.2
            refine gg_506 X hk m_1002 dX4_borrow_194 (fun z27 hv => ?_)
            replace h := h z27 hv; clear hv hk
            refine g_iload_n X dX4_borrow_197 rfl 1 rfl ?_
            refine g_iload_n X dX4_borrow_198 rfl 2 rfl ?_
            obtain ⟨a28, rfl, hk, h⟩ := h
            obtain ⟨j29, hi, hj, hN, h⟩ := h
            refine g_iast X hk hi hj hN dX4_borrow_199 (fun w30 hv => ?_)
            replace h := h w30 hv; clear hv hk hi hj hN
            refine g_aload_n X dX4_borrow_200 rfl 0 rfl ?_
            have hk := h.1
            replace h := h.2
            refine gg_507 X hk m_1003 dX4_borrow_201 (fun z31 hv => ?_)
            replace h := h z31 hv; clear hv hk
            refine g_iload_n X dX4_borrow_204 rfl 1 rfl ?_
            refine g_iconst X (v := (0 : Int32)) dX4_borrow_205 (by decide) ?_
            obtain ⟨a32, rfl, hk, h⟩ := h
            obtain ⟨j33, hi, hj, hN, h⟩ := h
            refine g_iast X hk hi hj hN dX4_borrow_206 (fun w34 hv => ?_)
            replace h := h w34 hv; clear hv hk hi hj hN
            refine g_aload_n X dX4_borrow_207 rfl 0 rfl ?_
            have hk := h.1
            replace h := h.2
            refine gg_508 X hk m_1004 dX4_borrow_208 (fun z35 hv => ?_)
            replace h := h z35 hv; clear hv hk
            refine g_iload_n X dX4_borrow_211 rfl 1 rfl ?_
            refine g_iload_n X dX4_borrow_212 rfl 3 rfl ?_
            obtain ⟨a36, rfl, hk, h⟩ := h
            obtain ⟨j37, hi, hj, hN, h⟩ := h
            refine g_iast X hk hi hj hN dX4_borrow_213 (fun w38 hv => ?_)
            replace h := h w38 hv; clear hv hk hi hj hN
            refine g_aload_n X dX4_borrow_214 rfl 0 rfl ?_
            have hk := h.1
            replace h := h.2
            refine gg_509 X hk m_1005 dX4_borrow_215 (fun z39 hv => ?_)
            replace h := h z39 hv; clear hv hk
            refine g_iload_n X dX4_borrow_218 rfl 1 rfl ?_
            refine g_iload X dX4_borrow_219 4 rfl ?_
            obtain ⟨a40, rfl, hk, h⟩ := h
            obtain ⟨j41, hi, hj, hN, h⟩ := h
            refine g_iast X hk hi hj hN dX4_borrow_221 (fun w42 hv => ?_)
            replace h := h w42 hv; clear hv hk hi hj hN
            refine g_aload_n X dX4_borrow_222 rfl 0 rfl ?_
            have hk := h.1
            replace h := h.2
            refine gg_504 X hk m_1000 dX4_borrow_223 (fun z43 hv => ?_)
            replace h := h z43 hv; clear hv hk
            refine g_iload_n X dX4_borrow_226 rfl 1 rfl ?_
            obtain ⟨a44, rfl, hk, h⟩ := h
            obtain ⟨j45, hi, hj, hN, h⟩ := h
            refine g_iald X hk hi hj hN dX4_borrow_227 (fun v46 hv => ?_)
            replace h := h v46 hv; clear hv hk hi hj hN
            exact g_iret X hr (by decide +kernel) (by decide +kernel) dX4_borrow_228 h
          · replace h := h.2 hc; clear hc
            refine g_iconst X (v := (0 : Int32)) dX4_borrow_174 (by decide) ?_
            exact g_iret X hr (by decide +kernel) (by decide +kernel) dX4_borrow_175 h
        obtain ⟨J47, hjJ47, h⟩ := h
        have jp47 : ∀ (q48 : Option Nat) (w49 : Wd), J47 q48 w49 → Gw l G L0 p e rm_X4_borrow s m args below meth c 6 (0) (0) (MQ below (gQi G L0 Q) args s rm_X4_borrow.cells rm_X4_borrow.slots (GA L0)) w49 159 [(0, .inr (some a0)), (1, .inl x1), (2, .inl x2), (3, .inl x3), (4, .inl x4)] [va_rf q48] := by
          intro q48 w49 hJ
          have h := hjJ47 q48 w49 hJ
          clear hJ
          refine g_iconst X (v := (3 : Int32)) dX4_borrow_159 (by decide) ?_
          refine g_goto X (tgt := 164) dX4_borrow_160 (by decide) ?_
          exact g_sub [0, 1, 2, 3, 4] [(0, .inr (some a0)), (1, .inl x1), (2, .inl x2), (3, .inl x3), (4, .inl x4)] rfl (jp15 q48 (3 : Int32) w49 h)
        refine g_if_eq X (tgt := 159) dX4_borrow_119 (by decide) (fun hc => ?_) (fun hc => ?_)
        · replace h := h.1 hc; clear hc
          exact g_sub [1, 2, 3, 4, 5] [(0, .inr (some a0)), (1, .inl x1), (2, .inl x2), (3, .inl x3), (4, .inl x4)] rfl (jp47 (some a0) w14 h)
        · replace h := h.2 hc; clear hc
          refine g_iload_n X dX4_borrow_122 rfl 3 rfl ?_
          refine g_bipush X (v := (50 : Int32)) dX4_borrow_123 (by decide) ?_
          refine g_iconst X (v := (1 : Int32)) dX4_borrow_125 (by decide) ?_
          refine g_aload_n X dX4_borrow_126 rfl 1 rfl ?_
          have hk := h.1
          replace h := h.2
          refine gg_510 X hk m_1006 dX4_borrow_127 (fun z50 hv => ?_)
          replace h := h z50 hv; clear hv hk
          refine g_iload_n X dX4_borrow_130 rfl 2 rfl ?_
          obtain ⟨a51, rfl, hk, h⟩ := h
          obtain ⟨j52, hi, hj, hN, h⟩ := h
          refine g_iald X hk hi hj hN dX4_borrow_131 (fun v53 hv => ?_)
          replace h := h v53 hv; clear hv hk hi hj hN
          refine g_iadd X dX4_borrow_132 (fun v54 hv => ?_)
          replace h := h v54 hv; clear hv
          refine g_imul X dX4_borrow_133 (fun v55 hv => ?_)
          replace h := h v55 hv; clear hv
          refine g_icmp_gt X (tgt := 159) dX4_borrow_134 (by decide) (fun hc => ?_) (fun hc => ?_)
          · replace h := h.1 hc; clear hc
            exact g_sub [1, 2, 3, 4, 5] [(0, .inr (some a0)), (1, .inl x1), (2, .inl x2), (3, .inl x3), (4, .inl x4)] rfl (jp47 (some a0) w14 h)
          · replace h := h.2 hc; clear hc
            refine g_aload_n X dX4_borrow_137 rfl 1 rfl ?_
            refine g_iload_n X dX4_borrow_138 rfl 2 rfl ?_
            refine g_iconst X (v := (1 : Int32)) dX4_borrow_139 (by decide) ?_
            have hk := h.1
            replace h := h.2
            refine g_callV_i X (As := [.int x1, .int (1 : Int32)]) (st := [va_rf (some a0)]) (n := 2) (c_X4_house hst h) rfl (by decide) hk (wE_5 G w14 a0) m_1192 m_1194 m_27 m_34 m_1195 (by decide +kernel) (by decide +kernel) rfl rfl (by simp [cat_int, rf_cat]) ⟨(by decide +kernel), (by decide +kernel)⟩ dX4_borrow_140 (fun v57 w56 h => ?_)
            clear hk
            refine g_widen (c2 := (0)) (s2 := (0)) (by decide +kernel) (by decide +kernel) ?_
            refine g_iload_n X dX4_borrow_143 rfl 3 rfl ?_
            refine g_iadd X dX4_borrow_144 (fun v58 hv => ?_)
            replace h := h v58 hv; clear hv
            refine g_sipush X (v := (500 : Int32)) dX4_borrow_145 (by decide) ?_
            refine g_icmp_gt X (tgt := 159) dX4_borrow_148 (by decide) (fun hc => ?_) (fun hc => ?_)
            · replace h := h.1 hc; clear hc
              exact g_sub [1, 2, 3, 4, 5] [(0, .inr (some a0)), (1, .inl x1), (2, .inl x2), (3, .inl x3), (4, .inl x4)] rfl (jp47 (some a0) w56 h)
            · replace h := h.2 hc; clear hc
              refine g_aload_n X dX4_borrow_151 rfl 1 rfl ?_
              have hk := h.1
              replace h := h.2
              refine gg_528 X hk m_1024 dX4_borrow_152 (fun v59 hv => ?_)
              replace h := h v59 hv; clear hv hk
              refine g_iload_n X dX4_borrow_155 rfl 3 rfl ?_
              refine g_icmp_ge X (tgt := 163) dX4_borrow_156 (by decide) (fun hc => ?_) (fun hc => ?_)
              · replace h := h.1 hc; clear hc
                refine g_iconst X (v := (0 : Int32)) dX4_borrow_163 (by decide) ?_
                exact g_sub [1, 2, 3, 4, 5] [(0, .inr (some a0)), (1, .inl x1), (2, .inl x2), (3, .inl x3), (4, .inl x4)] rfl (jp15 (some a0) (0 : Int32) w56 h)
              · replace h := h.2 hc; clear hc
                exact g_sub [1, 2, 3, 4, 5] [(0, .inr (some a0)), (1, .inl x1), (2, .inl x2), (3, .inl x3), (4, .inl x4)] rfl (jp47 (some a0) w56 h)
      obtain ⟨J60, hjJ60, h⟩ := h
      have jp60 : ∀  (w61 : Wd), J60 w61 → Gw l G L0 p e rm_X4_borrow s m args below meth c 6 (0) (0) (MQ below (gQi G L0 Q) args s rm_X4_borrow.cells rm_X4_borrow.slots (GA L0)) w61 113 [(0, .inr (some a0)), (1, .inl x1), (2, .inl x2), (3, .inl x3), (4, .inl x4)] [] := by
        intro w61 hJ
        have h := hjJ60 w61 hJ
        clear hJ
        refine g_iconst X (v := (0 : Int32)) dX4_borrow_113 (by decide) ?_
        exact g_sub [0, 1, 2, 3, 4] [(0, .inr (some a0)), (1, .inl x1), (2, .inl x2), (3, .inl x3), (4, .inl x4)] rfl (jp12 (0 : Int32) w61 h)
      refine g_if_eq X (tgt := 113) dX4_borrow_80 (by decide) (fun hc => ?_) (fun hc => ?_)
      · replace h := h.1 hc; clear hc
        exact g_sub [0, 1, 2, 3, 4] [(0, .inr (some a0)), (1, .inl x1), (2, .inl x2), (3, .inl x3), (4, .inl x4)] rfl (jp60 w10 h)
      · replace h := h.2 hc; clear hc
        refine g_aload_n X dX4_borrow_83 rfl 0 rfl ?_
        refine g_iload_n X dX4_borrow_84 rfl 3 rfl ?_
        have hk := h.1
        replace h := h.2
        refine g_callV_i X (As := [.int x3]) (st := []) (n := 1) (c_X4_has hst h) rfl (by decide) hk (wE_5 G w10 a0) m_1188 m_1190 m_26 m_34 m_1191 (by decide +kernel) (by decide +kernel) rfl rfl (Nat.zero_le _) ⟨(by decide +kernel), (by decide +kernel)⟩ dX4_borrow_85 (fun v63 w62 h => ?_)
        clear hk
        refine g_widen (c2 := (0)) (s2 := (0)) (by decide +kernel) (by decide +kernel) ?_
        refine g_if_eq X (tgt := 113) dX4_borrow_88 (by decide) (fun hc => ?_) (fun hc => ?_)
        · replace h := h.1 hc; clear hc
          exact g_sub [0, 1, 2, 3, 4] [(0, .inr (some a0)), (1, .inl x1), (2, .inl x2), (3, .inl x3), (4, .inl x4)] rfl (jp60 w62 h)
        · replace h := h.2 hc; clear hc
          refine g_aload_n X dX4_borrow_91 rfl 0 rfl ?_
          refine g_iload X dX4_borrow_92 4 rfl ?_
          have hk := h.1
          replace h := h.2
          refine g_callV_i X (As := [.int x4]) (st := []) (n := 1) (c_X4_has hst h) rfl (by decide) hk (wE_5 G w62 a0) m_1188 m_1190 m_26 m_34 m_1191 (by decide +kernel) (by decide +kernel) rfl rfl (Nat.zero_le _) ⟨(by decide +kernel), (by decide +kernel)⟩ dX4_borrow_94 (fun v65 w64 h => ?_)
          clear hk
          refine g_widen (c2 := (0)) (s2 := (0)) (by decide +kernel) (by decide +kernel) ?_
          refine g_if_eq X (tgt := 113) dX4_borrow_97 (by decide) (fun hc => ?_) (fun hc => ?_)
          · replace h := h.1 hc; clear hc
            exact g_sub [0, 1, 2, 3, 4] [(0, .inr (some a0)), (1, .inl x1), (2, .inl x2), (3, .inl x3), (4, .inl x4)] rfl (jp60 w64 h)
          · replace h := h.2 hc; clear hc
            refine g_aload_n X dX4_borrow_100 rfl 0 rfl ?_
            have hk := h.1
            replace h := h.2
            refine gg_506 X hk m_1002 dX4_borrow_101 (fun z66 hv => ?_)
            replace h := h z66 hv; clear hv hk
            refine g_iload_n X dX4_borrow_104 rfl 1 rfl ?_
            obtain ⟨a67, rfl, hk, h⟩ := h
            obtain ⟨j68, hi, hj, hN, h⟩ := h
            refine g_iald X hk hi hj hN dX4_borrow_105 (fun v69 hv => ?_)
            replace h := h v69 hv; clear hv hk hi hj hN
            refine g_if_ne X (tgt := 113) dX4_borrow_106 (by decide) (fun hc => ?_) (fun hc => ?_)
            · replace h := h.1 hc; clear hc
              exact g_sub [0, 1, 2, 3, 4] [(0, .inr (some a0)), (1, .inl x1), (2, .inl x2), (3, .inl x3), (4, .inl x4)] rfl (jp60 w64 h)
            · replace h := h.2 hc; clear hc
              refine g_iconst X (v := (1 : Int32)) dX4_borrow_109 (by decide) ?_
              refine g_goto X (tgt := 114) dX4_borrow_110 (by decide) ?_
              exact g_sub [0, 1, 2, 3, 4] [(0, .inr (some a0)), (1, .inl x1), (2, .inl x2), (3, .inl x3), (4, .inl x4)] rfl (jp12 (1 : Int32) w64 h)
    · replace h := h.2 hc; clear hc
      refine g_iconst X (v := (0 : Int32)) dX4_borrow_73 (by decide) ?_
      exact g_iret X hr (by decide +kernel) (by decide +kernel) dX4_borrow_74 h
  obtain ⟨J70, hjJ70, h⟩ := h
  have jp70 : ∀ (q71 : Option Nat) (w72 : Wd), J70 q71 w72 → Gw l G L0 p e rm_X4_borrow s m args below meth c 6 (0) (0) (MQ below (gQi G L0 Q) args s rm_X4_borrow.cells rm_X4_borrow.slots (GA L0)) w72 26 [(0, .inr (some a0)), (1, .inl x1), (2, .inl x2), (3, .inl x3), (4, .inl x4)] [va_rf q71] := by
    intro q71 w72 hJ
    have h := hjJ70 q71 w72 hJ
    clear hJ
    refine g_iconst X (v := (1 : Int32)) dX4_borrow_26 (by decide) ?_
    refine g_goto X (tgt := 63) dX4_borrow_27 (by decide) ?_
    exact g_sub [0, 1, 2, 3, 4] [(0, .inr (some a0)), (1, .inl x1), (2, .inl x2), (3, .inl x3), (4, .inl x4)] rfl (jp3 q71 (1 : Int32) w72 h)
  refine g_if_eq X (tgt := 26) dX4_borrow_6 (by decide) (fun hc => ?_) (fun hc => ?_)
  · replace h := h.1 hc; clear hc
    exact g_sub [0, 1, 2, 3, 4] [(0, .inr (some a0)), (1, .inl x1), (2, .inl x2), (3, .inl x3), (4, .inl x4)] rfl (jp70 (some a0) w1 h)
  · replace h := h.2 hc; clear hc
    refine g_aload_n X dX4_borrow_9 rfl 0 rfl ?_
    refine g_iload_n X dX4_borrow_10 rfl 3 rfl ?_
    have hk := h.1
    replace h := h.2
    refine g_callV_i X (As := [.int x3]) (st := [va_rf (some a0)]) (n := 1) (c_X4_isOne hst h) rfl (by decide) hk (wE_5 G w1 a0) m_1107 m_1109 m_15 m_34 m_1110 (by decide +kernel) (by decide +kernel) rfl rfl (by simp [cat_int, rf_cat]) ⟨(by decide +kernel), (by decide +kernel)⟩ dX4_borrow_11 (fun v74 w73 h => ?_)
    clear hk
    refine g_widen (c2 := (0)) (s2 := (0)) (by decide +kernel) (by decide +kernel) ?_
    refine g_if_eq X (tgt := 26) dX4_borrow_14 (by decide) (fun hc => ?_) (fun hc => ?_)
    · replace h := h.1 hc; clear hc
      exact g_sub [0, 1, 2, 3, 4] [(0, .inr (some a0)), (1, .inl x1), (2, .inl x2), (3, .inl x3), (4, .inl x4)] rfl (jp70 (some a0) w73 h)
    · replace h := h.2 hc; clear hc
      refine g_aload_n X dX4_borrow_17 rfl 0 rfl ?_
      refine g_iload X dX4_borrow_18 4 rfl ?_
      have hk := h.1
      replace h := h.2
      refine g_callV_i X (As := [.int x4]) (st := [va_rf (some a0)]) (n := 1) (c_X4_isOne hst h) rfl (by decide) hk (wE_5 G w73 a0) m_1107 m_1109 m_15 m_34 m_1110 (by decide +kernel) (by decide +kernel) rfl rfl (by simp [cat_int, rf_cat]) ⟨(by decide +kernel), (by decide +kernel)⟩ dX4_borrow_20 (fun v76 w75 h => ?_)
      clear hk
      refine g_widen (c2 := (0)) (s2 := (0)) (by decide +kernel) (by decide +kernel) ?_
      refine g_if_ne X (tgt := 30) dX4_borrow_23 (by decide) (fun hc => ?_) (fun hc => ?_)
      · replace h := h.1 hc; clear hc
        refine g_iload_n X dX4_borrow_30 rfl 1 rfl ?_
        refine g_iload_n X dX4_borrow_31 rfl 3 rfl ?_
        obtain ⟨J77, hjJ77, h⟩ := h
        have jp77 : ∀ (q78 : Option Nat) (w79 : Wd), J77 q78 w79 → Gw l G L0 p e rm_X4_borrow s m args below meth c 6 (0) (0) (MQ below (gQi G L0 Q) args s rm_X4_borrow.cells rm_X4_borrow.slots (GA L0)) w79 58 [(0, .inr (some a0)), (1, .inl x1), (2, .inl x2), (3, .inl x3), (4, .inl x4)] [va_rf q78] := by
          intro q78 w79 hJ
          have h := hjJ77 q78 w79 hJ
          clear hJ
          refine g_iconst X (v := (2 : Int32)) dX4_borrow_58 (by decide) ?_
          refine g_goto X (tgt := 63) dX4_borrow_59 (by decide) ?_
          exact g_sub [0, 1, 2, 3, 4] [(0, .inr (some a0)), (1, .inl x1), (2, .inl x2), (3, .inl x3), (4, .inl x4)] rfl (jp3 q78 (2 : Int32) w79 h)
        refine g_icmp_eq X (tgt := 58) dX4_borrow_32 (by decide) (fun hc => ?_) (fun hc => ?_)
        · replace h := h.1 hc; clear hc
          exact g_sub [0, 1, 2, 3, 4] [(0, .inr (some a0)), (1, .inl x1), (2, .inl x2), (3, .inl x3), (4, .inl x4)] rfl (jp77 (some a0) w75 h)
        · replace h := h.2 hc; clear hc
          refine g_iload_n X dX4_borrow_35 rfl 1 rfl ?_
          refine g_iload X dX4_borrow_36 4 rfl ?_
          refine g_icmp_eq X (tgt := 58) dX4_borrow_38 (by decide) (fun hc => ?_) (fun hc => ?_)
          · replace h := h.1 hc; clear hc
            exact g_sub [0, 1, 2, 3, 4] [(0, .inr (some a0)), (1, .inl x1), (2, .inl x2), (3, .inl x3), (4, .inl x4)] rfl (jp77 (some a0) w75 h)
          · replace h := h.2 hc; clear hc
            refine g_iload_n X dX4_borrow_41 rfl 3 rfl ?_
            refine g_iload X dX4_borrow_42 4 rfl ?_
            refine g_icmp_eq X (tgt := 58) dX4_borrow_44 (by decide) (fun hc => ?_) (fun hc => ?_)
            · replace h := h.1 hc; clear hc
              exact g_sub [0, 1, 2, 3, 4] [(0, .inr (some a0)), (1, .inl x1), (2, .inl x2), (3, .inl x3), (4, .inl x4)] rfl (jp77 (some a0) w75 h)
            · replace h := h.2 hc; clear hc
              refine g_iload_n X dX4_borrow_47 rfl 2 rfl ?_
              refine g_iconst X (v := (1 : Int32)) dX4_borrow_48 (by decide) ?_
              refine g_sipush X (v := (1000 : Int32)) dX4_borrow_49 (by decide) ?_
              refine g_callS_i X (As := [.int x2, .int (1 : Int32), .int (1000 : Int32)]) (st := [va_rf (some a0)]) (n := 3) (c_X4_in hst h) m_1099 m_1100 m_34 m_1101 (by decide +kernel) (by decide +kernel) rfl rfl (by simp [cat_int, rf_cat]) ⟨(by decide +kernel), (by decide +kernel)⟩ dX4_borrow_52 (fun v81 w80 h => ?_)
              refine g_widen (c2 := (0)) (s2 := (0)) (by decide +kernel) (by decide +kernel) ?_
              refine g_if_ne X (tgt := 62) dX4_borrow_55 (by decide) (fun hc => ?_) (fun hc => ?_)
              · replace h := h.1 hc; clear hc
                refine g_iconst X (v := (0 : Int32)) dX4_borrow_62 (by decide) ?_
                exact g_sub [0, 1, 2, 3, 4] [(0, .inr (some a0)), (1, .inl x1), (2, .inl x2), (3, .inl x3), (4, .inl x4)] rfl (jp3 (some a0) (0 : Int32) w80 h)
              · replace h := h.2 hc; clear hc
                exact g_sub [0, 1, 2, 3, 4] [(0, .inr (some a0)), (1, .inl x1), (2, .inl x2), (3, .inl x3), (4, .inl x4)] rfl (jp77 (some a0) w80 h)
      · replace h := h.2 hc; clear hc
        exact g_sub [0, 1, 2, 3, 4] [(0, .inr (some a0)), (1, .inl x1), (2, .inl x2), (3, .inl x3), (4, .inl x4)] rfl (jp70 (some a0) w75 h)

abbrev rm_X4_repay : Room := { frames := 8, cells := 0, slots := 0, locals := 143 }
def wp_X4_repay (a0 : Nat) (x1 : Int32) (x2 : Int32) (w : Wd) (Q : Int32 → Wd → Prop) : Prop :=
  w.K a0 = 5 ∧
  wp_X4_isOne a0 x1 w (fun v2 w1 => 
  (¬ v2 = 0 → w1.K a0 = 5 ∧
  ∀ z3 : Option Nat, z3 = w1.R 506 a0 →
  ∃ a4, z3 = some a4 ∧ w1.K a4 = 11 ∧
  ∃ j5 : Nat, x1 = nI j5 ∧ j5 < w1.N a4 ∧ w1.N a4 < 2 ^ 31 ∧
  ∀ v6 : Int32, v6 = w1.A a4 j5 →
  ∃ J7 : Int32 → Prop, (∀ (y8 : Int32), J7 y8 →
  wp_X4_in x2 (1 : Int32) (10000 : Int32) w1 (fun v10 w9 => 
  ∃ J11 : Option Nat → Int32 → Prop, (∀ (q12 : Option Nat) (y13 : Int32), J11 q12 y13 →
  ∃ a14, q12 = some a14 ∧ w9.K a14 = 5 ∧
  ∀ w15 : Wd, w15 = w9.setI 500 a14 y13 →
  w15.K a0 = 5 ∧
  ∀ v16 : Int32, v16 = w15.I 500 a0 →
  (v16 = 0 → w15.K a0 = 5 ∧
  wp_X4_pays a0 x1 y8 w15 (fun w17 => 
  w17.K a0 = 5 ∧
  ∀ v18 : Int32, v18 = w17.I 528 a0 →
  ∀ v19 : Int32, v19 = v18 + y8 →
  w17.K a0 = 5 ∧
  ∀ w20 : Wd, w20 = w17.setI 528 a0 v19 →
  w20.K a0 = 5 ∧
  ∀ z21 : Option Nat, z21 = w20.R 506 a0 →
  ∃ a22, z21 = some a22 ∧ w20.K a22 = 11 ∧
  ∃ j23 : Nat, x1 = nI j23 ∧ j23 < w20.N a22 ∧ w20.N a22 < 2 ^ 31 ∧
  ∀ v24 : Int32, v24 = w20.A a22 j23 →
  ∀ v25 : Int32, v25 = v24 - y8 →
  w20.K a22 = 11 ∧
  ∃ j26 : Nat, x1 = nI j26 ∧ j26 < w20.N a22 ∧ w20.N a22 < 2 ^ 31 ∧
  ∀ w27 : Wd, w27 = w20.setA a22 j26 v25 →
  w27.K a0 = 5 ∧
  ∀ z28 : Option Nat, z28 = w27.R 510 a0 →
  ∃ a29, z28 = some a29 ∧ w27.K a29 = 11 ∧
  ∃ j30 : Nat, x1 = nI j30 ∧ j30 < w27.N a29 ∧ w27.N a29 < 2 ^ 31 ∧
  ∀ v31 : Int32, v31 = w27.A a29 j30 →
  w27.K a0 = 5 ∧
  ∀ z32 : Option Nat, z32 = w27.R 506 a0 →
  ∃ a33, z32 = some a33 ∧ w27.K a33 = 11 ∧
  ∃ j34 : Nat, x1 = nI j34 ∧ j34 < w27.N a33 ∧ w27.N a33 < 2 ^ 31 ∧
  ∀ v35 : Int32, v35 = w27.A a33 j34 →
  ∃ J36 : Option Nat → Int32 → Int32 → Int32 → Prop, (∀ (q37 : Option Nat) (y38 : Int32) (y39 : Int32) (y40 : Int32), J36 q37 y38 y39 y40 →
  ∀ v41 : Int32, v41 = y39 + y40 →
  ∃ a42, q37 = some a42 ∧ w27.K a42 = 11 ∧
  ∃ j43 : Nat, y38 = nI j43 ∧ j43 < w27.N a42 ∧ w27.N a42 < 2 ^ 31 ∧
  ∀ w44 : Wd, w44 = w27.setA a42 j43 v41 →
  w44.K a0 = 5 ∧
  ∀ z45 : Option Nat, z45 = w44.R 506 a0 →
  ∃ a46, z45 = some a46 ∧ w44.K a46 = 11 ∧
  ∃ j47 : Nat, x1 = nI j47 ∧ j47 < w44.N a46 ∧ w44.N a46 < 2 ^ 31 ∧
  ∀ v48 : Int32, v48 = w44.A a46 j47 →
  Q v48 w44) ∧
  (¬ v35 = 0 → J36 (some a29) x1 v31 (0 : Int32)) ∧ (v35 = 0 → J36 (some a29) x1 v31 (1 : Int32)))) ∧ (¬ v16 = 0 → Q (0 : Int32) w15)) ∧
  (¬ v10 = 0 → w9.K a0 = 5 ∧
  ∀ z49 : Option Nat, z49 = w9.R 506 a0 →
  ∃ a50, z49 = some a50 ∧ w9.K a50 = 11 ∧
  ∃ j51 : Nat, x1 = nI j51 ∧ j51 < w9.N a50 ∧ w9.N a50 < 2 ^ 31 ∧
  ∀ v52 : Int32, v52 = w9.A a50 j51 →
  ∃ J53 : Option Nat → Prop, (∀ (q54 : Option Nat), J53 q54 →
  J11 q54 (3 : Int32)) ∧
  (v52 = 0 → J53 (some a0)) ∧ (¬ v52 = 0 → w9.K a0 = 5 ∧
  ∀ z55 : Option Nat, z55 = w9.R 504 a0 →
  ∃ a56, z55 = some a56 ∧ w9.K a56 = 11 ∧
  ∃ j57 : Nat, x1 = nI j57 ∧ j57 < w9.N a56 ∧ w9.N a56 < 2 ^ 31 ∧
  ∀ v58 : Int32, v58 = w9.A a56 j57 →
  (y8 ≤ v58 → J11 (some a0) (0 : Int32)) ∧ (¬ y8 ≤ v58 → J53 (some a0)))) ∧ (v10 = 0 → J11 (some a0) (2 : Int32)))) ∧
  (v6 ≤ x2 → w1.K a0 = 5 ∧
  ∀ z59 : Option Nat, z59 = w1.R 506 a0 →
  ∃ a60, z59 = some a60 ∧ w1.K a60 = 11 ∧
  ∃ j61 : Nat, x1 = nI j61 ∧ j61 < w1.N a60 ∧ w1.N a60 < 2 ^ 31 ∧
  ∀ v62 : Int32, v62 = w1.A a60 j61 →
  J7 v62) ∧ (¬ v6 ≤ x2 → J7 x2)) ∧ (v2 = 0 → w1.K a0 = 5 ∧
  ∀ w63 : Wd, w63 = w1.setI 500 a0 (1 : Int32) →
  Q (0 : Int32) w63))
set_option maxHeartbeats 4000000 in
set_option maxRecDepth 100000 in
theorem c_X4_repay {l : Launch} {G : GT} {L0 : Nat} (hst : l.stackTraces = false) {a0 : Nat} {x1 : Int32} {x2 : Int32} {w : Wd} {Q : Int32 → Wd → Prop} (h : wp_X4_repay a0 x1 x2 w Q) : GMi l G L0 yX4_repay cX4_repay 4 (some .int) rm_X4_repay [.ref a0, .int x1, .int x2] w Q := by
  refine g_enter hst (by decide +kernel) [.inr (some a0), .inl x1, .inl x2] rfl (show 3 ≤ 4 by decide) ?_
  intro p e s m args below meth c X hr hnm
  replace X : GC l G L0 p s m args meth c cX4_repay 4 "SusuRingModel" := X
  refine g_aload_n X dX4_repay_0 rfl 0 rfl ?_
  refine g_iload_n X dX4_repay_1 rfl 1 rfl ?_
  have hk := h.1
  replace h := h.2
  refine g_callV_i X (As := [.int x1]) (st := []) (n := 1) (c_X4_isOne hst h) rfl (by decide) hk (wE_5 G w a0) m_1107 m_1109 m_15 m_34 m_1110 (by decide +kernel) (by decide +kernel) rfl rfl (Nat.zero_le _) ⟨(by decide +kernel), (by decide +kernel)⟩ dX4_repay_2 (fun v2 w1 h => ?_)
  clear hk
  refine g_widen (c2 := (0)) (s2 := (0)) (by decide +kernel) (by decide +kernel) ?_
  refine g_if_ne X (tgt := 15) dX4_repay_5 (by decide) (fun hc => ?_) (fun hc => ?_)
  · replace h := h.1 hc; clear hc
    refine g_iload_n X dX4_repay_15 rfl 2 rfl ?_
    refine g_aload_n X dX4_repay_16 rfl 0 rfl ?_
    have hk := h.1
    replace h := h.2
    refine gg_506 X hk m_1002 dX4_repay_17 (fun z3 hv => ?_)
    replace h := h z3 hv; clear hv hk
    refine g_iload_n X dX4_repay_20 rfl 1 rfl ?_
    obtain ⟨a4, rfl, hk, h⟩ := h
    obtain ⟨j5, hi, hj, hN, h⟩ := h
    refine g_iald X hk hi hj hN dX4_repay_21 (fun v6 hv => ?_)
    replace h := h v6 hv; clear hv hk hi hj hN
    obtain ⟨J7, hjJ7, h⟩ := h
    have jp7 : ∀ (y8 : Int32), J7 y8 → Gw l G L0 p e rm_X4_repay s m args below meth c 4 (0) (0) (MQ below (gQi G L0 Q) args s rm_X4_repay.cells rm_X4_repay.slots (GA L0)) w1 35 [(0, .inr (some a0)), (1, .inl x1), (2, .inl x2)] [.int y8] := by
      intro y8 hJ
      have h := hjJ7 y8 hJ
      clear hJ
      refine g_istore_n X [(3, .inl y8), (0, .inr (some a0)), (1, .inl x1), (2, .inl x2)] dX4_repay_35 rfl (by decide) rfl ?_
      refine g_aload_n X dX4_repay_36 rfl 1 rfl ?_
      refine g_iload_n X dX4_repay_37 rfl 3 rfl ?_
      refine g_iconst X (v := (1 : Int32)) dX4_repay_38 (by decide) ?_
      refine g_sipush X (v := (10000 : Int32)) dX4_repay_39 (by decide) ?_
      refine g_callS_i X (As := [.int x2, .int (1 : Int32), .int (10000 : Int32)]) (st := [va_rf (some a0)]) (n := 3) (c_X4_in hst h) m_1099 m_1100 m_34 m_1101 (by decide +kernel) (by decide +kernel) rfl rfl (by simp [cat_int, rf_cat]) ⟨(by decide +kernel), (by decide +kernel)⟩ dX4_repay_42 (fun v10 w9 h => ?_)
      refine g_widen (c2 := (0)) (s2 := (0)) (by decide +kernel) (by decide +kernel) ?_
      obtain ⟨J11, hjJ11, h⟩ := h
      have jp11 : ∀ (q12 : Option Nat) (y13 : Int32), J11 q12 y13 → Gw l G L0 p e rm_X4_repay s m args below meth c 4 (0) (0) (MQ below (gQi G L0 Q) args s rm_X4_repay.cells rm_X4_repay.slots (GA L0)) w9 76 [(0, .inr (some a0)), (1, .inl x1), (3, .inl y8)] [.int y13, va_rf q12] := by
        intro q12 y13 hJ
        have h := hjJ11 q12 y13 hJ
        clear hJ
        obtain ⟨a14, rfl, hk, h⟩ := h
        refine gp_500 X hk m_996 dX4_repay_76 (fun w15 hv => ?_)
        replace h := h w15 hv; clear hv hk
        refine g_aload_n X dX4_repay_79 rfl 0 rfl ?_
        have hk := h.1
        replace h := h.2
        refine gg_500 X hk m_996 dX4_repay_80 (fun v16 hv => ?_)
        replace h := h v16 hv; clear hv hk
        refine g_if_eq X (tgt := 88) dX4_repay_83 (by decide) (fun hc => ?_) (fun hc => ?_)
        · replace h := h.1 hc; clear hc
          refine g_aload_n X dX4_repay_88 rfl 0 rfl ?_
          refine g_iload_n X dX4_repay_89 rfl 1 rfl ?_
          refine g_iload_n X dX4_repay_90 rfl 2 rfl ?_
          have hk := h.1
          replace h := h.2
          refine g_callV_v X (As := [.int x1, .int y8]) (st := []) (n := 2) (c_X4_pays hst h) rfl (by decide) hk (wE_5 G w15 a0) m_1168 m_1170 m_24 m_34 m_1171 (by decide +kernel) (by decide +kernel) rfl rfl (Nat.zero_le _) ⟨(by decide +kernel), (by decide +kernel)⟩ dX4_repay_91 (fun w17 h => ?_)
          clear hk
          refine g_widen (c2 := (0)) (s2 := (0)) (by decide +kernel) (by decide +kernel) ?_
          refine g_aload_n X dX4_repay_94 rfl 0 rfl ?_
          refine g_dup X dX4_repay_95 rf_cat ?_
          have hk := h.1
          replace h := h.2
          refine gg_528 X hk m_1024 dX4_repay_96 (fun v18 hv => ?_)
          replace h := h v18 hv; clear hv hk
          refine g_iload_n X dX4_repay_99 rfl 2 rfl ?_
          refine g_iadd X dX4_repay_100 (fun v19 hv => ?_)
          replace h := h v19 hv; clear hv
          have hk := h.1
          replace h := h.2
          refine gp_528 X hk m_1024 dX4_repay_101 (fun w20 hv => ?_)
          replace h := h w20 hv; clear hv hk
          refine g_aload_n X dX4_repay_104 rfl 0 rfl ?_
          have hk := h.1
          replace h := h.2
          refine gg_506 X hk m_1002 dX4_repay_105 (fun z21 hv => ?_)
          replace h := h z21 hv; clear hv hk
          refine g_iload_n X dX4_repay_108 rfl 1 rfl ?_
          refine g_dup2 X dX4_repay_109 rfl rf_cat ?_
          obtain ⟨a22, rfl, hk, h⟩ := h
          obtain ⟨j23, hi, hj, hN, h⟩ := h
          refine g_iald X hk hi hj hN dX4_repay_110 (fun v24 hv => ?_)
          replace h := h v24 hv; clear hv hk hi hj hN
          refine g_iload_n X dX4_repay_111 rfl 2 rfl ?_
          refine g_isub X dX4_repay_112 (fun v25 hv => ?_)
          replace h := h v25 hv; clear hv
          have hk := h.1
          replace h := h.2
          obtain ⟨j26, hi, hj, hN, h⟩ := h
          refine g_iast X hk hi hj hN dX4_repay_113 (fun w27 hv => ?_)
          replace h := h w27 hv; clear hv hk hi hj hN
          refine g_aload_n X dX4_repay_114 rfl 0 rfl ?_
          have hk := h.1
          replace h := h.2
          refine gg_510 X hk m_1006 dX4_repay_115 (fun z28 hv => ?_)
          replace h := h z28 hv; clear hv hk
          refine g_iload_n X dX4_repay_118 rfl 1 rfl ?_
          refine g_dup2 X dX4_repay_119 rfl rf_cat ?_
          obtain ⟨a29, rfl, hk, h⟩ := h
          obtain ⟨j30, hi, hj, hN, h⟩ := h
          refine g_iald X hk hi hj hN dX4_repay_120 (fun v31 hv => ?_)
          replace h := h v31 hv; clear hv hk hi hj hN
          refine g_aload_n X dX4_repay_121 rfl 0 rfl ?_
          have hk := h.1
          replace h := h.2
          refine gg_506 X hk m_1002 dX4_repay_122 (fun z32 hv => ?_)
          replace h := h z32 hv; clear hv hk
          refine g_iload_n X dX4_repay_125 rfl 1 rfl ?_
          obtain ⟨a33, rfl, hk, h⟩ := h
          obtain ⟨j34, hi, hj, hN, h⟩ := h
          refine g_iald X hk hi hj hN dX4_repay_126 (fun v35 hv => ?_)
          replace h := h v35 hv; clear hv hk hi hj hN
          obtain ⟨J36, hjJ36, h⟩ := h
          have jp36 : ∀ (q37 : Option Nat) (y38 : Int32) (y39 : Int32) (y40 : Int32), J36 q37 y38 y39 y40 → Gw l G L0 p e rm_X4_repay s m args below meth c 4 (0) (0) (MQ below (gQi G L0 Q) args s rm_X4_repay.cells rm_X4_repay.slots (GA L0)) w27 135 [(0, .inr (some a0)), (1, .inl x1)] [.int y40, .int y39, .int y38, va_rf q37] := by
            intro q37 y38 y39 y40 hJ
            have h := hjJ36 q37 y38 y39 y40 hJ
            clear hJ
            refine g_iadd X dX4_repay_135 (fun v41 hv => ?_)
            replace h := h v41 hv; clear hv
            obtain ⟨a42, rfl, hk, h⟩ := h
            obtain ⟨j43, hi, hj, hN, h⟩ := h
            refine g_iast X hk hi hj hN dX4_repay_136 (fun w44 hv => ?_)
            replace h := h w44 hv; clear hv hk hi hj hN
            refine g_aload_n X dX4_repay_137 rfl 0 rfl ?_
            have hk := h.1
            replace h := h.2
            refine gg_506 X hk m_1002 dX4_repay_138 (fun z45 hv => ?_)
            replace h := h z45 hv; clear hv hk
            refine g_iload_n X dX4_repay_141 rfl 1 rfl ?_
            obtain ⟨a46, rfl, hk, h⟩ := h
            obtain ⟨j47, hi, hj, hN, h⟩ := h
            refine g_iald X hk hi hj hN dX4_repay_142 (fun v48 hv => ?_)
            replace h := h v48 hv; clear hv hk hi hj hN
            exact g_iret X hr (by decide +kernel) (by decide +kernel) dX4_repay_143 h
          refine g_if_ne X (tgt := 134) dX4_repay_127 (by decide) (fun hc => ?_) (fun hc => ?_)
          · replace h := h.1 hc; clear hc
            refine g_iconst X (v := (0 : Int32)) dX4_repay_134 (by decide) ?_
            exact g_sub [0, 1] [(0, .inr (some a0)), (1, .inl x1)] rfl (jp36 (some a29) x1 v31 (0 : Int32) h)
          · replace h := h.2 hc; clear hc
            refine g_iconst X (v := (1 : Int32)) dX4_repay_130 (by decide) ?_
            refine g_goto X (tgt := 135) dX4_repay_131 (by decide) ?_
            exact g_sub [0, 1] [(0, .inr (some a0)), (1, .inl x1)] rfl (jp36 (some a29) x1 v31 (1 : Int32) h)
        · replace h := h.2 hc; clear hc
          refine g_iconst X (v := (0 : Int32)) dX4_repay_86 (by decide) ?_
          exact g_iret X hr (by decide +kernel) (by decide +kernel) dX4_repay_87 h
      refine g_if_ne X (tgt := 52) dX4_repay_45 (by decide) (fun hc => ?_) (fun hc => ?_)
      · replace h := h.1 hc; clear hc
        refine g_aload_n X dX4_repay_52 rfl 1 rfl ?_
        have hk := h.1
        replace h := h.2
        refine gg_506 X hk m_1002 dX4_repay_53 (fun z49 hv => ?_)
        replace h := h z49 hv; clear hv hk
        refine g_iload_n X dX4_repay_56 rfl 2 rfl ?_
        obtain ⟨a50, rfl, hk, h⟩ := h
        obtain ⟨j51, hi, hj, hN, h⟩ := h
        refine g_iald X hk hi hj hN dX4_repay_57 (fun v52 hv => ?_)
        replace h := h v52 hv; clear hv hk hi hj hN
        obtain ⟨J53, hjJ53, h⟩ := h
        have jp53 : ∀ (q54 : Option Nat), J53 q54 → Gw l G L0 p e rm_X4_repay s m args below meth c 4 (0) (0) (MQ below (gQi G L0 Q) args s rm_X4_repay.cells rm_X4_repay.slots (GA L0)) w9 71 [(0, .inr (some a0)), (1, .inl x1), (3, .inl y8)] [va_rf q54] := by
          intro q54 hJ
          have h := hjJ53 q54 hJ
          clear hJ
          refine g_iconst X (v := (3 : Int32)) dX4_repay_71 (by decide) ?_
          refine g_goto X (tgt := 76) dX4_repay_72 (by decide) ?_
          exact g_sub [0, 1, 2] [(0, .inr (some a0)), (1, .inl x1), (3, .inl y8)] rfl (jp11 q54 (3 : Int32) h)
        refine g_if_eq X (tgt := 71) dX4_repay_58 (by decide) (fun hc => ?_) (fun hc => ?_)
        · replace h := h.1 hc; clear hc
          exact g_sub [1, 2, 0] [(0, .inr (some a0)), (1, .inl x1), (3, .inl y8)] rfl (jp53 (some a0) h)
        · replace h := h.2 hc; clear hc
          refine g_aload_n X dX4_repay_61 rfl 1 rfl ?_
          have hk := h.1
          replace h := h.2
          refine gg_504 X hk m_1000 dX4_repay_62 (fun z55 hv => ?_)
          replace h := h z55 hv; clear hv hk
          refine g_iload_n X dX4_repay_65 rfl 2 rfl ?_
          obtain ⟨a56, rfl, hk, h⟩ := h
          obtain ⟨j57, hi, hj, hN, h⟩ := h
          refine g_iald X hk hi hj hN dX4_repay_66 (fun v58 hv => ?_)
          replace h := h v58 hv; clear hv hk hi hj hN
          refine g_iload_n X dX4_repay_67 rfl 0 rfl ?_
          refine g_icmp_ge X (tgt := 75) dX4_repay_68 (by decide) (fun hc => ?_) (fun hc => ?_)
          · replace h := h.1 hc; clear hc
            refine g_iconst X (v := (0 : Int32)) dX4_repay_75 (by decide) ?_
            exact g_sub [1, 2, 0] [(0, .inr (some a0)), (1, .inl x1), (3, .inl y8)] rfl (jp11 (some a0) (0 : Int32) h)
          · replace h := h.2 hc; clear hc
            exact g_sub [1, 2, 0] [(0, .inr (some a0)), (1, .inl x1), (3, .inl y8)] rfl (jp53 (some a0) h)
      · replace h := h.2 hc; clear hc
        refine g_iconst X (v := (2 : Int32)) dX4_repay_48 (by decide) ?_
        refine g_goto X (tgt := 76) dX4_repay_49 (by decide) ?_
        exact g_sub [1, 2, 0] [(0, .inr (some a0)), (1, .inl x1), (3, .inl y8)] rfl (jp11 (some a0) (2 : Int32) h)
    refine g_icmp_ge X (tgt := 29) dX4_repay_22 (by decide) (fun hc => ?_) (fun hc => ?_)
    · replace h := h.1 hc; clear hc
      refine g_aload_n X dX4_repay_29 rfl 0 rfl ?_
      have hk := h.1
      replace h := h.2
      refine gg_506 X hk m_1002 dX4_repay_30 (fun z59 hv => ?_)
      replace h := h z59 hv; clear hv hk
      refine g_iload_n X dX4_repay_33 rfl 1 rfl ?_
      obtain ⟨a60, rfl, hk, h⟩ := h
      obtain ⟨j61, hi, hj, hN, h⟩ := h
      refine g_iald X hk hi hj hN dX4_repay_34 (fun v62 hv => ?_)
      replace h := h v62 hv; clear hv hk hi hj hN
      exact g_sub [0, 1, 2] [(0, .inr (some a0)), (1, .inl x1), (2, .inl x2)] rfl (jp7 v62 h)
    · replace h := h.2 hc; clear hc
      refine g_iload_n X dX4_repay_25 rfl 2 rfl ?_
      refine g_goto X (tgt := 35) dX4_repay_26 (by decide) ?_
      exact g_sub [0, 1, 2] [(0, .inr (some a0)), (1, .inl x1), (2, .inl x2)] rfl (jp7 x2 h)
  · replace h := h.2 hc; clear hc
    refine g_aload_n X dX4_repay_8 rfl 0 rfl ?_
    refine g_iconst X (v := (1 : Int32)) dX4_repay_9 (by decide) ?_
    have hk := h.1
    replace h := h.2
    refine gp_500 X hk m_996 dX4_repay_10 (fun w63 hv => ?_)
    replace h := h w63 hv; clear hv hk
    refine g_iconst X (v := (0 : Int32)) dX4_repay_13 (by decide) ?_
    exact g_iret X hr (by decide +kernel) (by decide +kernel) dX4_repay_14 h

abbrev rm_X4_vouches : Room := { frames := 7, cells := 0, slots := 0, locals := 122 }
def wp_X4_vouches (a0 : Nat) (x1 : Int32) (x2 : Int32) (w : Wd) (Q : Wd → Prop) : Prop :=
  w.K a0 = 5 ∧
  ∀ z1 : Option Nat, z1 = w.R 512 a0 →
  ∃ a2, z1 = some a2 ∧ w.K a2 = 12 ∧
  ∃ j3 : Nat, x1 = nI j3 ∧ j3 < w.N a2 ∧ w.N a2 < 2 ^ 31 ∧
  ∀ v4 : Int32, v4 = w.A a2 j3 →
  ∃ J5 : Int32 → Prop, (∀ (y6 : Int32), J5 y6 →
  w.K a0 = 5 ∧
  wp_X4_pays a0 x1 y6 w (fun w7 => 
  w7.K a0 = 5 ∧
  ∀ v8 : Int32, v8 = w7.I 528 a0 →
  ∀ v9 : Int32, v9 = v8 + y6 →
  w7.K a0 = 5 ∧
  ∀ w10 : Wd, w10 = w7.setI 528 a0 v9 →
  Q w10)) ∧
  (v4 = 0 → w.K a0 = 5 ∧
  ∀ z11 : Option Nat, z11 = w.R 504 a0 →
  ∃ a12, z11 = some a12 ∧ w.K a12 = 11 ∧
  ∃ j13 : Nat, x1 = nI j13 ∧ j13 < w.N a12 ∧ w.N a12 < 2 ^ 31 ∧
  ∀ v14 : Int32, v14 = w.A a12 j13 →
  (v14 ≤ x2 → w.K a0 = 5 ∧
  ∀ z15 : Option Nat, z15 = w.R 504 a0 →
  ∃ a16, z15 = some a16 ∧ w.K a16 = 11 ∧
  ∃ j17 : Nat, x1 = nI j17 ∧ j17 < w.N a16 ∧ w.N a16 < 2 ^ 31 ∧
  ∀ v18 : Int32, v18 = w.A a16 j17 →
  J5 v18) ∧ (¬ v14 ≤ x2 → J5 x2)) ∧ (¬ v4 = 0 → J5 (0 : Int32))
set_option maxHeartbeats 4000000 in
set_option maxRecDepth 100000 in
theorem c_X4_vouches {l : Launch} {G : GT} {L0 : Nat} (hst : l.stackTraces = false) {a0 : Nat} {x1 : Int32} {x2 : Int32} {w : Wd} {Q : Wd → Prop} (h : wp_X4_vouches a0 x1 x2 w Q) : GMv l G L0 yX4_vouches cX4_vouches 4 none rm_X4_vouches [.ref a0, .int x1, .int x2] w Q := by
  refine g_enter hst (by decide +kernel) [.inr (some a0), .inl x1, .inl x2] rfl (show 3 ≤ 4 by decide) ?_
  intro p e s m args below meth c X hr hnm
  replace X : GC l G L0 p s m args meth c cX4_vouches 4 "SusuRingModel" := X
  refine g_aload_n X dX4_vouches_0 rfl 0 rfl ?_
  have hk := h.1
  replace h := h.2
  refine gg_512 X hk m_1008 dX4_vouches_1 (fun z1 hv => ?_)
  replace h := h z1 hv; clear hv hk
  refine g_iload_n X dX4_vouches_4 rfl 1 rfl ?_
  obtain ⟨a2, rfl, hk, h⟩ := h
  obtain ⟨j3, hi, hj, hN, h⟩ := h
  refine g_zald X hk hi hj hN dX4_vouches_5 (fun v4 hv => ?_)
  replace h := h v4 hv; clear hv hk hi hj hN
  obtain ⟨J5, hjJ5, h⟩ := h
  have jp5 : ∀ (y6 : Int32), J5 y6 → Gw l G L0 p e rm_X4_vouches s m args below meth c 4 (0) (0) (MQ below (gQv G L0 Q) args s rm_X4_vouches.cells rm_X4_vouches.slots (GA L0)) w 33 [(0, .inr (some a0)), (1, .inl x1)] [.int y6] := by
    intro y6 hJ
    have h := hjJ5 y6 hJ
    clear hJ
    refine g_istore_n X [(3, .inl y6), (0, .inr (some a0)), (1, .inl x1)] dX4_vouches_33 rfl (by decide) rfl ?_
    refine g_aload_n X dX4_vouches_34 rfl 1 rfl ?_
    refine g_iload_n X dX4_vouches_35 rfl 2 rfl ?_
    refine g_iload_n X dX4_vouches_36 rfl 0 rfl ?_
    have hk := h.1
    replace h := h.2
    refine g_callV_v X (As := [.int x1, .int y6]) (st := []) (n := 2) (c_X4_pays hst h) rfl (by decide) hk (wE_5 G w a0) m_1168 m_1170 m_24 m_34 m_1171 (by decide +kernel) (by decide +kernel) rfl rfl (Nat.zero_le _) ⟨(by decide +kernel), (by decide +kernel)⟩ dX4_vouches_37 (fun w7 h => ?_)
    clear hk
    refine g_widen (c2 := (0)) (s2 := (0)) (by decide +kernel) (by decide +kernel) ?_
    refine g_aload_n X dX4_vouches_40 rfl 1 rfl ?_
    refine g_dup X dX4_vouches_41 rf_cat ?_
    have hk := h.1
    replace h := h.2
    refine gg_528 X hk m_1024 dX4_vouches_42 (fun v8 hv => ?_)
    replace h := h v8 hv; clear hv hk
    refine g_iload_n X dX4_vouches_45 rfl 0 rfl ?_
    refine g_iadd X dX4_vouches_46 (fun v9 hv => ?_)
    replace h := h v9 hv; clear hv
    have hk := h.1
    replace h := h.2
    refine gp_528 X hk m_1024 dX4_vouches_47 (fun w10 hv => ?_)
    replace h := h w10 hv; clear hv hk
    exact g_vret X hr (by decide +kernel) (by decide +kernel) dX4_vouches_50 h
  refine g_if_eq X (tgt := 13) dX4_vouches_6 (by decide) (fun hc => ?_) (fun hc => ?_)
  · replace h := h.1 hc; clear hc
    refine g_iload_n X dX4_vouches_13 rfl 2 rfl ?_
    refine g_aload_n X dX4_vouches_14 rfl 0 rfl ?_
    have hk := h.1
    replace h := h.2
    refine gg_504 X hk m_1000 dX4_vouches_15 (fun z11 hv => ?_)
    replace h := h z11 hv; clear hv hk
    refine g_iload_n X dX4_vouches_18 rfl 1 rfl ?_
    obtain ⟨a12, rfl, hk, h⟩ := h
    obtain ⟨j13, hi, hj, hN, h⟩ := h
    refine g_iald X hk hi hj hN dX4_vouches_19 (fun v14 hv => ?_)
    replace h := h v14 hv; clear hv hk hi hj hN
    refine g_icmp_ge X (tgt := 27) dX4_vouches_20 (by decide) (fun hc => ?_) (fun hc => ?_)
    · replace h := h.1 hc; clear hc
      refine g_aload_n X dX4_vouches_27 rfl 0 rfl ?_
      have hk := h.1
      replace h := h.2
      refine gg_504 X hk m_1000 dX4_vouches_28 (fun z15 hv => ?_)
      replace h := h z15 hv; clear hv hk
      refine g_iload_n X dX4_vouches_31 rfl 1 rfl ?_
      obtain ⟨a16, rfl, hk, h⟩ := h
      obtain ⟨j17, hi, hj, hN, h⟩ := h
      refine g_iald X hk hi hj hN dX4_vouches_32 (fun v18 hv => ?_)
      replace h := h v18 hv; clear hv hk hi hj hN
      exact g_sub [0, 1] [(0, .inr (some a0)), (1, .inl x1)] rfl (jp5 v18 h)
    · replace h := h.2 hc; clear hc
      refine g_iload_n X dX4_vouches_23 rfl 2 rfl ?_
      refine g_goto X (tgt := 33) dX4_vouches_24 (by decide) ?_
      exact g_sub [0, 1] [(0, .inr (some a0)), (1, .inl x1)] rfl (jp5 x2 h)
  · replace h := h.2 hc; clear hc
    refine g_iconst X (v := (0 : Int32)) dX4_vouches_9 (by decide) ?_
    refine g_goto X (tgt := 33) dX4_vouches_10 (by decide) ?_
    exact g_sub [0, 1] [(0, .inr (some a0)), (1, .inl x1)] rfl (jp5 (0 : Int32) h)

abbrev rm_X4_month : Room := { frames := 8, cells := 0, slots := 0, locals := 145 }
def wp_X4_month (a0 : Nat) (x1 : Int32) (w : Wd) (Q : Int32 → Wd → Prop) : Prop :=
  w.K a0 = 5 ∧
  ∀ w1 : Wd, w1 = w.setI 500 a0 (0 : Int32) →
  ∃ Inv3 : Nat → Int32 → Int32 → Wd → Prop, (∃ n : Nat, Inv3 n (0 : Int32) (0 : Int32) w1) ∧ ∀ (n2 : Nat) (y4 : Int32) (y5 : Int32) (w6 : Wd), Inv3 n2 y4 y5 w6 →
  w6.K a0 = 5 ∧
  ∀ v7 : Int32, v7 = w6.I 501 a0 →
  ∃ J8 : Prop, (J8 →
  Q y4 w6) ∧
  (v7 ≤ y5 → J8) ∧ (¬ v7 ≤ y5 → (¬ x1 = 0 → J8) ∧ (x1 = 0 → w6.K a0 = 5 ∧
  ∀ z9 : Option Nat, z9 = w6.R 506 a0 →
  ∃ a10, z9 = some a10 ∧ w6.K a10 = 11 ∧
  ∃ j11 : Nat, y5 = nI j11 ∧ j11 < w6.N a10 ∧ w6.N a10 < 2 ^ 31 ∧
  ∀ v12 : Int32, v12 = w6.A a10 j11 →
  ∃ J13 : Int32 → Wd → Prop, (∀ (y14 : Int32) (w15 : Wd), J13 y14 w15 →
  ∀ v16 : Int32, v16 = y5 + (1 : Int32) →
  ∃ n : Nat, n < n2 ∧ Inv3 n y14 v16 w15) ∧
  (v12 ≤ 0 → J13 y4 w6) ∧ (¬ v12 ≤ 0 → w6.K a0 = 5 ∧
  ∀ z17 : Option Nat, z17 = w6.R 506 a0 →
  ∃ a18, z17 = some a18 ∧ w6.K a18 = 11 ∧
  ∃ j19 : Nat, y5 = nI j19 ∧ j19 < w6.N a18 ∧ w6.N a18 < 2 ^ 31 ∧
  ∀ v20 : Int32, v20 = w6.A a18 j19 →
  w6.K a0 = 5 ∧
  ∀ z21 : Option Nat, z21 = w6.R 506 a0 →
  ∃ a22, z21 = some a22 ∧ w6.K a22 = 11 ∧
  ∃ j23 : Nat, y5 = nI j23 ∧ j23 < w6.N a22 ∧ w6.N a22 < 2 ^ 31 ∧
  ∀ v24 : Int32, v24 = w6.A a22 j23 →
  ∀ v25 : Int32, v25 = v24 + (19 : Int32) →
  ¬ (20 : Int32) = 0 ∧ ∀ v26 : Int32, v26 = v25 / (20 : Int32) →
  ∀ v27 : Int32, v27 = v20 + v26 →
  w6.K a18 = 11 ∧
  ∃ j28 : Nat, y5 = nI j28 ∧ j28 < w6.N a18 ∧ w6.N a18 < 2 ^ 31 ∧
  ∀ w29 : Wd, w29 = w6.setA a18 j28 v27 →
  w29.K a0 = 5 ∧
  ∀ z30 : Option Nat, z30 = w29.R 507 a0 →
  ∃ a31, z30 = some a31 ∧ w29.K a31 = 11 ∧
  ∃ j32 : Nat, y5 = nI j32 ∧ j32 < w29.N a31 ∧ w29.N a31 < 2 ^ 31 ∧
  ∀ v33 : Int32, v33 = w29.A a31 j32 →
  ∀ v34 : Int32, v34 = v33 + (1 : Int32) →
  w29.K a31 = 11 ∧
  ∃ j35 : Nat, y5 = nI j35 ∧ j35 < w29.N a31 ∧ w29.N a31 < 2 ^ 31 ∧
  ∀ w36 : Wd, w36 = w29.setA a31 j35 v34 →
  w36.K a0 = 5 ∧
  ∀ z37 : Option Nat, z37 = w36.R 507 a0 →
  ∃ a38, z37 = some a38 ∧ w36.K a38 = 11 ∧
  ∃ j39 : Nat, y5 = nI j39 ∧ j39 < w36.N a38 ∧ w36.N a38 < 2 ^ 31 ∧
  ∀ v40 : Int32, v40 = w36.A a38 j39 →
  (v40 ≤ (6 : Int32) → J13 y4 w36) ∧ (¬ v40 ≤ (6 : Int32) → w36.K a0 = 5 ∧
  ∀ z41 : Option Nat, z41 = w36.R 506 a0 →
  ∃ a42, z41 = some a42 ∧ w36.K a42 = 11 ∧
  ∃ j43 : Nat, y5 = nI j43 ∧ j43 < w36.N a42 ∧ w36.N a42 < 2 ^ 31 ∧
  ∀ v44 : Int32, v44 = w36.A a42 j43 →
  ¬ (2 : Int32) = 0 ∧ ∀ v45 : Int32, v45 = v44 / (2 : Int32) →
  w36.K a0 = 5 ∧
  ∀ z46 : Option Nat, z46 = w36.R 506 a0 →
  ∃ a47, z46 = some a47 ∧ w36.K a47 = 11 ∧
  ∃ j48 : Nat, y5 = nI j48 ∧ j48 < w36.N a47 ∧ w36.N a47 < 2 ^ 31 ∧
  ∀ v49 : Int32, v49 = w36.A a47 j48 →
  ∀ v50 : Int32, v50 = v49 - v45 →
  w36.K a0 = 5 ∧
  ∀ z51 : Option Nat, z51 = w36.R 506 a0 →
  ∃ a52, z51 = some a52 ∧ w36.K a52 = 11 ∧
  ∃ j53 : Nat, y5 = nI j53 ∧ j53 < w36.N a52 ∧ w36.N a52 < 2 ^ 31 ∧
  ∀ w54 : Wd, w54 = w36.setA a52 j53 (0 : Int32) →
  w54.K a0 = 5 ∧
  ∀ z55 : Option Nat, z55 = w54.R 510 a0 →
  ∃ a56, z55 = some a56 ∧ w54.K a56 = 11 ∧
  ∃ j57 : Nat, y5 = nI j57 ∧ j57 < w54.N a56 ∧ w54.N a56 < 2 ^ 31 ∧
  ∀ w58 : Wd, w58 = w54.setA a56 j57 (0 : Int32) →
  w58.K a0 = 5 ∧
  ∀ z59 : Option Nat, z59 = w58.R 508 a0 →
  ∃ a60, z59 = some a60 ∧ w58.K a60 = 11 ∧
  ∃ j61 : Nat, y5 = nI j61 ∧ j61 < w58.N a60 ∧ w58.N a60 < 2 ^ 31 ∧
  ∀ v62 : Int32, v62 = w58.A a60 j61 →
  w58.K a0 = 5 ∧
  wp_X4_vouches a0 v62 v45 w58 (fun w63 => 
  w63.K a0 = 5 ∧
  ∀ z64 : Option Nat, z64 = w63.R 509 a0 →
  ∃ a65, z64 = some a65 ∧ w63.K a65 = 11 ∧
  ∃ j66 : Nat, y5 = nI j66 ∧ j66 < w63.N a65 ∧ w63.N a65 < 2 ^ 31 ∧
  ∀ v67 : Int32, v67 = w63.A a65 j66 →
  w63.K a0 = 5 ∧
  wp_X4_vouches a0 v67 v50 w63 (fun w68 => 
  ∀ v69 : Int32, v69 = y4 + (1 : Int32) →
  J13 v69 w68))))))
set_option maxHeartbeats 4000000 in
set_option maxRecDepth 100000 in
theorem c_X4_month {l : Launch} {G : GT} {L0 : Nat} (hst : l.stackTraces = false) {a0 : Nat} {x1 : Int32} {w : Wd} {Q : Int32 → Wd → Prop} (h : wp_X4_month a0 x1 w Q) : GMi l G L0 yX4_month cX4_month 6 (some .int) rm_X4_month [.ref a0, .int x1] w Q := by
  refine g_enter hst (by decide +kernel) [.inr (some a0), .inl x1] rfl (show 2 ≤ 6 by decide) ?_
  intro p e s m args below meth c X hr hnm
  replace X : GC l G L0 p s m args meth c cX4_month 6 "SusuRingModel" := X
  refine g_aload_n X dX4_month_0 rfl 0 rfl ?_
  refine g_iconst X (v := (0 : Int32)) dX4_month_1 (by decide) ?_
  have hk := h.1
  replace h := h.2
  refine gp_500 X hk m_996 dX4_month_2 (fun w1 hv => ?_)
  replace h := h w1 hv; clear hv hk
  refine g_iconst X (v := (0 : Int32)) dX4_month_5 (by decide) ?_
  refine g_istore_n X [(2, .inl (0 : Int32)), (0, .inr (some a0)), (1, .inl x1)] dX4_month_6 rfl (by decide) rfl ?_
  refine g_iconst X (v := (0 : Int32)) dX4_month_7 (by decide) ?_
  refine g_istore_n X [(3, .inl (0 : Int32)), (2, .inl (0 : Int32)), (0, .inr (some a0)), (1, .inl x1)] dX4_month_8 rfl (by decide) rfl ?_
  obtain ⟨Inv3, ⟨n0, hi⟩, hsn2⟩ := h
  have lp3 : ∀ (n2 : Nat), ∀ (y4 : Int32) (y5 : Int32) (w6 : Wd), Inv3 n2 y4 y5 w6 → Gw l G L0 p e rm_X4_month s m args below meth c 6 (0) (0) (MQ below (gQi G L0 Q) args s rm_X4_month.cells rm_X4_month.slots (GA L0)) w6 9 [(0, .inr (some a0)), (1, .inl x1), (2, .inl y4), (3, .inl y5)] [] := by
    intro n2
    induction n2 using Nat.strongRecOn with
    | ind n2 ihn2 =>
      intro y4 y5 w6 hI
      have h := hsn2 n2 y4 y5 w6 hI
      clear hI
      refine g_iload_n X dX4_month_9 rfl 3 rfl ?_
      refine g_aload_n X dX4_month_10 rfl 0 rfl ?_
      have hk := h.1
      replace h := h.2
      refine gg_501 X hk m_997 dX4_month_11 (fun v7 hv => ?_)
      replace h := h v7 hv; clear hv hk
      obtain ⟨J8, hjJ8, h⟩ := h
      have jp8 : J8 → Gw l G L0 p e rm_X4_month s m args below meth c 6 (0) (0) (MQ below (gQi G L0 Q) args s rm_X4_month.cells rm_X4_month.slots (GA L0)) w6 140 [(2, .inl y4)] [] := by
        intro hJ
        have h := hjJ8 hJ
        clear hJ
        refine g_iload_n X dX4_month_140 rfl 0 rfl ?_
        exact g_iret X hr (by decide +kernel) (by decide +kernel) dX4_month_141 h
      refine g_icmp_ge X (tgt := 140) dX4_month_14 (by decide) (fun hc => ?_) (fun hc => ?_)
      · replace h := h.1 hc; clear hc
        exact g_sub [2] [(2, .inl y4)] rfl (jp8  h)
      · replace h := h.2 hc; clear hc
        refine g_iload_n X dX4_month_17 rfl 1 rfl ?_
        refine g_if_ne X (tgt := 140) dX4_month_18 (by decide) (fun hc => ?_) (fun hc => ?_)
        · replace h := h.1 hc; clear hc
          exact g_sub [2] [(2, .inl y4)] rfl (jp8  h)
        · replace h := h.2 hc; clear hc
          refine g_aload_n X dX4_month_21 rfl 0 rfl ?_
          have hk := h.1
          replace h := h.2
          refine gg_506 X hk m_1002 dX4_month_22 (fun z9 hv => ?_)
          replace h := h z9 hv; clear hv hk
          refine g_iload_n X dX4_month_25 rfl 3 rfl ?_
          obtain ⟨a10, rfl, hk, h⟩ := h
          obtain ⟨j11, hi, hj, hN, h⟩ := h
          refine g_iald X hk hi hj hN dX4_month_26 (fun v12 hv => ?_)
          replace h := h v12 hv; clear hv hk hi hj hN
          obtain ⟨J13, hjJ13, h⟩ := h
          have jp13 : ∀ (y14 : Int32) (w15 : Wd), J13 y14 w15 → Gw l G L0 p e rm_X4_month s m args below meth c 6 (0) (0) (MQ below (gQi G L0 Q) args s rm_X4_month.cells rm_X4_month.slots (GA L0)) w15 134 [(0, .inr (some a0)), (1, .inl x1), (2, .inl y14), (3, .inl y5)] [] := by
            intro y14 w15 hJ
            have h := hjJ13 y14 w15 hJ
            clear hJ
            refine g_iinc X dX4_month_134 3 rfl (d := (1 : Int32)) (by decide) (by decide) (fun v16 hv => ?_)
            replace h := h v16 hv; clear hv
            refine g_sub [0, 1, 2, 3] [(3, .inl v16), (0, .inr (some a0)), (1, .inl x1), (2, .inl y14)] rfl ?_
            refine g_goto X (tgt := 9) dX4_month_137 (by decide) ?_
            obtain ⟨n, hn, hI⟩ := h
            exact g_sub [1, 2, 3, 0] [(0, .inr (some a0)), (1, .inl x1), (2, .inl y14), (3, .inl v16)] rfl (ihn2 n hn y14 v16 w15 hI)
          refine g_if_le X (tgt := 134) dX4_month_27 (by decide) (fun hc => ?_) (fun hc => ?_)
          · replace h := h.1 hc; clear hc
            exact g_sub [0, 1, 2, 3] [(0, .inr (some a0)), (1, .inl x1), (2, .inl y4), (3, .inl y5)] rfl (jp13 y4 w6 h)
          · replace h := h.2 hc; clear hc
            refine g_aload_n X dX4_month_30 rfl 0 rfl ?_
            have hk := h.1
            replace h := h.2
            refine gg_506 X hk m_1002 dX4_month_31 (fun z17 hv => ?_)
            replace h := h z17 hv; clear hv hk
            refine g_iload_n X dX4_month_34 rfl 3 rfl ?_
            refine g_dup2 X dX4_month_35 rfl rf_cat ?_
            obtain ⟨a18, rfl, hk, h⟩ := h
            obtain ⟨j19, hi, hj, hN, h⟩ := h
            refine g_iald X hk hi hj hN dX4_month_36 (fun v20 hv => ?_)
            replace h := h v20 hv; clear hv hk hi hj hN
            refine g_aload_n X dX4_month_37 rfl 0 rfl ?_
            have hk := h.1
            replace h := h.2
            refine gg_506 X hk m_1002 dX4_month_38 (fun z21 hv => ?_)
            replace h := h z21 hv; clear hv hk
            refine g_iload_n X dX4_month_41 rfl 3 rfl ?_
            obtain ⟨a22, rfl, hk, h⟩ := h
            obtain ⟨j23, hi, hj, hN, h⟩ := h
            refine g_iald X hk hi hj hN dX4_month_42 (fun v24 hv => ?_)
            replace h := h v24 hv; clear hv hk hi hj hN
            refine g_bipush X (v := (19 : Int32)) dX4_month_43 (by decide) ?_
            refine g_iadd X dX4_month_45 (fun v25 hv => ?_)
            replace h := h v25 hv; clear hv
            refine g_bipush X (v := (20 : Int32)) dX4_month_46 (by decide) ?_
            refine g_idiv X dX4_month_48 h.1 (fun v26 hv => ?_)
            replace h := h.2 v26 hv; clear hv
            refine g_iadd X dX4_month_49 (fun v27 hv => ?_)
            replace h := h v27 hv; clear hv
            have hk := h.1
            replace h := h.2
            obtain ⟨j28, hi, hj, hN, h⟩ := h
            refine g_iast X hk hi hj hN dX4_month_50 (fun w29 hv => ?_)
            replace h := h w29 hv; clear hv hk hi hj hN
            refine g_aload_n X dX4_month_51 rfl 0 rfl ?_
            have hk := h.1
            replace h := h.2
            refine gg_507 X hk m_1003 dX4_month_52 (fun z30 hv => ?_)
            replace h := h z30 hv; clear hv hk
            refine g_iload_n X dX4_month_55 rfl 3 rfl ?_
            refine g_dup2 X dX4_month_56 rfl rf_cat ?_
            obtain ⟨a31, rfl, hk, h⟩ := h
            obtain ⟨j32, hi, hj, hN, h⟩ := h
            refine g_iald X hk hi hj hN dX4_month_57 (fun v33 hv => ?_)
            replace h := h v33 hv; clear hv hk hi hj hN
            refine g_iconst X (v := (1 : Int32)) dX4_month_58 (by decide) ?_
            refine g_iadd X dX4_month_59 (fun v34 hv => ?_)
            replace h := h v34 hv; clear hv
            have hk := h.1
            replace h := h.2
            obtain ⟨j35, hi, hj, hN, h⟩ := h
            refine g_iast X hk hi hj hN dX4_month_60 (fun w36 hv => ?_)
            replace h := h w36 hv; clear hv hk hi hj hN
            refine g_aload_n X dX4_month_61 rfl 0 rfl ?_
            have hk := h.1
            replace h := h.2
            refine gg_507 X hk m_1003 dX4_month_62 (fun z37 hv => ?_)
            replace h := h z37 hv; clear hv hk
            refine g_iload_n X dX4_month_65 rfl 3 rfl ?_
            obtain ⟨a38, rfl, hk, h⟩ := h
            obtain ⟨j39, hi, hj, hN, h⟩ := h
            refine g_iald X hk hi hj hN dX4_month_66 (fun v40 hv => ?_)
            replace h := h v40 hv; clear hv hk hi hj hN
            refine g_bipush X (v := (6 : Int32)) dX4_month_67 (by decide) ?_
            refine g_icmp_le X (tgt := 134) dX4_month_69 (by decide) (fun hc => ?_) (fun hc => ?_)
            · replace h := h.1 hc; clear hc
              exact g_sub [0, 1, 2, 3] [(0, .inr (some a0)), (1, .inl x1), (2, .inl y4), (3, .inl y5)] rfl (jp13 y4 w36 h)
            · replace h := h.2 hc; clear hc
              refine g_aload_n X dX4_month_72 rfl 0 rfl ?_
              have hk := h.1
              replace h := h.2
              refine gg_506 X hk m_1002 dX4_month_73 (fun z41 hv => ?_)
              replace h := h z41 hv; clear hv hk
              refine g_iload_n X dX4_month_76 rfl 3 rfl ?_
              obtain ⟨a42, rfl, hk, h⟩ := h
              obtain ⟨j43, hi, hj, hN, h⟩ := h
              refine g_iald X hk hi hj hN dX4_month_77 (fun v44 hv => ?_)
              replace h := h v44 hv; clear hv hk hi hj hN
              refine g_iconst X (v := (2 : Int32)) dX4_month_78 (by decide) ?_
              refine g_idiv X dX4_month_79 h.1 (fun v45 hv => ?_)
              replace h := h.2 v45 hv; clear hv
              refine g_istore X [(4, .inl v45), (0, .inr (some a0)), (1, .inl x1), (2, .inl y4), (3, .inl y5)] dX4_month_80 (by decide) rfl ?_
              refine g_aload_n X dX4_month_82 rfl 1 rfl ?_
              have hk := h.1
              replace h := h.2
              refine gg_506 X hk m_1002 dX4_month_83 (fun z46 hv => ?_)
              replace h := h z46 hv; clear hv hk
              refine g_iload_n X dX4_month_86 rfl 4 rfl ?_
              obtain ⟨a47, rfl, hk, h⟩ := h
              obtain ⟨j48, hi, hj, hN, h⟩ := h
              refine g_iald X hk hi hj hN dX4_month_87 (fun v49 hv => ?_)
              replace h := h v49 hv; clear hv hk hi hj hN
              refine g_iload X dX4_month_88 0 rfl ?_
              refine g_isub X dX4_month_90 (fun v50 hv => ?_)
              replace h := h v50 hv; clear hv
              refine g_istore X [(5, .inl v50), (4, .inl v45), (0, .inr (some a0)), (1, .inl x1), (2, .inl y4), (3, .inl y5)] dX4_month_91 (by decide) rfl ?_
              refine g_aload_n X dX4_month_93 rfl 2 rfl ?_
              have hk := h.1
              replace h := h.2
              refine gg_506 X hk m_1002 dX4_month_94 (fun z51 hv => ?_)
              replace h := h z51 hv; clear hv hk
              refine g_iload_n X dX4_month_97 rfl 5 rfl ?_
              refine g_iconst X (v := (0 : Int32)) dX4_month_98 (by decide) ?_
              obtain ⟨a52, rfl, hk, h⟩ := h
              obtain ⟨j53, hi, hj, hN, h⟩ := h
              refine g_iast X hk hi hj hN dX4_month_99 (fun w54 hv => ?_)
              replace h := h w54 hv; clear hv hk hi hj hN
              refine g_aload_n X dX4_month_100 rfl 2 rfl ?_
              have hk := h.1
              replace h := h.2
              refine gg_510 X hk m_1006 dX4_month_101 (fun z55 hv => ?_)
              replace h := h z55 hv; clear hv hk
              refine g_iload_n X dX4_month_104 rfl 5 rfl ?_
              refine g_iconst X (v := (0 : Int32)) dX4_month_105 (by decide) ?_
              obtain ⟨a56, rfl, hk, h⟩ := h
              obtain ⟨j57, hi, hj, hN, h⟩ := h
              refine g_iast X hk hi hj hN dX4_month_106 (fun w58 hv => ?_)
              replace h := h w58 hv; clear hv hk hi hj hN
              refine g_aload_n X dX4_month_107 rfl 2 rfl ?_
              refine g_aload_n X dX4_month_108 rfl 2 rfl ?_
              have hk := h.1
              replace h := h.2
              refine gg_508 X hk m_1004 dX4_month_109 (fun z59 hv => ?_)
              replace h := h z59 hv; clear hv hk
              refine g_iload_n X dX4_month_112 rfl 5 rfl ?_
              obtain ⟨a60, rfl, hk, h⟩ := h
              obtain ⟨j61, hi, hj, hN, h⟩ := h
              refine g_iald X hk hi hj hN dX4_month_113 (fun v62 hv => ?_)
              replace h := h v62 hv; clear hv hk hi hj hN
              refine g_iload X dX4_month_114 1 rfl ?_
              have hk := h.1
              replace h := h.2
              refine g_callV_v X (As := [.int v62, .int v45]) (st := []) (n := 2) (c_X4_vouches hst h) rfl (by decide) hk (wE_5 G w58 a0) m_1207 m_1209 m_28 m_34 m_1210 (by decide +kernel) (by decide +kernel) rfl rfl (Nat.zero_le _) ⟨(by decide +kernel), (by decide +kernel)⟩ dX4_month_116 (fun w63 h => ?_)
              clear hk
              refine g_widen (c2 := (0)) (s2 := (0)) (by decide +kernel) (by decide +kernel) ?_
              refine g_aload_n X dX4_month_119 rfl 2 rfl ?_
              refine g_aload_n X dX4_month_120 rfl 2 rfl ?_
              have hk := h.1
              replace h := h.2
              refine gg_509 X hk m_1005 dX4_month_121 (fun z64 hv => ?_)
              replace h := h z64 hv; clear hv hk
              refine g_iload_n X dX4_month_124 rfl 5 rfl ?_
              obtain ⟨a65, rfl, hk, h⟩ := h
              obtain ⟨j66, hi, hj, hN, h⟩ := h
              refine g_iald X hk hi hj hN dX4_month_125 (fun v67 hv => ?_)
              replace h := h v67 hv; clear hv hk hi hj hN
              refine g_iload X dX4_month_126 0 rfl ?_
              have hk := h.1
              replace h := h.2
              refine g_callV_v X (As := [.int v67, .int v50]) (st := []) (n := 2) (c_X4_vouches hst h) rfl (by decide) hk (wE_5 G w63 a0) m_1207 m_1209 m_28 m_34 m_1210 (by decide +kernel) (by decide +kernel) rfl rfl (Nat.zero_le _) ⟨(by decide +kernel), (by decide +kernel)⟩ dX4_month_128 (fun w68 h => ?_)
              clear hk
              refine g_widen (c2 := (0)) (s2 := (0)) (by decide +kernel) (by decide +kernel) ?_
              refine g_iinc X dX4_month_131 4 rfl (d := (1 : Int32)) (by decide) (by decide) (fun v69 hv => ?_)
              replace h := h v69 hv; clear hv
              refine g_sub [0, 1, 2, 3, 4, 5] [(2, .inl v69), (5, .inl v50), (4, .inl v45), (0, .inr (some a0)), (1, .inl x1), (3, .inl y5)] rfl ?_
              exact g_sub [3, 4, 0, 5] [(0, .inr (some a0)), (1, .inl x1), (2, .inl v69), (3, .inl y5)] rfl (jp13 v69 w68 h)
  exact g_sub [2, 3, 1, 0] [(0, .inr (some a0)), (1, .inl x1), (2, .inl (0 : Int32)), (3, .inl (0 : Int32))] rfl (lp3 n0 (0 : Int32) (0 : Int32) w1 hi)

abbrev rm_X4_feast : Room := { frames := 7, cells := 0, slots := 0, locals := 122 }
def wp_X4_feast (a0 : Nat) (w : Wd) (Q : Int32 → Wd → Prop) : Prop :=
  ∃ Inv2 : Nat → Int32 → Int32 → Int32 → Prop, (∃ n : Nat, Inv2 n (0 : Int32) (0 : Int32) (0 : Int32)) ∧ ∀ (n1 : Nat) (y3 : Int32) (y4 : Int32) (y5 : Int32), Inv2 n1 y3 y4 y5 →
  w.K a0 = 5 ∧
  ∀ v6 : Int32, v6 = w.I 501 a0 →
  (v6 ≤ y5 → ∃ J7 : Option Nat → Int32 → Prop, (∀ (q8 : Option Nat) (y9 : Int32), J7 q8 y9 →
  ∃ a10, q8 = some a10 ∧ w.K a10 = 5 ∧
  ∀ w11 : Wd, w11 = w.setI 500 a10 y9 →
  w11.K a0 = 5 ∧
  ∀ v12 : Int32, v12 = w11.I 500 a0 →
  (v12 = 0 → w11.K a0 = 5 ∧
  ∀ v13 : Int32, v13 = w11.I 528 a0 →
  ¬ y3 = 0 ∧ ∀ v14 : Int32, v14 = v13 / y3 →
  ∃ Inv16 : Nat → Int32 → Wd → Prop, (∃ n : Nat, Inv16 n (0 : Int32) w11) ∧ ∀ (n15 : Nat) (y17 : Int32) (w18 : Wd), Inv16 n15 y17 w18 →
  w18.K a0 = 5 ∧
  ∀ v19 : Int32, v19 = w18.I 501 a0 →
  (v19 ≤ y17 → Q v14 w18) ∧ (¬ v19 ≤ y17 → ∀ v20 : Int32, v20 = -v14 →
  w18.K a0 = 5 ∧
  ∀ z21 : Option Nat, z21 = w18.R 505 a0 →
  ∃ a22, z21 = some a22 ∧ w18.K a22 = 11 ∧
  ∃ j23 : Nat, y17 = nI j23 ∧ j23 < w18.N a22 ∧ w18.N a22 < 2 ^ 31 ∧
  ∀ v24 : Int32, v24 = w18.A a22 j23 →
  ∀ v25 : Int32, v25 = v20 * v24 →
  w18.K a0 = 5 ∧
  wp_X4_pays a0 y17 v25 w18 (fun w26 => 
  w26.K a0 = 5 ∧
  ∀ v27 : Int32, v27 = w26.I 528 a0 →
  w26.K a0 = 5 ∧
  ∀ z28 : Option Nat, z28 = w26.R 505 a0 →
  ∃ a29, z28 = some a29 ∧ w26.K a29 = 11 ∧
  ∃ j30 : Nat, y17 = nI j30 ∧ j30 < w26.N a29 ∧ w26.N a29 < 2 ^ 31 ∧
  ∀ v31 : Int32, v31 = w26.A a29 j30 →
  ∀ v32 : Int32, v32 = v14 * v31 →
  ∀ v33 : Int32, v33 = v27 - v32 →
  w26.K a0 = 5 ∧
  ∀ w34 : Wd, w34 = w26.setI 528 a0 v33 →
  w34.K a0 = 5 ∧
  ∀ z35 : Option Nat, z35 = w34.R 505 a0 →
  ∃ a36, z35 = some a36 ∧ w34.K a36 = 11 ∧
  ∃ j37 : Nat, y17 = nI j37 ∧ j37 < w34.N a36 ∧ w34.N a36 < 2 ^ 31 ∧
  ∀ w38 : Wd, w38 = w34.setA a36 j37 (0 : Int32) →
  ∀ v39 : Int32, v39 = y17 + (1 : Int32) →
  ∃ n : Nat, n < n15 ∧ Inv16 n v39 w38))) ∧ (¬ v12 = 0 → Q (0 : Int32) w11)) ∧
  ∃ J40 : Option Nat → Prop, (∀ (q41 : Option Nat), J40 q41 →
  J7 q41 (1 : Int32)) ∧
  (y3 = 0 → J40 (some a0)) ∧ (¬ y3 = 0 → (y4 ≤ 0 → J7 (some a0) (0 : Int32)) ∧ (¬ y4 ≤ 0 → J40 (some a0)))) ∧ (¬ v6 ≤ y5 → w.K a0 = 5 ∧
  ∀ z42 : Option Nat, z42 = w.R 505 a0 →
  ∃ a43, z42 = some a43 ∧ w.K a43 = 11 ∧
  ∃ j44 : Nat, y5 = nI j44 ∧ j44 < w.N a43 ∧ w.N a43 < 2 ^ 31 ∧
  ∀ v45 : Int32, v45 = w.A a43 j44 →
  ∀ v46 : Int32, v46 = y3 + v45 →
  w.K a0 = 5 ∧
  ∀ z47 : Option Nat, z47 = w.R 506 a0 →
  ∃ a48, z47 = some a48 ∧ w.K a48 = 11 ∧
  ∃ j49 : Nat, y5 = nI j49 ∧ j49 < w.N a48 ∧ w.N a48 < 2 ^ 31 ∧
  ∀ v50 : Int32, v50 = w.A a48 j49 →
  ∀ v51 : Int32, v51 = y4 + v50 →
  ∀ v52 : Int32, v52 = y5 + (1 : Int32) →
  ∃ n : Nat, n < n1 ∧ Inv2 n v46 v51 v52)
set_option maxHeartbeats 4000000 in
set_option maxRecDepth 100000 in
theorem c_X4_feast {l : Launch} {G : GT} {L0 : Nat} (hst : l.stackTraces = false) {a0 : Nat} {w : Wd} {Q : Int32 → Wd → Prop} (h : wp_X4_feast a0 w Q) : GMi l G L0 yX4_feast cX4_feast 5 (some .int) rm_X4_feast [.ref a0] w Q := by
  refine g_enter hst (by decide +kernel) [.inr (some a0)] rfl (show 1 ≤ 5 by decide) ?_
  intro p e s m args below meth c X hr hnm
  replace X : GC l G L0 p s m args meth c cX4_feast 5 "SusuRingModel" := X
  refine g_iconst X (v := (0 : Int32)) dX4_feast_0 (by decide) ?_
  refine g_istore_n X [(1, .inl (0 : Int32)), (0, .inr (some a0))] dX4_feast_1 rfl (by decide) rfl ?_
  refine g_iconst X (v := (0 : Int32)) dX4_feast_2 (by decide) ?_
  refine g_istore_n X [(2, .inl (0 : Int32)), (1, .inl (0 : Int32)), (0, .inr (some a0))] dX4_feast_3 rfl (by decide) rfl ?_
  refine g_iconst X (v := (0 : Int32)) dX4_feast_4 (by decide) ?_
  refine g_istore_n X [(3, .inl (0 : Int32)), (2, .inl (0 : Int32)), (1, .inl (0 : Int32)), (0, .inr (some a0))] dX4_feast_5 rfl (by decide) rfl ?_
  obtain ⟨Inv2, ⟨n0, hi⟩, hsn1⟩ := h
  have lp2 : ∀ (n1 : Nat), ∀ (y3 : Int32) (y4 : Int32) (y5 : Int32), Inv2 n1 y3 y4 y5 → Gw l G L0 p e rm_X4_feast s m args below meth c 5 (0) (0) (MQ below (gQi G L0 Q) args s rm_X4_feast.cells rm_X4_feast.slots (GA L0)) w 6 [(0, .inr (some a0)), (1, .inl y3), (2, .inl y4), (3, .inl y5)] [] := by
    intro n1
    induction n1 using Nat.strongRecOn with
    | ind n1 ihn1 =>
      intro y3 y4 y5 hI
      have h := hsn1 n1 y3 y4 y5 hI
      clear hI
      refine g_iload_n X dX4_feast_6 rfl 3 rfl ?_
      refine g_aload_n X dX4_feast_7 rfl 0 rfl ?_
      have hk := h.1
      replace h := h.2
      refine gg_501 X hk m_997 dX4_feast_8 (fun v6 hv => ?_)
      replace h := h v6 hv; clear hv hk
      refine g_icmp_ge X (tgt := 38) dX4_feast_11 (by decide) (fun hc => ?_) (fun hc => ?_)
      · replace h := h.1 hc; clear hc
        refine g_aload_n X dX4_feast_38 rfl 0 rfl ?_
        refine g_iload_n X dX4_feast_39 rfl 1 rfl ?_
        obtain ⟨J7, hjJ7, h⟩ := h
        have jp7 : ∀ (q8 : Option Nat) (y9 : Int32), J7 q8 y9 → Gw l G L0 p e rm_X4_feast s m args below meth c 5 (0) (0) (MQ below (gQi G L0 Q) args s rm_X4_feast.cells rm_X4_feast.slots (GA L0)) w 52 [(0, .inr (some a0)), (1, .inl y3)] [.int y9, va_rf q8] := by
          intro q8 y9 hJ
          have h := hjJ7 q8 y9 hJ
          clear hJ
          obtain ⟨a10, rfl, hk, h⟩ := h
          refine gp_500 X hk m_996 dX4_feast_52 (fun w11 hv => ?_)
          replace h := h w11 hv; clear hv hk
          refine g_aload_n X dX4_feast_55 rfl 0 rfl ?_
          have hk := h.1
          replace h := h.2
          refine gg_500 X hk m_996 dX4_feast_56 (fun v12 hv => ?_)
          replace h := h v12 hv; clear hv hk
          refine g_if_eq X (tgt := 64) dX4_feast_59 (by decide) (fun hc => ?_) (fun hc => ?_)
          · replace h := h.1 hc; clear hc
            refine g_aload_n X dX4_feast_64 rfl 0 rfl ?_
            have hk := h.1
            replace h := h.2
            refine gg_528 X hk m_1024 dX4_feast_65 (fun v13 hv => ?_)
            replace h := h v13 hv; clear hv hk
            refine g_iload_n X dX4_feast_68 rfl 1 rfl ?_
            refine g_idiv X dX4_feast_69 h.1 (fun v14 hv => ?_)
            replace h := h.2 v14 hv; clear hv
            refine g_istore_n X [(3, .inl v14), (0, .inr (some a0)), (1, .inl y3)] dX4_feast_70 rfl (by decide) rfl ?_
            refine g_iconst X (v := (0 : Int32)) dX4_feast_71 (by decide) ?_
            refine g_istore X [(4, .inl (0 : Int32)), (3, .inl v14), (0, .inr (some a0)), (1, .inl y3)] dX4_feast_72 (by decide) rfl ?_
            obtain ⟨Inv16, ⟨n0, hi⟩, hsn15⟩ := h
            have lp16 : ∀ (n15 : Nat), ∀ (y17 : Int32) (w18 : Wd), Inv16 n15 y17 w18 → Gw l G L0 p e rm_X4_feast s m args below meth c 5 (0) (0) (MQ below (gQi G L0 Q) args s rm_X4_feast.cells rm_X4_feast.slots (GA L0)) w18 74 [(0, .inr (some a0)), (3, .inl v14), (4, .inl y17)] [] := by
              intro n15
              induction n15 using Nat.strongRecOn with
              | ind n15 ihn15 =>
                intro y17 w18 hI
                have h := hsn15 n15 y17 w18 hI
                clear hI
                refine g_iload X dX4_feast_74 2 rfl ?_
                refine g_aload_n X dX4_feast_76 rfl 0 rfl ?_
                have hk := h.1
                replace h := h.2
                refine gg_501 X hk m_997 dX4_feast_77 (fun v19 hv => ?_)
                replace h := h v19 hv; clear hv hk
                refine g_icmp_ge X (tgt := 131) dX4_feast_80 (by decide) (fun hc => ?_) (fun hc => ?_)
                · replace h := h.1 hc; clear hc
                  refine g_iload_n X dX4_feast_131 rfl 1 rfl ?_
                  exact g_iret X hr (by decide +kernel) (by decide +kernel) dX4_feast_132 h
                · replace h := h.2 hc; clear hc
                  refine g_aload_n X dX4_feast_83 rfl 0 rfl ?_
                  refine g_iload X dX4_feast_84 2 rfl ?_
                  refine g_iload_n X dX4_feast_86 rfl 1 rfl ?_
                  refine g_ineg X dX4_feast_87 (fun v20 hv => ?_)
                  replace h := h v20 hv; clear hv
                  refine g_aload_n X dX4_feast_88 rfl 0 rfl ?_
                  have hk := h.1
                  replace h := h.2
                  refine gg_505 X hk m_1001 dX4_feast_89 (fun z21 hv => ?_)
                  replace h := h z21 hv; clear hv hk
                  refine g_iload X dX4_feast_92 2 rfl ?_
                  obtain ⟨a22, rfl, hk, h⟩ := h
                  obtain ⟨j23, hi, hj, hN, h⟩ := h
                  refine g_iald X hk hi hj hN dX4_feast_94 (fun v24 hv => ?_)
                  replace h := h v24 hv; clear hv hk hi hj hN
                  refine g_imul X dX4_feast_95 (fun v25 hv => ?_)
                  replace h := h v25 hv; clear hv
                  have hk := h.1
                  replace h := h.2
                  refine g_callV_v X (As := [.int y17, .int v25]) (st := []) (n := 2) (c_X4_pays hst h) rfl (by decide) hk (wE_5 G w18 a0) m_1168 m_1170 m_24 m_34 m_1171 (by decide +kernel) (by decide +kernel) rfl rfl (Nat.zero_le _) ⟨(by decide +kernel), (by decide +kernel)⟩ dX4_feast_96 (fun w26 h => ?_)
                  clear hk
                  refine g_widen (c2 := (0)) (s2 := (0)) (by decide +kernel) (by decide +kernel) ?_
                  refine g_aload_n X dX4_feast_99 rfl 0 rfl ?_
                  refine g_dup X dX4_feast_100 rf_cat ?_
                  have hk := h.1
                  replace h := h.2
                  refine gg_528 X hk m_1024 dX4_feast_101 (fun v27 hv => ?_)
                  replace h := h v27 hv; clear hv hk
                  refine g_iload_n X dX4_feast_104 rfl 1 rfl ?_
                  refine g_aload_n X dX4_feast_105 rfl 0 rfl ?_
                  have hk := h.1
                  replace h := h.2
                  refine gg_505 X hk m_1001 dX4_feast_106 (fun z28 hv => ?_)
                  replace h := h z28 hv; clear hv hk
                  refine g_iload X dX4_feast_109 2 rfl ?_
                  obtain ⟨a29, rfl, hk, h⟩ := h
                  obtain ⟨j30, hi, hj, hN, h⟩ := h
                  refine g_iald X hk hi hj hN dX4_feast_111 (fun v31 hv => ?_)
                  replace h := h v31 hv; clear hv hk hi hj hN
                  refine g_imul X dX4_feast_112 (fun v32 hv => ?_)
                  replace h := h v32 hv; clear hv
                  refine g_isub X dX4_feast_113 (fun v33 hv => ?_)
                  replace h := h v33 hv; clear hv
                  have hk := h.1
                  replace h := h.2
                  refine gp_528 X hk m_1024 dX4_feast_114 (fun w34 hv => ?_)
                  replace h := h w34 hv; clear hv hk
                  refine g_aload_n X dX4_feast_117 rfl 0 rfl ?_
                  have hk := h.1
                  replace h := h.2
                  refine gg_505 X hk m_1001 dX4_feast_118 (fun z35 hv => ?_)
                  replace h := h z35 hv; clear hv hk
                  refine g_iload X dX4_feast_121 2 rfl ?_
                  refine g_iconst X (v := (0 : Int32)) dX4_feast_123 (by decide) ?_
                  obtain ⟨a36, rfl, hk, h⟩ := h
                  obtain ⟨j37, hi, hj, hN, h⟩ := h
                  refine g_iast X hk hi hj hN dX4_feast_124 (fun w38 hv => ?_)
                  replace h := h w38 hv; clear hv hk hi hj hN
                  refine g_iinc X dX4_feast_125 2 rfl (d := (1 : Int32)) (by decide) (by decide) (fun v39 hv => ?_)
                  replace h := h v39 hv; clear hv
                  refine g_sub [0, 1, 2] [(4, .inl v39), (0, .inr (some a0)), (3, .inl v14)] rfl ?_
                  refine g_goto X (tgt := 74) dX4_feast_128 (by decide) ?_
                  obtain ⟨n, hn, hI⟩ := h
                  exact g_sub [1, 2, 0] [(0, .inr (some a0)), (3, .inl v14), (4, .inl v39)] rfl (ihn15 n hn v39 w38 hI)
            exact g_sub [2, 1, 0] [(0, .inr (some a0)), (3, .inl v14), (4, .inl (0 : Int32))] rfl (lp16 n0 (0 : Int32) w11 hi)
          · replace h := h.2 hc; clear hc
            refine g_iconst X (v := (0 : Int32)) dX4_feast_62 (by decide) ?_
            exact g_iret X hr (by decide +kernel) (by decide +kernel) dX4_feast_63 h
        obtain ⟨J40, hjJ40, h⟩ := h
        have jp40 : ∀ (q41 : Option Nat), J40 q41 → Gw l G L0 p e rm_X4_feast s m args below meth c 5 (0) (0) (MQ below (gQi G L0 Q) args s rm_X4_feast.cells rm_X4_feast.slots (GA L0)) w 47 [(0, .inr (some a0)), (1, .inl y3)] [va_rf q41] := by
          intro q41 hJ
          have h := hjJ40 q41 hJ
          clear hJ
          refine g_iconst X (v := (1 : Int32)) dX4_feast_47 (by decide) ?_
          refine g_goto X (tgt := 52) dX4_feast_48 (by decide) ?_
          exact g_sub [0, 1] [(0, .inr (some a0)), (1, .inl y3)] rfl (jp7 q41 (1 : Int32) h)
        refine g_if_eq X (tgt := 47) dX4_feast_40 (by decide) (fun hc => ?_) (fun hc => ?_)
        · replace h := h.1 hc; clear hc
          exact g_sub [0, 1] [(0, .inr (some a0)), (1, .inl y3)] rfl (jp40 (some a0) h)
        · replace h := h.2 hc; clear hc
          refine g_iload_n X dX4_feast_43 rfl 2 rfl ?_
          refine g_if_le X (tgt := 51) dX4_feast_44 (by decide) (fun hc => ?_) (fun hc => ?_)
          · replace h := h.1 hc; clear hc
            refine g_iconst X (v := (0 : Int32)) dX4_feast_51 (by decide) ?_
            exact g_sub [0, 1] [(0, .inr (some a0)), (1, .inl y3)] rfl (jp7 (some a0) (0 : Int32) h)
          · replace h := h.2 hc; clear hc
            exact g_sub [0, 1] [(0, .inr (some a0)), (1, .inl y3)] rfl (jp40 (some a0) h)
      · replace h := h.2 hc; clear hc
        refine g_iload_n X dX4_feast_14 rfl 1 rfl ?_
        refine g_aload_n X dX4_feast_15 rfl 0 rfl ?_
        have hk := h.1
        replace h := h.2
        refine gg_505 X hk m_1001 dX4_feast_16 (fun z42 hv => ?_)
        replace h := h z42 hv; clear hv hk
        refine g_iload_n X dX4_feast_19 rfl 3 rfl ?_
        obtain ⟨a43, rfl, hk, h⟩ := h
        obtain ⟨j44, hi, hj, hN, h⟩ := h
        refine g_iald X hk hi hj hN dX4_feast_20 (fun v45 hv => ?_)
        replace h := h v45 hv; clear hv hk hi hj hN
        refine g_iadd X dX4_feast_21 (fun v46 hv => ?_)
        replace h := h v46 hv; clear hv
        refine g_istore_n X [(1, .inl v46), (0, .inr (some a0)), (2, .inl y4), (3, .inl y5)] dX4_feast_22 rfl (by decide) rfl ?_
        refine g_iload_n X dX4_feast_23 rfl 2 rfl ?_
        refine g_aload_n X dX4_feast_24 rfl 1 rfl ?_
        have hk := h.1
        replace h := h.2
        refine gg_506 X hk m_1002 dX4_feast_25 (fun z47 hv => ?_)
        replace h := h z47 hv; clear hv hk
        refine g_iload_n X dX4_feast_28 rfl 3 rfl ?_
        obtain ⟨a48, rfl, hk, h⟩ := h
        obtain ⟨j49, hi, hj, hN, h⟩ := h
        refine g_iald X hk hi hj hN dX4_feast_29 (fun v50 hv => ?_)
        replace h := h v50 hv; clear hv hk hi hj hN
        refine g_iadd X dX4_feast_30 (fun v51 hv => ?_)
        replace h := h v51 hv; clear hv
        refine g_istore_n X [(2, .inl v51), (1, .inl v46), (0, .inr (some a0)), (3, .inl y5)] dX4_feast_31 rfl (by decide) rfl ?_
        refine g_iinc X dX4_feast_32 3 rfl (d := (1 : Int32)) (by decide) (by decide) (fun v52 hv => ?_)
        replace h := h v52 hv; clear hv
        refine g_sub [0, 1, 2, 3] [(3, .inl v52), (2, .inl v51), (1, .inl v46), (0, .inr (some a0))] rfl ?_
        refine g_goto X (tgt := 6) dX4_feast_35 (by decide) ?_
        obtain ⟨n, hn, hI⟩ := h
        exact g_sub [3, 2, 1, 0] [(0, .inr (some a0)), (1, .inl v46), (2, .inl v51), (3, .inl v52)] rfl (ihn1 n hn v46 v51 v52 hI)
  exact g_sub [3, 2, 1, 0] [(0, .inr (some a0)), (1, .inl (0 : Int32)), (2, .inl (0 : Int32)), (3, .inl (0 : Int32))] rfl (lp2 n0 (0 : Int32) (0 : Int32) (0 : Int32) hi)

abbrev rm_X4_note : Room := { frames := 8, cells := 0, slots := 0, locals := 143 }
def wp_X4_note (a0 : Nat) (x1 : Int32) (x2 : Int32) (x3 : Int32) (w : Wd) (Q : Int32 → Wd → Prop) : Prop :=
  wp_X4_in x1 (0 : Int32) (2 : Int32) w (fun v2 w1 => 
  ∃ J3 : Option Nat → Int32 → Wd → Prop, (∀ (q4 : Option Nat) (y5 : Int32) (w6 : Wd), J3 q4 y5 w6 →
  ∃ a7, q4 = some a7 ∧ w6.K a7 = 5 ∧
  ∀ w8 : Wd, w8 = w6.setI 500 a7 y5 →
  w8.K a0 = 5 ∧
  ∀ v9 : Int32, v9 = w8.I 500 a0 →
  (v9 = 0 → w8.K a0 = 5 ∧
  ∀ z10 : Option Nat, z10 = w8.R 530 a0 →
  ∀ v11 : Int32, v11 = (16 : Int32) * x1 →
  ∀ v12 : Int32, v12 = v11 + x2 →
  ∃ a13, z10 = some a13 ∧ w8.K a13 = 11 ∧
  ∃ j14 : Nat, v12 = nI j14 ∧ j14 < w8.N a13 ∧ w8.N a13 < 2 ^ 31 ∧
  ∀ v15 : Int32, v15 = w8.A a13 j14 →
  ∀ v16 : Int32, v16 = v15 + x3 →
  w8.K a13 = 11 ∧
  ∃ j17 : Nat, v12 = nI j17 ∧ j17 < w8.N a13 ∧ w8.N a13 < 2 ^ 31 ∧
  ∀ w18 : Wd, w18 = w8.setA a13 j17 v16 →
  w18.K a0 = 5 ∧
  ∀ z19 : Option Nat, z19 = w18.R 530 a0 →
  ∀ v20 : Int32, v20 = (16 : Int32) * x1 →
  ∀ v21 : Int32, v21 = v20 + x2 →
  ∃ a22, z19 = some a22 ∧ w18.K a22 = 11 ∧
  ∃ j23 : Nat, v21 = nI j23 ∧ j23 < w18.N a22 ∧ w18.N a22 < 2 ^ 31 ∧
  ∀ v24 : Int32, v24 = w18.A a22 j23 →
  Q v24 w18) ∧ (¬ v9 = 0 → Q (0 : Int32) w8)) ∧
  ∃ J25 : Option Nat → Wd → Prop, (∀ (q26 : Option Nat) (w27 : Wd), J25 q26 w27 →
  J3 q26 (1 : Int32) w27) ∧
  (v2 = 0 → J25 (some a0) w1) ∧ (¬ v2 = 0 → w1.K a0 = 5 ∧
  wp_X4_isOne a0 x2 w1 (fun v29 w28 => 
  (¬ v29 = 0 → wp_X4_in x3 (-10000 : Int32) (10000 : Int32) w28 (fun v31 w30 => 
  (¬ v31 = 0 → J3 (some a0) (0 : Int32) w30) ∧ (v31 = 0 → J3 (some a0) (2 : Int32) w30))) ∧ (v29 = 0 → J25 (some a0) w28))))
set_option maxHeartbeats 4000000 in
set_option maxRecDepth 100000 in
theorem c_X4_note {l : Launch} {G : GT} {L0 : Nat} (hst : l.stackTraces = false) {a0 : Nat} {x1 : Int32} {x2 : Int32} {x3 : Int32} {w : Wd} {Q : Int32 → Wd → Prop} (h : wp_X4_note a0 x1 x2 x3 w Q) : GMi l G L0 yX4_note cX4_note 4 (some .int) rm_X4_note [.ref a0, .int x1, .int x2, .int x3] w Q := by
  refine g_enter hst (by decide +kernel) [.inr (some a0), .inl x1, .inl x2, .inl x3] rfl (show 4 ≤ 4 by decide) ?_
  intro p e s m args below meth c X hr hnm
  replace X : GC l G L0 p s m args meth c cX4_note 4 "SusuRingModel" := X
  refine g_aload_n X dX4_note_0 rfl 0 rfl ?_
  refine g_iload_n X dX4_note_1 rfl 1 rfl ?_
  refine g_iconst X (v := (0 : Int32)) dX4_note_2 (by decide) ?_
  refine g_iconst X (v := (2 : Int32)) dX4_note_3 (by decide) ?_
  refine g_callS_i X (As := [.int x1, .int (0 : Int32), .int (2 : Int32)]) (st := [va_rf (some a0)]) (n := 3) (c_X4_in hst h) m_1099 m_1100 m_34 m_1101 (by decide +kernel) (by decide +kernel) rfl rfl (by simp [cat_int, rf_cat]) ⟨(by decide +kernel), (by decide +kernel)⟩ dX4_note_4 (fun v2 w1 h => ?_)
  refine g_widen (c2 := (0)) (s2 := (0)) (by decide +kernel) (by decide +kernel) ?_
  obtain ⟨J3, hjJ3, h⟩ := h
  have jp3 : ∀ (q4 : Option Nat) (y5 : Int32) (w6 : Wd), J3 q4 y5 w6 → Gw l G L0 p e rm_X4_note s m args below meth c 4 (0) (0) (MQ below (gQi G L0 Q) args s rm_X4_note.cells rm_X4_note.slots (GA L0)) w6 40 [(0, .inr (some a0)), (1, .inl x1), (2, .inl x2), (3, .inl x3)] [.int y5, va_rf q4] := by
    intro q4 y5 w6 hJ
    have h := hjJ3 q4 y5 w6 hJ
    clear hJ
    obtain ⟨a7, rfl, hk, h⟩ := h
    refine gp_500 X hk m_996 dX4_note_40 (fun w8 hv => ?_)
    replace h := h w8 hv; clear hv hk
    refine g_aload_n X dX4_note_43 rfl 0 rfl ?_
    have hk := h.1
    replace h := h.2
    refine gg_500 X hk m_996 dX4_note_44 (fun v9 hv => ?_)
    replace h := h v9 hv; clear hv hk
    refine g_if_eq X (tgt := 52) dX4_note_47 (by decide) (fun hc => ?_) (fun hc => ?_)
    · replace h := h.1 hc; clear hc
      refine g_aload_n X dX4_note_52 rfl 0 rfl ?_
      have hk := h.1
      replace h := h.2
      refine gg_530 X hk m_1026 dX4_note_53 (fun z10 hv => ?_)
      replace h := h z10 hv; clear hv hk
      refine g_bipush X (v := (16 : Int32)) dX4_note_56 (by decide) ?_
      refine g_iload_n X dX4_note_58 rfl 1 rfl ?_
      refine g_imul X dX4_note_59 (fun v11 hv => ?_)
      replace h := h v11 hv; clear hv
      refine g_iload_n X dX4_note_60 rfl 2 rfl ?_
      refine g_iadd X dX4_note_61 (fun v12 hv => ?_)
      replace h := h v12 hv; clear hv
      refine g_dup2 X dX4_note_62 rfl rf_cat ?_
      obtain ⟨a13, rfl, hk, h⟩ := h
      obtain ⟨j14, hi, hj, hN, h⟩ := h
      refine g_iald X hk hi hj hN dX4_note_63 (fun v15 hv => ?_)
      replace h := h v15 hv; clear hv hk hi hj hN
      refine g_iload_n X dX4_note_64 rfl 3 rfl ?_
      refine g_iadd X dX4_note_65 (fun v16 hv => ?_)
      replace h := h v16 hv; clear hv
      have hk := h.1
      replace h := h.2
      obtain ⟨j17, hi, hj, hN, h⟩ := h
      refine g_iast X hk hi hj hN dX4_note_66 (fun w18 hv => ?_)
      replace h := h w18 hv; clear hv hk hi hj hN
      refine g_aload_n X dX4_note_67 rfl 0 rfl ?_
      have hk := h.1
      replace h := h.2
      refine gg_530 X hk m_1026 dX4_note_68 (fun z19 hv => ?_)
      replace h := h z19 hv; clear hv hk
      refine g_bipush X (v := (16 : Int32)) dX4_note_71 (by decide) ?_
      refine g_iload_n X dX4_note_73 rfl 1 rfl ?_
      refine g_imul X dX4_note_74 (fun v20 hv => ?_)
      replace h := h v20 hv; clear hv
      refine g_iload_n X dX4_note_75 rfl 2 rfl ?_
      refine g_iadd X dX4_note_76 (fun v21 hv => ?_)
      replace h := h v21 hv; clear hv
      obtain ⟨a22, rfl, hk, h⟩ := h
      obtain ⟨j23, hi, hj, hN, h⟩ := h
      refine g_iald X hk hi hj hN dX4_note_77 (fun v24 hv => ?_)
      replace h := h v24 hv; clear hv hk hi hj hN
      exact g_iret X hr (by decide +kernel) (by decide +kernel) dX4_note_78 h
    · replace h := h.2 hc; clear hc
      refine g_iconst X (v := (0 : Int32)) dX4_note_50 (by decide) ?_
      exact g_iret X hr (by decide +kernel) (by decide +kernel) dX4_note_51 h
  obtain ⟨J25, hjJ25, h⟩ := h
  have jp25 : ∀ (q26 : Option Nat) (w27 : Wd), J25 q26 w27 → Gw l G L0 p e rm_X4_note s m args below meth c 4 (0) (0) (MQ below (gQi G L0 Q) args s rm_X4_note.cells rm_X4_note.slots (GA L0)) w27 18 [(0, .inr (some a0)), (1, .inl x1), (2, .inl x2), (3, .inl x3)] [va_rf q26] := by
    intro q26 w27 hJ
    have h := hjJ25 q26 w27 hJ
    clear hJ
    refine g_iconst X (v := (1 : Int32)) dX4_note_18 (by decide) ?_
    refine g_goto X (tgt := 40) dX4_note_19 (by decide) ?_
    exact g_sub [0, 1, 2, 3] [(0, .inr (some a0)), (1, .inl x1), (2, .inl x2), (3, .inl x3)] rfl (jp3 q26 (1 : Int32) w27 h)
  refine g_if_eq X (tgt := 18) dX4_note_7 (by decide) (fun hc => ?_) (fun hc => ?_)
  · replace h := h.1 hc; clear hc
    exact g_sub [0, 1, 2, 3] [(0, .inr (some a0)), (1, .inl x1), (2, .inl x2), (3, .inl x3)] rfl (jp25 (some a0) w1 h)
  · replace h := h.2 hc; clear hc
    refine g_aload_n X dX4_note_10 rfl 0 rfl ?_
    refine g_iload_n X dX4_note_11 rfl 2 rfl ?_
    have hk := h.1
    replace h := h.2
    refine g_callV_i X (As := [.int x2]) (st := [va_rf (some a0)]) (n := 1) (c_X4_isOne hst h) rfl (by decide) hk (wE_5 G w1 a0) m_1107 m_1109 m_15 m_34 m_1110 (by decide +kernel) (by decide +kernel) rfl rfl (by simp [cat_int, rf_cat]) ⟨(by decide +kernel), (by decide +kernel)⟩ dX4_note_12 (fun v29 w28 h => ?_)
    clear hk
    refine g_widen (c2 := (0)) (s2 := (0)) (by decide +kernel) (by decide +kernel) ?_
    refine g_if_ne X (tgt := 22) dX4_note_15 (by decide) (fun hc => ?_) (fun hc => ?_)
    · replace h := h.1 hc; clear hc
      refine g_iload_n X dX4_note_22 rfl 3 rfl ?_
      refine g_sipush X (v := (-10000 : Int32)) dX4_note_23 (by decide) ?_
      refine g_sipush X (v := (10000 : Int32)) dX4_note_26 (by decide) ?_
      refine g_callS_i X (As := [.int x3, .int (-10000 : Int32), .int (10000 : Int32)]) (st := [va_rf (some a0)]) (n := 3) (c_X4_in hst h) m_1099 m_1100 m_34 m_1101 (by decide +kernel) (by decide +kernel) rfl rfl (by simp [cat_int, rf_cat]) ⟨(by decide +kernel), (by decide +kernel)⟩ dX4_note_29 (fun v31 w30 h => ?_)
      refine g_widen (c2 := (0)) (s2 := (0)) (by decide +kernel) (by decide +kernel) ?_
      refine g_if_ne X (tgt := 39) dX4_note_32 (by decide) (fun hc => ?_) (fun hc => ?_)
      · replace h := h.1 hc; clear hc
        refine g_iconst X (v := (0 : Int32)) dX4_note_39 (by decide) ?_
        exact g_sub [0, 1, 2, 3] [(0, .inr (some a0)), (1, .inl x1), (2, .inl x2), (3, .inl x3)] rfl (jp3 (some a0) (0 : Int32) w30 h)
      · replace h := h.2 hc; clear hc
        refine g_iconst X (v := (2 : Int32)) dX4_note_35 (by decide) ?_
        refine g_goto X (tgt := 40) dX4_note_36 (by decide) ?_
        exact g_sub [0, 1, 2, 3] [(0, .inr (some a0)), (1, .inl x1), (2, .inl x2), (3, .inl x3)] rfl (jp3 (some a0) (2 : Int32) w30 h)
    · replace h := h.2 hc; clear hc
      exact g_sub [0, 1, 2, 3] [(0, .inr (some a0)), (1, .inl x1), (2, .inl x2), (3, .inl x3)] rfl (jp25 (some a0) w28 h)

abbrev rm_X4_audit : Room := { frames := 7, cells := 0, slots := 0, locals := 122 }
def wp_X4_audit (a0 : Nat) (x1 : Int32) (w : Wd) (Q : Int32 → Wd → Prop) : Prop :=
  wp_X4_in x1 (0 : Int32) (2 : Int32) w (fun v2 w1 => 
  ∃ J3 : Option Nat → Int32 → Prop, (∀ (q4 : Option Nat) (y5 : Int32), J3 q4 y5 →
  ∃ a6, q4 = some a6 ∧ w1.K a6 = 5 ∧
  ∀ w7 : Wd, w7 = w1.setI 500 a6 y5 →
  w7.K a0 = 5 ∧
  ∀ v8 : Int32, v8 = w7.I 501 a0 →
  ∀ v9 : Int32, v9 = v8 - (1 : Int32) →
  ∃ Inv11 : Nat → Int32 → Int32 → Prop, (∃ n : Nat, Inv11 n (-1 : Int32) v9) ∧ ∀ (n10 : Nat) (y12 : Int32) (y13 : Int32), Inv11 n10 y12 y13 →
  ∃ J14 : Prop, (J14 →
  w7.K a0 = 5 ∧
  ∀ v15 : Int32, v15 = w7.I 500 a0 →
  ∃ J16 : Int32 → Prop, (∀ (y17 : Int32), J16 y17 →
  Q y17 w7) ∧
  (v15 = 0 → J16 y12) ∧ (¬ v15 = 0 → J16 (0 : Int32))) ∧
  (y13 < 0 → J14) ∧ (¬ y13 < 0 → w7.K a0 = 5 ∧
  ∀ v18 : Int32, v18 = w7.I 500 a0 →
  (¬ v18 = 0 → J14) ∧ (v18 = 0 → w7.K a0 = 5 ∧
  ∀ z19 : Option Nat, z19 = w7.R 530 a0 →
  ∀ v20 : Int32, v20 = (16 : Int32) * x1 →
  ∀ v21 : Int32, v21 = v20 + y13 →
  ∃ a22, z19 = some a22 ∧ w7.K a22 = 11 ∧
  ∃ j23 : Nat, v21 = nI j23 ∧ j23 < w7.N a22 ∧ w7.N a22 < 2 ^ 31 ∧
  ∀ v24 : Int32, v24 = w7.A a22 j23 →
  w7.K a0 = 5 ∧
  ∀ z25 : Option Nat, z25 = w7.R 511 a0 →
  ∃ a26, z25 = some a26 ∧ w7.K a26 = 11 ∧
  ∃ j27 : Nat, y13 = nI j27 ∧ j27 < w7.N a26 ∧ w7.N a26 < 2 ^ 31 ∧
  ∀ v28 : Int32, v28 = w7.A a26 j27 →
  ∃ J29 : Int32 → Prop, (∀ (y30 : Int32), J29 y30 →
  ∀ v31 : Int32, v31 = y13 + (-1 : Int32) →
  ∃ n : Nat, n < n10 ∧ Inv11 n y30 v31) ∧
  (¬ v24 = v28 → J29 y13) ∧ (v24 = v28 → J29 y12)))) ∧
  (v2 = 0 → J3 (some a0) (1 : Int32)) ∧ (¬ v2 = 0 → J3 (some a0) (0 : Int32)))
set_option maxHeartbeats 4000000 in
set_option maxRecDepth 100000 in
theorem c_X4_audit {l : Launch} {G : GT} {L0 : Nat} (hst : l.stackTraces = false) {a0 : Nat} {x1 : Int32} {w : Wd} {Q : Int32 → Wd → Prop} (h : wp_X4_audit a0 x1 w Q) : GMi l G L0 yX4_audit cX4_audit 4 (some .int) rm_X4_audit [.ref a0, .int x1] w Q := by
  refine g_enter hst (by decide +kernel) [.inr (some a0), .inl x1] rfl (show 2 ≤ 4 by decide) ?_
  intro p e s m args below meth c X hr hnm
  replace X : GC l G L0 p s m args meth c cX4_audit 4 "SusuRingModel" := X
  refine g_aload_n X dX4_audit_0 rfl 0 rfl ?_
  refine g_iload_n X dX4_audit_1 rfl 1 rfl ?_
  refine g_iconst X (v := (0 : Int32)) dX4_audit_2 (by decide) ?_
  refine g_iconst X (v := (2 : Int32)) dX4_audit_3 (by decide) ?_
  refine g_callS_i X (As := [.int x1, .int (0 : Int32), .int (2 : Int32)]) (st := [va_rf (some a0)]) (n := 3) (c_X4_in hst h) m_1099 m_1100 m_34 m_1101 (by decide +kernel) (by decide +kernel) rfl rfl (by simp [cat_int, rf_cat]) ⟨(by decide +kernel), (by decide +kernel)⟩ dX4_audit_4 (fun v2 w1 h => ?_)
  refine g_widen (c2 := (0)) (s2 := (0)) (by decide +kernel) (by decide +kernel) ?_
  obtain ⟨J3, hjJ3, h⟩ := h
  have jp3 : ∀ (q4 : Option Nat) (y5 : Int32), J3 q4 y5 → Gw l G L0 p e rm_X4_audit s m args below meth c 4 (0) (0) (MQ below (gQi G L0 Q) args s rm_X4_audit.cells rm_X4_audit.slots (GA L0)) w1 15 [(0, .inr (some a0)), (1, .inl x1)] [.int y5, va_rf q4] := by
    intro q4 y5 hJ
    have h := hjJ3 q4 y5 hJ
    clear hJ
    obtain ⟨a6, rfl, hk, h⟩ := h
    refine gp_500 X hk m_996 dX4_audit_15 (fun w7 hv => ?_)
    replace h := h w7 hv; clear hv hk
    refine g_iconst X (v := (-1 : Int32)) dX4_audit_18 (by decide) ?_
    refine g_istore_n X [(2, .inl (-1 : Int32)), (0, .inr (some a0)), (1, .inl x1)] dX4_audit_19 rfl (by decide) rfl ?_
    refine g_aload_n X dX4_audit_20 rfl 1 rfl ?_
    have hk := h.1
    replace h := h.2
    refine gg_501 X hk m_997 dX4_audit_21 (fun v8 hv => ?_)
    replace h := h v8 hv; clear hv hk
    refine g_iconst X (v := (1 : Int32)) dX4_audit_24 (by decide) ?_
    refine g_isub X dX4_audit_25 (fun v9 hv => ?_)
    replace h := h v9 hv; clear hv
    refine g_istore_n X [(3, .inl v9), (2, .inl (-1 : Int32)), (0, .inr (some a0)), (1, .inl x1)] dX4_audit_26 rfl (by decide) rfl ?_
    obtain ⟨Inv11, ⟨n0, hi⟩, hsn10⟩ := h
    have lp11 : ∀ (n10 : Nat), ∀ (y12 : Int32) (y13 : Int32), Inv11 n10 y12 y13 → Gw l G L0 p e rm_X4_audit s m args below meth c 4 (0) (0) (MQ below (gQi G L0 Q) args s rm_X4_audit.cells rm_X4_audit.slots (GA L0)) w7 27 [(0, .inr (some a0)), (1, .inl x1), (2, .inl y12), (3, .inl y13)] [] := by
      intro n10
      induction n10 using Nat.strongRecOn with
      | ind n10 ihn10 =>
        intro y12 y13 hI
        have h := hsn10 n10 y12 y13 hI
        clear hI
        refine g_iload_n X dX4_audit_27 rfl 3 rfl ?_
        obtain ⟨J14, hjJ14, h⟩ := h
        have jp14 : J14 → Gw l G L0 p e rm_X4_audit s m args below meth c 4 (0) (0) (MQ below (gQi G L0 Q) args s rm_X4_audit.cells rm_X4_audit.slots (GA L0)) w7 70 [(0, .inr (some a0)), (2, .inl y12)] [] := by
          intro hJ
          have h := hjJ14 hJ
          clear hJ
          refine g_aload_n X dX4_audit_70 rfl 0 rfl ?_
          have hk := h.1
          replace h := h.2
          refine gg_500 X hk m_996 dX4_audit_71 (fun v15 hv => ?_)
          replace h := h v15 hv; clear hv hk
          obtain ⟨J16, hjJ16, h⟩ := h
          have jp16 : ∀ (y17 : Int32), J16 y17 → Gw l G L0 p e rm_X4_audit s m args below meth c 4 (0) (0) (MQ below (gQi G L0 Q) args s rm_X4_audit.cells rm_X4_audit.slots (GA L0)) w7 82 [] [.int y17] := by
            intro y17 hJ
            have h := hjJ16 y17 hJ
            clear hJ
            exact g_iret X hr (by decide +kernel) (by decide +kernel) dX4_audit_82 h
          refine g_if_eq X (tgt := 81) dX4_audit_74 (by decide) (fun hc => ?_) (fun hc => ?_)
          · replace h := h.1 hc; clear hc
            refine g_iload_n X dX4_audit_81 rfl 1 rfl ?_
            exact g_sub [] [] rfl (jp16 y12 h)
          · replace h := h.2 hc; clear hc
            refine g_iconst X (v := (0 : Int32)) dX4_audit_77 (by decide) ?_
            refine g_goto X (tgt := 82) dX4_audit_78 (by decide) ?_
            exact g_sub [] [] rfl (jp16 (0 : Int32) h)
        refine g_if_lt X (tgt := 70) dX4_audit_28 (by decide) (fun hc => ?_) (fun hc => ?_)
        · replace h := h.1 hc; clear hc
          exact g_sub [0, 2] [(0, .inr (some a0)), (2, .inl y12)] rfl (jp14  h)
        · replace h := h.2 hc; clear hc
          refine g_aload_n X dX4_audit_31 rfl 0 rfl ?_
          have hk := h.1
          replace h := h.2
          refine gg_500 X hk m_996 dX4_audit_32 (fun v18 hv => ?_)
          replace h := h v18 hv; clear hv hk
          refine g_if_ne X (tgt := 70) dX4_audit_35 (by decide) (fun hc => ?_) (fun hc => ?_)
          · replace h := h.1 hc; clear hc
            exact g_sub [0, 2] [(0, .inr (some a0)), (2, .inl y12)] rfl (jp14  h)
          · replace h := h.2 hc; clear hc
            refine g_aload_n X dX4_audit_38 rfl 0 rfl ?_
            have hk := h.1
            replace h := h.2
            refine gg_530 X hk m_1026 dX4_audit_39 (fun z19 hv => ?_)
            replace h := h z19 hv; clear hv hk
            refine g_bipush X (v := (16 : Int32)) dX4_audit_42 (by decide) ?_
            refine g_iload_n X dX4_audit_44 rfl 1 rfl ?_
            refine g_imul X dX4_audit_45 (fun v20 hv => ?_)
            replace h := h v20 hv; clear hv
            refine g_iload_n X dX4_audit_46 rfl 3 rfl ?_
            refine g_iadd X dX4_audit_47 (fun v21 hv => ?_)
            replace h := h v21 hv; clear hv
            obtain ⟨a22, rfl, hk, h⟩ := h
            obtain ⟨j23, hi, hj, hN, h⟩ := h
            refine g_iald X hk hi hj hN dX4_audit_48 (fun v24 hv => ?_)
            replace h := h v24 hv; clear hv hk hi hj hN
            refine g_aload_n X dX4_audit_49 rfl 0 rfl ?_
            have hk := h.1
            replace h := h.2
            refine gg_511 X hk m_1007 dX4_audit_50 (fun z25 hv => ?_)
            replace h := h z25 hv; clear hv hk
            refine g_iload_n X dX4_audit_53 rfl 3 rfl ?_
            obtain ⟨a26, rfl, hk, h⟩ := h
            obtain ⟨j27, hi, hj, hN, h⟩ := h
            refine g_iald X hk hi hj hN dX4_audit_54 (fun v28 hv => ?_)
            replace h := h v28 hv; clear hv hk hi hj hN
            obtain ⟨J29, hjJ29, h⟩ := h
            have jp29 : ∀ (y30 : Int32), J29 y30 → Gw l G L0 p e rm_X4_audit s m args below meth c 4 (0) (0) (MQ below (gQi G L0 Q) args s rm_X4_audit.cells rm_X4_audit.slots (GA L0)) w7 63 [(0, .inr (some a0)), (1, .inl x1), (3, .inl y13)] [.int y30] := by
              intro y30 hJ
              have h := hjJ29 y30 hJ
              clear hJ
              refine g_istore_n X [(2, .inl y30), (0, .inr (some a0)), (1, .inl x1), (3, .inl y13)] dX4_audit_63 rfl (by decide) rfl ?_
              refine g_iinc X dX4_audit_64 3 rfl (d := (-1 : Int32)) (by decide) (by decide) (fun v31 hv => ?_)
              replace h := h v31 hv; clear hv
              refine g_sub [0, 1, 2, 3] [(3, .inl v31), (2, .inl y30), (0, .inr (some a0)), (1, .inl x1)] rfl ?_
              refine g_goto X (tgt := 27) dX4_audit_67 (by decide) ?_
              obtain ⟨n, hn, hI⟩ := h
              exact g_sub [2, 3, 1, 0] [(0, .inr (some a0)), (1, .inl x1), (2, .inl y30), (3, .inl v31)] rfl (ihn10 n hn y30 v31 hI)
            refine g_icmp_ne X (tgt := 62) dX4_audit_55 (by decide) (fun hc => ?_) (fun hc => ?_)
            · replace h := h.1 hc; clear hc
              refine g_iload_n X dX4_audit_62 rfl 3 rfl ?_
              exact g_sub [0, 1, 3] [(0, .inr (some a0)), (1, .inl x1), (3, .inl y13)] rfl (jp29 y13 h)
            · replace h := h.2 hc; clear hc
              refine g_iload_n X dX4_audit_58 rfl 2 rfl ?_
              refine g_goto X (tgt := 63) dX4_audit_59 (by decide) ?_
              exact g_sub [0, 1, 3] [(0, .inr (some a0)), (1, .inl x1), (3, .inl y13)] rfl (jp29 y12 h)
    exact g_sub [2, 3, 1, 0] [(0, .inr (some a0)), (1, .inl x1), (2, .inl (-1 : Int32)), (3, .inl v9)] rfl (lp11 n0 (-1 : Int32) v9 hi)
  refine g_if_eq X (tgt := 14) dX4_audit_7 (by decide) (fun hc => ?_) (fun hc => ?_)
  · replace h := h.1 hc; clear hc
    refine g_iconst X (v := (1 : Int32)) dX4_audit_14 (by decide) ?_
    exact g_sub [0, 1] [(0, .inr (some a0)), (1, .inl x1)] rfl (jp3 (some a0) (1 : Int32) h)
  · replace h := h.2 hc; clear hc
    refine g_iconst X (v := (0 : Int32)) dX4_audit_10 (by decide) ?_
    refine g_goto X (tgt := 15) dX4_audit_11 (by decide) ?_
    exact g_sub [0, 1] [(0, .inr (some a0)), (1, .inl x1)] rfl (jp3 (some a0) (0 : Int32) h)

abbrev rm_X4_of : Room := { frames := 8, cells := 0, slots := 0, locals := 149 }
def wp_X4_of (a0 : Nat) (x1 : Int32) (x2 : Int32) (w : Wd) (Q : Int32 → Wd → Prop) : Prop :=
  w.K a0 = 5 ∧
  wp_X4_isOne a0 x1 w (fun v2 w1 => 
  ∃ J3 : Option Nat → Int32 → Wd → Prop, (∀ (q4 : Option Nat) (y5 : Int32) (w6 : Wd), J3 q4 y5 w6 →
  ∃ a7, q4 = some a7 ∧ w6.K a7 = 5 ∧
  ∀ w8 : Wd, w8 = w6.setI 500 a7 y5 →
  w8.K a0 = 5 ∧
  ∀ v9 : Int32, v9 = w8.I 500 a0 →
  (v9 = 0 → w8.K a0 = 5 ∧
  ∀ z10 : Option Nat, z10 = w8.R 512 a0 →
  ∃ a11, z10 = some a11 ∧ w8.K a11 = 12 ∧
  ∃ j12 : Nat, x1 = nI j12 ∧ j12 < w8.N a11 ∧ w8.N a11 < 2 ^ 31 ∧
  ∀ v13 : Int32, v13 = w8.A a11 j12 →
  ∃ J14 : Int32 → Prop, (∀ (y15 : Int32), J14 y15 →
  ∃ J16 : Int32 → Wd → Prop, (∀ (y17 : Int32) (w18 : Wd), J16 y17 w18 →
  Q y17 w18) ∧
  (¬ x2 = 0 → (¬ x2 = (1 : Int32) → (¬ x2 = (2 : Int32) → (¬ x2 = (3 : Int32) → (¬ x2 = (4 : Int32) → (¬ x2 = (5 : Int32) → w8.K a0 = 5 ∧
  wp_X4_house a0 x1 (0 : Int32) w8 (fun v20 w19 => 
  J16 v20 w19)) ∧ (x2 = (5 : Int32) → J16 y15 w8)) ∧ (x2 = (4 : Int32) → w8.K a0 = 5 ∧
  ∀ z21 : Option Nat, z21 = w8.R 511 a0 →
  ∃ a22, z21 = some a22 ∧ w8.K a22 = 11 ∧
  ∃ j23 : Nat, x1 = nI j23 ∧ j23 < w8.N a22 ∧ w8.N a22 < 2 ^ 31 ∧
  ∀ v24 : Int32, v24 = w8.A a22 j23 →
  J16 v24 w8)) ∧ (x2 = (3 : Int32) → w8.K a0 = 5 ∧
  ∀ z25 : Option Nat, z25 = w8.R 510 a0 →
  ∃ a26, z25 = some a26 ∧ w8.K a26 = 11 ∧
  ∃ j27 : Nat, x1 = nI j27 ∧ j27 < w8.N a26 ∧ w8.N a26 < 2 ^ 31 ∧
  ∀ v28 : Int32, v28 = w8.A a26 j27 →
  J16 v28 w8)) ∧ (x2 = (2 : Int32) → w8.K a0 = 5 ∧
  ∀ z29 : Option Nat, z29 = w8.R 506 a0 →
  ∃ a30, z29 = some a30 ∧ w8.K a30 = 11 ∧
  ∃ j31 : Nat, x1 = nI j31 ∧ j31 < w8.N a30 ∧ w8.N a30 < 2 ^ 31 ∧
  ∀ v32 : Int32, v32 = w8.A a30 j31 →
  J16 v32 w8)) ∧ (x2 = (1 : Int32) → w8.K a0 = 5 ∧
  ∀ z33 : Option Nat, z33 = w8.R 505 a0 →
  ∃ a34, z33 = some a34 ∧ w8.K a34 = 11 ∧
  ∃ j35 : Nat, x1 = nI j35 ∧ j35 < w8.N a34 ∧ w8.N a34 < 2 ^ 31 ∧
  ∀ v36 : Int32, v36 = w8.A a34 j35 →
  J16 v36 w8)) ∧ (x2 = 0 → w8.K a0 = 5 ∧
  ∀ z37 : Option Nat, z37 = w8.R 504 a0 →
  ∃ a38, z37 = some a38 ∧ w8.K a38 = 11 ∧
  ∃ j39 : Nat, x1 = nI j39 ∧ j39 < w8.N a38 ∧ w8.N a38 < 2 ^ 31 ∧
  ∀ v40 : Int32, v40 = w8.A a38 j39 →
  J16 v40 w8)) ∧
  (v13 = 0 → J14 (1 : Int32)) ∧ (¬ v13 = 0 → J14 (0 : Int32))) ∧ (¬ v9 = 0 → Q (0 : Int32) w8)) ∧
  (¬ v2 = 0 → wp_X4_in x2 (0 : Int32) (6 : Int32) w1 (fun v42 w41 => 
  (¬ v42 = 0 → J3 (some a0) (0 : Int32) w41) ∧ (v42 = 0 → J3 (some a0) (2 : Int32) w41))) ∧ (v2 = 0 → J3 (some a0) (1 : Int32) w1))
set_option maxHeartbeats 4000000 in
set_option maxRecDepth 100000 in
theorem c_X4_of {l : Launch} {G : GT} {L0 : Nat} (hst : l.stackTraces = false) {a0 : Nat} {x1 : Int32} {x2 : Int32} {w : Wd} {Q : Int32 → Wd → Prop} (h : wp_X4_of a0 x1 x2 w Q) : GMi l G L0 yX4_of cX4_of 4 (some .int) rm_X4_of [.ref a0, .int x1, .int x2] w Q := by
  refine g_enter hst (by decide +kernel) [.inr (some a0), .inl x1, .inl x2] rfl (show 3 ≤ 4 by decide) ?_
  intro p e s m args below meth c X hr hnm
  replace X : GC l G L0 p s m args meth c cX4_of 4 "SusuRingModel" := X
  refine g_aload_n X dX4_of_0 rfl 0 rfl ?_
  refine g_aload_n X dX4_of_1 rfl 0 rfl ?_
  refine g_iload_n X dX4_of_2 rfl 1 rfl ?_
  have hk := h.1
  replace h := h.2
  refine g_callV_i X (As := [.int x1]) (st := [va_rf (some a0)]) (n := 1) (c_X4_isOne hst h) rfl (by decide) hk (wE_5 G w a0) m_1107 m_1109 m_15 m_34 m_1110 (by decide +kernel) (by decide +kernel) rfl rfl (by simp [cat_int, rf_cat]) ⟨(by decide +kernel), (by decide +kernel)⟩ dX4_of_3 (fun v2 w1 h => ?_)
  clear hk
  refine g_widen (c2 := (0)) (s2 := (0)) (by decide +kernel) (by decide +kernel) ?_
  obtain ⟨J3, hjJ3, h⟩ := h
  have jp3 : ∀ (q4 : Option Nat) (y5 : Int32) (w6 : Wd), J3 q4 y5 w6 → Gw l G L0 p e rm_X4_of s m args below meth c 4 (0) (0) (MQ below (gQi G L0 Q) args s rm_X4_of.cells rm_X4_of.slots (GA L0)) w6 28 [(0, .inr (some a0)), (1, .inl x1), (2, .inl x2)] [.int y5, va_rf q4] := by
    intro q4 y5 w6 hJ
    have h := hjJ3 q4 y5 w6 hJ
    clear hJ
    obtain ⟨a7, rfl, hk, h⟩ := h
    refine gp_500 X hk m_996 dX4_of_28 (fun w8 hv => ?_)
    replace h := h w8 hv; clear hv hk
    refine g_aload_n X dX4_of_31 rfl 0 rfl ?_
    have hk := h.1
    replace h := h.2
    refine gg_500 X hk m_996 dX4_of_32 (fun v9 hv => ?_)
    replace h := h v9 hv; clear hv hk
    refine g_if_eq X (tgt := 40) dX4_of_35 (by decide) (fun hc => ?_) (fun hc => ?_)
    · replace h := h.1 hc; clear hc
      refine g_aload_n X dX4_of_40 rfl 0 rfl ?_
      have hk := h.1
      replace h := h.2
      refine gg_512 X hk m_1008 dX4_of_41 (fun z10 hv => ?_)
      replace h := h z10 hv; clear hv hk
      refine g_iload_n X dX4_of_44 rfl 1 rfl ?_
      obtain ⟨a11, rfl, hk, h⟩ := h
      obtain ⟨j12, hi, hj, hN, h⟩ := h
      refine g_zald X hk hi hj hN dX4_of_45 (fun v13 hv => ?_)
      replace h := h v13 hv; clear hv hk hi hj hN
      obtain ⟨J14, hjJ14, h⟩ := h
      have jp14 : ∀ (y15 : Int32), J14 y15 → Gw l G L0 p e rm_X4_of s m args below meth c 4 (0) (0) (MQ below (gQi G L0 Q) args s rm_X4_of.cells rm_X4_of.slots (GA L0)) w8 54 [(0, .inr (some a0)), (1, .inl x1), (2, .inl x2)] [.int y15] := by
        intro y15 hJ
        have h := hjJ14 y15 hJ
        clear hJ
        refine g_istore_n X [(3, .inl y15), (0, .inr (some a0)), (1, .inl x1), (2, .inl x2)] dX4_of_54 rfl (by decide) rfl ?_
        refine g_iload_n X dX4_of_55 rfl 3 rfl ?_
        obtain ⟨J16, hjJ16, h⟩ := h
        have jp16 : ∀ (y17 : Int32) (w18 : Wd), J16 y17 w18 → Gw l G L0 p e rm_X4_of s m args below meth c 4 (0) (0) (MQ below (gQi G L0 Q) args s rm_X4_of.cells rm_X4_of.slots (GA L0)) w18 139 [] [.int y17] := by
          intro y17 w18 hJ
          have h := hjJ16 y17 w18 hJ
          clear hJ
          exact g_iret X hr (by decide +kernel) (by decide +kernel) dX4_of_139 h
        refine g_if_ne X (tgt := 68) dX4_of_56 (by decide) (fun hc => ?_) (fun hc => ?_)
        · replace h := h.1 hc; clear hc
          refine g_iload_n X dX4_of_68 rfl 3 rfl ?_
          refine g_iconst X (v := (1 : Int32)) dX4_of_69 (by decide) ?_
          refine g_icmp_ne X (tgt := 82) dX4_of_70 (by decide) (fun hc => ?_) (fun hc => ?_)
          · replace h := h.1 hc; clear hc
            refine g_iload_n X dX4_of_82 rfl 3 rfl ?_
            refine g_iconst X (v := (2 : Int32)) dX4_of_83 (by decide) ?_
            refine g_icmp_ne X (tgt := 96) dX4_of_84 (by decide) (fun hc => ?_) (fun hc => ?_)
            · replace h := h.1 hc; clear hc
              refine g_iload_n X dX4_of_96 rfl 3 rfl ?_
              refine g_iconst X (v := (3 : Int32)) dX4_of_97 (by decide) ?_
              refine g_icmp_ne X (tgt := 110) dX4_of_98 (by decide) (fun hc => ?_) (fun hc => ?_)
              · replace h := h.1 hc; clear hc
                refine g_iload_n X dX4_of_110 rfl 3 rfl ?_
                refine g_iconst X (v := (4 : Int32)) dX4_of_111 (by decide) ?_
                refine g_icmp_ne X (tgt := 124) dX4_of_112 (by decide) (fun hc => ?_) (fun hc => ?_)
                · replace h := h.1 hc; clear hc
                  refine g_iload_n X dX4_of_124 rfl 3 rfl ?_
                  refine g_iconst X (v := (5 : Int32)) dX4_of_125 (by decide) ?_
                  refine g_icmp_ne X (tgt := 133) dX4_of_126 (by decide) (fun hc => ?_) (fun hc => ?_)
                  · replace h := h.1 hc; clear hc
                    refine g_aload_n X dX4_of_133 rfl 1 rfl ?_
                    refine g_iload_n X dX4_of_134 rfl 2 rfl ?_
                    refine g_iconst X (v := (0 : Int32)) dX4_of_135 (by decide) ?_
                    have hk := h.1
                    replace h := h.2
                    refine g_callV_i X (As := [.int x1, .int (0 : Int32)]) (st := []) (n := 2) (c_X4_house hst h) rfl (by decide) hk (wE_5 G w8 a0) m_1192 m_1194 m_27 m_34 m_1195 (by decide +kernel) (by decide +kernel) rfl rfl (Nat.zero_le _) ⟨(by decide +kernel), (by decide +kernel)⟩ dX4_of_136 (fun v20 w19 h => ?_)
                    clear hk
                    refine g_widen (c2 := (0)) (s2 := (0)) (by decide +kernel) (by decide +kernel) ?_
                    exact g_sub [] [] rfl (jp16 v20 w19 h)
                  · replace h := h.2 hc; clear hc
                    refine g_iload_n X dX4_of_129 rfl 0 rfl ?_
                    refine g_goto X (tgt := 139) dX4_of_130 (by decide) ?_
                    exact g_sub [] [] rfl (jp16 y15 w8 h)
                · replace h := h.2 hc; clear hc
                  refine g_aload_n X dX4_of_115 rfl 1 rfl ?_
                  have hk := h.1
                  replace h := h.2
                  refine gg_511 X hk m_1007 dX4_of_116 (fun z21 hv => ?_)
                  replace h := h z21 hv; clear hv hk
                  refine g_iload_n X dX4_of_119 rfl 2 rfl ?_
                  obtain ⟨a22, rfl, hk, h⟩ := h
                  obtain ⟨j23, hi, hj, hN, h⟩ := h
                  refine g_iald X hk hi hj hN dX4_of_120 (fun v24 hv => ?_)
                  replace h := h v24 hv; clear hv hk hi hj hN
                  refine g_goto X (tgt := 139) dX4_of_121 (by decide) ?_
                  exact g_sub [] [] rfl (jp16 v24 w8 h)
              · replace h := h.2 hc; clear hc
                refine g_aload_n X dX4_of_101 rfl 1 rfl ?_
                have hk := h.1
                replace h := h.2
                refine gg_510 X hk m_1006 dX4_of_102 (fun z25 hv => ?_)
                replace h := h z25 hv; clear hv hk
                refine g_iload_n X dX4_of_105 rfl 2 rfl ?_
                obtain ⟨a26, rfl, hk, h⟩ := h
                obtain ⟨j27, hi, hj, hN, h⟩ := h
                refine g_iald X hk hi hj hN dX4_of_106 (fun v28 hv => ?_)
                replace h := h v28 hv; clear hv hk hi hj hN
                refine g_goto X (tgt := 139) dX4_of_107 (by decide) ?_
                exact g_sub [] [] rfl (jp16 v28 w8 h)
            · replace h := h.2 hc; clear hc
              refine g_aload_n X dX4_of_87 rfl 1 rfl ?_
              have hk := h.1
              replace h := h.2
              refine gg_506 X hk m_1002 dX4_of_88 (fun z29 hv => ?_)
              replace h := h z29 hv; clear hv hk
              refine g_iload_n X dX4_of_91 rfl 2 rfl ?_
              obtain ⟨a30, rfl, hk, h⟩ := h
              obtain ⟨j31, hi, hj, hN, h⟩ := h
              refine g_iald X hk hi hj hN dX4_of_92 (fun v32 hv => ?_)
              replace h := h v32 hv; clear hv hk hi hj hN
              refine g_goto X (tgt := 139) dX4_of_93 (by decide) ?_
              exact g_sub [] [] rfl (jp16 v32 w8 h)
          · replace h := h.2 hc; clear hc
            refine g_aload_n X dX4_of_73 rfl 1 rfl ?_
            have hk := h.1
            replace h := h.2
            refine gg_505 X hk m_1001 dX4_of_74 (fun z33 hv => ?_)
            replace h := h z33 hv; clear hv hk
            refine g_iload_n X dX4_of_77 rfl 2 rfl ?_
            obtain ⟨a34, rfl, hk, h⟩ := h
            obtain ⟨j35, hi, hj, hN, h⟩ := h
            refine g_iald X hk hi hj hN dX4_of_78 (fun v36 hv => ?_)
            replace h := h v36 hv; clear hv hk hi hj hN
            refine g_goto X (tgt := 139) dX4_of_79 (by decide) ?_
            exact g_sub [] [] rfl (jp16 v36 w8 h)
        · replace h := h.2 hc; clear hc
          refine g_aload_n X dX4_of_59 rfl 1 rfl ?_
          have hk := h.1
          replace h := h.2
          refine gg_504 X hk m_1000 dX4_of_60 (fun z37 hv => ?_)
          replace h := h z37 hv; clear hv hk
          refine g_iload_n X dX4_of_63 rfl 2 rfl ?_
          obtain ⟨a38, rfl, hk, h⟩ := h
          obtain ⟨j39, hi, hj, hN, h⟩ := h
          refine g_iald X hk hi hj hN dX4_of_64 (fun v40 hv => ?_)
          replace h := h v40 hv; clear hv hk hi hj hN
          refine g_goto X (tgt := 139) dX4_of_65 (by decide) ?_
          exact g_sub [] [] rfl (jp16 v40 w8 h)
      refine g_if_eq X (tgt := 53) dX4_of_46 (by decide) (fun hc => ?_) (fun hc => ?_)
      · replace h := h.1 hc; clear hc
        refine g_iconst X (v := (1 : Int32)) dX4_of_53 (by decide) ?_
        exact g_sub [0, 1, 2] [(0, .inr (some a0)), (1, .inl x1), (2, .inl x2)] rfl (jp14 (1 : Int32) h)
      · replace h := h.2 hc; clear hc
        refine g_iconst X (v := (0 : Int32)) dX4_of_49 (by decide) ?_
        refine g_goto X (tgt := 54) dX4_of_50 (by decide) ?_
        exact g_sub [0, 1, 2] [(0, .inr (some a0)), (1, .inl x1), (2, .inl x2)] rfl (jp14 (0 : Int32) h)
    · replace h := h.2 hc; clear hc
      refine g_iconst X (v := (0 : Int32)) dX4_of_38 (by decide) ?_
      exact g_iret X hr (by decide +kernel) (by decide +kernel) dX4_of_39 h
  refine g_if_ne X (tgt := 13) dX4_of_6 (by decide) (fun hc => ?_) (fun hc => ?_)
  · replace h := h.1 hc; clear hc
    refine g_iload_n X dX4_of_13 rfl 2 rfl ?_
    refine g_iconst X (v := (0 : Int32)) dX4_of_14 (by decide) ?_
    refine g_bipush X (v := (6 : Int32)) dX4_of_15 (by decide) ?_
    refine g_callS_i X (As := [.int x2, .int (0 : Int32), .int (6 : Int32)]) (st := [va_rf (some a0)]) (n := 3) (c_X4_in hst h) m_1099 m_1100 m_34 m_1101 (by decide +kernel) (by decide +kernel) rfl rfl (by simp [cat_int, rf_cat]) ⟨(by decide +kernel), (by decide +kernel)⟩ dX4_of_17 (fun v42 w41 h => ?_)
    refine g_widen (c2 := (0)) (s2 := (0)) (by decide +kernel) (by decide +kernel) ?_
    refine g_if_ne X (tgt := 27) dX4_of_20 (by decide) (fun hc => ?_) (fun hc => ?_)
    · replace h := h.1 hc; clear hc
      refine g_iconst X (v := (0 : Int32)) dX4_of_27 (by decide) ?_
      exact g_sub [0, 1, 2] [(0, .inr (some a0)), (1, .inl x1), (2, .inl x2)] rfl (jp3 (some a0) (0 : Int32) w41 h)
    · replace h := h.2 hc; clear hc
      refine g_iconst X (v := (2 : Int32)) dX4_of_23 (by decide) ?_
      refine g_goto X (tgt := 28) dX4_of_24 (by decide) ?_
      exact g_sub [0, 1, 2] [(0, .inr (some a0)), (1, .inl x1), (2, .inl x2)] rfl (jp3 (some a0) (2 : Int32) w41 h)
  · replace h := h.2 hc; clear hc
    refine g_iconst X (v := (1 : Int32)) dX4_of_9 (by decide) ?_
    refine g_goto X (tgt := 28) dX4_of_10 (by decide) ?_
    exact g_sub [0, 1, 2] [(0, .inr (some a0)), (1, .inl x1), (2, .inl x2)] rfl (jp3 (some a0) (1 : Int32) w1 h)

abbrev rm_X4_member : Room := { frames := 8, cells := 0, slots := 0, locals := 143 }
def wp_X4_member (a0 : Nat) (x1 : Int32) (x2 : Int32) (x3 : Int32) (w : Wd) (Q : Int32 → Wd → Prop) : Prop :=
  w.K a0 = 5 ∧
  wp_X4_isCircle a0 x1 w (fun v2 w1 => 
  ∃ J3 : Option Nat → Int32 → Wd → Prop, (∀ (q4 : Option Nat) (y5 : Int32) (w6 : Wd), J3 q4 y5 w6 →
  ∃ a7, q4 = some a7 ∧ w6.K a7 = 5 ∧
  ∀ w8 : Wd, w8 = w6.setI 500 a7 y5 →
  w8.K a0 = 5 ∧
  ∀ v9 : Int32, v9 = w8.I 500 a0 →
  (v9 = 0 → w8.K a0 = 5 ∧
  wp_X4_placeOf a0 x1 x2 w8 (fun v11 w10 => 
  (0 ≤ v11 → ∀ v12 : Int32, v12 = (10 : Int32) * x1 →
  ∀ v13 : Int32, v13 = v12 + v11 →
  ∃ J14 : Int32 → Prop, (∀ (y15 : Int32), J14 y15 →
  Q y15 w10) ∧
  (¬ x3 = 0 → (¬ x3 = (1 : Int32) → (¬ x3 = (2 : Int32) → J14 v11) ∧ (x3 = (2 : Int32) → w10.K a0 = 5 ∧
  ∀ z16 : Option Nat, z16 = w10.R 525 a0 →
  ∃ a17, z16 = some a17 ∧ w10.K a17 = 11 ∧
  ∃ j18 : Nat, v13 = nI j18 ∧ j18 < w10.N a17 ∧ w10.N a17 < 2 ^ 31 ∧
  ∀ v19 : Int32, v19 = w10.A a17 j18 →
  J14 v19)) ∧ (x3 = (1 : Int32) → w10.K a0 = 5 ∧
  ∀ z20 : Option Nat, z20 = w10.R 527 a0 →
  ∃ a21, z20 = some a21 ∧ w10.K a21 = 12 ∧
  ∃ j22 : Nat, v13 = nI j22 ∧ j22 < w10.N a21 ∧ w10.N a21 < 2 ^ 31 ∧
  ∀ v23 : Int32, v23 = w10.A a21 j22 →
  (v23 = 0 → J14 (0 : Int32)) ∧ (¬ v23 = 0 → J14 (1 : Int32)))) ∧ (x3 = 0 → w10.K a0 = 5 ∧
  ∀ z24 : Option Nat, z24 = w10.R 522 a0 →
  ∃ a25, z24 = some a25 ∧ w10.K a25 = 11 ∧
  ∃ j26 : Nat, v13 = nI j26 ∧ j26 < w10.N a25 ∧ w10.N a25 < 2 ^ 31 ∧
  ∀ v27 : Int32, v27 = w10.A a25 j26 →
  J14 v27)) ∧ (¬ 0 ≤ v11 → Q (-1 : Int32) w10))) ∧ (¬ v9 = 0 → Q (0 : Int32) w8)) ∧
  ∃ J28 : Option Nat → Wd → Prop, (∀ (q29 : Option Nat) (w30 : Wd), J28 q29 w30 →
  J3 q29 (1 : Int32) w30) ∧
  (v2 = 0 → J28 (some a0) w1) ∧ (¬ v2 = 0 → w1.K a0 = 5 ∧
  wp_X4_isOne a0 x2 w1 (fun v32 w31 => 
  (¬ v32 = 0 → wp_X4_in x3 (0 : Int32) (3 : Int32) w31 (fun v34 w33 => 
  (¬ v34 = 0 → J3 (some a0) (0 : Int32) w33) ∧ (v34 = 0 → J3 (some a0) (2 : Int32) w33))) ∧ (v32 = 0 → J28 (some a0) w31))))
set_option maxHeartbeats 4000000 in
set_option maxRecDepth 100000 in
theorem c_X4_member {l : Launch} {G : GT} {L0 : Nat} (hst : l.stackTraces = false) {a0 : Nat} {x1 : Int32} {x2 : Int32} {x3 : Int32} {w : Wd} {Q : Int32 → Wd → Prop} (h : wp_X4_member a0 x1 x2 x3 w Q) : GMi l G L0 yX4_member cX4_member 6 (some .int) rm_X4_member [.ref a0, .int x1, .int x2, .int x3] w Q := by
  refine g_enter hst (by decide +kernel) [.inr (some a0), .inl x1, .inl x2, .inl x3] rfl (show 4 ≤ 6 by decide) ?_
  intro p e s m args below meth c X hr hnm
  replace X : GC l G L0 p s m args meth c cX4_member 6 "SusuRingModel" := X
  refine g_aload_n X dX4_member_0 rfl 0 rfl ?_
  refine g_aload_n X dX4_member_1 rfl 0 rfl ?_
  refine g_iload_n X dX4_member_2 rfl 1 rfl ?_
  have hk := h.1
  replace h := h.2
  refine g_callV_i X (As := [.int x1]) (st := [va_rf (some a0)]) (n := 1) (c_X4_isCircle hst h) rfl (by decide) hk (wE_5 G w a0) m_1144 m_1146 m_21 m_34 m_1147 (by decide +kernel) (by decide +kernel) rfl rfl (by simp [cat_int, rf_cat]) ⟨(by decide +kernel), (by decide +kernel)⟩ dX4_member_3 (fun v2 w1 h => ?_)
  clear hk
  refine g_widen (c2 := (0)) (s2 := (0)) (by decide +kernel) (by decide +kernel) ?_
  obtain ⟨J3, hjJ3, h⟩ := h
  have jp3 : ∀ (q4 : Option Nat) (y5 : Int32) (w6 : Wd), J3 q4 y5 w6 → Gw l G L0 p e rm_X4_member s m args below meth c 6 (0) (0) (MQ below (gQi G L0 Q) args s rm_X4_member.cells rm_X4_member.slots (GA L0)) w6 35 [(0, .inr (some a0)), (1, .inl x1), (2, .inl x2), (3, .inl x3)] [.int y5, va_rf q4] := by
    intro q4 y5 w6 hJ
    have h := hjJ3 q4 y5 w6 hJ
    clear hJ
    obtain ⟨a7, rfl, hk, h⟩ := h
    refine gp_500 X hk m_996 dX4_member_35 (fun w8 hv => ?_)
    replace h := h w8 hv; clear hv hk
    refine g_aload_n X dX4_member_38 rfl 0 rfl ?_
    have hk := h.1
    replace h := h.2
    refine gg_500 X hk m_996 dX4_member_39 (fun v9 hv => ?_)
    replace h := h v9 hv; clear hv hk
    refine g_if_eq X (tgt := 47) dX4_member_42 (by decide) (fun hc => ?_) (fun hc => ?_)
    · replace h := h.1 hc; clear hc
      refine g_aload_n X dX4_member_47 rfl 0 rfl ?_
      refine g_iload_n X dX4_member_48 rfl 1 rfl ?_
      refine g_iload_n X dX4_member_49 rfl 2 rfl ?_
      have hk := h.1
      replace h := h.2
      refine g_callV_i X (As := [.int x1, .int x2]) (st := []) (n := 2) (c_X4_placeOf hst h) rfl (by decide) hk (wE_5 G w8 a0) m_1120 m_1122 m_17 m_34 m_1123 (by decide +kernel) (by decide +kernel) rfl rfl (Nat.zero_le _) ⟨(by decide +kernel), (by decide +kernel)⟩ dX4_member_50 (fun v11 w10 h => ?_)
      clear hk
      refine g_widen (c2 := (0)) (s2 := (0)) (by decide +kernel) (by decide +kernel) ?_
      refine g_istore X [(4, .inl v11), (0, .inr (some a0)), (1, .inl x1), (2, .inl x2), (3, .inl x3)] dX4_member_53 (by decide) rfl ?_
      refine g_iload X dX4_member_55 0 rfl ?_
      refine g_if_ge X (tgt := 62) dX4_member_57 (by decide) (fun hc => ?_) (fun hc => ?_)
      · replace h := h.1 hc; clear hc
        refine g_bipush X (v := (10 : Int32)) dX4_member_62 (by decide) ?_
        refine g_iload_n X dX4_member_64 rfl 2 rfl ?_
        refine g_imul X dX4_member_65 (fun v12 hv => ?_)
        replace h := h v12 hv; clear hv
        refine g_iload X dX4_member_66 0 rfl ?_
        refine g_iadd X dX4_member_68 (fun v13 hv => ?_)
        replace h := h v13 hv; clear hv
        refine g_istore X [(5, .inl v13), (4, .inl v11), (0, .inr (some a0)), (1, .inl x1), (2, .inl x2), (3, .inl x3)] dX4_member_69 (by decide) rfl ?_
        refine g_iload_n X dX4_member_71 rfl 5 rfl ?_
        obtain ⟨J14, hjJ14, h⟩ := h
        have jp14 : ∀ (y15 : Int32), J14 y15 → Gw l G L0 p e rm_X4_member s m args below meth c 6 (0) (0) (MQ below (gQi G L0 Q) args s rm_X4_member.cells rm_X4_member.slots (GA L0)) w10 125 [] [.int y15] := by
          intro y15 hJ
          have h := hjJ14 y15 hJ
          clear hJ
          exact g_iret X hr (by decide +kernel) (by decide +kernel) dX4_member_125 h
        refine g_if_ne X (tgt := 85) dX4_member_72 (by decide) (fun hc => ?_) (fun hc => ?_)
        · replace h := h.1 hc; clear hc
          refine g_iload_n X dX4_member_85 rfl 5 rfl ?_
          refine g_iconst X (v := (1 : Int32)) dX4_member_86 (by decide) ?_
          refine g_icmp_ne X (tgt := 108) dX4_member_87 (by decide) (fun hc => ?_) (fun hc => ?_)
          · replace h := h.1 hc; clear hc
            refine g_iload_n X dX4_member_108 rfl 5 rfl ?_
            refine g_iconst X (v := (2 : Int32)) dX4_member_109 (by decide) ?_
            refine g_icmp_ne X (tgt := 123) dX4_member_110 (by decide) (fun hc => ?_) (fun hc => ?_)
            · replace h := h.1 hc; clear hc
              refine g_iload X dX4_member_123 1 rfl ?_
              exact g_sub [] [] rfl (jp14 v11 h)
            · replace h := h.2 hc; clear hc
              refine g_aload_n X dX4_member_113 rfl 2 rfl ?_
              have hk := h.1
              replace h := h.2
              refine gg_525 X hk m_1021 dX4_member_114 (fun z16 hv => ?_)
              replace h := h z16 hv; clear hv hk
              refine g_iload X dX4_member_117 0 rfl ?_
              obtain ⟨a17, rfl, hk, h⟩ := h
              obtain ⟨j18, hi, hj, hN, h⟩ := h
              refine g_iald X hk hi hj hN dX4_member_119 (fun v19 hv => ?_)
              replace h := h v19 hv; clear hv hk hi hj hN
              refine g_goto X (tgt := 125) dX4_member_120 (by decide) ?_
              exact g_sub [] [] rfl (jp14 v19 h)
          · replace h := h.2 hc; clear hc
            refine g_aload_n X dX4_member_90 rfl 2 rfl ?_
            have hk := h.1
            replace h := h.2
            refine gg_527 X hk m_1023 dX4_member_91 (fun z20 hv => ?_)
            replace h := h z20 hv; clear hv hk
            refine g_iload X dX4_member_94 0 rfl ?_
            obtain ⟨a21, rfl, hk, h⟩ := h
            obtain ⟨j22, hi, hj, hN, h⟩ := h
            refine g_zald X hk hi hj hN dX4_member_96 (fun v23 hv => ?_)
            replace h := h v23 hv; clear hv hk hi hj hN
            refine g_if_eq X (tgt := 104) dX4_member_97 (by decide) (fun hc => ?_) (fun hc => ?_)
            · replace h := h.1 hc; clear hc
              refine g_iconst X (v := (0 : Int32)) dX4_member_104 (by decide) ?_
              refine g_goto X (tgt := 125) dX4_member_105 (by decide) ?_
              exact g_sub [] [] rfl (jp14 (0 : Int32) h)
            · replace h := h.2 hc; clear hc
              refine g_iconst X (v := (1 : Int32)) dX4_member_100 (by decide) ?_
              refine g_goto X (tgt := 125) dX4_member_101 (by decide) ?_
              exact g_sub [] [] rfl (jp14 (1 : Int32) h)
        · replace h := h.2 hc; clear hc
          refine g_aload_n X dX4_member_75 rfl 2 rfl ?_
          have hk := h.1
          replace h := h.2
          refine gg_522 X hk m_1018 dX4_member_76 (fun z24 hv => ?_)
          replace h := h z24 hv; clear hv hk
          refine g_iload X dX4_member_79 0 rfl ?_
          obtain ⟨a25, rfl, hk, h⟩ := h
          obtain ⟨j26, hi, hj, hN, h⟩ := h
          refine g_iald X hk hi hj hN dX4_member_81 (fun v27 hv => ?_)
          replace h := h v27 hv; clear hv hk hi hj hN
          refine g_goto X (tgt := 125) dX4_member_82 (by decide) ?_
          exact g_sub [] [] rfl (jp14 v27 h)
      · replace h := h.2 hc; clear hc
        refine g_iconst X (v := (-1 : Int32)) dX4_member_60 (by decide) ?_
        exact g_iret X hr (by decide +kernel) (by decide +kernel) dX4_member_61 h
    · replace h := h.2 hc; clear hc
      refine g_iconst X (v := (0 : Int32)) dX4_member_45 (by decide) ?_
      exact g_iret X hr (by decide +kernel) (by decide +kernel) dX4_member_46 h
  obtain ⟨J28, hjJ28, h⟩ := h
  have jp28 : ∀ (q29 : Option Nat) (w30 : Wd), J28 q29 w30 → Gw l G L0 p e rm_X4_member s m args below meth c 6 (0) (0) (MQ below (gQi G L0 Q) args s rm_X4_member.cells rm_X4_member.slots (GA L0)) w30 17 [(0, .inr (some a0)), (1, .inl x1), (2, .inl x2), (3, .inl x3)] [va_rf q29] := by
    intro q29 w30 hJ
    have h := hjJ28 q29 w30 hJ
    clear hJ
    refine g_iconst X (v := (1 : Int32)) dX4_member_17 (by decide) ?_
    refine g_goto X (tgt := 35) dX4_member_18 (by decide) ?_
    exact g_sub [0, 1, 2, 3] [(0, .inr (some a0)), (1, .inl x1), (2, .inl x2), (3, .inl x3)] rfl (jp3 q29 (1 : Int32) w30 h)
  refine g_if_eq X (tgt := 17) dX4_member_6 (by decide) (fun hc => ?_) (fun hc => ?_)
  · replace h := h.1 hc; clear hc
    exact g_sub [0, 1, 2, 3] [(0, .inr (some a0)), (1, .inl x1), (2, .inl x2), (3, .inl x3)] rfl (jp28 (some a0) w1 h)
  · replace h := h.2 hc; clear hc
    refine g_aload_n X dX4_member_9 rfl 0 rfl ?_
    refine g_iload_n X dX4_member_10 rfl 2 rfl ?_
    have hk := h.1
    replace h := h.2
    refine g_callV_i X (As := [.int x2]) (st := [va_rf (some a0)]) (n := 1) (c_X4_isOne hst h) rfl (by decide) hk (wE_5 G w1 a0) m_1107 m_1109 m_15 m_34 m_1110 (by decide +kernel) (by decide +kernel) rfl rfl (by simp [cat_int, rf_cat]) ⟨(by decide +kernel), (by decide +kernel)⟩ dX4_member_11 (fun v32 w31 h => ?_)
    clear hk
    refine g_widen (c2 := (0)) (s2 := (0)) (by decide +kernel) (by decide +kernel) ?_
    refine g_if_ne X (tgt := 21) dX4_member_14 (by decide) (fun hc => ?_) (fun hc => ?_)
    · replace h := h.1 hc; clear hc
      refine g_iload_n X dX4_member_21 rfl 3 rfl ?_
      refine g_iconst X (v := (0 : Int32)) dX4_member_22 (by decide) ?_
      refine g_iconst X (v := (3 : Int32)) dX4_member_23 (by decide) ?_
      refine g_callS_i X (As := [.int x3, .int (0 : Int32), .int (3 : Int32)]) (st := [va_rf (some a0)]) (n := 3) (c_X4_in hst h) m_1099 m_1100 m_34 m_1101 (by decide +kernel) (by decide +kernel) rfl rfl (by simp [cat_int, rf_cat]) ⟨(by decide +kernel), (by decide +kernel)⟩ dX4_member_24 (fun v34 w33 h => ?_)
      refine g_widen (c2 := (0)) (s2 := (0)) (by decide +kernel) (by decide +kernel) ?_
      refine g_if_ne X (tgt := 34) dX4_member_27 (by decide) (fun hc => ?_) (fun hc => ?_)
      · replace h := h.1 hc; clear hc
        refine g_iconst X (v := (0 : Int32)) dX4_member_34 (by decide) ?_
        exact g_sub [0, 1, 2, 3] [(0, .inr (some a0)), (1, .inl x1), (2, .inl x2), (3, .inl x3)] rfl (jp3 (some a0) (0 : Int32) w33 h)
      · replace h := h.2 hc; clear hc
        refine g_iconst X (v := (2 : Int32)) dX4_member_30 (by decide) ?_
        refine g_goto X (tgt := 35) dX4_member_31 (by decide) ?_
        exact g_sub [0, 1, 2, 3] [(0, .inr (some a0)), (1, .inl x1), (2, .inl x2), (3, .inl x3)] rfl (jp3 (some a0) (2 : Int32) w33 h)
    · replace h := h.2 hc; clear hc
      exact g_sub [0, 1, 2, 3] [(0, .inr (some a0)), (1, .inl x1), (2, .inl x2), (3, .inl x3)] rfl (jp28 (some a0) w31 h)

abbrev rm_X4_ofCircle : Room := { frames := 8, cells := 0, slots := 0, locals := 143 }
def wp_X4_ofCircle (a0 : Nat) (x1 : Int32) (x2 : Int32) (w : Wd) (Q : Int32 → Wd → Prop) : Prop :=
  w.K a0 = 5 ∧
  wp_X4_isCircle a0 x1 w (fun v2 w1 => 
  ∃ J3 : Option Nat → Int32 → Wd → Prop, (∀ (q4 : Option Nat) (y5 : Int32) (w6 : Wd), J3 q4 y5 w6 →
  ∃ a7, q4 = some a7 ∧ w6.K a7 = 5 ∧
  ∀ w8 : Wd, w8 = w6.setI 500 a7 y5 →
  w8.K a0 = 5 ∧
  ∀ v9 : Int32, v9 = w8.I 500 a0 →
  (v9 = 0 → w8.K a0 = 5 ∧
  ∀ z10 : Option Nat, z10 = w8.R 520 a0 →
  ∃ a11, z10 = some a11 ∧ w8.K a11 = 12 ∧
  ∃ j12 : Nat, x1 = nI j12 ∧ j12 < w8.N a11 ∧ w8.N a11 < 2 ^ 31 ∧
  ∀ v13 : Int32, v13 = w8.A a11 j12 →
  ∃ J14 : Int32 → Wd → Prop, (∀ (y15 : Int32) (w16 : Wd), J14 y15 w16 →
  ∃ J17 : Int32 → Prop, (∀ (y18 : Int32), J17 y18 →
  ∃ J19 : Int32 → Prop, (∀ (y20 : Int32), J19 y20 →
  Q y20 w16) ∧
  (¬ x2 = 0 → (¬ x2 = (1 : Int32) → (¬ x2 = (2 : Int32) → (¬ x2 = (3 : Int32) → J19 y18) ∧ (x2 = (3 : Int32) → w16.K a0 = 5 ∧
  ∀ z21 : Option Nat, z21 = w16.R 519 a0 →
  ∃ a22, z21 = some a22 ∧ w16.K a22 = 11 ∧
  ∃ j23 : Nat, x1 = nI j23 ∧ j23 < w16.N a22 ∧ w16.N a22 < 2 ^ 31 ∧
  ∀ v24 : Int32, v24 = w16.A a22 j23 →
  J19 v24)) ∧ (x2 = (2 : Int32) → w16.K a0 = 5 ∧
  ∀ z25 : Option Nat, z25 = w16.R 518 a0 →
  ∃ a26, z25 = some a26 ∧ w16.K a26 = 11 ∧
  ∃ j27 : Nat, x1 = nI j27 ∧ j27 < w16.N a26 ∧ w16.N a26 < 2 ^ 31 ∧
  ∀ v28 : Int32, v28 = w16.A a26 j27 →
  J19 v28)) ∧ (x2 = (1 : Int32) → w16.K a0 = 5 ∧
  ∀ z29 : Option Nat, z29 = w16.R 517 a0 →
  ∃ a30, z29 = some a30 ∧ w16.K a30 = 11 ∧
  ∃ j31 : Nat, x1 = nI j31 ∧ j31 < w16.N a30 ∧ w16.N a30 < 2 ^ 31 ∧
  ∀ v32 : Int32, v32 = w16.A a30 j31 →
  J19 v32)) ∧ (x2 = 0 → w16.K a0 = 5 ∧
  ∀ z33 : Option Nat, z33 = w16.R 516 a0 →
  ∃ a34, z33 = some a34 ∧ w16.K a34 = 11 ∧
  ∃ j35 : Nat, x1 = nI j35 ∧ j35 < w16.N a34 ∧ w16.N a34 < 2 ^ 31 ∧
  ∀ v36 : Int32, v36 = w16.A a34 j35 →
  J19 v36)) ∧
  (0 ≤ y15 → w16.K a0 = 5 ∧
  ∀ z37 : Option Nat, z37 = w16.R 521 a0 →
  ∀ v38 : Int32, v38 = (10 : Int32) * x1 →
  ∀ v39 : Int32, v39 = v38 + y15 →
  ∃ a40, z37 = some a40 ∧ w16.K a40 = 11 ∧
  ∃ j41 : Nat, v39 = nI j41 ∧ j41 < w16.N a40 ∧ w16.N a40 < 2 ^ 31 ∧
  ∀ v42 : Int32, v42 = w16.A a40 j41 →
  J17 v42) ∧ (¬ 0 ≤ y15 → J17 (-1 : Int32))) ∧
  (v13 = 0 → J14 (-1 : Int32) w8) ∧ (¬ v13 = 0 → w8.K a0 = 5 ∧
  wp_X4_turnOf a0 x1 w8 (fun v44 w43 => 
  J14 v44 w43))) ∧ (¬ v9 = 0 → Q (0 : Int32) w8)) ∧
  (¬ v2 = 0 → wp_X4_in x2 (0 : Int32) (4 : Int32) w1 (fun v46 w45 => 
  (¬ v46 = 0 → J3 (some a0) (0 : Int32) w45) ∧ (v46 = 0 → J3 (some a0) (2 : Int32) w45))) ∧ (v2 = 0 → J3 (some a0) (1 : Int32) w1))
set_option maxHeartbeats 4000000 in
set_option maxRecDepth 100000 in
theorem c_X4_ofCircle {l : Launch} {G : GT} {L0 : Nat} (hst : l.stackTraces = false) {a0 : Nat} {x1 : Int32} {x2 : Int32} {w : Wd} {Q : Int32 → Wd → Prop} (h : wp_X4_ofCircle a0 x1 x2 w Q) : GMi l G L0 yX4_ofCircle cX4_ofCircle 5 (some .int) rm_X4_ofCircle [.ref a0, .int x1, .int x2] w Q := by
  refine g_enter hst (by decide +kernel) [.inr (some a0), .inl x1, .inl x2] rfl (show 3 ≤ 5 by decide) ?_
  intro p e s m args below meth c X hr hnm
  replace X : GC l G L0 p s m args meth c cX4_ofCircle 5 "SusuRingModel" := X
  refine g_aload_n X dX4_ofCircle_0 rfl 0 rfl ?_
  refine g_aload_n X dX4_ofCircle_1 rfl 0 rfl ?_
  refine g_iload_n X dX4_ofCircle_2 rfl 1 rfl ?_
  have hk := h.1
  replace h := h.2
  refine g_callV_i X (As := [.int x1]) (st := [va_rf (some a0)]) (n := 1) (c_X4_isCircle hst h) rfl (by decide) hk (wE_5 G w a0) m_1144 m_1146 m_21 m_34 m_1147 (by decide +kernel) (by decide +kernel) rfl rfl (by simp [cat_int, rf_cat]) ⟨(by decide +kernel), (by decide +kernel)⟩ dX4_ofCircle_3 (fun v2 w1 h => ?_)
  clear hk
  refine g_widen (c2 := (0)) (s2 := (0)) (by decide +kernel) (by decide +kernel) ?_
  obtain ⟨J3, hjJ3, h⟩ := h
  have jp3 : ∀ (q4 : Option Nat) (y5 : Int32) (w6 : Wd), J3 q4 y5 w6 → Gw l G L0 p e rm_X4_ofCircle s m args below meth c 5 (0) (0) (MQ below (gQi G L0 Q) args s rm_X4_ofCircle.cells rm_X4_ofCircle.slots (GA L0)) w6 27 [(0, .inr (some a0)), (1, .inl x1), (2, .inl x2)] [.int y5, va_rf q4] := by
    intro q4 y5 w6 hJ
    have h := hjJ3 q4 y5 w6 hJ
    clear hJ
    obtain ⟨a7, rfl, hk, h⟩ := h
    refine gp_500 X hk m_996 dX4_ofCircle_27 (fun w8 hv => ?_)
    replace h := h w8 hv; clear hv hk
    refine g_aload_n X dX4_ofCircle_30 rfl 0 rfl ?_
    have hk := h.1
    replace h := h.2
    refine gg_500 X hk m_996 dX4_ofCircle_31 (fun v9 hv => ?_)
    replace h := h v9 hv; clear hv hk
    refine g_if_eq X (tgt := 39) dX4_ofCircle_34 (by decide) (fun hc => ?_) (fun hc => ?_)
    · replace h := h.1 hc; clear hc
      refine g_aload_n X dX4_ofCircle_39 rfl 0 rfl ?_
      have hk := h.1
      replace h := h.2
      refine gg_520 X hk m_1016 dX4_ofCircle_40 (fun z10 hv => ?_)
      replace h := h z10 hv; clear hv hk
      refine g_iload_n X dX4_ofCircle_43 rfl 1 rfl ?_
      obtain ⟨a11, rfl, hk, h⟩ := h
      obtain ⟨j12, hi, hj, hN, h⟩ := h
      refine g_zald X hk hi hj hN dX4_ofCircle_44 (fun v13 hv => ?_)
      replace h := h v13 hv; clear hv hk hi hj hN
      obtain ⟨J14, hjJ14, h⟩ := h
      have jp14 : ∀ (y15 : Int32) (w16 : Wd), J14 y15 w16 → Gw l G L0 p e rm_X4_ofCircle s m args below meth c 5 (0) (0) (MQ below (gQi G L0 Q) args s rm_X4_ofCircle.cells rm_X4_ofCircle.slots (GA L0)) w16 57 [(0, .inr (some a0)), (1, .inl x1), (2, .inl x2)] [.int y15] := by
        intro y15 w16 hJ
        have h := hjJ14 y15 w16 hJ
        clear hJ
        refine g_istore_n X [(3, .inl y15), (0, .inr (some a0)), (1, .inl x1), (2, .inl x2)] dX4_ofCircle_57 rfl (by decide) rfl ?_
        refine g_iload_n X dX4_ofCircle_58 rfl 0 rfl ?_
        obtain ⟨J17, hjJ17, h⟩ := h
        have jp17 : ∀ (y18 : Int32), J17 y18 → Gw l G L0 p e rm_X4_ofCircle s m args below meth c 5 (0) (0) (MQ below (gQi G L0 Q) args s rm_X4_ofCircle.cells rm_X4_ofCircle.slots (GA L0)) w16 77 [(0, .inr (some a0)), (1, .inl x1), (2, .inl x2)] [.int y18] := by
          intro y18 hJ
          have h := hjJ17 y18 hJ
          clear hJ
          refine g_istore X [(4, .inl y18), (0, .inr (some a0)), (1, .inl x1), (2, .inl x2)] dX4_ofCircle_77 (by decide) rfl ?_
          refine g_iload_n X dX4_ofCircle_79 rfl 3 rfl ?_
          obtain ⟨J19, hjJ19, h⟩ := h
          have jp19 : ∀ (y20 : Int32), J19 y20 → Gw l G L0 p e rm_X4_ofCircle s m args below meth c 5 (0) (0) (MQ below (gQi G L0 Q) args s rm_X4_ofCircle.cells rm_X4_ofCircle.slots (GA L0)) w16 136 [] [.int y20] := by
            intro y20 hJ
            have h := hjJ19 y20 hJ
            clear hJ
            exact g_iret X hr (by decide +kernel) (by decide +kernel) dX4_ofCircle_136 h
          refine g_if_ne X (tgt := 92) dX4_ofCircle_80 (by decide) (fun hc => ?_) (fun hc => ?_)
          · replace h := h.1 hc; clear hc
            refine g_iload_n X dX4_ofCircle_92 rfl 3 rfl ?_
            refine g_iconst X (v := (1 : Int32)) dX4_ofCircle_93 (by decide) ?_
            refine g_icmp_ne X (tgt := 106) dX4_ofCircle_94 (by decide) (fun hc => ?_) (fun hc => ?_)
            · replace h := h.1 hc; clear hc
              refine g_iload_n X dX4_ofCircle_106 rfl 3 rfl ?_
              refine g_iconst X (v := (2 : Int32)) dX4_ofCircle_107 (by decide) ?_
              refine g_icmp_ne X (tgt := 120) dX4_ofCircle_108 (by decide) (fun hc => ?_) (fun hc => ?_)
              · replace h := h.1 hc; clear hc
                refine g_iload_n X dX4_ofCircle_120 rfl 3 rfl ?_
                refine g_iconst X (v := (3 : Int32)) dX4_ofCircle_121 (by decide) ?_
                refine g_icmp_ne X (tgt := 134) dX4_ofCircle_122 (by decide) (fun hc => ?_) (fun hc => ?_)
                · replace h := h.1 hc; clear hc
                  refine g_iload X dX4_ofCircle_134 0 rfl ?_
                  exact g_sub [] [] rfl (jp19 y18 h)
                · replace h := h.2 hc; clear hc
                  refine g_aload_n X dX4_ofCircle_125 rfl 1 rfl ?_
                  have hk := h.1
                  replace h := h.2
                  refine gg_519 X hk m_1015 dX4_ofCircle_126 (fun z21 hv => ?_)
                  replace h := h z21 hv; clear hv hk
                  refine g_iload_n X dX4_ofCircle_129 rfl 2 rfl ?_
                  obtain ⟨a22, rfl, hk, h⟩ := h
                  obtain ⟨j23, hi, hj, hN, h⟩ := h
                  refine g_iald X hk hi hj hN dX4_ofCircle_130 (fun v24 hv => ?_)
                  replace h := h v24 hv; clear hv hk hi hj hN
                  refine g_goto X (tgt := 136) dX4_ofCircle_131 (by decide) ?_
                  exact g_sub [] [] rfl (jp19 v24 h)
              · replace h := h.2 hc; clear hc
                refine g_aload_n X dX4_ofCircle_111 rfl 1 rfl ?_
                have hk := h.1
                replace h := h.2
                refine gg_518 X hk m_1014 dX4_ofCircle_112 (fun z25 hv => ?_)
                replace h := h z25 hv; clear hv hk
                refine g_iload_n X dX4_ofCircle_115 rfl 2 rfl ?_
                obtain ⟨a26, rfl, hk, h⟩ := h
                obtain ⟨j27, hi, hj, hN, h⟩ := h
                refine g_iald X hk hi hj hN dX4_ofCircle_116 (fun v28 hv => ?_)
                replace h := h v28 hv; clear hv hk hi hj hN
                refine g_goto X (tgt := 136) dX4_ofCircle_117 (by decide) ?_
                exact g_sub [] [] rfl (jp19 v28 h)
            · replace h := h.2 hc; clear hc
              refine g_aload_n X dX4_ofCircle_97 rfl 1 rfl ?_
              have hk := h.1
              replace h := h.2
              refine gg_517 X hk m_1013 dX4_ofCircle_98 (fun z29 hv => ?_)
              replace h := h z29 hv; clear hv hk
              refine g_iload_n X dX4_ofCircle_101 rfl 2 rfl ?_
              obtain ⟨a30, rfl, hk, h⟩ := h
              obtain ⟨j31, hi, hj, hN, h⟩ := h
              refine g_iald X hk hi hj hN dX4_ofCircle_102 (fun v32 hv => ?_)
              replace h := h v32 hv; clear hv hk hi hj hN
              refine g_goto X (tgt := 136) dX4_ofCircle_103 (by decide) ?_
              exact g_sub [] [] rfl (jp19 v32 h)
          · replace h := h.2 hc; clear hc
            refine g_aload_n X dX4_ofCircle_83 rfl 1 rfl ?_
            have hk := h.1
            replace h := h.2
            refine gg_516 X hk m_1012 dX4_ofCircle_84 (fun z33 hv => ?_)
            replace h := h z33 hv; clear hv hk
            refine g_iload_n X dX4_ofCircle_87 rfl 2 rfl ?_
            obtain ⟨a34, rfl, hk, h⟩ := h
            obtain ⟨j35, hi, hj, hN, h⟩ := h
            refine g_iald X hk hi hj hN dX4_ofCircle_88 (fun v36 hv => ?_)
            replace h := h v36 hv; clear hv hk hi hj hN
            refine g_goto X (tgt := 136) dX4_ofCircle_89 (by decide) ?_
            exact g_sub [] [] rfl (jp19 v36 h)
        refine g_if_ge X (tgt := 66) dX4_ofCircle_59 (by decide) (fun hc => ?_) (fun hc => ?_)
        · replace h := h.1 hc; clear hc
          refine g_aload_n X dX4_ofCircle_66 rfl 1 rfl ?_
          have hk := h.1
          replace h := h.2
          refine gg_521 X hk m_1017 dX4_ofCircle_67 (fun z37 hv => ?_)
          replace h := h z37 hv; clear hv hk
          refine g_bipush X (v := (10 : Int32)) dX4_ofCircle_70 (by decide) ?_
          refine g_iload_n X dX4_ofCircle_72 rfl 2 rfl ?_
          refine g_imul X dX4_ofCircle_73 (fun v38 hv => ?_)
          replace h := h v38 hv; clear hv
          refine g_iload_n X dX4_ofCircle_74 rfl 0 rfl ?_
          refine g_iadd X dX4_ofCircle_75 (fun v39 hv => ?_)
          replace h := h v39 hv; clear hv
          obtain ⟨a40, rfl, hk, h⟩ := h
          obtain ⟨j41, hi, hj, hN, h⟩ := h
          refine g_iald X hk hi hj hN dX4_ofCircle_76 (fun v42 hv => ?_)
          replace h := h v42 hv; clear hv hk hi hj hN
          exact g_sub [1, 2, 3] [(0, .inr (some a0)), (1, .inl x1), (2, .inl x2)] rfl (jp17 v42 h)
        · replace h := h.2 hc; clear hc
          refine g_iconst X (v := (-1 : Int32)) dX4_ofCircle_62 (by decide) ?_
          refine g_goto X (tgt := 77) dX4_ofCircle_63 (by decide) ?_
          exact g_sub [1, 2, 3] [(0, .inr (some a0)), (1, .inl x1), (2, .inl x2)] rfl (jp17 (-1 : Int32) h)
      refine g_if_eq X (tgt := 56) dX4_ofCircle_45 (by decide) (fun hc => ?_) (fun hc => ?_)
      · replace h := h.1 hc; clear hc
        refine g_iconst X (v := (-1 : Int32)) dX4_ofCircle_56 (by decide) ?_
        exact g_sub [0, 1, 2] [(0, .inr (some a0)), (1, .inl x1), (2, .inl x2)] rfl (jp14 (-1 : Int32) w8 h)
      · replace h := h.2 hc; clear hc
        refine g_aload_n X dX4_ofCircle_48 rfl 0 rfl ?_
        refine g_iload_n X dX4_ofCircle_49 rfl 1 rfl ?_
        have hk := h.1
        replace h := h.2
        refine g_callV_i X (As := [.int x1]) (st := []) (n := 1) (c_X4_turnOf hst h) rfl (by decide) hk (wE_5 G w8 a0) m_1172 m_1174 m_25 m_34 m_1175 (by decide +kernel) (by decide +kernel) rfl rfl (Nat.zero_le _) ⟨(by decide +kernel), (by decide +kernel)⟩ dX4_ofCircle_50 (fun v44 w43 h => ?_)
        clear hk
        refine g_widen (c2 := (0)) (s2 := (0)) (by decide +kernel) (by decide +kernel) ?_
        refine g_goto X (tgt := 57) dX4_ofCircle_53 (by decide) ?_
        exact g_sub [0, 1, 2] [(0, .inr (some a0)), (1, .inl x1), (2, .inl x2)] rfl (jp14 v44 w43 h)
    · replace h := h.2 hc; clear hc
      refine g_iconst X (v := (0 : Int32)) dX4_ofCircle_37 (by decide) ?_
      exact g_iret X hr (by decide +kernel) (by decide +kernel) dX4_ofCircle_38 h
  refine g_if_ne X (tgt := 13) dX4_ofCircle_6 (by decide) (fun hc => ?_) (fun hc => ?_)
  · replace h := h.1 hc; clear hc
    refine g_iload_n X dX4_ofCircle_13 rfl 2 rfl ?_
    refine g_iconst X (v := (0 : Int32)) dX4_ofCircle_14 (by decide) ?_
    refine g_iconst X (v := (4 : Int32)) dX4_ofCircle_15 (by decide) ?_
    refine g_callS_i X (As := [.int x2, .int (0 : Int32), .int (4 : Int32)]) (st := [va_rf (some a0)]) (n := 3) (c_X4_in hst h) m_1099 m_1100 m_34 m_1101 (by decide +kernel) (by decide +kernel) rfl rfl (by simp [cat_int, rf_cat]) ⟨(by decide +kernel), (by decide +kernel)⟩ dX4_ofCircle_16 (fun v46 w45 h => ?_)
    refine g_widen (c2 := (0)) (s2 := (0)) (by decide +kernel) (by decide +kernel) ?_
    refine g_if_ne X (tgt := 26) dX4_ofCircle_19 (by decide) (fun hc => ?_) (fun hc => ?_)
    · replace h := h.1 hc; clear hc
      refine g_iconst X (v := (0 : Int32)) dX4_ofCircle_26 (by decide) ?_
      exact g_sub [0, 1, 2] [(0, .inr (some a0)), (1, .inl x1), (2, .inl x2)] rfl (jp3 (some a0) (0 : Int32) w45 h)
    · replace h := h.2 hc; clear hc
      refine g_iconst X (v := (2 : Int32)) dX4_ofCircle_22 (by decide) ?_
      refine g_goto X (tgt := 27) dX4_ofCircle_23 (by decide) ?_
      exact g_sub [0, 1, 2] [(0, .inr (some a0)), (1, .inl x1), (2, .inl x2)] rfl (jp3 (some a0) (2 : Int32) w45 h)
  · replace h := h.2 hc; clear hc
    refine g_iconst X (v := (1 : Int32)) dX4_ofCircle_9 (by decide) ?_
    refine g_goto X (tgt := 27) dX4_ofCircle_10 (by decide) ?_
    exact g_sub [0, 1, 2] [(0, .inr (some a0)), (1, .inl x1), (2, .inl x2)] rfl (jp3 (some a0) (1 : Int32) w1 h)

abbrev rm_X4_cash : Room := { frames := 6, cells := 0, slots := 0, locals := 100 }
def wp_X4_cash (a0 : Nat) (w : Wd) (Q : Int32 → Wd → Prop) : Prop :=
  w.K a0 = 5 ∧
  ∀ w1 : Wd, w1 = w.setI 500 a0 (0 : Int32) →
  w1.K a0 = 5 ∧
  ∀ v2 : Int32, v2 = w1.I 528 a0 →
  Q v2 w1
set_option maxHeartbeats 4000000 in
set_option maxRecDepth 100000 in
theorem c_X4_cash {l : Launch} {G : GT} {L0 : Nat} (hst : l.stackTraces = false) {a0 : Nat} {w : Wd} {Q : Int32 → Wd → Prop} (h : wp_X4_cash a0 w Q) : GMi l G L0 yX4_cash cX4_cash 1 (some .int) rm_X4_cash [.ref a0] w Q := by
  refine g_enter hst (by decide +kernel) [.inr (some a0)] rfl (show 1 ≤ 1 by decide) ?_
  intro p e s m args below meth c X hr hnm
  replace X : GC l G L0 p s m args meth c cX4_cash 1 "SusuRingModel" := X
  refine g_aload_n X dX4_cash_0 rfl 0 rfl ?_
  refine g_iconst X (v := (0 : Int32)) dX4_cash_1 (by decide) ?_
  have hk := h.1
  replace h := h.2
  refine gp_500 X hk m_996 dX4_cash_2 (fun w1 hv => ?_)
  replace h := h w1 hv; clear hv hk
  refine g_aload_n X dX4_cash_5 rfl 0 rfl ?_
  have hk := h.1
  replace h := h.2
  refine gg_528 X hk m_1024 dX4_cash_6 (fun v2 hv => ?_)
  replace h := h v2 hv; clear hv hk
  exact g_iret X hr (by decide +kernel) (by decide +kernel) dX4_cash_9 h

abbrev rm_X4_coins : Room := { frames := 6, cells := 0, slots := 0, locals := 100 }
def wp_X4_coins (a0 : Nat) (w : Wd) (Q : Int32 → Wd → Prop) : Prop :=
  w.K a0 = 5 ∧
  ∀ w1 : Wd, w1 = w.setI 500 a0 (0 : Int32) →
  w1.K a0 = 5 ∧
  ∀ v2 : Int32, v2 = w1.I 529 a0 →
  w1.K a0 = 5 ∧
  ∀ v3 : Int32, v3 = w1.I 528 a0 →
  ∀ v4 : Int32, v4 = v2 - v3 →
  ∃ Inv6 : Nat → Int32 → Int32 → Prop, (∃ n : Nat, Inv6 n v4 (0 : Int32)) ∧ ∀ (n5 : Nat) (y7 : Int32) (y8 : Int32), Inv6 n5 y7 y8 →
  w1.K a0 = 5 ∧
  ∀ v9 : Int32, v9 = w1.I 501 a0 →
  (v9 ≤ y8 → ∃ Inv11 : Nat → Int32 → Int32 → Prop, (∃ n : Nat, Inv11 n y7 (0 : Int32)) ∧ ∀ (n10 : Nat) (y12 : Int32) (y13 : Int32), Inv11 n10 y12 y13 →
  w1.K a0 = 5 ∧
  ∀ v14 : Int32, v14 = w1.I 513 a0 →
  (v14 ≤ y13 → Q y12 w1) ∧ (¬ v14 ≤ y13 → w1.K a0 = 5 ∧
  ∀ z15 : Option Nat, z15 = w1.R 516 a0 →
  ∃ a16, z15 = some a16 ∧ w1.K a16 = 11 ∧
  ∃ j17 : Nat, y13 = nI j17 ∧ j17 < w1.N a16 ∧ w1.N a16 < 2 ^ 31 ∧
  ∀ v18 : Int32, v18 = w1.A a16 j17 →
  ∀ v19 : Int32, v19 = y12 - v18 →
  ∀ v20 : Int32, v20 = y13 + (1 : Int32) →
  ∃ n : Nat, n < n10 ∧ Inv11 n v19 v20)) ∧ (¬ v9 ≤ y8 → w1.K a0 = 5 ∧
  ∀ z21 : Option Nat, z21 = w1.R 504 a0 →
  ∃ a22, z21 = some a22 ∧ w1.K a22 = 11 ∧
  ∃ j23 : Nat, y8 = nI j23 ∧ j23 < w1.N a22 ∧ w1.N a22 < 2 ^ 31 ∧
  ∀ v24 : Int32, v24 = w1.A a22 j23 →
  ∀ v25 : Int32, v25 = y7 - v24 →
  ∀ v26 : Int32, v26 = y8 + (1 : Int32) →
  ∃ n : Nat, n < n5 ∧ Inv6 n v25 v26)
set_option maxHeartbeats 4000000 in
set_option maxRecDepth 100000 in
theorem c_X4_coins {l : Launch} {G : GT} {L0 : Nat} (hst : l.stackTraces = false) {a0 : Nat} {w : Wd} {Q : Int32 → Wd → Prop} (h : wp_X4_coins a0 w Q) : GMi l G L0 yX4_coins cX4_coins 3 (some .int) rm_X4_coins [.ref a0] w Q := by
  refine g_enter hst (by decide +kernel) [.inr (some a0)] rfl (show 1 ≤ 3 by decide) ?_
  intro p e s m args below meth c X hr hnm
  replace X : GC l G L0 p s m args meth c cX4_coins 3 "SusuRingModel" := X
  refine g_aload_n X dX4_coins_0 rfl 0 rfl ?_
  refine g_iconst X (v := (0 : Int32)) dX4_coins_1 (by decide) ?_
  have hk := h.1
  replace h := h.2
  refine gp_500 X hk m_996 dX4_coins_2 (fun w1 hv => ?_)
  replace h := h w1 hv; clear hv hk
  refine g_aload_n X dX4_coins_5 rfl 0 rfl ?_
  have hk := h.1
  replace h := h.2
  refine gg_529 X hk m_1025 dX4_coins_6 (fun v2 hv => ?_)
  replace h := h v2 hv; clear hv hk
  refine g_aload_n X dX4_coins_9 rfl 0 rfl ?_
  have hk := h.1
  replace h := h.2
  refine gg_528 X hk m_1024 dX4_coins_10 (fun v3 hv => ?_)
  replace h := h v3 hv; clear hv hk
  refine g_isub X dX4_coins_13 (fun v4 hv => ?_)
  replace h := h v4 hv; clear hv
  refine g_istore_n X [(1, .inl v4), (0, .inr (some a0))] dX4_coins_14 rfl (by decide) rfl ?_
  refine g_iconst X (v := (0 : Int32)) dX4_coins_15 (by decide) ?_
  refine g_istore_n X [(2, .inl (0 : Int32)), (1, .inl v4), (0, .inr (some a0))] dX4_coins_16 rfl (by decide) rfl ?_
  obtain ⟨Inv6, ⟨n0, hi⟩, hsn5⟩ := h
  have lp6 : ∀ (n5 : Nat), ∀ (y7 : Int32) (y8 : Int32), Inv6 n5 y7 y8 → Gw l G L0 p e rm_X4_coins s m args below meth c 3 (0) (0) (MQ below (gQi G L0 Q) args s rm_X4_coins.cells rm_X4_coins.slots (GA L0)) w1 17 [(0, .inr (some a0)), (1, .inl y7), (2, .inl y8)] [] := by
    intro n5
    induction n5 using Nat.strongRecOn with
    | ind n5 ihn5 =>
      intro y7 y8 hI
      have h := hsn5 n5 y7 y8 hI
      clear hI
      refine g_iload_n X dX4_coins_17 rfl 2 rfl ?_
      refine g_aload_n X dX4_coins_18 rfl 0 rfl ?_
      have hk := h.1
      replace h := h.2
      refine gg_501 X hk m_997 dX4_coins_19 (fun v9 hv => ?_)
      replace h := h v9 hv; clear hv hk
      refine g_icmp_ge X (tgt := 40) dX4_coins_22 (by decide) (fun hc => ?_) (fun hc => ?_)
      · replace h := h.1 hc; clear hc
        refine g_iconst X (v := (0 : Int32)) dX4_coins_40 (by decide) ?_
        refine g_istore_n X [(2, .inl (0 : Int32)), (0, .inr (some a0)), (1, .inl y7)] dX4_coins_41 rfl (by decide) rfl ?_
        obtain ⟨Inv11, ⟨n0, hi⟩, hsn10⟩ := h
        have lp11 : ∀ (n10 : Nat), ∀ (y12 : Int32) (y13 : Int32), Inv11 n10 y12 y13 → Gw l G L0 p e rm_X4_coins s m args below meth c 3 (0) (0) (MQ below (gQi G L0 Q) args s rm_X4_coins.cells rm_X4_coins.slots (GA L0)) w1 42 [(0, .inr (some a0)), (1, .inl y12), (2, .inl y13)] [] := by
          intro n10
          induction n10 using Nat.strongRecOn with
          | ind n10 ihn10 =>
            intro y12 y13 hI
            have h := hsn10 n10 y12 y13 hI
            clear hI
            refine g_iload_n X dX4_coins_42 rfl 2 rfl ?_
            refine g_aload_n X dX4_coins_43 rfl 0 rfl ?_
            have hk := h.1
            replace h := h.2
            refine gg_513 X hk m_1009 dX4_coins_44 (fun v14 hv => ?_)
            replace h := h v14 hv; clear hv hk
            refine g_icmp_ge X (tgt := 65) dX4_coins_47 (by decide) (fun hc => ?_) (fun hc => ?_)
            · replace h := h.1 hc; clear hc
              refine g_iload_n X dX4_coins_65 rfl 1 rfl ?_
              exact g_iret X hr (by decide +kernel) (by decide +kernel) dX4_coins_66 h
            · replace h := h.2 hc; clear hc
              refine g_iload_n X dX4_coins_50 rfl 1 rfl ?_
              refine g_aload_n X dX4_coins_51 rfl 0 rfl ?_
              have hk := h.1
              replace h := h.2
              refine gg_516 X hk m_1012 dX4_coins_52 (fun z15 hv => ?_)
              replace h := h z15 hv; clear hv hk
              refine g_iload_n X dX4_coins_55 rfl 2 rfl ?_
              obtain ⟨a16, rfl, hk, h⟩ := h
              obtain ⟨j17, hi, hj, hN, h⟩ := h
              refine g_iald X hk hi hj hN dX4_coins_56 (fun v18 hv => ?_)
              replace h := h v18 hv; clear hv hk hi hj hN
              refine g_isub X dX4_coins_57 (fun v19 hv => ?_)
              replace h := h v19 hv; clear hv
              refine g_istore_n X [(1, .inl v19), (0, .inr (some a0)), (2, .inl y13)] dX4_coins_58 rfl (by decide) rfl ?_
              refine g_iinc X dX4_coins_59 2 rfl (d := (1 : Int32)) (by decide) (by decide) (fun v20 hv => ?_)
              replace h := h v20 hv; clear hv
              refine g_sub [0, 1, 2] [(2, .inl v20), (1, .inl v19), (0, .inr (some a0))] rfl ?_
              refine g_goto X (tgt := 42) dX4_coins_62 (by decide) ?_
              obtain ⟨n, hn, hI⟩ := h
              exact g_sub [2, 1, 0] [(0, .inr (some a0)), (1, .inl v19), (2, .inl v20)] rfl (ihn10 n hn v19 v20 hI)
        exact g_sub [1, 2, 0] [(0, .inr (some a0)), (1, .inl y7), (2, .inl (0 : Int32))] rfl (lp11 n0 y7 (0 : Int32) hi)
      · replace h := h.2 hc; clear hc
        refine g_iload_n X dX4_coins_25 rfl 1 rfl ?_
        refine g_aload_n X dX4_coins_26 rfl 0 rfl ?_
        have hk := h.1
        replace h := h.2
        refine gg_504 X hk m_1000 dX4_coins_27 (fun z21 hv => ?_)
        replace h := h z21 hv; clear hv hk
        refine g_iload_n X dX4_coins_30 rfl 2 rfl ?_
        obtain ⟨a22, rfl, hk, h⟩ := h
        obtain ⟨j23, hi, hj, hN, h⟩ := h
        refine g_iald X hk hi hj hN dX4_coins_31 (fun v24 hv => ?_)
        replace h := h v24 hv; clear hv hk hi hj hN
        refine g_isub X dX4_coins_32 (fun v25 hv => ?_)
        replace h := h v25 hv; clear hv
        refine g_istore_n X [(1, .inl v25), (0, .inr (some a0)), (2, .inl y8)] dX4_coins_33 rfl (by decide) rfl ?_
        refine g_iinc X dX4_coins_34 2 rfl (d := (1 : Int32)) (by decide) (by decide) (fun v26 hv => ?_)
        replace h := h v26 hv; clear hv
        refine g_sub [0, 1, 2] [(2, .inl v26), (1, .inl v25), (0, .inr (some a0))] rfl ?_
        refine g_goto X (tgt := 17) dX4_coins_37 (by decide) ?_
        obtain ⟨n, hn, hI⟩ := h
        exact g_sub [2, 1, 0] [(0, .inr (some a0)), (1, .inl v25), (2, .inl v26)] rfl (ihn5 n hn v25 v26 hI)
  exact g_sub [2, 1, 0] [(0, .inr (some a0)), (1, .inl v4), (2, .inl (0 : Int32))] rfl (lp6 n0 v4 (0 : Int32) hi)
