abbrev rm_X0_init : Room := { frames := 4, cells := 2, slots := 6, locals := 160 }
def wp_X0_init (a0 : Nat) (x1 : Int32) (x2 : Int32) (w : Wd) (Q : Wd → Prop) : Prop :=
  w.K a0 = 1 ∧
  ∀ w1 : Wd, w1 = w.setI 100 a0 x1 →
  w1.K a0 = 1 ∧
  ∀ w2 : Wd, w2 = w1.setI 101 a0 x2 →
  ∀ q3 : Nat, w2.K q3 = 0 → ∀ w4 : Wd, w4 = w2.new 6 q3 →
  wp_Jx4a65c_init_da8c8 q3 w4 (fun w5 => 
  w5.K a0 = 1 ∧
  ∀ w6 : Wd, w6 = w5.setR 102 a0 (some q3) →
  ∀ q7 : Nat, w6.K q7 = 0 → ∀ w8 : Wd, w8 = w6.new 6 q7 →
  wp_Jx4a65c_init_da8c8 q7 w8 (fun w9 => 
  w9.K a0 = 1 ∧
  ∀ w10 : Wd, w10 = w9.setR 103 a0 (some q7) →
  Q w10))
set_option maxHeartbeats 4000000 in
set_option maxRecDepth 100000 in
theorem c_X0_init {l : Launch} {G : GT} {L0 : Nat} (hst : l.stackTraces = false) {a0 : Nat} {x1 : Int32} {x2 : Int32} {w : Wd} {Q : Wd → Prop} (h : wp_X0_init a0 x1 x2 w Q) : GMv l G L0 yX0_init cX0_init 3 none rm_X0_init [.ref a0, .int x1, .int x2] w Q := by
  refine g_enter hst (by decide +kernel) [.inr (some a0), .inl x1, .inl x2] rfl (show 3 ≤ 3 by decide) ?_
  intro p e s m args below meth c X hr hnm
  replace X : GC l G L0 p s m args meth c cX0_init 3 "SusuRing$Circle" := X
  refine g_aload_n X dX0_init_0 rfl 0 rfl ?_
  refine g_objInit X m_341 m_40 m_41 (by decide) (by decide +kernel) dX0_init_1 ?_
  refine g_aload_n X dX0_init_4 rfl 0 rfl ?_
  refine g_iload_n X dX0_init_5 rfl 1 rfl ?_
  have hk := h.1
  replace h := h.2
  refine gp_100 X hk hnm rfl m_344 dX0_init_6 (fun w1 hv => ?_)
  replace h := h w1 hv; clear hv hk
  refine g_aload_n X dX0_init_9 rfl 0 rfl ?_
  refine g_iload_n X dX0_init_10 rfl 2 rfl ?_
  have hk := h.1
  replace h := h.2
  refine gp_101 X hk hnm rfl m_345 dX0_init_11 (fun w2 hv => ?_)
  replace h := h w2 hv; clear hv hk
  refine g_aload_n X dX0_init_14 rfl 0 rfl ?_
  refine gnew_6 X m_342 m_43 m_18 (by decide +kernel) (by decide +kernel) dX0_init_15 (fun q3 h1 w4 hv => ?_)
  replace h := h q3 h1 w4 hv; clear hv h1
  refine g_widen (c2 := (1)) (s2 := (3)) (by decide) (by decide) ?_
  refine g_dup X dX0_init_18 rf_cat ?_
  refine g_callI_v X (As := []) (st := [va_rf (some q3), va_rf (some a0)]) (n := 0) (c_Jx4a65c_init_da8c8 hst h) m_343 m_45 rfl m_18 m_46 (by decide +kernel) (by decide +kernel) rfl rfl (by simp [cat_int, rf_cat]) ⟨(by decide +kernel), (by decide +kernel)⟩ dX0_init_19 (fun w5 h => ?_)
  refine g_widen (c2 := (1)) (s2 := (3)) (by decide +kernel) (by decide +kernel) ?_
  have hk := h.1
  replace h := h.2
  refine gp_102 X hk hnm rfl m_346 dX0_init_22 (fun w6 hv => ?_)
  replace h := h w6 hv; clear hv hk
  refine g_aload_n X dX0_init_25 rfl 0 rfl ?_
  refine gnew_6 X m_342 m_43 m_18 (by decide +kernel) (by decide +kernel) dX0_init_26 (fun q7 h1 w8 hv => ?_)
  replace h := h q7 h1 w8 hv; clear hv h1
  refine g_widen (c2 := (2)) (s2 := (6)) (by decide) (by decide) ?_
  refine g_dup X dX0_init_29 rf_cat ?_
  refine g_callI_v X (As := []) (st := [va_rf (some q7), va_rf (some a0)]) (n := 0) (c_Jx4a65c_init_da8c8 hst h) m_343 m_45 rfl m_18 m_46 (by decide +kernel) (by decide +kernel) rfl rfl (by simp [cat_int, rf_cat]) ⟨(by decide +kernel), (by decide +kernel)⟩ dX0_init_30 (fun w9 h => ?_)
  refine g_widen (c2 := (2)) (s2 := (6)) (by decide +kernel) (by decide +kernel) ?_
  have hk := h.1
  replace h := h.2
  refine gp_103 X hk hnm rfl m_348 dX0_init_33 (fun w10 hv => ?_)
  replace h := h w10 hv; clear hv hk
  exact g_vret X hr (by decide +kernel) (by decide +kernel) dX0_init_36 h

abbrev rm_X0_hasOrder : Room := { frames := 1, cells := 0, slots := 0, locals := 100 }
def wp_X0_hasOrder (a0 : Nat) (w : Wd) (Q : Int32 → Wd → Prop) : Prop :=
  w.K a0 = 1 ∧
  ∀ v1 : Int32, v1 = w.I 101 a0 →
  ∃ J2 : Int32 → Prop, (∀ (y3 : Int32), J2 y3 →
  (y3 = 0 ∨ y3 = 1) ∧ Q y3 w) ∧
  ∃ J4 : Prop, (J4 →
  J2 (1 : Int32)) ∧
  (v1 = 0 → J4) ∧ (¬ v1 = 0 → w.K a0 = 1 ∧
  ∀ v5 : Int32, v5 = w.I 101 a0 →
  (¬ v5 = (1 : Int32) → J2 (0 : Int32)) ∧ (v5 = (1 : Int32) → J4))
set_option maxHeartbeats 4000000 in
set_option maxRecDepth 100000 in
theorem c_X0_hasOrder {l : Launch} {G : GT} {L0 : Nat} (hst : l.stackTraces = false) {a0 : Nat} {w : Wd} {Q : Int32 → Wd → Prop} (h : wp_X0_hasOrder a0 w Q) : GMi l G L0 yX0_hasOrder cX0_hasOrder 1 (some .boolean) rm_X0_hasOrder [.ref a0] w Q := by
  refine g_enter hst (by decide +kernel) [.inr (some a0)] rfl (show 1 ≤ 1 by decide) ?_
  intro p e s m args below meth c X hr hnm
  replace X : GC l G L0 p s m args meth c cX0_hasOrder 1 "SusuRing$Circle" := X
  refine g_aload_n X dX0_hasOrder_0 rfl 0 rfl ?_
  have hk := h.1
  replace h := h.2
  refine gg_101 X hk m_345 dX0_hasOrder_1 (fun v1 hv => ?_)
  replace h := h v1 hv; clear hv hk
  obtain ⟨J2, hjJ2, h⟩ := h
  have jp2 : ∀ (y3 : Int32), J2 y3 → Gw l G L0 p e rm_X0_hasOrder s m args below meth c 1 (0) (0) (MQ below (gQi G L0 Q) args s rm_X0_hasOrder.cells rm_X0_hasOrder.slots (GA L0)) w 20 [] [.int y3] := by
    intro y3 hJ
    have h := hjJ2 y3 hJ
    clear hJ
    exact g_zret X hr (by decide +kernel) (by decide +kernel) dX0_hasOrder_20 h.1 h.2
  obtain ⟨J4, hjJ4, h⟩ := h
  have jp4 : J4 → Gw l G L0 p e rm_X0_hasOrder s m args below meth c 1 (0) (0) (MQ below (gQi G L0 Q) args s rm_X0_hasOrder.cells rm_X0_hasOrder.slots (GA L0)) w 15 [] [] := by
    intro hJ
    have h := hjJ4 hJ
    clear hJ
    refine g_iconst X (v := (1 : Int32)) dX0_hasOrder_15 (by decide) ?_
    refine g_goto X (tgt := 20) dX0_hasOrder_16 (by decide) ?_
    exact g_sub [] [] rfl (jp2 (1 : Int32) h)
  refine g_if_eq X (tgt := 15) dX0_hasOrder_4 (by decide) (fun hc => ?_) (fun hc => ?_)
  · replace h := h.1 hc; clear hc
    exact g_sub [] [] rfl (jp4  h)
  · replace h := h.2 hc; clear hc
    refine g_aload_n X dX0_hasOrder_7 rfl 0 rfl ?_
    have hk := h.1
    replace h := h.2
    refine gg_101 X hk m_345 dX0_hasOrder_8 (fun v5 hv => ?_)
    replace h := h v5 hv; clear hv hk
    refine g_iconst X (v := (1 : Int32)) dX0_hasOrder_11 (by decide) ?_
    refine g_icmp_ne X (tgt := 19) dX0_hasOrder_12 (by decide) (fun hc => ?_) (fun hc => ?_)
    · replace h := h.1 hc; clear hc
      refine g_iconst X (v := (0 : Int32)) dX0_hasOrder_19 (by decide) ?_
      exact g_sub [] [] rfl (jp2 (0 : Int32) h)
    · replace h := h.2 hc; clear hc
      exact g_sub [] [] rfl (jp4  h)

abbrev rm_X0_indexOf : Room := { frames := 4, cells := 0, slots := 0, locals := 164 }
def wp_X0_indexOf (a0 : Nat) (r1 : Option Nat) (w : Wd) (Q : Int32 → Wd → Prop) : Prop :=
  ∃ Inv2 : Nat → Int32 → Wd → Prop, (∃ n : Nat, Inv2 n (0 : Int32) w) ∧ ∀ (n1 : Nat) (y3 : Int32) (w4 : Wd), Inv2 n1 y3 w4 →
  w4.K a0 = 1 ∧
  ∀ z5 : Option Nat, z5 = w4.R 102 a0 →
  ∃ a6, z5 = some a6 ∧ w4.K a6 = 6 ∧
  wp_Jx4a65c_size_8abf5 a6 w4 (fun v8 w7 => 
  (v8 ≤ y3 → Q (-1 : Int32) w7) ∧ (¬ v8 ≤ y3 → w7.K a0 = 1 ∧
  ∀ z9 : Option Nat, z9 = w7.R 102 a0 →
  ∃ a10, z9 = some a10 ∧ w7.K a10 = 6 ∧
  wp_Jx4a65c_get_915e3 a10 y3 w7 (fun z12 w11 => 
  (∀ y13, z12 = some y13 → w11.K y13 = 3) ∧
  ∃ a14, z12 = some a14 ∧ w11.K a14 = 3 ∧
  ∀ z15 : Option Nat, z15 = w11.R 300 a14 →
  (¬ z15 = r1 → ∀ v16 : Int32, v16 = y3 + (1 : Int32) →
  ∃ n : Nat, n < n1 ∧ Inv2 n v16 w11) ∧ (z15 = r1 → Q y3 w11))))
set_option maxHeartbeats 4000000 in
set_option maxRecDepth 100000 in
theorem c_X0_indexOf {l : Launch} {G : GT} {L0 : Nat} (hst : l.stackTraces = false) {a0 : Nat} {r1 : Option Nat} {w : Wd} {Q : Int32 → Wd → Prop} (h : wp_X0_indexOf a0 r1 w Q) : GMi l G L0 yX0_indexOf cX0_indexOf 3 (some .int) rm_X0_indexOf [.ref a0, va_rf r1] w Q := by
  refine g_enter hst (by decide +kernel) [.inr (some a0), .inr r1] rfl (show 2 ≤ 3 by decide) ?_
  intro p e s m args below meth c X hr hnm
  replace X : GC l G L0 p s m args meth c cX0_indexOf 3 "SusuRing$Circle" := X
  refine g_iconst X (v := (0 : Int32)) dX0_indexOf_0 (by decide) ?_
  refine g_istore_n X [(2, .inl (0 : Int32)), (0, .inr (some a0)), (1, .inr r1)] dX0_indexOf_1 rfl (by decide) rfl ?_
  obtain ⟨Inv2, ⟨n0, hi⟩, hsn1⟩ := h
  have lp2 : ∀ (n1 : Nat), ∀ (y3 : Int32) (w4 : Wd), Inv2 n1 y3 w4 → Gw l G L0 p e rm_X0_indexOf s m args below meth c 3 (0) (0) (MQ below (gQi G L0 Q) args s rm_X0_indexOf.cells rm_X0_indexOf.slots (GA L0)) w4 2 [(0, .inr (some a0)), (1, .inr r1), (2, .inl y3)] [] := by
    intro n1
    induction n1 using Nat.strongRecOn with
    | ind n1 ihn1 =>
      intro y3 w4 hI
      have h := hsn1 n1 y3 w4 hI
      clear hI
      refine g_iload_n X dX0_indexOf_2 rfl 2 rfl ?_
      refine g_aload_n X dX0_indexOf_3 rfl 0 rfl ?_
      have hk := h.1
      replace h := h.2
      refine gg_102 X hk m_346 dX0_indexOf_4 (fun z5 hv => ?_)
      replace h := h z5 hv; clear hv hk
      obtain ⟨a6, rfl, hk, h⟩ := h
      refine g_callV_i X (As := []) (st := [.int y3]) (n := 0) (c_Jx4a65c_size_8abf5 hst h) rfl (by decide) hk (wE_6 G w4 a6) m_439 m_158 m_159 m_18 m_160 (by decide +kernel) (by decide +kernel) rfl rfl (by simp [cat_int, rf_cat]) ⟨(by decide +kernel), (by decide +kernel)⟩ dX0_indexOf_7 (fun v8 w7 h => ?_)
      clear hk
      refine g_widen (c2 := (0)) (s2 := (0)) (by decide +kernel) (by decide +kernel) ?_
      refine g_icmp_ge X (tgt := 39) dX0_indexOf_10 (by decide) (fun hc => ?_) (fun hc => ?_)
      · replace h := h.1 hc; clear hc
        refine g_iconst X (v := (-1 : Int32)) dX0_indexOf_39 (by decide) ?_
        exact g_iret X hr (by decide +kernel) (by decide +kernel) dX0_indexOf_40 h
      · replace h := h.2 hc; clear hc
        refine g_aload_n X dX0_indexOf_13 rfl 0 rfl ?_
        have hk := h.1
        replace h := h.2
        refine gg_102 X hk m_346 dX0_indexOf_14 (fun z9 hv => ?_)
        replace h := h z9 hv; clear hv hk
        refine g_iload_n X dX0_indexOf_17 rfl 2 rfl ?_
        obtain ⟨a10, rfl, hk, h⟩ := h
        refine g_callV_q X (As := [.int y3]) (st := []) (n := 1) (c_Jx4a65c_get_915e3 hst h) rfl (by decide) hk (wE_6 G w7 a10) m_440 m_316 m_317 m_18 m_318 (by decide +kernel) (by decide +kernel) rfl rfl (Nat.zero_le _) ⟨(by decide +kernel), (by decide +kernel)⟩ dX0_indexOf_18 (fun z12 w11 h => ?_)
        clear hk
        refine g_widen (c2 := (0)) (s2 := (0)) (by decide +kernel) (by decide +kernel) ?_
        refine g_castS X (C := "SusuRing$Place") (T := TX2) (N := 6) (ci := 3) rfl (by decide) (fun a => ⟨_, wE_3 G w11 a⟩) h.1 m_441 dX0_indexOf_21 ?_
        replace h := h.2
        obtain ⟨a14, rfl, hk, h⟩ := h
        refine gg_300 X hk m_545 dX0_indexOf_24 (fun z15 hv => ?_)
        replace h := h z15 hv; clear hv hk
        refine g_aload_n X dX0_indexOf_27 rfl 1 rfl ?_
        refine g_acmp_ne X (tgt := 33) dX0_indexOf_28 (by decide) (fun hc => ?_) (fun hc => ?_)
        · replace h := h.1 hc; clear hc
          refine g_iinc X dX0_indexOf_33 2 rfl (d := (1 : Int32)) (by decide) (by decide) (fun v16 hv => ?_)
          replace h := h v16 hv; clear hv
          refine g_sub [0, 1, 2] [(2, .inl v16), (0, .inr (some a0)), (1, .inr r1)] rfl ?_
          refine g_goto X (tgt := 2) dX0_indexOf_36 (by decide) ?_
          obtain ⟨n, hn, hI⟩ := h
          exact g_sub [1, 2, 0] [(0, .inr (some a0)), (1, .inr r1), (2, .inl v16)] rfl (ihn1 n hn v16 w11 hI)
        · replace h := h.2 hc; clear hc
          refine g_iload_n X dX0_indexOf_31 rfl 2 rfl ?_
          exact g_iret X hr (by decide +kernel) (by decide +kernel) dX0_indexOf_32 h
  exact g_sub [1, 2, 0] [(0, .inr (some a0)), (1, .inr r1), (2, .inl (0 : Int32))] rfl (lp2 n0 (0 : Int32) w hi)

abbrev rm_X0_placeOf : Room := { frames := 5, cells := 0, slots := 0, locals := 186 }
def wp_X0_placeOf (a0 : Nat) (r1 : Option Nat) (w : Wd) (Q : Option Nat → Wd → Prop) : Prop :=
  w.K a0 = 1 ∧
  wp_X0_indexOf a0 r1 w (fun v2 w1 => 
  ∃ J3 : Option Nat → Wd → Prop, (∀ (q4 : Option Nat) (w5 : Wd), J3 q4 w5 →
  Q q4 w5) ∧
  ∃ J6 : Wd → Prop, (∀  (w7 : Wd), J6 w7 →
  J3 none w7) ∧
  (v2 < 0 → J6 w1) ∧ (¬ v2 < 0 → w1.K a0 = 1 ∧
  ∀ z8 : Option Nat, z8 = w1.R 102 a0 →
  ∃ a9, z8 = some a9 ∧ w1.K a9 = 6 ∧
  wp_Jx4a65c_size_8abf5 a9 w1 (fun v11 w10 => 
  (v11 ≤ v2 → J6 w10) ∧ (¬ v11 ≤ v2 → w10.K a0 = 1 ∧
  ∀ z12 : Option Nat, z12 = w10.R 102 a0 →
  ∃ a13, z12 = some a13 ∧ w10.K a13 = 6 ∧
  wp_Jx4a65c_get_915e3 a13 v2 w10 (fun z15 w14 => 
  (∀ y16, z15 = some y16 → w14.K y16 = 3) ∧
  J3 z15 w14)))))
set_option maxHeartbeats 4000000 in
set_option maxRecDepth 100000 in
theorem c_X0_placeOf {l : Launch} {G : GT} {L0 : Nat} (hst : l.stackTraces = false) {a0 : Nat} {r1 : Option Nat} {w : Wd} {Q : Option Nat → Wd → Prop} (h : wp_X0_placeOf a0 r1 w Q) : GMq l G L0 yX0_placeOf cX0_placeOf 3 (some (.object "SusuRing$Place")) rm_X0_placeOf [.ref a0, va_rf r1] w Q := by
  refine g_enter hst (by decide +kernel) [.inr (some a0), .inr r1] rfl (show 2 ≤ 3 by decide) ?_
  intro p e s m args below meth c X hr hnm
  replace X : GC l G L0 p s m args meth c cX0_placeOf 3 "SusuRing$Circle" := X
  refine g_aload_n X dX0_placeOf_0 rfl 0 rfl ?_
  refine g_aload_n X dX0_placeOf_1 rfl 1 rfl ?_
  have hk := h.1
  replace h := h.2
  refine g_callV_i X (As := [va_rf r1]) (st := []) (n := 1) (c_X0_indexOf hst h) rfl (by decide) hk (wE_1 G w a0) m_435 m_436 m_437 m_24 m_438 (by decide +kernel) (by decide +kernel) rfl rfl (Nat.zero_le _) ⟨(by decide +kernel), (by decide +kernel)⟩ dX0_placeOf_2 (fun v2 w1 h => ?_)
  clear hk
  refine g_widen (c2 := (0)) (s2 := (0)) (by decide +kernel) (by decide +kernel) ?_
  refine g_istore_n X [(2, .inl v2), (0, .inr (some a0)), (1, .inr r1)] dX0_placeOf_5 rfl (by decide) rfl ?_
  refine g_iload_n X dX0_placeOf_6 rfl 0 rfl ?_
  obtain ⟨J3, hjJ3, h⟩ := h
  have jp3 : ∀ (q4 : Option Nat) (w5 : Wd), J3 q4 w5 → Gw l G L0 p e rm_X0_placeOf s m args below meth c 3 (0) (0) (MQ below (gQq G L0 Q) args s rm_X0_placeOf.cells rm_X0_placeOf.slots (GA L0)) w5 36 [] [va_rf q4] := by
    intro q4 w5 hJ
    have h := hjJ3 q4 w5 hJ
    clear hJ
    exact g_aret X hr (Or.inl ⟨_, rfl⟩) (by decide +kernel) (by decide +kernel) dX0_placeOf_36 h
  obtain ⟨J6, hjJ6, h⟩ := h
  have jp6 : ∀  (w7 : Wd), J6 w7 → Gw l G L0 p e rm_X0_placeOf s m args below meth c 3 (0) (0) (MQ below (gQq G L0 Q) args s rm_X0_placeOf.cells rm_X0_placeOf.slots (GA L0)) w7 35 [] [] := by
    intro w7 hJ
    have h := hjJ6 w7 hJ
    clear hJ
    refine g_null X dX0_placeOf_35 ?_
    exact g_sub [] [] rfl (jp3 none w7 h)
  refine g_if_lt X (tgt := 35) dX0_placeOf_7 (by decide) (fun hc => ?_) (fun hc => ?_)
  · replace h := h.1 hc; clear hc
    exact g_sub [] [] rfl (jp6 w1 h)
  · replace h := h.2 hc; clear hc
    refine g_iload_n X dX0_placeOf_10 rfl 0 rfl ?_
    refine g_aload_n X dX0_placeOf_11 rfl 1 rfl ?_
    have hk := h.1
    replace h := h.2
    refine gg_102 X hk m_346 dX0_placeOf_12 (fun z8 hv => ?_)
    replace h := h z8 hv; clear hv hk
    obtain ⟨a9, rfl, hk, h⟩ := h
    refine g_callV_i X (As := []) (st := [.int v2]) (n := 0) (c_Jx4a65c_size_8abf5 hst h) rfl (by decide) hk (wE_6 G w1 a9) m_439 m_158 m_159 m_18 m_160 (by decide +kernel) (by decide +kernel) rfl rfl (by simp [cat_int, rf_cat]) ⟨(by decide +kernel), (by decide +kernel)⟩ dX0_placeOf_15 (fun v11 w10 h => ?_)
    clear hk
    refine g_widen (c2 := (0)) (s2 := (0)) (by decide +kernel) (by decide +kernel) ?_
    refine g_icmp_ge X (tgt := 35) dX0_placeOf_18 (by decide) (fun hc => ?_) (fun hc => ?_)
    · replace h := h.1 hc; clear hc
      exact g_sub [] [] rfl (jp6 w10 h)
    · replace h := h.2 hc; clear hc
      refine g_aload_n X dX0_placeOf_21 rfl 1 rfl ?_
      have hk := h.1
      replace h := h.2
      refine gg_102 X hk m_346 dX0_placeOf_22 (fun z12 hv => ?_)
      replace h := h z12 hv; clear hv hk
      refine g_iload_n X dX0_placeOf_25 rfl 0 rfl ?_
      obtain ⟨a13, rfl, hk, h⟩ := h
      refine g_callV_q X (As := [.int v2]) (st := []) (n := 1) (c_Jx4a65c_get_915e3 hst h) rfl (by decide) hk (wE_6 G w10 a13) m_440 m_316 m_317 m_18 m_318 (by decide +kernel) (by decide +kernel) rfl rfl (Nat.zero_le _) ⟨(by decide +kernel), (by decide +kernel)⟩ dX0_placeOf_26 (fun z15 w14 h => ?_)
      clear hk
      refine g_widen (c2 := (0)) (s2 := (0)) (by decide +kernel) (by decide +kernel) ?_
      refine g_castS X (C := "SusuRing$Place") (T := TX2) (N := 6) (ci := 3) rfl (by decide) (fun a => ⟨_, wE_3 G w14 a⟩) h.1 m_441 dX0_placeOf_29 ?_
      replace h := h.2
      refine g_goto X (tgt := 36) dX0_placeOf_32 (by decide) ?_
      exact g_sub [] [] rfl (jp3 z15 w14 h)

abbrev rm_X0_drawn : Room := { frames := 2, cells := 0, slots := 0, locals := 120 }
def wp_X0_drawn (a0 : Nat) (x1 : Int32) (x2 : Int32) (w : Wd) (Q : Int32 → Wd → Prop) : Prop :=
  w.K a0 = 1 ∧
  ∀ z1 : Option Nat, z1 = w.R 103 a0 →
  ∃ a2, z1 = some a2 ∧ w.K a2 = 6 ∧
  wp_Jx4a65c_size_8abf5 a2 w (fun v4 w3 => 
  ∀ v5 : Int32, v5 = v4 - x2 →
  ∃ J6 : Int32 → Prop, (∀ (y7 : Int32), J6 y7 →
  Q y7 w3) ∧
  (v5 ≤ 0 → J6 x2) ∧ (¬ v5 ≤ 0 → ∀ v8 : Int32, v8 = (31 : Int32) * x2 →
  ∀ v9 : Int32, v9 = x1 + v8 →
  ¬ v5 = 0 ∧ ∀ v10 : Int32, v10 = v9 - v9 / v5 * v5 →
  ∀ v11 : Int32, v11 = x2 + v10 →
  J6 v11))
set_option maxHeartbeats 4000000 in
set_option maxRecDepth 100000 in
theorem c_X0_drawn {l : Launch} {G : GT} {L0 : Nat} (hst : l.stackTraces = false) {a0 : Nat} {x1 : Int32} {x2 : Int32} {w : Wd} {Q : Int32 → Wd → Prop} (h : wp_X0_drawn a0 x1 x2 w Q) : GMi l G L0 yX0_drawn cX0_drawn 4 (some .int) rm_X0_drawn [.ref a0, .int x1, .int x2] w Q := by
  refine g_enter hst (by decide +kernel) [.inr (some a0), .inl x1, .inl x2] rfl (show 3 ≤ 4 by decide) ?_
  intro p e s m args below meth c X hr hnm
  replace X : GC l G L0 p s m args meth c cX0_drawn 4 "SusuRing$Circle" := X
  refine g_aload_n X dX0_drawn_0 rfl 0 rfl ?_
  have hk := h.1
  replace h := h.2
  refine gg_103 X hk m_348 dX0_drawn_1 (fun z1 hv => ?_)
  replace h := h z1 hv; clear hv hk
  obtain ⟨a2, rfl, hk, h⟩ := h
  refine g_callV_i X (As := []) (st := []) (n := 0) (c_Jx4a65c_size_8abf5 hst h) rfl (by decide) hk (wE_6 G w a2) m_439 m_158 m_159 m_18 m_160 (by decide +kernel) (by decide +kernel) rfl rfl (Nat.zero_le _) ⟨(by decide +kernel), (by decide +kernel)⟩ dX0_drawn_4 (fun v4 w3 h => ?_)
  clear hk
  refine g_widen (c2 := (0)) (s2 := (0)) (by decide +kernel) (by decide +kernel) ?_
  refine g_iload_n X dX0_drawn_7 rfl 2 rfl ?_
  refine g_isub X dX0_drawn_8 (fun v5 hv => ?_)
  replace h := h v5 hv; clear hv
  refine g_istore_n X [(3, .inl v5), (0, .inr (some a0)), (1, .inl x1), (2, .inl x2)] dX0_drawn_9 rfl (by decide) rfl ?_
  refine g_iload_n X dX0_drawn_10 rfl 0 rfl ?_
  obtain ⟨J6, hjJ6, h⟩ := h
  have jp6 : ∀ (y7 : Int32), J6 y7 → Gw l G L0 p e rm_X0_drawn s m args below meth c 4 (0) (0) (MQ below (gQi G L0 Q) args s rm_X0_drawn.cells rm_X0_drawn.slots (GA L0)) w3 28 [] [.int y7] := by
    intro y7 hJ
    have h := hjJ6 y7 hJ
    clear hJ
    exact g_iret X hr (by decide +kernel) (by decide +kernel) dX0_drawn_28 h
  refine g_if_le X (tgt := 27) dX0_drawn_11 (by decide) (fun hc => ?_) (fun hc => ?_)
  · replace h := h.1 hc; clear hc
    refine g_iload_n X dX0_drawn_27 rfl 3 rfl ?_
    exact g_sub [] [] rfl (jp6 x2 h)
  · replace h := h.2 hc; clear hc
    refine g_iload_n X dX0_drawn_14 rfl 3 rfl ?_
    refine g_iload_n X dX0_drawn_15 rfl 2 rfl ?_
    refine g_bipush X (v := (31 : Int32)) dX0_drawn_16 (by decide) ?_
    refine g_iload_n X dX0_drawn_18 rfl 3 rfl ?_
    refine g_imul X dX0_drawn_19 (fun v8 hv => ?_)
    replace h := h v8 hv; clear hv
    refine g_iadd X dX0_drawn_20 (fun v9 hv => ?_)
    replace h := h v9 hv; clear hv
    refine g_iload_n X dX0_drawn_21 rfl 0 rfl ?_
    refine g_irem X dX0_drawn_22 h.1 (fun v10 hv => ?_)
    replace h := h.2 v10 hv; clear hv
    refine g_iadd X dX0_drawn_23 (fun v11 hv => ?_)
    replace h := h v11 hv; clear hv
    refine g_goto X (tgt := 28) dX0_drawn_24 (by decide) ?_
    exact g_sub [] [] rfl (jp6 v11 h)

abbrev rm_X0_eldest : Room := { frames := 4, cells := 0, slots := 0, locals := 164 }
def wp_X0_eldest (a0 : Nat) (x1 : Int32) (w : Wd) (Q : Int32 → Wd → Prop) : Prop :=
  ∃ Inv2 : Nat → Int32 → Int32 → Int32 → Wd → Prop, (∃ n : Nat, Inv2 n x1 (0 : Int32) x1 w) ∧ ∀ (n1 : Nat) (y3 : Int32) (y4 : Int32) (y5 : Int32) (w6 : Wd), Inv2 n1 y3 y4 y5 w6 →
  w6.K a0 = 1 ∧
  ∀ z7 : Option Nat, z7 = w6.R 103 a0 →
  ∃ a8, z7 = some a8 ∧ w6.K a8 = 6 ∧
  wp_Jx4a65c_size_8abf5 a8 w6 (fun v10 w9 => 
  (v10 ≤ y5 → Q y3 w9) ∧ (¬ v10 ≤ y5 → w9.K a0 = 1 ∧
  ∀ z11 : Option Nat, z11 = w9.R 103 a0 →
  ∃ a12, z11 = some a12 ∧ w9.K a12 = 6 ∧
  wp_Jx4a65c_get_915e3 a12 y5 w9 (fun z14 w13 => 
  (∀ y15, z14 = some y15 → w13.K y15 = 3) ∧
  ∃ a16, z14 = some a16 ∧ w13.K a16 = 3 ∧
  ∀ z17 : Option Nat, z17 = w13.R 300 a16 →
  ∃ a18, z17 = some a18 ∧ w13.K a18 = 2 ∧
  ∀ v19 : Int32, v19 = w13.I 201 a18 →
  ∃ J20 : Int32 → Int32 → Prop, (∀ (y21 : Int32) (y22 : Int32), J20 y21 y22 →
  ∀ v23 : Int32, v23 = y5 + (1 : Int32) →
  ∃ n : Nat, n < n1 ∧ Inv2 n y21 y22 v23 w13) ∧
  (v19 ≤ y4 → J20 y3 y4) ∧ (¬ v19 ≤ y4 → J20 y5 v19))))
set_option maxHeartbeats 4000000 in
set_option maxRecDepth 100000 in
theorem c_X0_eldest {l : Launch} {G : GT} {L0 : Nat} (hst : l.stackTraces = false) {a0 : Nat} {x1 : Int32} {w : Wd} {Q : Int32 → Wd → Prop} (h : wp_X0_eldest a0 x1 w Q) : GMi l G L0 yX0_eldest cX0_eldest 6 (some .int) rm_X0_eldest [.ref a0, .int x1] w Q := by
  refine g_enter hst (by decide +kernel) [.inr (some a0), .inl x1] rfl (show 2 ≤ 6 by decide) ?_
  intro p e s m args below meth c X hr hnm
  replace X : GC l G L0 p s m args meth c cX0_eldest 6 "SusuRing$Circle" := X
  refine g_iload_n X dX0_eldest_0 rfl 1 rfl ?_
  refine g_istore_n X [(2, .inl x1), (0, .inr (some a0)), (1, .inl x1)] dX0_eldest_1 rfl (by decide) rfl ?_
  refine g_iconst X (v := (0 : Int32)) dX0_eldest_2 (by decide) ?_
  refine g_istore_n X [(3, .inl (0 : Int32)), (2, .inl x1), (0, .inr (some a0)), (1, .inl x1)] dX0_eldest_3 rfl (by decide) rfl ?_
  refine g_iload_n X dX0_eldest_4 rfl 3 rfl ?_
  refine g_istore X [(4, .inl x1), (3, .inl (0 : Int32)), (2, .inl x1), (0, .inr (some a0)), (1, .inl x1)] dX0_eldest_5 (by decide) rfl ?_
  obtain ⟨Inv2, ⟨n0, hi⟩, hsn1⟩ := h
  have lp2 : ∀ (n1 : Nat), ∀ (y3 : Int32) (y4 : Int32) (y5 : Int32) (w6 : Wd), Inv2 n1 y3 y4 y5 w6 → Gw l G L0 p e rm_X0_eldest s m args below meth c 6 (0) (0) (MQ below (gQi G L0 Q) args s rm_X0_eldest.cells rm_X0_eldest.slots (GA L0)) w6 7 [(0, .inr (some a0)), (2, .inl y3), (3, .inl y4), (4, .inl y5)] [] := by
    intro n1
    induction n1 using Nat.strongRecOn with
    | ind n1 ihn1 =>
      intro y3 y4 y5 w6 hI
      have h := hsn1 n1 y3 y4 y5 w6 hI
      clear hI
      refine g_iload X dX0_eldest_7 3 rfl ?_
      refine g_aload_n X dX0_eldest_9 rfl 0 rfl ?_
      have hk := h.1
      replace h := h.2
      refine gg_103 X hk m_348 dX0_eldest_10 (fun z7 hv => ?_)
      replace h := h z7 hv; clear hv hk
      obtain ⟨a8, rfl, hk, h⟩ := h
      refine g_callV_i X (As := []) (st := [.int y5]) (n := 0) (c_Jx4a65c_size_8abf5 hst h) rfl (by decide) hk (wE_6 G w6 a8) m_439 m_158 m_159 m_18 m_160 (by decide +kernel) (by decide +kernel) rfl rfl (by simp [cat_int, rf_cat]) ⟨(by decide +kernel), (by decide +kernel)⟩ dX0_eldest_13 (fun v10 w9 h => ?_)
      clear hk
      refine g_widen (c2 := (0)) (s2 := (0)) (by decide +kernel) (by decide +kernel) ?_
      refine g_icmp_ge X (tgt := 57) dX0_eldest_16 (by decide) (fun hc => ?_) (fun hc => ?_)
      · replace h := h.1 hc; clear hc
        refine g_iload_n X dX0_eldest_57 rfl 1 rfl ?_
        exact g_iret X hr (by decide +kernel) (by decide +kernel) dX0_eldest_58 h
      · replace h := h.2 hc; clear hc
        refine g_aload_n X dX0_eldest_19 rfl 0 rfl ?_
        have hk := h.1
        replace h := h.2
        refine gg_103 X hk m_348 dX0_eldest_20 (fun z11 hv => ?_)
        replace h := h z11 hv; clear hv hk
        refine g_iload X dX0_eldest_23 3 rfl ?_
        obtain ⟨a12, rfl, hk, h⟩ := h
        refine g_callV_q X (As := [.int y5]) (st := []) (n := 1) (c_Jx4a65c_get_915e3 hst h) rfl (by decide) hk (wE_6 G w9 a12) m_440 m_316 m_317 m_18 m_318 (by decide +kernel) (by decide +kernel) rfl rfl (Nat.zero_le _) ⟨(by decide +kernel), (by decide +kernel)⟩ dX0_eldest_25 (fun z14 w13 h => ?_)
        clear hk
        refine g_widen (c2 := (0)) (s2 := (0)) (by decide +kernel) (by decide +kernel) ?_
        refine g_castS X (C := "SusuRing$Place") (T := TX2) (N := 6) (ci := 3) rfl (by decide) (fun a => ⟨_, wE_3 G w13 a⟩) h.1 m_441 dX0_eldest_28 ?_
        replace h := h.2
        obtain ⟨a16, rfl, hk, h⟩ := h
        refine gg_300 X hk m_545 dX0_eldest_31 (fun z17 hv => ?_)
        replace h := h z17 hv; clear hv hk
        obtain ⟨a18, rfl, hk, h⟩ := h
        refine gg_201 X hk m_186 dX0_eldest_34 (fun v19 hv => ?_)
        replace h := h v19 hv; clear hv hk
        refine g_istore X [(5, .inl v19), (0, .inr (some a0)), (2, .inl y3), (3, .inl y4), (4, .inl y5)] dX0_eldest_37 (by decide) rfl ?_
        refine g_iload X dX0_eldest_39 0 rfl ?_
        refine g_iload_n X dX0_eldest_41 rfl 3 rfl ?_
        obtain ⟨J20, hjJ20, h⟩ := h
        have jp20 : ∀ (y21 : Int32) (y22 : Int32), J20 y21 y22 → Gw l G L0 p e rm_X0_eldest s m args below meth c 6 (0) (0) (MQ below (gQi G L0 Q) args s rm_X0_eldest.cells rm_X0_eldest.slots (GA L0)) w13 51 [(0, .inr (some a0)), (2, .inl y21), (3, .inl y22), (4, .inl y5)] [] := by
          intro y21 y22 hJ
          have h := hjJ20 y21 y22 hJ
          clear hJ
          refine g_iinc X dX0_eldest_51 3 rfl (d := (1 : Int32)) (by decide) (by decide) (fun v23 hv => ?_)
          replace h := h v23 hv; clear hv
          refine g_sub [0, 1, 2, 3] [(4, .inl v23), (0, .inr (some a0)), (2, .inl y21), (3, .inl y22)] rfl ?_
          refine g_goto X (tgt := 7) dX0_eldest_54 (by decide) ?_
          obtain ⟨n, hn, hI⟩ := h
          exact g_sub [1, 2, 3, 0] [(0, .inr (some a0)), (2, .inl y21), (3, .inl y22), (4, .inl v23)] rfl (ihn1 n hn y21 y22 v23 w13 hI)
        refine g_icmp_le X (tgt := 51) dX0_eldest_42 (by decide) (fun hc => ?_) (fun hc => ?_)
        · replace h := h.1 hc; clear hc
          exact g_sub [1, 2, 3, 4] [(0, .inr (some a0)), (2, .inl y3), (3, .inl y4), (4, .inl y5)] rfl (jp20 y3 y4 h)
        · replace h := h.2 hc; clear hc
          refine g_iload X dX0_eldest_45 4 rfl ?_
          refine g_istore_n X [(2, .inl y5), (5, .inl v19), (0, .inr (some a0)), (3, .inl y4), (4, .inl y5)] dX0_eldest_47 rfl (by decide) rfl ?_
          refine g_iload X dX0_eldest_48 1 rfl ?_
          refine g_istore_n X [(3, .inl v19), (2, .inl y5), (5, .inl v19), (0, .inr (some a0)), (4, .inl y5)] dX0_eldest_50 rfl (by decide) rfl ?_
          exact g_sub [3, 1, 0, 4] [(0, .inr (some a0)), (2, .inl y5), (3, .inl v19), (4, .inl y5)] rfl (jp20 y5 v19 h)
  exact g_sub [3, 2, 1, 0] [(0, .inr (some a0)), (2, .inl x1), (3, .inl (0 : Int32)), (4, .inl x1)] rfl (lp2 n0 x1 (0 : Int32) x1 w hi)

abbrev rm_X0_makeOrder : Room := { frames := 7, cells := 68, slots := 4352, locals := 258 }
def wp_X0_makeOrder (a0 : Nat) (x1 : Int32) (w : Wd) (Q : Wd → Prop) : Prop :=
  ∃ Inv2 : Nat → Int32 → Wd → Prop, (∃ n : Nat, n ≤ 16 ∧ Inv2 n (0 : Int32) w) ∧ ∀ (n1 : Nat) (y3 : Int32) (w4 : Wd), Inv2 n1 y3 w4 →
  w4.K a0 = 1 ∧
  ∀ z5 : Option Nat, z5 = w4.R 102 a0 →
  ∃ a6, z5 = some a6 ∧ w4.K a6 = 6 ∧
  wp_Jx4a65c_size_8abf5 a6 w4 (fun v8 w7 => 
  ∃ J9 : Wd → Prop, (∀  (w10 : Wd), J9 w10 →
  w10.K a0 = 1 ∧
  ∀ z11 : Option Nat, z11 = w10.R 103 a0 →
  ∃ a12, z11 = some a12 ∧ w10.K a12 = 6 ∧
  wp_Jx4a65c_size_8abf5 a12 w10 (fun v14 w13 => 
  ∃ Inv16 : Nat → Int32 → Wd → Prop, (∃ n : Nat, n ≤ 16 ∧ Inv16 n (0 : Int32) w13) ∧ ∀ (n15 : Nat) (y17 : Int32) (w18 : Wd), Inv16 n15 y17 w18 →
  (v14 ≤ y17 → Q w18) ∧ (¬ v14 ≤ y17 → w18.K a0 = 1 ∧
  ∀ v19 : Int32, v19 = w18.I 101 a0 →
  ∃ J20 : Int32 → Wd → Prop, (∀ (y21 : Int32) (w22 : Wd), J20 y21 w22 →
  ∃ J23 : Wd → Prop, (∀  (w24 : Wd), J23 w24 →
  ∀ v25 : Int32, v25 = y17 + (1 : Int32) →
  ∃ n : Nat, n < n15 ∧ Inv16 n v25 w24) ∧
  (y21 < y17 → J23 w22) ∧ (¬ y21 < y17 → w22.K a0 = 1 ∧
  ∀ z26 : Option Nat, z26 = w22.R 103 a0 →
  ∃ a27, z26 = some a27 ∧ w22.K a27 = 6 ∧
  wp_Jx4a65c_size_8abf5 a27 w22 (fun v29 w28 => 
  (v29 ≤ y21 → J23 w28) ∧ (¬ v29 ≤ y21 → w28.K a0 = 1 ∧
  ∀ z30 : Option Nat, z30 = w28.R 103 a0 →
  ∃ a31, z30 = some a31 ∧ w28.K a31 = 6 ∧
  wp_Jx4a65c_get_915e3 a31 y21 w28 (fun z33 w32 => 
  (∀ y34, z33 = some y34 → w32.K y34 = 3) ∧
  w32.K a0 = 1 ∧
  ∀ z35 : Option Nat, z35 = w32.R 103 a0 →
  ∃ a36, z35 = some a36 ∧ w32.K a36 = 6 ∧
  wp_Jx4a65c_remove_915e3 a36 y21 w32 (fun z38 w37 => 
  w37.K a0 = 1 ∧
  ∀ z39 : Option Nat, z39 = w37.R 103 a0 →
  ∃ a40, z39 = some a40 ∧ w37.K a40 = 6 ∧
  wp_Jx4a65c_add_7a177 a40 y17 z33 w37 (fun w41 => 
  J23 w41))))))) ∧
  (¬ v19 = 0 → w18.K a0 = 1 ∧
  wp_X0_eldest a0 y17 w18 (fun v43 w42 => 
  J20 v43 w42)) ∧ (v19 = 0 → w18.K a0 = 1 ∧
  wp_X0_drawn a0 x1 y17 w18 (fun v45 w44 => 
  J20 v45 w44))))) ∧
  (v8 ≤ y3 → J9 w7) ∧ (¬ v8 ≤ y3 → w7.K a0 = 1 ∧
  wp_X0_hasOrder a0 w7 (fun v47 w46 => 
  (v47 = 0 → J9 w46) ∧ (¬ v47 = 0 → w46.K a0 = 1 ∧
  ∀ z48 : Option Nat, z48 = w46.R 103 a0 →
  w46.K a0 = 1 ∧
  ∀ z49 : Option Nat, z49 = w46.R 102 a0 →
  ∃ a50, z49 = some a50 ∧ w46.K a50 = 6 ∧
  wp_Jx4a65c_get_915e3 a50 y3 w46 (fun z52 w51 => 
  (∀ y53, z52 = some y53 → w51.K y53 = 3) ∧
  ∃ a54, z48 = some a54 ∧ w51.K a54 = 6 ∧
  wp_Jx4a65c_add_9ea2d a54 z52 w51 (fun v56 w55 => 
  ∀ v57 : Int32, v57 = y3 + (1 : Int32) →
  ∃ n : Nat, n < n1 ∧ Inv2 n v57 w55))))))
set_option maxHeartbeats 4000000 in
set_option maxRecDepth 100000 in
theorem c_X0_makeOrder {l : Launch} {G : GT} {L0 : Nat} (hst : l.stackTraces = false) {a0 : Nat} {x1 : Int32} {w : Wd} {Q : Wd → Prop} (h : wp_X0_makeOrder a0 x1 w Q) : GMv l G L0 yX0_makeOrder cX0_makeOrder 6 none rm_X0_makeOrder [.ref a0, .int x1] w Q := by
  refine g_enter hst (by decide +kernel) [.inr (some a0), .inl x1] rfl (show 2 ≤ 6 by decide) ?_
  intro p e s m args below meth c X hr hnm
  replace X : GC l G L0 p s m args meth c cX0_makeOrder 6 "SusuRing$Circle" := X
  refine g_iconst X (v := (0 : Int32)) dX0_makeOrder_0 (by decide) ?_
  refine g_istore_n X [(2, .inl (0 : Int32)), (0, .inr (some a0)), (1, .inl x1)] dX0_makeOrder_1 rfl (by decide) rfl ?_
  obtain ⟨Inv2, ⟨n0, hn0, hi⟩, hsn1⟩ := h
  have lp2 : ∀ (n1 : Nat), n1 ≤ 16 → ∀ (y3 : Int32) (w4 : Wd), Inv2 n1 y3 w4 → Gw l G L0 p e rm_X0_makeOrder s m args below meth c 6 (0 + (16 - n1) * 2 + 0) (0 + (16 - n1) * 128 + 0) (MQ below (gQv G L0 Q) args s rm_X0_makeOrder.cells rm_X0_makeOrder.slots (GA L0)) w4 2 [(0, .inr (some a0)), (1, .inl x1), (2, .inl y3)] [] := by
    intro n1
    induction n1 using Nat.strongRecOn with
    | ind n1 ihn1 =>
      intro hnbn1 y3 w4 hI
      have h := hsn1 n1 y3 w4 hI
      clear hI
      refine g_iload_n X dX0_makeOrder_2 rfl 2 rfl ?_
      refine g_aload_n X dX0_makeOrder_3 rfl 0 rfl ?_
      have hk := h.1
      replace h := h.2
      refine gg_102 X hk m_346 dX0_makeOrder_4 (fun z5 hv => ?_)
      replace h := h z5 hv; clear hv hk
      obtain ⟨a6, rfl, hk, h⟩ := h
      refine g_callV_i X (As := []) (st := [.int y3]) (n := 0) (c_Jx4a65c_size_8abf5 hst h) rfl (by decide) hk (wE_6 G w4 a6) m_439 m_158 m_159 m_18 m_160 (by decide +kernel) (by decide +kernel) rfl rfl (by simp [cat_int, rf_cat]) ⟨(by have e1 : rm_X0_makeOrder.cells = 68 := rfl; have e2 : rm_X0_makeOrder.slots = 4352 := rfl; have e3 : rm_Jx4a65c_size_8abf5.cells = 0 := rfl; have e4 : rm_Jx4a65c_size_8abf5.slots = 0 := rfl; omega), (by have e1 : rm_X0_makeOrder.cells = 68 := rfl; have e2 : rm_X0_makeOrder.slots = 4352 := rfl; have e3 : rm_Jx4a65c_size_8abf5.cells = 0 := rfl; have e4 : rm_Jx4a65c_size_8abf5.slots = 0 := rfl; omega)⟩ dX0_makeOrder_7 (fun v8 w7 h => ?_)
      clear hk
      refine g_widen (c2 := (0 + (16 - n1) * 2 + 0)) (s2 := (0 + (16 - n1) * 128 + 0)) (by have e1 : rm_Jx4a65c_size_8abf5.cells = 0 := rfl; omega) (by have e1 : rm_Jx4a65c_size_8abf5.slots = 0 := rfl; omega) ?_
      obtain ⟨J9, hjJ9, h⟩ := h
      have jp9 : ∀  (w10 : Wd), J9 w10 → Gw l G L0 p e rm_X0_makeOrder s m args below meth c 6 (0 + (16 - n1) * 2 + 0) (0 + (16 - n1) * 128 + 0) (MQ below (gQv G L0 Q) args s rm_X0_makeOrder.cells rm_X0_makeOrder.slots (GA L0)) w10 45 [(0, .inr (some a0)), (1, .inl x1)] [] := by
        intro w10 hJ
        have h := hjJ9 w10 hJ
        clear hJ
        refine g_aload_n X dX0_makeOrder_45 rfl 0 rfl ?_
        have hk := h.1
        replace h := h.2
        refine gg_103 X hk m_348 dX0_makeOrder_46 (fun z11 hv => ?_)
        replace h := h z11 hv; clear hv hk
        obtain ⟨a12, rfl, hk, h⟩ := h
        refine g_callV_i X (As := []) (st := []) (n := 0) (c_Jx4a65c_size_8abf5 hst h) rfl (by decide) hk (wE_6 G w10 a12) m_439 m_158 m_159 m_18 m_160 (by decide +kernel) (by decide +kernel) rfl rfl (Nat.zero_le _) ⟨(by have e1 : rm_X0_makeOrder.cells = 68 := rfl; have e2 : rm_X0_makeOrder.slots = 4352 := rfl; have e3 : rm_Jx4a65c_size_8abf5.cells = 0 := rfl; have e4 : rm_Jx4a65c_size_8abf5.slots = 0 := rfl; omega), (by have e1 : rm_X0_makeOrder.cells = 68 := rfl; have e2 : rm_X0_makeOrder.slots = 4352 := rfl; have e3 : rm_Jx4a65c_size_8abf5.cells = 0 := rfl; have e4 : rm_Jx4a65c_size_8abf5.slots = 0 := rfl; omega)⟩ dX0_makeOrder_49 (fun v14 w13 h => ?_)
        clear hk
        refine g_widen (c2 := (0 + (16 - n1) * 2 + 0)) (s2 := (0 + (16 - n1) * 128 + 0)) (by have e1 : rm_Jx4a65c_size_8abf5.cells = 0 := rfl; omega) (by have e1 : rm_Jx4a65c_size_8abf5.slots = 0 := rfl; omega) ?_
        refine g_istore_n X [(2, .inl v14), (0, .inr (some a0)), (1, .inl x1)] dX0_makeOrder_52 rfl (by decide) rfl ?_
        refine g_iconst X (v := (0 : Int32)) dX0_makeOrder_53 (by decide) ?_
        refine g_istore_n X [(3, .inl (0 : Int32)), (2, .inl v14), (0, .inr (some a0)), (1, .inl x1)] dX0_makeOrder_54 rfl (by decide) rfl ?_
        refine g_widen (c2 := (32)) (s2 := (2048)) (by omega) (by omega) ?_
        obtain ⟨Inv16, ⟨n0, hn0, hi⟩, hsn15⟩ := h
        have lp16 : ∀ (n15 : Nat), n15 ≤ 16 → ∀ (y17 : Int32) (w18 : Wd), Inv16 n15 y17 w18 → Gw l G L0 p e rm_X0_makeOrder s m args below meth c 6 (32 + (16 - n15) * 2 + 0) (2048 + (16 - n15) * 128 + 0) (MQ below (gQv G L0 Q) args s rm_X0_makeOrder.cells rm_X0_makeOrder.slots (GA L0)) w18 55 [(0, .inr (some a0)), (1, .inl x1), (2, .inl v14), (3, .inl y17)] [] := by
          intro n15
          induction n15 using Nat.strongRecOn with
          | ind n15 ihn15 =>
            intro hnbn15 y17 w18 hI
            have h := hsn15 n15 y17 w18 hI
            clear hI
            refine g_iload_n X dX0_makeOrder_55 rfl 3 rfl ?_
            refine g_iload_n X dX0_makeOrder_56 rfl 2 rfl ?_
            refine g_icmp_ge X (tgt := 141) dX0_makeOrder_57 (by decide) (fun hc => ?_) (fun hc => ?_)
            · replace h := h.1 hc; clear hc
              exact g_vret X hr (by have e1 : rm_X0_makeOrder.cells = 68 := rfl; have e2 : rm_X0_makeOrder.slots = 4352 := rfl; omega) (by have e1 : rm_X0_makeOrder.cells = 68 := rfl; have e2 : rm_X0_makeOrder.slots = 4352 := rfl; omega) dX0_makeOrder_141 h
            · replace h := h.2 hc; clear hc
              refine g_aload_n X dX0_makeOrder_60 rfl 0 rfl ?_
              have hk := h.1
              replace h := h.2
              refine gg_101 X hk m_345 dX0_makeOrder_61 (fun v19 hv => ?_)
              replace h := h v19 hv; clear hv hk
              obtain ⟨J20, hjJ20, h⟩ := h
              have jp20 : ∀ (y21 : Int32) (w22 : Wd), J20 y21 w22 → Gw l G L0 p e rm_X0_makeOrder s m args below meth c 6 (32 + (16 - n15) * 2 + 0) (2048 + (16 - n15) * 128 + 0) (MQ below (gQv G L0 Q) args s rm_X0_makeOrder.cells rm_X0_makeOrder.slots (GA L0)) w22 81 [(0, .inr (some a0)), (1, .inl x1), (2, .inl v14), (3, .inl y17)] [.int y21] := by
                intro y21 w22 hJ
                have h := hjJ20 y21 w22 hJ
                clear hJ
                refine g_istore X [(4, .inl y21), (0, .inr (some a0)), (1, .inl x1), (2, .inl v14), (3, .inl y17)] dX0_makeOrder_81 (by decide) rfl ?_
                refine g_iload X dX0_makeOrder_83 0 rfl ?_
                refine g_iload_n X dX0_makeOrder_85 rfl 4 rfl ?_
                obtain ⟨J23, hjJ23, h⟩ := h
                have jp23 : ∀  (w24 : Wd), J23 w24 → Gw l G L0 p e rm_X0_makeOrder s m args below meth c 6 (32 + (16 - n15) * 2 + 2) (2048 + (16 - n15) * 128 + 128) (MQ below (gQv G L0 Q) args s rm_X0_makeOrder.cells rm_X0_makeOrder.slots (GA L0)) w24 135 [(0, .inr (some a0)), (1, .inl x1), (2, .inl v14), (3, .inl y17)] [] := by
                  intro w24 hJ
                  have h := hjJ23 w24 hJ
                  clear hJ
                  refine g_iinc X dX0_makeOrder_135 3 rfl (d := (1 : Int32)) (by decide) (by decide) (fun v25 hv => ?_)
                  replace h := h v25 hv; clear hv
                  refine g_sub [0, 1, 2, 3] [(3, .inl v25), (0, .inr (some a0)), (1, .inl x1), (2, .inl v14)] rfl ?_
                  refine g_goto X (tgt := 55) dX0_makeOrder_138 (by decide) ?_
                  obtain ⟨n, hn, hI⟩ := h
                  refine g_widen (c2 := (32 + (16 - n) * 2 + 0)) (s2 := (2048 + (16 - n) * 128 + 0)) (by omega) (by omega) ?_
                  exact g_sub [1, 2, 3, 0] [(0, .inr (some a0)), (1, .inl x1), (2, .inl v14), (3, .inl v25)] rfl (ihn15 n hn (by omega) v25 w24 hI)
                refine g_icmp_lt X (tgt := 135) dX0_makeOrder_86 (by decide) (fun hc => ?_) (fun hc => ?_)
                · replace h := h.1 hc; clear hc
                  refine g_widen (c2 := (32 + (16 - n15) * 2 + 2)) (s2 := (2048 + (16 - n15) * 128 + 128)) (by omega) (by omega) ?_
                  exact g_sub [1, 2, 3, 4] [(0, .inr (some a0)), (1, .inl x1), (2, .inl v14), (3, .inl y17)] rfl (jp23 w22 h)
                · replace h := h.2 hc; clear hc
                  refine g_iload X dX0_makeOrder_89 0 rfl ?_
                  refine g_aload_n X dX0_makeOrder_91 rfl 1 rfl ?_
                  have hk := h.1
                  replace h := h.2
                  refine gg_103 X hk m_348 dX0_makeOrder_92 (fun z26 hv => ?_)
                  replace h := h z26 hv; clear hv hk
                  obtain ⟨a27, rfl, hk, h⟩ := h
                  refine g_callV_i X (As := []) (st := [.int y21]) (n := 0) (c_Jx4a65c_size_8abf5 hst h) rfl (by decide) hk (wE_6 G w22 a27) m_439 m_158 m_159 m_18 m_160 (by decide +kernel) (by decide +kernel) rfl rfl (by simp [cat_int, rf_cat]) ⟨(by have e1 : rm_X0_makeOrder.cells = 68 := rfl; have e2 : rm_X0_makeOrder.slots = 4352 := rfl; have e3 : rm_Jx4a65c_size_8abf5.cells = 0 := rfl; have e4 : rm_Jx4a65c_size_8abf5.slots = 0 := rfl; omega), (by have e1 : rm_X0_makeOrder.cells = 68 := rfl; have e2 : rm_X0_makeOrder.slots = 4352 := rfl; have e3 : rm_Jx4a65c_size_8abf5.cells = 0 := rfl; have e4 : rm_Jx4a65c_size_8abf5.slots = 0 := rfl; omega)⟩ dX0_makeOrder_95 (fun v29 w28 h => ?_)
                  clear hk
                  refine g_widen (c2 := (32 + (16 - n15) * 2 + 0)) (s2 := (2048 + (16 - n15) * 128 + 0)) (by have e1 : rm_Jx4a65c_size_8abf5.cells = 0 := rfl; omega) (by have e1 : rm_Jx4a65c_size_8abf5.slots = 0 := rfl; omega) ?_
                  refine g_icmp_ge X (tgt := 135) dX0_makeOrder_98 (by decide) (fun hc => ?_) (fun hc => ?_)
                  · replace h := h.1 hc; clear hc
                    refine g_widen (c2 := (32 + (16 - n15) * 2 + 2)) (s2 := (2048 + (16 - n15) * 128 + 128)) (by omega) (by omega) ?_
                    exact g_sub [1, 2, 3, 4] [(0, .inr (some a0)), (1, .inl x1), (2, .inl v14), (3, .inl y17)] rfl (jp23 w28 h)
                  · replace h := h.2 hc; clear hc
                    refine g_aload_n X dX0_makeOrder_101 rfl 1 rfl ?_
                    have hk := h.1
                    replace h := h.2
                    refine gg_103 X hk m_348 dX0_makeOrder_102 (fun z30 hv => ?_)
                    replace h := h z30 hv; clear hv hk
                    refine g_iload X dX0_makeOrder_105 0 rfl ?_
                    obtain ⟨a31, rfl, hk, h⟩ := h
                    refine g_callV_q X (As := [.int y21]) (st := []) (n := 1) (c_Jx4a65c_get_915e3 hst h) rfl (by decide) hk (wE_6 G w28 a31) m_440 m_316 m_317 m_18 m_318 (by decide +kernel) (by decide +kernel) rfl rfl (Nat.zero_le _) ⟨(by have e1 : rm_X0_makeOrder.cells = 68 := rfl; have e2 : rm_X0_makeOrder.slots = 4352 := rfl; have e3 : rm_Jx4a65c_get_915e3.cells = 0 := rfl; have e4 : rm_Jx4a65c_get_915e3.slots = 0 := rfl; omega), (by have e1 : rm_X0_makeOrder.cells = 68 := rfl; have e2 : rm_X0_makeOrder.slots = 4352 := rfl; have e3 : rm_Jx4a65c_get_915e3.cells = 0 := rfl; have e4 : rm_Jx4a65c_get_915e3.slots = 0 := rfl; omega)⟩ dX0_makeOrder_107 (fun z33 w32 h => ?_)
                    clear hk
                    refine g_widen (c2 := (32 + (16 - n15) * 2 + 0)) (s2 := (2048 + (16 - n15) * 128 + 0)) (by have e1 : rm_Jx4a65c_get_915e3.cells = 0 := rfl; omega) (by have e1 : rm_Jx4a65c_get_915e3.slots = 0 := rfl; omega) ?_
                    refine g_castS X (C := "SusuRing$Place") (T := TX2) (N := 6) (ci := 3) rfl (by decide) (fun a => ⟨_, wE_3 G w32 a⟩) h.1 m_441 dX0_makeOrder_110 ?_
                    replace h := h.2
                    refine g_astore X [(5, .inr z33), (4, .inl y21), (0, .inr (some a0)), (1, .inl x1), (2, .inl v14), (3, .inl y17)] dX0_makeOrder_113 (by decide) rfl ?_
                    refine g_aload_n X dX0_makeOrder_115 rfl 2 rfl ?_
                    have hk := h.1
                    replace h := h.2
                    refine gg_103 X hk m_348 dX0_makeOrder_116 (fun z35 hv => ?_)
                    replace h := h z35 hv; clear hv hk
                    refine g_iload X dX0_makeOrder_119 1 rfl ?_
                    obtain ⟨a36, rfl, hk, h⟩ := h
                    refine g_callV_q X (As := [.int y21]) (st := []) (n := 1) (c_Jx4a65c_remove_915e3 hst h) rfl (by decide) hk (wE_6 G w32 a36) m_512 m_513 m_514 m_18 m_515 (by decide +kernel) (by decide +kernel) rfl rfl (Nat.zero_le _) ⟨(by have e1 : rm_X0_makeOrder.cells = 68 := rfl; have e2 : rm_X0_makeOrder.slots = 4352 := rfl; have e3 : rm_Jx4a65c_remove_915e3.cells = 0 := rfl; have e4 : rm_Jx4a65c_remove_915e3.slots = 0 := rfl; omega), (by have e1 : rm_X0_makeOrder.cells = 68 := rfl; have e2 : rm_X0_makeOrder.slots = 4352 := rfl; have e3 : rm_Jx4a65c_remove_915e3.cells = 0 := rfl; have e4 : rm_Jx4a65c_remove_915e3.slots = 0 := rfl; omega)⟩ dX0_makeOrder_121 (fun z38 w37 h => ?_)
                    clear hk
                    refine g_widen (c2 := (32 + (16 - n15) * 2 + 0)) (s2 := (2048 + (16 - n15) * 128 + 0)) (by have e1 : rm_Jx4a65c_remove_915e3.cells = 0 := rfl; omega) (by have e1 : rm_Jx4a65c_remove_915e3.slots = 0 := rfl; omega) ?_
                    refine g_pop X dX0_makeOrder_124 rf_cat ?_
                    refine g_aload_n X dX0_makeOrder_125 rfl 2 rfl ?_
                    have hk := h.1
                    replace h := h.2
                    refine gg_103 X hk m_348 dX0_makeOrder_126 (fun z39 hv => ?_)
                    replace h := h z39 hv; clear hv hk
                    refine g_iload_n X dX0_makeOrder_129 rfl 5 rfl ?_
                    refine g_aload X dX0_makeOrder_130 0 rfl ?_
                    obtain ⟨a40, rfl, hk, h⟩ := h
                    refine g_callV_v X (As := [.int y17, va_rf z33]) (st := []) (n := 2) (c_Jx4a65c_add_7a177 hst h) rfl (by decide) hk (wE_6 G w37 a40) m_590 m_591 m_592 m_18 m_593 (by decide +kernel) (by decide +kernel) rfl rfl (Nat.zero_le _) ⟨(by have e1 : rm_X0_makeOrder.cells = 68 := rfl; have e2 : rm_X0_makeOrder.slots = 4352 := rfl; have e3 : rm_Jx4a65c_add_7a177.cells = 2 := rfl; have e4 : rm_Jx4a65c_add_7a177.slots = 128 := rfl; omega), (by have e1 : rm_X0_makeOrder.cells = 68 := rfl; have e2 : rm_X0_makeOrder.slots = 4352 := rfl; have e3 : rm_Jx4a65c_add_7a177.cells = 2 := rfl; have e4 : rm_Jx4a65c_add_7a177.slots = 128 := rfl; omega)⟩ dX0_makeOrder_132 (fun w41 h => ?_)
                    clear hk
                    refine g_widen (c2 := (32 + (16 - n15) * 2 + 2)) (s2 := (2048 + (16 - n15) * 128 + 128)) (by have e1 : rm_Jx4a65c_add_7a177.cells = 2 := rfl; omega) (by have e1 : rm_Jx4a65c_add_7a177.slots = 128 := rfl; omega) ?_
                    exact g_sub [2, 3, 4, 5] [(0, .inr (some a0)), (1, .inl x1), (2, .inl v14), (3, .inl y17)] rfl (jp23 w41 h)
              refine g_if_ne X (tgt := 76) dX0_makeOrder_64 (by decide) (fun hc => ?_) (fun hc => ?_)
              · replace h := h.1 hc; clear hc
                refine g_aload_n X dX0_makeOrder_76 rfl 0 rfl ?_
                refine g_iload_n X dX0_makeOrder_77 rfl 3 rfl ?_
                have hk := h.1
                replace h := h.2
                refine g_callV_i X (As := [.int y17]) (st := []) (n := 1) (c_X0_eldest hst h) rfl (by decide) hk (wE_1 G w18 a0) m_586 m_587 m_588 m_24 m_589 (by decide +kernel) (by decide +kernel) rfl rfl (Nat.zero_le _) ⟨(by have e1 : rm_X0_makeOrder.cells = 68 := rfl; have e2 : rm_X0_makeOrder.slots = 4352 := rfl; have e3 : rm_X0_eldest.cells = 0 := rfl; have e4 : rm_X0_eldest.slots = 0 := rfl; omega), (by have e1 : rm_X0_makeOrder.cells = 68 := rfl; have e2 : rm_X0_makeOrder.slots = 4352 := rfl; have e3 : rm_X0_eldest.cells = 0 := rfl; have e4 : rm_X0_eldest.slots = 0 := rfl; omega)⟩ dX0_makeOrder_78 (fun v43 w42 h => ?_)
                clear hk
                refine g_widen (c2 := (32 + (16 - n15) * 2 + 0)) (s2 := (2048 + (16 - n15) * 128 + 0)) (by have e1 : rm_X0_eldest.cells = 0 := rfl; omega) (by have e1 : rm_X0_eldest.slots = 0 := rfl; omega) ?_
                exact g_sub [0, 1, 2, 3] [(0, .inr (some a0)), (1, .inl x1), (2, .inl v14), (3, .inl y17)] rfl (jp20 v43 w42 h)
              · replace h := h.2 hc; clear hc
                refine g_aload_n X dX0_makeOrder_67 rfl 0 rfl ?_
                refine g_iload_n X dX0_makeOrder_68 rfl 1 rfl ?_
                refine g_iload_n X dX0_makeOrder_69 rfl 3 rfl ?_
                have hk := h.1
                replace h := h.2
                refine g_callV_i X (As := [.int x1, .int y17]) (st := []) (n := 2) (c_X0_drawn hst h) rfl (by decide) hk (wE_1 G w18 a0) m_582 m_583 m_584 m_24 m_585 (by decide +kernel) (by decide +kernel) rfl rfl (Nat.zero_le _) ⟨(by have e1 : rm_X0_makeOrder.cells = 68 := rfl; have e2 : rm_X0_makeOrder.slots = 4352 := rfl; have e3 : rm_X0_drawn.cells = 0 := rfl; have e4 : rm_X0_drawn.slots = 0 := rfl; omega), (by have e1 : rm_X0_makeOrder.cells = 68 := rfl; have e2 : rm_X0_makeOrder.slots = 4352 := rfl; have e3 : rm_X0_drawn.cells = 0 := rfl; have e4 : rm_X0_drawn.slots = 0 := rfl; omega)⟩ dX0_makeOrder_70 (fun v45 w44 h => ?_)
                clear hk
                refine g_widen (c2 := (32 + (16 - n15) * 2 + 0)) (s2 := (2048 + (16 - n15) * 128 + 0)) (by have e1 : rm_X0_drawn.cells = 0 := rfl; omega) (by have e1 : rm_X0_drawn.slots = 0 := rfl; omega) ?_
                refine g_goto X (tgt := 81) dX0_makeOrder_73 (by decide) ?_
                exact g_sub [0, 1, 2, 3] [(0, .inr (some a0)), (1, .inl x1), (2, .inl v14), (3, .inl y17)] rfl (jp20 v45 w44 h)
        refine g_widen (c2 := (32 + (16 - n0) * 2 + 0)) (s2 := (2048 + (16 - n0) * 128 + 0)) (by omega) (by omega) ?_
        exact g_sub [2, 3, 1, 0] [(0, .inr (some a0)), (1, .inl x1), (2, .inl v14), (3, .inl (0 : Int32))] rfl (lp16 n0 hn0 (0 : Int32) w13 hi)
      refine g_icmp_ge X (tgt := 45) dX0_makeOrder_10 (by decide) (fun hc => ?_) (fun hc => ?_)
      · replace h := h.1 hc; clear hc
        exact g_sub [0, 1] [(0, .inr (some a0)), (1, .inl x1)] rfl (jp9 w7 h)
      · replace h := h.2 hc; clear hc
        refine g_aload_n X dX0_makeOrder_13 rfl 0 rfl ?_
        have hk := h.1
        replace h := h.2
        refine g_callV_i X (As := []) (st := []) (n := 0) (c_X0_hasOrder hst h) rfl (by decide) hk (wE_1 G w7 a0) m_451 m_452 m_453 m_24 m_454 (by decide +kernel) (by decide +kernel) rfl rfl (Nat.zero_le _) ⟨(by have e1 : rm_X0_makeOrder.cells = 68 := rfl; have e2 : rm_X0_makeOrder.slots = 4352 := rfl; have e3 : rm_X0_hasOrder.cells = 0 := rfl; have e4 : rm_X0_hasOrder.slots = 0 := rfl; omega), (by have e1 : rm_X0_makeOrder.cells = 68 := rfl; have e2 : rm_X0_makeOrder.slots = 4352 := rfl; have e3 : rm_X0_hasOrder.cells = 0 := rfl; have e4 : rm_X0_hasOrder.slots = 0 := rfl; omega)⟩ dX0_makeOrder_14 (fun v47 w46 h => ?_)
        clear hk
        refine g_widen (c2 := (0 + (16 - n1) * 2 + 0)) (s2 := (0 + (16 - n1) * 128 + 0)) (by have e1 : rm_X0_hasOrder.cells = 0 := rfl; omega) (by have e1 : rm_X0_hasOrder.slots = 0 := rfl; omega) ?_
        refine g_if_eq X (tgt := 45) dX0_makeOrder_17 (by decide) (fun hc => ?_) (fun hc => ?_)
        · replace h := h.1 hc; clear hc
          exact g_sub [0, 1] [(0, .inr (some a0)), (1, .inl x1)] rfl (jp9 w46 h)
        · replace h := h.2 hc; clear hc
          refine g_aload_n X dX0_makeOrder_20 rfl 0 rfl ?_
          have hk := h.1
          replace h := h.2
          refine gg_103 X hk m_348 dX0_makeOrder_21 (fun z48 hv => ?_)
          replace h := h z48 hv; clear hv hk
          refine g_aload_n X dX0_makeOrder_24 rfl 0 rfl ?_
          have hk := h.1
          replace h := h.2
          refine gg_102 X hk m_346 dX0_makeOrder_25 (fun z49 hv => ?_)
          replace h := h z49 hv; clear hv hk
          refine g_iload_n X dX0_makeOrder_28 rfl 2 rfl ?_
          obtain ⟨a50, rfl, hk, h⟩ := h
          refine g_callV_q X (As := [.int y3]) (st := [va_rf z48]) (n := 1) (c_Jx4a65c_get_915e3 hst h) rfl (by decide) hk (wE_6 G w46 a50) m_440 m_316 m_317 m_18 m_318 (by decide +kernel) (by decide +kernel) rfl rfl (by simp [cat_int, rf_cat]) ⟨(by have e1 : rm_X0_makeOrder.cells = 68 := rfl; have e2 : rm_X0_makeOrder.slots = 4352 := rfl; have e3 : rm_Jx4a65c_get_915e3.cells = 0 := rfl; have e4 : rm_Jx4a65c_get_915e3.slots = 0 := rfl; omega), (by have e1 : rm_X0_makeOrder.cells = 68 := rfl; have e2 : rm_X0_makeOrder.slots = 4352 := rfl; have e3 : rm_Jx4a65c_get_915e3.cells = 0 := rfl; have e4 : rm_Jx4a65c_get_915e3.slots = 0 := rfl; omega)⟩ dX0_makeOrder_29 (fun z52 w51 h => ?_)
          clear hk
          refine g_widen (c2 := (0 + (16 - n1) * 2 + 0)) (s2 := (0 + (16 - n1) * 128 + 0)) (by have e1 : rm_Jx4a65c_get_915e3.cells = 0 := rfl; omega) (by have e1 : rm_Jx4a65c_get_915e3.slots = 0 := rfl; omega) ?_
          refine g_castS X (C := "SusuRing$Place") (T := TX2) (N := 6) (ci := 3) rfl (by decide) (fun a => ⟨_, wE_3 G w51 a⟩) h.1 m_441 dX0_makeOrder_32 ?_
          replace h := h.2
          obtain ⟨a54, rfl, hk, h⟩ := h
          refine g_callV_i X (As := [va_rf z52]) (st := []) (n := 1) (c_Jx4a65c_add_9ea2d hst h) rfl (by decide) hk (wE_6 G w51 a54) m_581 m_237 m_238 m_18 m_239 (by decide +kernel) (by decide +kernel) rfl rfl (Nat.zero_le _) ⟨(by have e1 : rm_X0_makeOrder.cells = 68 := rfl; have e2 : rm_X0_makeOrder.slots = 4352 := rfl; have e3 : rm_Jx4a65c_add_9ea2d.cells = 2 := rfl; have e4 : rm_Jx4a65c_add_9ea2d.slots = 128 := rfl; omega), (by have e1 : rm_X0_makeOrder.cells = 68 := rfl; have e2 : rm_X0_makeOrder.slots = 4352 := rfl; have e3 : rm_Jx4a65c_add_9ea2d.cells = 2 := rfl; have e4 : rm_Jx4a65c_add_9ea2d.slots = 128 := rfl; omega)⟩ dX0_makeOrder_35 (fun v56 w55 h => ?_)
          clear hk
          refine g_widen (c2 := (0 + (16 - n1) * 2 + 2)) (s2 := (0 + (16 - n1) * 128 + 128)) (by have e1 : rm_Jx4a65c_add_9ea2d.cells = 2 := rfl; omega) (by have e1 : rm_Jx4a65c_add_9ea2d.slots = 128 := rfl; omega) ?_
          refine g_pop X dX0_makeOrder_38 rfl ?_
          refine g_iinc X dX0_makeOrder_39 2 rfl (d := (1 : Int32)) (by decide) (by decide) (fun v57 hv => ?_)
          replace h := h v57 hv; clear hv
          refine g_sub [0, 1, 2] [(2, .inl v57), (0, .inr (some a0)), (1, .inl x1)] rfl ?_
          refine g_goto X (tgt := 2) dX0_makeOrder_42 (by decide) ?_
          obtain ⟨n, hn, hI⟩ := h
          refine g_widen (c2 := (0 + (16 - n) * 2 + 0)) (s2 := (0 + (16 - n) * 128 + 0)) (by omega) (by omega) ?_
          exact g_sub [1, 2, 0] [(0, .inr (some a0)), (1, .inl x1), (2, .inl v57)] rfl (ihn1 n hn (by omega) v57 w55 hI)
  refine g_widen (c2 := (0 + (16 - n0) * 2 + 0)) (s2 := (0 + (16 - n0) * 128 + 0)) (by omega) (by omega) ?_
  exact g_sub [1, 2, 0] [(0, .inr (some a0)), (1, .inl x1), (2, .inl (0 : Int32))] rfl (lp2 n0 hn0 (0 : Int32) w hi)

abbrev rm_X0_firstInOrder : Room := { frames := 4, cells := 0, slots := 0, locals := 164 }
def wp_X0_firstInOrder (a0 : Nat) (w : Wd) (Q : Option Nat → Wd → Prop) : Prop :=
  ∃ Inv2 : Nat → Int32 → Wd → Prop, (∃ n : Nat, Inv2 n (0 : Int32) w) ∧ ∀ (n1 : Nat) (y3 : Int32) (w4 : Wd), Inv2 n1 y3 w4 →
  w4.K a0 = 1 ∧
  ∀ z5 : Option Nat, z5 = w4.R 103 a0 →
  ∃ a6, z5 = some a6 ∧ w4.K a6 = 6 ∧
  wp_Jx4a65c_size_8abf5 a6 w4 (fun v8 w7 => 
  (v8 ≤ y3 → Q none w7) ∧ (¬ v8 ≤ y3 → w7.K a0 = 1 ∧
  ∀ z9 : Option Nat, z9 = w7.R 103 a0 →
  ∃ a10, z9 = some a10 ∧ w7.K a10 = 6 ∧
  wp_Jx4a65c_get_915e3 a10 y3 w7 (fun z12 w11 => 
  (∀ y13, z12 = some y13 → w11.K y13 = 3) ∧
  ∃ a14, z12 = some a14 ∧ w11.K a14 = 3 ∧
  ∀ v15 : Int32, v15 = w11.I 305 a14 →
  (¬ v15 = 0 → ∀ v16 : Int32, v16 = y3 + (1 : Int32) →
  ∃ n : Nat, n < n1 ∧ Inv2 n v16 w11) ∧ (v15 = 0 → w11.K a0 = 1 ∧
  ∀ z17 : Option Nat, z17 = w11.R 103 a0 →
  ∃ a18, z17 = some a18 ∧ w11.K a18 = 6 ∧
  wp_Jx4a65c_get_915e3 a18 y3 w11 (fun z20 w19 => 
  (∀ y21, z20 = some y21 → w19.K y21 = 3) ∧
  Q z20 w19)))))
set_option maxHeartbeats 4000000 in
set_option maxRecDepth 100000 in
theorem c_X0_firstInOrder {l : Launch} {G : GT} {L0 : Nat} (hst : l.stackTraces = false) {a0 : Nat} {w : Wd} {Q : Option Nat → Wd → Prop} (h : wp_X0_firstInOrder a0 w Q) : GMq l G L0 yX0_firstInOrder cX0_firstInOrder 2 (some (.object "SusuRing$Place")) rm_X0_firstInOrder [.ref a0] w Q := by
  refine g_enter hst (by decide +kernel) [.inr (some a0)] rfl (show 1 ≤ 2 by decide) ?_
  intro p e s m args below meth c X hr hnm
  replace X : GC l G L0 p s m args meth c cX0_firstInOrder 2 "SusuRing$Circle" := X
  refine g_iconst X (v := (0 : Int32)) dX0_firstInOrder_0 (by decide) ?_
  refine g_istore_n X [(1, .inl (0 : Int32)), (0, .inr (some a0))] dX0_firstInOrder_1 rfl (by decide) rfl ?_
  obtain ⟨Inv2, ⟨n0, hi⟩, hsn1⟩ := h
  have lp2 : ∀ (n1 : Nat), ∀ (y3 : Int32) (w4 : Wd), Inv2 n1 y3 w4 → Gw l G L0 p e rm_X0_firstInOrder s m args below meth c 2 (0) (0) (MQ below (gQq G L0 Q) args s rm_X0_firstInOrder.cells rm_X0_firstInOrder.slots (GA L0)) w4 2 [(0, .inr (some a0)), (1, .inl y3)] [] := by
    intro n1
    induction n1 using Nat.strongRecOn with
    | ind n1 ihn1 =>
      intro y3 w4 hI
      have h := hsn1 n1 y3 w4 hI
      clear hI
      refine g_iload_n X dX0_firstInOrder_2 rfl 1 rfl ?_
      refine g_aload_n X dX0_firstInOrder_3 rfl 0 rfl ?_
      have hk := h.1
      replace h := h.2
      refine gg_103 X hk m_348 dX0_firstInOrder_4 (fun z5 hv => ?_)
      replace h := h z5 hv; clear hv hk
      obtain ⟨a6, rfl, hk, h⟩ := h
      refine g_callV_i X (As := []) (st := [.int y3]) (n := 0) (c_Jx4a65c_size_8abf5 hst h) rfl (by decide) hk (wE_6 G w4 a6) m_439 m_158 m_159 m_18 m_160 (by decide +kernel) (by decide +kernel) rfl rfl (by simp [cat_int, rf_cat]) ⟨(by decide +kernel), (by decide +kernel)⟩ dX0_firstInOrder_7 (fun v8 w7 h => ?_)
      clear hk
      refine g_widen (c2 := (0)) (s2 := (0)) (by decide +kernel) (by decide +kernel) ?_
      refine g_icmp_ge X (tgt := 48) dX0_firstInOrder_10 (by decide) (fun hc => ?_) (fun hc => ?_)
      · replace h := h.1 hc; clear hc
        refine g_null X dX0_firstInOrder_48 ?_
        exact g_aret X hr (Or.inl ⟨_, rfl⟩) (by decide +kernel) (by decide +kernel) dX0_firstInOrder_49 h
      · replace h := h.2 hc; clear hc
        refine g_aload_n X dX0_firstInOrder_13 rfl 0 rfl ?_
        have hk := h.1
        replace h := h.2
        refine gg_103 X hk m_348 dX0_firstInOrder_14 (fun z9 hv => ?_)
        replace h := h z9 hv; clear hv hk
        refine g_iload_n X dX0_firstInOrder_17 rfl 1 rfl ?_
        obtain ⟨a10, rfl, hk, h⟩ := h
        refine g_callV_q X (As := [.int y3]) (st := []) (n := 1) (c_Jx4a65c_get_915e3 hst h) rfl (by decide) hk (wE_6 G w7 a10) m_440 m_316 m_317 m_18 m_318 (by decide +kernel) (by decide +kernel) rfl rfl (Nat.zero_le _) ⟨(by decide +kernel), (by decide +kernel)⟩ dX0_firstInOrder_18 (fun z12 w11 h => ?_)
        clear hk
        refine g_widen (c2 := (0)) (s2 := (0)) (by decide +kernel) (by decide +kernel) ?_
        refine g_castS X (C := "SusuRing$Place") (T := TX2) (N := 6) (ci := 3) rfl (by decide) (fun a => ⟨_, wE_3 G w11 a⟩) h.1 m_441 dX0_firstInOrder_21 ?_
        replace h := h.2
        obtain ⟨a14, rfl, hk, h⟩ := h
        refine gg_305 X hk m_554 dX0_firstInOrder_24 (fun v15 hv => ?_)
        replace h := h v15 hv; clear hv hk
        refine g_if_ne X (tgt := 42) dX0_firstInOrder_27 (by decide) (fun hc => ?_) (fun hc => ?_)
        · replace h := h.1 hc; clear hc
          refine g_iinc X dX0_firstInOrder_42 1 rfl (d := (1 : Int32)) (by decide) (by decide) (fun v16 hv => ?_)
          replace h := h v16 hv; clear hv
          refine g_sub [0, 1] [(1, .inl v16), (0, .inr (some a0))] rfl ?_
          refine g_goto X (tgt := 2) dX0_firstInOrder_45 (by decide) ?_
          obtain ⟨n, hn, hI⟩ := h
          exact g_sub [1, 0] [(0, .inr (some a0)), (1, .inl v16)] rfl (ihn1 n hn v16 w11 hI)
        · replace h := h.2 hc; clear hc
          refine g_aload_n X dX0_firstInOrder_30 rfl 0 rfl ?_
          have hk := h.1
          replace h := h.2
          refine gg_103 X hk m_348 dX0_firstInOrder_31 (fun z17 hv => ?_)
          replace h := h z17 hv; clear hv hk
          refine g_iload_n X dX0_firstInOrder_34 rfl 1 rfl ?_
          obtain ⟨a18, rfl, hk, h⟩ := h
          refine g_callV_q X (As := [.int y3]) (st := []) (n := 1) (c_Jx4a65c_get_915e3 hst h) rfl (by decide) hk (wE_6 G w11 a18) m_440 m_316 m_317 m_18 m_318 (by decide +kernel) (by decide +kernel) rfl rfl (Nat.zero_le _) ⟨(by decide +kernel), (by decide +kernel)⟩ dX0_firstInOrder_35 (fun z20 w19 h => ?_)
          clear hk
          refine g_widen (c2 := (0)) (s2 := (0)) (by decide +kernel) (by decide +kernel) ?_
          refine g_castS X (C := "SusuRing$Place") (T := TX2) (N := 6) (ci := 3) rfl (by decide) (fun a => ⟨_, wE_3 G w19 a⟩) h.1 m_441 dX0_firstInOrder_38 ?_
          replace h := h.2
          exact g_aret X hr (Or.inl ⟨_, rfl⟩) (by decide +kernel) (by decide +kernel) dX0_firstInOrder_41 h
  exact g_sub [1, 0] [(0, .inr (some a0)), (1, .inl (0 : Int32))] rfl (lp2 n0 (0 : Int32) w hi)

abbrev rm_X0_greatest : Room := { frames := 4, cells := 0, slots := 0, locals := 164 }
def wp_X0_greatest (a0 : Nat) (w : Wd) (Q : Option Nat → Wd → Prop) : Prop :=
  ∃ Inv2 : Nat → Option Nat → Int32 → Wd → Prop, (∃ n : Nat, Inv2 n none (0 : Int32) w) ∧ ∀ (n1 : Nat) (q3 : Option Nat) (y4 : Int32) (w5 : Wd), Inv2 n1 q3 y4 w5 →
  w5.K a0 = 1 ∧
  ∀ z6 : Option Nat, z6 = w5.R 102 a0 →
  ∃ a7, z6 = some a7 ∧ w5.K a7 = 6 ∧
  wp_Jx4a65c_size_8abf5 a7 w5 (fun v9 w8 => 
  (v9 ≤ y4 → Q q3 w8) ∧ (¬ v9 ≤ y4 → w8.K a0 = 1 ∧
  ∀ z10 : Option Nat, z10 = w8.R 102 a0 →
  ∃ a11, z10 = some a11 ∧ w8.K a11 = 6 ∧
  wp_Jx4a65c_get_915e3 a11 y4 w8 (fun z13 w12 => 
  (∀ y14, z13 = some y14 → w12.K y14 = 3) ∧
  ∃ a15, z13 = some a15 ∧ w12.K a15 = 3 ∧
  ∀ v16 : Int32, v16 = w12.I 305 a15 →
  ∃ J17 : Option Nat → Wd → Prop, (∀ (q18 : Option Nat) (w19 : Wd), J17 q18 w19 →
  ∀ v20 : Int32, v20 = y4 + (1 : Int32) →
  ∃ n : Nat, n < n1 ∧ Inv2 n q18 v20 w19) ∧
  (¬ v16 = 0 → J17 q3 w12) ∧ (v16 = 0 → ∃ J21 : Wd → Prop, (∀  (w22 : Wd), J21 w22 →
  J17 (some a15) w22) ∧
  (q3 = none → J21 w12) ∧ (¬ q3 = none → w12.K a0 = 1 ∧
  ∀ v23 : Int32, v23 = w12.I 101 a0 →
  w12.K a15 = 3 ∧
  wp_X2_rank a15 v23 w12 (fun v25 w24 => 
  w24.K a0 = 1 ∧
  ∀ v26 : Int32, v26 = w24.I 101 a0 →
  ∃ a27, q3 = some a27 ∧ w24.K a27 = 3 ∧
  wp_X2_rank a27 v26 w24 (fun v29 w28 => 
  (v25 ≤ v29 → J17 (some a27) w28) ∧ (¬ v25 ≤ v29 → J21 w28))))))))
set_option maxHeartbeats 4000000 in
set_option maxRecDepth 100000 in
theorem c_X0_greatest {l : Launch} {G : GT} {L0 : Nat} (hst : l.stackTraces = false) {a0 : Nat} {w : Wd} {Q : Option Nat → Wd → Prop} (h : wp_X0_greatest a0 w Q) : GMq l G L0 yX0_greatest cX0_greatest 4 (some (.object "SusuRing$Place")) rm_X0_greatest [.ref a0] w Q := by
  refine g_enter hst (by decide +kernel) [.inr (some a0)] rfl (show 1 ≤ 4 by decide) ?_
  intro p e s m args below meth c X hr hnm
  replace X : GC l G L0 p s m args meth c cX0_greatest 4 "SusuRing$Circle" := X
  refine g_null X dX0_greatest_0 ?_
  refine g_astore_n X [(1, .inr none), (0, .inr (some a0))] dX0_greatest_1 rfl (by decide) rfl ?_
  refine g_iconst X (v := (0 : Int32)) dX0_greatest_2 (by decide) ?_
  refine g_istore_n X [(2, .inl (0 : Int32)), (1, .inr none), (0, .inr (some a0))] dX0_greatest_3 rfl (by decide) rfl ?_
  obtain ⟨Inv2, ⟨n0, hi⟩, hsn1⟩ := h
  have lp2 : ∀ (n1 : Nat), ∀ (q3 : Option Nat) (y4 : Int32) (w5 : Wd), Inv2 n1 q3 y4 w5 → Gw l G L0 p e rm_X0_greatest s m args below meth c 4 (0) (0) (MQ below (gQq G L0 Q) args s rm_X0_greatest.cells rm_X0_greatest.slots (GA L0)) w5 4 [(0, .inr (some a0)), (1, .inr q3), (2, .inl y4)] [] := by
    intro n1
    induction n1 using Nat.strongRecOn with
    | ind n1 ihn1 =>
      intro q3 y4 w5 hI
      have h := hsn1 n1 q3 y4 w5 hI
      clear hI
      refine g_iload_n X dX0_greatest_4 rfl 2 rfl ?_
      refine g_aload_n X dX0_greatest_5 rfl 0 rfl ?_
      have hk := h.1
      replace h := h.2
      refine gg_102 X hk m_346 dX0_greatest_6 (fun z6 hv => ?_)
      replace h := h z6 hv; clear hv hk
      obtain ⟨a7, rfl, hk, h⟩ := h
      refine g_callV_i X (As := []) (st := [.int y4]) (n := 0) (c_Jx4a65c_size_8abf5 hst h) rfl (by decide) hk (wE_6 G w5 a7) m_439 m_158 m_159 m_18 m_160 (by decide +kernel) (by decide +kernel) rfl rfl (by simp [cat_int, rf_cat]) ⟨(by decide +kernel), (by decide +kernel)⟩ dX0_greatest_9 (fun v9 w8 h => ?_)
      clear hk
      refine g_widen (c2 := (0)) (s2 := (0)) (by decide +kernel) (by decide +kernel) ?_
      refine g_icmp_ge X (tgt := 65) dX0_greatest_12 (by decide) (fun hc => ?_) (fun hc => ?_)
      · replace h := h.1 hc; clear hc
        refine g_aload_n X dX0_greatest_65 rfl 1 rfl ?_
        exact g_aret X hr (Or.inl ⟨_, rfl⟩) (by decide +kernel) (by decide +kernel) dX0_greatest_66 h
      · replace h := h.2 hc; clear hc
        refine g_aload_n X dX0_greatest_15 rfl 0 rfl ?_
        have hk := h.1
        replace h := h.2
        refine gg_102 X hk m_346 dX0_greatest_16 (fun z10 hv => ?_)
        replace h := h z10 hv; clear hv hk
        refine g_iload_n X dX0_greatest_19 rfl 2 rfl ?_
        obtain ⟨a11, rfl, hk, h⟩ := h
        refine g_callV_q X (As := [.int y4]) (st := []) (n := 1) (c_Jx4a65c_get_915e3 hst h) rfl (by decide) hk (wE_6 G w8 a11) m_440 m_316 m_317 m_18 m_318 (by decide +kernel) (by decide +kernel) rfl rfl (Nat.zero_le _) ⟨(by decide +kernel), (by decide +kernel)⟩ dX0_greatest_20 (fun z13 w12 h => ?_)
        clear hk
        refine g_widen (c2 := (0)) (s2 := (0)) (by decide +kernel) (by decide +kernel) ?_
        refine g_castS X (C := "SusuRing$Place") (T := TX2) (N := 6) (ci := 3) rfl (by decide) (fun a => ⟨_, wE_3 G w12 a⟩) h.1 m_441 dX0_greatest_23 ?_
        replace h := h.2
        refine g_astore_n X [(3, .inr z13), (0, .inr (some a0)), (1, .inr q3), (2, .inl y4)] dX0_greatest_26 rfl (by decide) rfl ?_
        refine g_aload_n X dX0_greatest_27 rfl 0 rfl ?_
        obtain ⟨a15, rfl, hk, h⟩ := h
        refine gg_305 X hk m_554 dX0_greatest_28 (fun v16 hv => ?_)
        replace h := h v16 hv; clear hv hk
        obtain ⟨J17, hjJ17, h⟩ := h
        have jp17 : ∀ (q18 : Option Nat) (w19 : Wd), J17 q18 w19 → Gw l G L0 p e rm_X0_greatest s m args below meth c 4 (0) (0) (MQ below (gQq G L0 Q) args s rm_X0_greatest.cells rm_X0_greatest.slots (GA L0)) w19 59 [(0, .inr (some a0)), (1, .inr q18), (2, .inl y4)] [] := by
          intro q18 w19 hJ
          have h := hjJ17 q18 w19 hJ
          clear hJ
          refine g_iinc X dX0_greatest_59 2 rfl (d := (1 : Int32)) (by decide) (by decide) (fun v20 hv => ?_)
          replace h := h v20 hv; clear hv
          refine g_sub [0, 1, 2] [(2, .inl v20), (0, .inr (some a0)), (1, .inr q18)] rfl ?_
          refine g_goto X (tgt := 4) dX0_greatest_62 (by decide) ?_
          obtain ⟨n, hn, hI⟩ := h
          exact g_sub [1, 2, 0] [(0, .inr (some a0)), (1, .inr q18), (2, .inl v20)] rfl (ihn1 n hn q18 v20 w19 hI)
        refine g_if_ne X (tgt := 59) dX0_greatest_31 (by decide) (fun hc => ?_) (fun hc => ?_)
        · replace h := h.1 hc; clear hc
          exact g_sub [1, 2, 3] [(0, .inr (some a0)), (1, .inr q3), (2, .inl y4)] rfl (jp17 q3 w12 h)
        · replace h := h.2 hc; clear hc
          refine g_aload_n X dX0_greatest_34 rfl 2 rfl ?_
          obtain ⟨J21, hjJ21, h⟩ := h
          have jp21 : ∀  (w22 : Wd), J21 w22 → Gw l G L0 p e rm_X0_greatest s m args below meth c 4 (0) (0) (MQ below (gQq G L0 Q) args s rm_X0_greatest.cells rm_X0_greatest.slots (GA L0)) w22 57 [(0, .inr (some a0)), (2, .inl y4), (3, .inr (some a15))] [] := by
            intro w22 hJ
            have h := hjJ21 w22 hJ
            clear hJ
            refine g_aload_n X dX0_greatest_57 rfl 2 rfl ?_
            refine g_astore_n X [(1, .inr (some a15)), (0, .inr (some a0)), (2, .inl y4), (3, .inr (some a15))] dX0_greatest_58 rfl (by decide) rfl ?_
            exact g_sub [1, 0, 2] [(0, .inr (some a0)), (1, .inr (some a15)), (2, .inl y4)] rfl (jp17 (some a15) w22 h)
          refine g_ifnull X (tgt := 57) dX0_greatest_35 (by decide) (fun hc => ?_) (fun hc => ?_)
          · replace h := h.1 hc; clear hc
            exact g_sub [1, 3, 0] [(0, .inr (some a0)), (2, .inl y4), (3, .inr (some a15))] rfl (jp21 w12 h)
          · replace h := h.2 hc; clear hc
            refine g_aload_n X dX0_greatest_38 rfl 0 rfl ?_
            refine g_aload_n X dX0_greatest_39 rfl 1 rfl ?_
            have hk := h.1
            replace h := h.2
            refine gg_101 X hk m_345 dX0_greatest_40 (fun v23 hv => ?_)
            replace h := h v23 hv; clear hv hk
            have hk := h.1
            replace h := h.2
            refine g_callV_i X (As := [.int v23]) (st := []) (n := 1) (c_X2_rank hst h) rfl (by decide) hk (wE_3 G w12 a15) m_463 m_464 m_465 m_33 m_466 (by decide +kernel) (by decide +kernel) rfl rfl (Nat.zero_le _) ⟨(by decide +kernel), (by decide +kernel)⟩ dX0_greatest_43 (fun v25 w24 h => ?_)
            clear hk
            refine g_widen (c2 := (0)) (s2 := (0)) (by decide +kernel) (by decide +kernel) ?_
            refine g_aload_n X dX0_greatest_46 rfl 2 rfl ?_
            refine g_aload_n X dX0_greatest_47 rfl 1 rfl ?_
            have hk := h.1
            replace h := h.2
            refine gg_101 X hk m_345 dX0_greatest_48 (fun v26 hv => ?_)
            replace h := h v26 hv; clear hv hk
            obtain ⟨a27, rfl, hk, h⟩ := h
            refine g_callV_i X (As := [.int v26]) (st := [.int v25]) (n := 1) (c_X2_rank hst h) rfl (by decide) hk (wE_3 G w24 a27) m_463 m_464 m_465 m_33 m_466 (by decide +kernel) (by decide +kernel) rfl rfl (by simp [cat_int, rf_cat]) ⟨(by decide +kernel), (by decide +kernel)⟩ dX0_greatest_51 (fun v29 w28 h => ?_)
            clear hk
            refine g_widen (c2 := (0)) (s2 := (0)) (by decide +kernel) (by decide +kernel) ?_
            refine g_icmp_le X (tgt := 59) dX0_greatest_54 (by decide) (fun hc => ?_) (fun hc => ?_)
            · replace h := h.1 hc; clear hc
              exact g_sub [1, 2, 3] [(0, .inr (some a0)), (1, .inr (some a27)), (2, .inl y4)] rfl (jp17 (some a27) w28 h)
            · replace h := h.2 hc; clear hc
              exact g_sub [1, 3, 0] [(0, .inr (some a0)), (2, .inl y4), (3, .inr (some a15))] rfl (jp21 w28 h)
  exact g_sub [2, 1, 0] [(0, .inr (some a0)), (1, .inr none), (2, .inl (0 : Int32))] rfl (lp2 n0 none (0 : Int32) w hi)

abbrev rm_X0_upNext : Room := { frames := 5, cells := 0, slots := 0, locals := 187 }
def wp_X0_upNext (a0 : Nat) (w : Wd) (Q : Option Nat → Wd → Prop) : Prop :=
  w.K a0 = 1 ∧
  wp_X0_hasOrder a0 w (fun v2 w1 => 
  ∃ J3 : Option Nat → Wd → Prop, (∀ (q4 : Option Nat) (w5 : Wd), J3 q4 w5 →
  Q q4 w5) ∧
  (v2 = 0 → w1.K a0 = 1 ∧
  wp_X0_greatest a0 w1 (fun z7 w6 => 
  J3 z7 w6)) ∧ (¬ v2 = 0 → w1.K a0 = 1 ∧
  wp_X0_firstInOrder a0 w1 (fun z9 w8 => 
  J3 z9 w8)))
set_option maxHeartbeats 4000000 in
set_option maxRecDepth 100000 in
theorem c_X0_upNext {l : Launch} {G : GT} {L0 : Nat} (hst : l.stackTraces = false) {a0 : Nat} {w : Wd} {Q : Option Nat → Wd → Prop} (h : wp_X0_upNext a0 w Q) : GMq l G L0 yX0_upNext cX0_upNext 1 (some (.object "SusuRing$Place")) rm_X0_upNext [.ref a0] w Q := by
  refine g_enter hst (by decide +kernel) [.inr (some a0)] rfl (show 1 ≤ 1 by decide) ?_
  intro p e s m args below meth c X hr hnm
  replace X : GC l G L0 p s m args meth c cX0_upNext 1 "SusuRing$Circle" := X
  refine g_aload_n X dX0_upNext_0 rfl 0 rfl ?_
  have hk := h.1
  replace h := h.2
  refine g_callV_i X (As := []) (st := []) (n := 0) (c_X0_hasOrder hst h) rfl (by decide) hk (wE_1 G w a0) m_451 m_452 m_453 m_24 m_454 (by decide +kernel) (by decide +kernel) rfl rfl (Nat.zero_le _) ⟨(by decide +kernel), (by decide +kernel)⟩ dX0_upNext_1 (fun v2 w1 h => ?_)
  clear hk
  refine g_widen (c2 := (0)) (s2 := (0)) (by decide +kernel) (by decide +kernel) ?_
  obtain ⟨J3, hjJ3, h⟩ := h
  have jp3 : ∀ (q4 : Option Nat) (w5 : Wd), J3 q4 w5 → Gw l G L0 p e rm_X0_upNext s m args below meth c 1 (0) (0) (MQ below (gQq G L0 Q) args s rm_X0_upNext.cells rm_X0_upNext.slots (GA L0)) w5 18 [] [va_rf q4] := by
    intro q4 w5 hJ
    have h := hjJ3 q4 w5 hJ
    clear hJ
    exact g_aret X hr (Or.inl ⟨_, rfl⟩) (by decide +kernel) (by decide +kernel) dX0_upNext_18 h
  refine g_if_eq X (tgt := 14) dX0_upNext_4 (by decide) (fun hc => ?_) (fun hc => ?_)
  · replace h := h.1 hc; clear hc
    refine g_aload_n X dX0_upNext_14 rfl 0 rfl ?_
    have hk := h.1
    replace h := h.2
    refine g_callV_q X (As := []) (st := []) (n := 0) (c_X0_greatest hst h) rfl (by decide) hk (wE_1 G w1 a0) m_459 m_460 m_461 m_24 m_462 (by decide +kernel) (by decide +kernel) rfl rfl (Nat.zero_le _) ⟨(by decide +kernel), (by decide +kernel)⟩ dX0_upNext_15 (fun z7 w6 h => ?_)
    clear hk
    refine g_widen (c2 := (0)) (s2 := (0)) (by decide +kernel) (by decide +kernel) ?_
    exact g_sub [] [] rfl (jp3 z7 w6 h)
  · replace h := h.2 hc; clear hc
    refine g_aload_n X dX0_upNext_7 rfl 0 rfl ?_
    have hk := h.1
    replace h := h.2
    refine g_callV_q X (As := []) (st := []) (n := 0) (c_X0_firstInOrder hst h) rfl (by decide) hk (wE_1 G w1 a0) m_455 m_456 m_457 m_24 m_458 (by decide +kernel) (by decide +kernel) rfl rfl (Nat.zero_le _) ⟨(by decide +kernel), (by decide +kernel)⟩ dX0_upNext_8 (fun z9 w8 h => ?_)
    clear hk
    refine g_widen (c2 := (0)) (s2 := (0)) (by decide +kernel) (by decide +kernel) ?_
    refine g_goto X (tgt := 18) dX0_upNext_11 (by decide) ?_
    exact g_sub [] [] rfl (jp3 z9 w8 h)

abbrev rm_X0_collect : Room := { frames := 4, cells := 0, slots := 0, locals := 164 }
def wp_X0_collect (a0 : Nat) (x1 : Int32) (w : Wd) (Q : Wd → Prop) : Prop :=
  ∃ Inv2 : Nat → Int32 → Wd → Prop, (∃ n : Nat, Inv2 n (0 : Int32) w) ∧ ∀ (n1 : Nat) (y3 : Int32) (w4 : Wd), Inv2 n1 y3 w4 →
  w4.K a0 = 1 ∧
  ∀ z5 : Option Nat, z5 = w4.R 102 a0 →
  ∃ a6, z5 = some a6 ∧ w4.K a6 = 6 ∧
  wp_Jx4a65c_size_8abf5 a6 w4 (fun v8 w7 => 
  (v8 ≤ y3 → Q w7) ∧ (¬ v8 ≤ y3 → w7.K a0 = 1 ∧
  ∀ z9 : Option Nat, z9 = w7.R 102 a0 →
  ∃ a10, z9 = some a10 ∧ w7.K a10 = 6 ∧
  wp_Jx4a65c_get_915e3 a10 y3 w7 (fun z12 w11 => 
  (∀ y13, z12 = some y13 → w11.K y13 = 3) ∧
  w11.K a0 = 1 ∧
  ∀ v14 : Int32, v14 = w11.I 100 a0 →
  ∃ a15, z12 = some a15 ∧ w11.K a15 = 3 ∧
  ∀ v16 : Int32, v16 = w11.I 301 a15 →
  ∀ v17 : Int32, v17 = v14 + v16 →
  w11.K a15 = 3 ∧
  ∀ z18 : Option Nat, z18 = w11.R 300 a15 →
  ∃ a19, z18 = some a19 ∧ w11.K a19 = 2 ∧
  ∀ v20 : Int32, v20 = w11.I 204 a19 →
  ∀ v21 : Int32, v21 = (if v20 < v17 then v20 else v17) →
  w11.K a15 = 3 ∧
  ∀ z22 : Option Nat, z22 = w11.R 300 a15 →
  ∃ a23, z22 = some a23 ∧ w11.K a23 = 2 ∧
  wp_X1_payIn a23 v21 w11 (fun w24 => 
  w24.K a15 = 3 ∧
  ∀ v25 : Int32, v25 = w24.I 304 a15 →
  ∀ v26 : Int32, v26 = v25 + v21 →
  w24.K a15 = 3 ∧
  ∀ w27 : Wd, w27 = w24.setI 304 a15 v26 →
  w27.K a0 = 1 ∧
  ∀ v28 : Int32, v28 = w27.I 105 a0 →
  ∀ v29 : Int32, v29 = v28 + v21 →
  w27.K a0 = 1 ∧
  ∀ w30 : Wd, w30 = w27.setI 105 a0 v29 →
  ∀ v31 : Int32, v31 = v17 - v21 →
  w30.K a15 = 3 ∧
  ∀ w32 : Wd, w32 = w30.setI 301 a15 v31 →
  w32.K a15 = 3 ∧
  ∀ v33 : Int32, v33 = w32.I 301 a15 →
  ∃ J34 : Wd → Prop, (∀  (w35 : Wd), J34 w35 →
  ∀ v36 : Int32, v36 = y3 + (1 : Int32) →
  ∃ n : Nat, n < n1 ∧ Inv2 n v36 w35) ∧
  (v33 ≤ 0 → J34 w32) ∧ (¬ v33 ≤ 0 → (¬ x1 = 0 → J34 w32) ∧ (x1 = 0 → w32.K a15 = 3 ∧
  ∀ v37 : Int32, v37 = w32.I 301 a15 →
  w32.K a0 = 1 ∧
  ∀ v38 : Int32, v38 = w32.I 100 a0 →
  ¬ (10 : Int32) = 0 ∧ ∀ v39 : Int32, v39 = v38 / (10 : Int32) →
  ∀ v40 : Int32, v40 = v37 + v39 →
  w32.K a15 = 3 ∧
  ∀ w41 : Wd, w41 = w32.setI 301 a15 v40 →
  J34 w41))))))
set_option maxHeartbeats 4000000 in
set_option maxRecDepth 100000 in
theorem c_X0_collect {l : Launch} {G : GT} {L0 : Nat} (hst : l.stackTraces = false) {a0 : Nat} {x1 : Int32} {w : Wd} {Q : Wd → Prop} (h : wp_X0_collect a0 x1 w Q) : GMv l G L0 yX0_collect cX0_collect 6 none rm_X0_collect [.ref a0, .int x1] w Q := by
  refine g_enter hst (by decide +kernel) [.inr (some a0), .inl x1] rfl (show 2 ≤ 6 by decide) ?_
  intro p e s m args below meth c X hr hnm
  replace X : GC l G L0 p s m args meth c cX0_collect 6 "SusuRing$Circle" := X
  refine g_iconst X (v := (0 : Int32)) dX0_collect_0 (by decide) ?_
  refine g_istore_n X [(2, .inl (0 : Int32)), (0, .inr (some a0)), (1, .inl x1)] dX0_collect_1 rfl (by decide) rfl ?_
  obtain ⟨Inv2, ⟨n0, hi⟩, hsn1⟩ := h
  have lp2 : ∀ (n1 : Nat), ∀ (y3 : Int32) (w4 : Wd), Inv2 n1 y3 w4 → Gw l G L0 p e rm_X0_collect s m args below meth c 6 (0) (0) (MQ below (gQv G L0 Q) args s rm_X0_collect.cells rm_X0_collect.slots (GA L0)) w4 2 [(0, .inr (some a0)), (1, .inl x1), (2, .inl y3)] [] := by
    intro n1
    induction n1 using Nat.strongRecOn with
    | ind n1 ihn1 =>
      intro y3 w4 hI
      have h := hsn1 n1 y3 w4 hI
      clear hI
      refine g_iload_n X dX0_collect_2 rfl 2 rfl ?_
      refine g_aload_n X dX0_collect_3 rfl 0 rfl ?_
      have hk := h.1
      replace h := h.2
      refine gg_102 X hk m_346 dX0_collect_4 (fun z5 hv => ?_)
      replace h := h z5 hv; clear hv hk
      obtain ⟨a6, rfl, hk, h⟩ := h
      refine g_callV_i X (As := []) (st := [.int y3]) (n := 0) (c_Jx4a65c_size_8abf5 hst h) rfl (by decide) hk (wE_6 G w4 a6) m_439 m_158 m_159 m_18 m_160 (by decide +kernel) (by decide +kernel) rfl rfl (by simp [cat_int, rf_cat]) ⟨(by decide +kernel), (by decide +kernel)⟩ dX0_collect_7 (fun v8 w7 h => ?_)
      clear hk
      refine g_widen (c2 := (0)) (s2 := (0)) (by decide +kernel) (by decide +kernel) ?_
      refine g_icmp_ge X (tgt := 123) dX0_collect_10 (by decide) (fun hc => ?_) (fun hc => ?_)
      · replace h := h.1 hc; clear hc
        exact g_vret X hr (by decide +kernel) (by decide +kernel) dX0_collect_123 h
      · replace h := h.2 hc; clear hc
        refine g_aload_n X dX0_collect_13 rfl 0 rfl ?_
        have hk := h.1
        replace h := h.2
        refine gg_102 X hk m_346 dX0_collect_14 (fun z9 hv => ?_)
        replace h := h z9 hv; clear hv hk
        refine g_iload_n X dX0_collect_17 rfl 2 rfl ?_
        obtain ⟨a10, rfl, hk, h⟩ := h
        refine g_callV_q X (As := [.int y3]) (st := []) (n := 1) (c_Jx4a65c_get_915e3 hst h) rfl (by decide) hk (wE_6 G w7 a10) m_440 m_316 m_317 m_18 m_318 (by decide +kernel) (by decide +kernel) rfl rfl (Nat.zero_le _) ⟨(by decide +kernel), (by decide +kernel)⟩ dX0_collect_18 (fun z12 w11 h => ?_)
        clear hk
        refine g_widen (c2 := (0)) (s2 := (0)) (by decide +kernel) (by decide +kernel) ?_
        refine g_castS X (C := "SusuRing$Place") (T := TX2) (N := 6) (ci := 3) rfl (by decide) (fun a => ⟨_, wE_3 G w11 a⟩) h.1 m_441 dX0_collect_21 ?_
        replace h := h.2
        refine g_astore_n X [(3, .inr z12), (0, .inr (some a0)), (1, .inl x1), (2, .inl y3)] dX0_collect_24 rfl (by decide) rfl ?_
        refine g_aload_n X dX0_collect_25 rfl 1 rfl ?_
        have hk := h.1
        replace h := h.2
        refine gg_100 X hk m_344 dX0_collect_26 (fun v14 hv => ?_)
        replace h := h v14 hv; clear hv hk
        refine g_aload_n X dX0_collect_29 rfl 0 rfl ?_
        obtain ⟨a15, rfl, hk, h⟩ := h
        refine gg_301 X hk m_548 dX0_collect_30 (fun v16 hv => ?_)
        replace h := h v16 hv; clear hv hk
        refine g_iadd X dX0_collect_33 (fun v17 hv => ?_)
        replace h := h v17 hv; clear hv
        refine g_istore X [(4, .inl v17), (3, .inr (some a15)), (0, .inr (some a0)), (1, .inl x1), (2, .inl y3)] dX0_collect_34 (by decide) rfl ?_
        refine g_iload X dX0_collect_36 0 rfl ?_
        refine g_aload_n X dX0_collect_38 rfl 1 rfl ?_
        have hk := h.1
        replace h := h.2
        refine gg_300 X hk m_545 dX0_collect_39 (fun z18 hv => ?_)
        replace h := h z18 hv; clear hv hk
        obtain ⟨a19, rfl, hk, h⟩ := h
        refine gg_204 X hk m_192 dX0_collect_42 (fun v20 hv => ?_)
        replace h := h v20 hv; clear hv hk
        refine g_mmin X m_627 m_284 m_26 m_285 (by decide) (by decide +kernel) (by decide +kernel) (by decide +kernel) dX0_collect_45 (fun v21 hv => ?_)
        replace h := h v21 hv; clear hv
        refine g_istore X [(5, .inl v21), (4, .inl v17), (3, .inr (some a15)), (0, .inr (some a0)), (1, .inl x1), (2, .inl y3)] dX0_collect_48 (by decide) rfl ?_
        refine g_aload_n X dX0_collect_50 rfl 2 rfl ?_
        have hk := h.1
        replace h := h.2
        refine gg_300 X hk m_545 dX0_collect_51 (fun z22 hv => ?_)
        replace h := h z22 hv; clear hv hk
        refine g_iload X dX0_collect_54 0 rfl ?_
        obtain ⟨a23, rfl, hk, h⟩ := h
        refine g_callV_v X (As := [.int v21]) (st := []) (n := 1) (c_X1_payIn hst h) rfl (by decide) hk (wE_2 G w11 a23) m_628 m_398 m_399 m_29 m_400 (by decide +kernel) (by decide +kernel) rfl rfl (Nat.zero_le _) ⟨(by decide +kernel), (by decide +kernel)⟩ dX0_collect_56 (fun w24 h => ?_)
        clear hk
        refine g_widen (c2 := (0)) (s2 := (0)) (by decide +kernel) (by decide +kernel) ?_
        refine g_aload_n X dX0_collect_59 rfl 2 rfl ?_
        refine g_dup X dX0_collect_60 rf_cat ?_
        have hk := h.1
        replace h := h.2
        refine gg_304 X hk m_553 dX0_collect_61 (fun v25 hv => ?_)
        replace h := h v25 hv; clear hv hk
        refine g_iload X dX0_collect_64 0 rfl ?_
        refine g_iadd X dX0_collect_66 (fun v26 hv => ?_)
        replace h := h v26 hv; clear hv
        have hk := h.1
        replace h := h.2
        refine gp_304 X hk m_553 dX0_collect_67 (fun w27 hv => ?_)
        replace h := h w27 hv; clear hv hk
        refine g_aload_n X dX0_collect_70 rfl 3 rfl ?_
        refine g_dup X dX0_collect_71 rf_cat ?_
        have hk := h.1
        replace h := h.2
        refine gg_105 X hk m_351 dX0_collect_72 (fun v28 hv => ?_)
        replace h := h v28 hv; clear hv hk
        refine g_iload X dX0_collect_75 0 rfl ?_
        refine g_iadd X dX0_collect_77 (fun v29 hv => ?_)
        replace h := h v29 hv; clear hv
        have hk := h.1
        replace h := h.2
        refine gp_105 X hk m_351 dX0_collect_78 (fun w30 hv => ?_)
        replace h := h w30 hv; clear hv hk
        refine g_aload_n X dX0_collect_81 rfl 2 rfl ?_
        refine g_iload X dX0_collect_82 1 rfl ?_
        refine g_iload X dX0_collect_84 0 rfl ?_
        refine g_isub X dX0_collect_86 (fun v31 hv => ?_)
        replace h := h v31 hv; clear hv
        have hk := h.1
        replace h := h.2
        refine gp_301 X hk m_548 dX0_collect_87 (fun w32 hv => ?_)
        replace h := h w32 hv; clear hv hk
        refine g_aload_n X dX0_collect_90 rfl 2 rfl ?_
        have hk := h.1
        replace h := h.2
        refine gg_301 X hk m_548 dX0_collect_91 (fun v33 hv => ?_)
        replace h := h v33 hv; clear hv hk
        obtain ⟨J34, hjJ34, h⟩ := h
        have jp34 : ∀  (w35 : Wd), J34 w35 → Gw l G L0 p e rm_X0_collect s m args below meth c 6 (0) (0) (MQ below (gQv G L0 Q) args s rm_X0_collect.cells rm_X0_collect.slots (GA L0)) w35 117 [(0, .inr (some a0)), (1, .inl x1), (2, .inl y3)] [] := by
          intro w35 hJ
          have h := hjJ34 w35 hJ
          clear hJ
          refine g_iinc X dX0_collect_117 2 rfl (d := (1 : Int32)) (by decide) (by decide) (fun v36 hv => ?_)
          replace h := h v36 hv; clear hv
          refine g_sub [0, 1, 2] [(2, .inl v36), (0, .inr (some a0)), (1, .inl x1)] rfl ?_
          refine g_goto X (tgt := 2) dX0_collect_120 (by decide) ?_
          obtain ⟨n, hn, hI⟩ := h
          exact g_sub [1, 2, 0] [(0, .inr (some a0)), (1, .inl x1), (2, .inl v36)] rfl (ihn1 n hn v36 w35 hI)
        refine g_if_le X (tgt := 117) dX0_collect_94 (by decide) (fun hc => ?_) (fun hc => ?_)
        · replace h := h.1 hc; clear hc
          exact g_sub [3, 4, 5] [(0, .inr (some a0)), (1, .inl x1), (2, .inl y3)] rfl (jp34 w32 h)
        · replace h := h.2 hc; clear hc
          refine g_iload_n X dX0_collect_97 rfl 4 rfl ?_
          refine g_if_ne X (tgt := 117) dX0_collect_98 (by decide) (fun hc => ?_) (fun hc => ?_)
          · replace h := h.1 hc; clear hc
            exact g_sub [3, 4, 5] [(0, .inr (some a0)), (1, .inl x1), (2, .inl y3)] rfl (jp34 w32 h)
          · replace h := h.2 hc; clear hc
            refine g_aload_n X dX0_collect_101 rfl 2 rfl ?_
            refine g_dup X dX0_collect_102 rf_cat ?_
            have hk := h.1
            replace h := h.2
            refine gg_301 X hk m_548 dX0_collect_103 (fun v37 hv => ?_)
            replace h := h v37 hv; clear hv hk
            refine g_aload_n X dX0_collect_106 rfl 3 rfl ?_
            have hk := h.1
            replace h := h.2
            refine gg_100 X hk m_344 dX0_collect_107 (fun v38 hv => ?_)
            replace h := h v38 hv; clear hv hk
            refine g_bipush X (v := (10 : Int32)) dX0_collect_110 (by decide) ?_
            refine g_idiv X dX0_collect_112 h.1 (fun v39 hv => ?_)
            replace h := h.2 v39 hv; clear hv
            refine g_iadd X dX0_collect_113 (fun v40 hv => ?_)
            replace h := h v40 hv; clear hv
            have hk := h.1
            replace h := h.2
            refine gp_301 X hk m_548 dX0_collect_114 (fun w41 hv => ?_)
            replace h := h w41 hv; clear hv hk
            exact g_sub [3, 4, 5] [(0, .inr (some a0)), (1, .inl x1), (2, .inl y3)] rfl (jp34 w41 h)
  exact g_sub [1, 2, 0] [(0, .inr (some a0)), (1, .inl x1), (2, .inl (0 : Int32))] rfl (lp2 n0 (0 : Int32) w hi)

abbrev rm_X0_giveOut : Room := { frames := 2, cells := 0, slots := 0, locals := 121 }
def wp_X0_giveOut (a0 : Nat) (r1 : Option Nat) (x2 : Int32) (w : Wd) (Q : Wd → Prop) : Prop :=
  w.K a0 = 1 ∧
  ∀ v1 : Int32, v1 = w.I 105 a0 →
  ∀ v2 : Int32, v2 = v1 - x2 →
  w.K a0 = 1 ∧
  ∀ w3 : Wd, w3 = w.setI 105 a0 v2 →
  ∃ a4, r1 = some a4 ∧ w3.K a4 = 3 ∧
  ∀ z5 : Option Nat, z5 = w3.R 300 a4 →
  ∃ a6, z5 = some a6 ∧ w3.K a6 = 2 ∧
  wp_X1_getOut a6 x2 w3 (fun w7 => 
  Q w7)
set_option maxHeartbeats 4000000 in
set_option maxRecDepth 100000 in
theorem c_X0_giveOut {l : Launch} {G : GT} {L0 : Nat} (hst : l.stackTraces = false) {a0 : Nat} {r1 : Option Nat} {x2 : Int32} {w : Wd} {Q : Wd → Prop} (h : wp_X0_giveOut a0 r1 x2 w Q) : GMv l G L0 yX0_giveOut cX0_giveOut 3 none rm_X0_giveOut [.ref a0, va_rf r1, .int x2] w Q := by
  refine g_enter hst (by decide +kernel) [.inr (some a0), .inr r1, .inl x2] rfl (show 3 ≤ 3 by decide) ?_
  intro p e s m args below meth c X hr hnm
  replace X : GC l G L0 p s m args meth c cX0_giveOut 3 "SusuRing$Circle" := X
  refine g_aload_n X dX0_giveOut_0 rfl 0 rfl ?_
  refine g_dup X dX0_giveOut_1 rf_cat ?_
  have hk := h.1
  replace h := h.2
  refine gg_105 X hk m_351 dX0_giveOut_2 (fun v1 hv => ?_)
  replace h := h v1 hv; clear hv hk
  refine g_iload_n X dX0_giveOut_5 rfl 2 rfl ?_
  refine g_isub X dX0_giveOut_6 (fun v2 hv => ?_)
  replace h := h v2 hv; clear hv
  have hk := h.1
  replace h := h.2
  refine gp_105 X hk m_351 dX0_giveOut_7 (fun w3 hv => ?_)
  replace h := h w3 hv; clear hv hk
  refine g_aload_n X dX0_giveOut_10 rfl 1 rfl ?_
  obtain ⟨a4, rfl, hk, h⟩ := h
  refine gg_300 X hk m_545 dX0_giveOut_11 (fun z5 hv => ?_)
  replace h := h z5 hv; clear hv hk
  refine g_iload_n X dX0_giveOut_14 rfl 2 rfl ?_
  obtain ⟨a6, rfl, hk, h⟩ := h
  refine g_callV_v X (As := [.int x2]) (st := []) (n := 1) (c_X1_getOut hst h) rfl (by decide) hk (wE_2 G w3 a6) m_637 m_638 m_639 m_29 m_640 (by decide +kernel) (by decide +kernel) rfl rfl (Nat.zero_le _) ⟨(by decide +kernel), (by decide +kernel)⟩ dX0_giveOut_15 (fun w7 h => ?_)
  clear hk
  refine g_widen (c2 := (0)) (s2 := (0)) (by decide +kernel) (by decide +kernel) ?_
  exact g_vret X hr (by decide +kernel) (by decide +kernel) dX0_giveOut_18 h

abbrev rm_X0_payOut : Room := { frames := 4, cells := 0, slots := 0, locals := 164 }
def wp_X0_payOut (a0 : Nat) (r1 : Option Nat) (w : Wd) (Q : Wd → Prop) : Prop :=
  (¬ r1 = none → w.K a0 = 1 ∧
  ∀ v1 : Int32, v1 = w.I 105 a0 →
  w.K a0 = 1 ∧
  ∀ v2 : Int32, v2 = w.I 100 a0 →
  w.K a0 = 1 ∧
  ∀ z3 : Option Nat, z3 = w.R 102 a0 →
  ∃ a4, z3 = some a4 ∧ w.K a4 = 6 ∧
  wp_Jx4a65c_size_8abf5 a4 w (fun v6 w5 => 
  ∀ v7 : Int32, v7 = v2 * v6 →
  ∀ v8 : Int32, v8 = (if v7 < v1 then v7 else v1) →
  w5.K a0 = 1 ∧
  ∀ v9 : Int32, v9 = w5.I 101 a0 →
  ∃ J10 : Int32 → Prop, (∀ (y11 : Int32), J10 y11 →
  w5.K a0 = 1 ∧
  ∀ z12 : Option Nat, z12 = w5.R 102 a0 →
  ∃ a13, z12 = some a13 ∧ w5.K a13 = 6 ∧
  wp_Jx4a65c_size_8abf5 a13 w5 (fun v15 w14 => 
  ∀ v16 : Int32, v16 = v15 - (1 : Int32) →
  ∃ J17 : Int32 → Prop, (∀ (y18 : Int32), J17 y18 →
  ∃ Inv20 : Nat → Int32 → Wd → Prop, (∃ n : Nat, Inv20 n (0 : Int32) w14) ∧ ∀ (n19 : Nat) (y21 : Int32) (w22 : Wd), Inv20 n19 y21 w22 →
  w22.K a0 = 1 ∧
  ∀ z23 : Option Nat, z23 = w22.R 102 a0 →
  ∃ a24, z23 = some a24 ∧ w22.K a24 = 6 ∧
  wp_Jx4a65c_size_8abf5 a24 w22 (fun v26 w25 => 
  (v26 ≤ y21 → ∃ a27, r1 = some a27 ∧ w25.K a27 = 3 ∧
  ((1 : Int32) = 0 ∨ (1 : Int32) = 1) ∧
  ∀ w28 : Wd, w28 = w25.setI 305 a27 (1 : Int32) →
  Q w28) ∧ (¬ v26 ≤ y21 → w25.K a0 = 1 ∧
  ∀ z29 : Option Nat, z29 = w25.R 102 a0 →
  ∃ a30, z29 = some a30 ∧ w25.K a30 = 6 ∧
  wp_Jx4a65c_get_915e3 a30 y21 w25 (fun z32 w31 => 
  (∀ y33, z32 = some y33 → w31.K y33 = 3) ∧
  ∃ J34 : Option Nat → Option Nat → Int32 → Prop, (∀ (q35 : Option Nat) (q36 : Option Nat) (y37 : Int32), J34 q35 q36 y37 →
  ∃ a38, q35 = some a38 ∧ w31.K a38 = 1 ∧
  wp_X0_giveOut a38 q36 y37 w31 (fun w39 => 
  ∀ v40 : Int32, v40 = y21 + (1 : Int32) →
  ∃ n : Nat, n < n19 ∧ Inv20 n v40 w39)) ∧
  (¬ z32 = r1 → J34 (some a0) z32 y18) ∧ (z32 = r1 → ∀ v41 : Int32, v41 = v8 - y11 →
  J34 (some a0) z32 v41))))) ∧
  (v16 ≤ 0 → J17 (0 : Int32)) ∧ (¬ v16 ≤ 0 → ¬ v16 = 0 ∧ ∀ v42 : Int32, v42 = y11 / v16 →
  J17 v42))) ∧
  (¬ v9 = (3 : Int32) → J10 (0 : Int32)) ∧ (v9 = (3 : Int32) → ∃ a43, r1 = some a43 ∧ w5.K a43 = 3 ∧
  ∀ v44 : Int32, v44 = w5.I 303 a43 →
  ¬ (2 : Int32) = 0 ∧ ∀ v45 : Int32, v45 = v8 / (2 : Int32) →
  ∀ v46 : Int32, v46 = (if v45 < v44 then v45 else v44) →
  J10 v46))) ∧ (r1 = none → Q w)
set_option maxHeartbeats 4000000 in
set_option maxRecDepth 100000 in
theorem c_X0_payOut {l : Launch} {G : GT} {L0 : Nat} (hst : l.stackTraces = false) {a0 : Nat} {r1 : Option Nat} {w : Wd} {Q : Wd → Prop} (h : wp_X0_payOut a0 r1 w Q) : GMv l G L0 yX0_payOut cX0_payOut 8 none rm_X0_payOut [.ref a0, va_rf r1] w Q := by
  refine g_enter hst (by decide +kernel) [.inr (some a0), .inr r1] rfl (show 2 ≤ 8 by decide) ?_
  intro p e s m args below meth c X hr hnm
  replace X : GC l G L0 p s m args meth c cX0_payOut 8 "SusuRing$Circle" := X
  refine g_aload_n X dX0_payOut_0 rfl 1 rfl ?_
  refine g_ifnonnull X (tgt := 5) dX0_payOut_1 (by decide) (fun hc => ?_) (fun hc => ?_)
  · replace h := h.1 hc; clear hc
    refine g_aload_n X dX0_payOut_5 rfl 0 rfl ?_
    have hk := h.1
    replace h := h.2
    refine gg_105 X hk m_351 dX0_payOut_6 (fun v1 hv => ?_)
    replace h := h v1 hv; clear hv hk
    refine g_aload_n X dX0_payOut_9 rfl 0 rfl ?_
    have hk := h.1
    replace h := h.2
    refine gg_100 X hk m_344 dX0_payOut_10 (fun v2 hv => ?_)
    replace h := h v2 hv; clear hv hk
    refine g_aload_n X dX0_payOut_13 rfl 0 rfl ?_
    have hk := h.1
    replace h := h.2
    refine gg_102 X hk m_346 dX0_payOut_14 (fun z3 hv => ?_)
    replace h := h z3 hv; clear hv hk
    obtain ⟨a4, rfl, hk, h⟩ := h
    refine g_callV_i X (As := []) (st := [.int v2, .int v1]) (n := 0) (c_Jx4a65c_size_8abf5 hst h) rfl (by decide) hk (wE_6 G w a4) m_439 m_158 m_159 m_18 m_160 (by decide +kernel) (by decide +kernel) rfl rfl (by simp [cat_int, rf_cat]) ⟨(by decide +kernel), (by decide +kernel)⟩ dX0_payOut_17 (fun v6 w5 h => ?_)
    clear hk
    refine g_widen (c2 := (0)) (s2 := (0)) (by decide +kernel) (by decide +kernel) ?_
    refine g_imul X dX0_payOut_20 (fun v7 hv => ?_)
    replace h := h v7 hv; clear hv
    refine g_mmin X m_627 m_284 m_26 m_285 (by decide) (by decide +kernel) (by decide +kernel) (by decide +kernel) dX0_payOut_21 (fun v8 hv => ?_)
    replace h := h v8 hv; clear hv
    refine g_istore_n X [(2, .inl v8), (0, .inr (some a0)), (1, .inr r1)] dX0_payOut_24 rfl (by decide) rfl ?_
    refine g_aload_n X dX0_payOut_25 rfl 1 rfl ?_
    have hk := h.1
    replace h := h.2
    refine gg_101 X hk m_345 dX0_payOut_26 (fun v9 hv => ?_)
    replace h := h v9 hv; clear hv hk
    refine g_iconst X (v := (3 : Int32)) dX0_payOut_29 (by decide) ?_
    obtain ⟨J10, hjJ10, h⟩ := h
    have jp10 : ∀ (y11 : Int32), J10 y11 → Gw l G L0 p e rm_X0_payOut s m args below meth c 8 (0) (0) (MQ below (gQv G L0 Q) args s rm_X0_payOut.cells rm_X0_payOut.slots (GA L0)) w5 47 [(0, .inr (some a0)), (1, .inr r1), (2, .inl v8)] [.int y11] := by
      intro y11 hJ
      have h := hjJ10 y11 hJ
      clear hJ
      refine g_istore_n X [(3, .inl y11), (0, .inr (some a0)), (1, .inr r1), (2, .inl v8)] dX0_payOut_47 rfl (by decide) rfl ?_
      refine g_aload_n X dX0_payOut_48 rfl 1 rfl ?_
      have hk := h.1
      replace h := h.2
      refine gg_102 X hk m_346 dX0_payOut_49 (fun z12 hv => ?_)
      replace h := h z12 hv; clear hv hk
      obtain ⟨a13, rfl, hk, h⟩ := h
      refine g_callV_i X (As := []) (st := []) (n := 0) (c_Jx4a65c_size_8abf5 hst h) rfl (by decide) hk (wE_6 G w5 a13) m_439 m_158 m_159 m_18 m_160 (by decide +kernel) (by decide +kernel) rfl rfl (Nat.zero_le _) ⟨(by decide +kernel), (by decide +kernel)⟩ dX0_payOut_52 (fun v15 w14 h => ?_)
      clear hk
      refine g_widen (c2 := (0)) (s2 := (0)) (by decide +kernel) (by decide +kernel) ?_
      refine g_iconst X (v := (1 : Int32)) dX0_payOut_55 (by decide) ?_
      refine g_isub X dX0_payOut_56 (fun v16 hv => ?_)
      replace h := h v16 hv; clear hv
      refine g_istore X [(4, .inl v16), (3, .inl y11), (0, .inr (some a0)), (1, .inr r1), (2, .inl v8)] dX0_payOut_57 (by decide) rfl ?_
      refine g_iload X dX0_payOut_59 0 rfl ?_
      obtain ⟨J17, hjJ17, h⟩ := h
      have jp17 : ∀ (y18 : Int32), J17 y18 → Gw l G L0 p e rm_X0_payOut s m args below meth c 8 (0) (0) (MQ below (gQv G L0 Q) args s rm_X0_payOut.cells rm_X0_payOut.slots (GA L0)) w14 72 [(0, .inr (some a0)), (1, .inr r1), (2, .inl v8), (3, .inl y11)] [.int y18] := by
        intro y18 hJ
        have h := hjJ17 y18 hJ
        clear hJ
        refine g_istore X [(5, .inl y18), (0, .inr (some a0)), (1, .inr r1), (2, .inl v8), (3, .inl y11)] dX0_payOut_72 (by decide) rfl ?_
        refine g_iconst X (v := (0 : Int32)) dX0_payOut_74 (by decide) ?_
        refine g_istore X [(6, .inl (0 : Int32)), (5, .inl y18), (0, .inr (some a0)), (1, .inr r1), (2, .inl v8), (3, .inl y11)] dX0_payOut_75 (by decide) rfl ?_
        obtain ⟨Inv20, ⟨n0, hi⟩, hsn19⟩ := h
        have lp20 : ∀ (n19 : Nat), ∀ (y21 : Int32) (w22 : Wd), Inv20 n19 y21 w22 → Gw l G L0 p e rm_X0_payOut s m args below meth c 8 (0) (0) (MQ below (gQv G L0 Q) args s rm_X0_payOut.cells rm_X0_payOut.slots (GA L0)) w22 77 [(0, .inr (some a0)), (1, .inr r1), (2, .inl v8), (3, .inl y11), (5, .inl y18), (6, .inl y21)] [] := by
          intro n19
          induction n19 using Nat.strongRecOn with
          | ind n19 ihn19 =>
            intro y21 w22 hI
            have h := hsn19 n19 y21 w22 hI
            clear hI
            refine g_iload X dX0_payOut_77 5 rfl ?_
            refine g_aload_n X dX0_payOut_79 rfl 0 rfl ?_
            have hk := h.1
            replace h := h.2
            refine gg_102 X hk m_346 dX0_payOut_80 (fun z23 hv => ?_)
            replace h := h z23 hv; clear hv hk
            obtain ⟨a24, rfl, hk, h⟩ := h
            refine g_callV_i X (As := []) (st := [.int y21]) (n := 0) (c_Jx4a65c_size_8abf5 hst h) rfl (by decide) hk (wE_6 G w22 a24) m_439 m_158 m_159 m_18 m_160 (by decide +kernel) (by decide +kernel) rfl rfl (by simp [cat_int, rf_cat]) ⟨(by decide +kernel), (by decide +kernel)⟩ dX0_payOut_83 (fun v26 w25 h => ?_)
            clear hk
            refine g_widen (c2 := (0)) (s2 := (0)) (by decide +kernel) (by decide +kernel) ?_
            refine g_icmp_ge X (tgt := 129) dX0_payOut_86 (by decide) (fun hc => ?_) (fun hc => ?_)
            · replace h := h.1 hc; clear hc
              refine g_aload_n X dX0_payOut_129 rfl 1 rfl ?_
              refine g_iconst X (v := (1 : Int32)) dX0_payOut_130 (by decide) ?_
              obtain ⟨a27, rfl, hk, h⟩ := h
              have hz := h.1
              replace h := h.2
              refine gp_305 X hk hz m_554 dX0_payOut_131 (fun w28 hv => ?_)
              replace h := h w28 hv; clear hv hk
              exact g_vret X hr (by decide +kernel) (by decide +kernel) dX0_payOut_134 h
            · replace h := h.2 hc; clear hc
              refine g_aload_n X dX0_payOut_89 rfl 0 rfl ?_
              have hk := h.1
              replace h := h.2
              refine gg_102 X hk m_346 dX0_payOut_90 (fun z29 hv => ?_)
              replace h := h z29 hv; clear hv hk
              refine g_iload X dX0_payOut_93 5 rfl ?_
              obtain ⟨a30, rfl, hk, h⟩ := h
              refine g_callV_q X (As := [.int y21]) (st := []) (n := 1) (c_Jx4a65c_get_915e3 hst h) rfl (by decide) hk (wE_6 G w25 a30) m_440 m_316 m_317 m_18 m_318 (by decide +kernel) (by decide +kernel) rfl rfl (Nat.zero_le _) ⟨(by decide +kernel), (by decide +kernel)⟩ dX0_payOut_95 (fun z32 w31 h => ?_)
              clear hk
              refine g_widen (c2 := (0)) (s2 := (0)) (by decide +kernel) (by decide +kernel) ?_
              refine g_castS X (C := "SusuRing$Place") (T := TX2) (N := 6) (ci := 3) rfl (by decide) (fun a => ⟨_, wE_3 G w31 a⟩) h.1 m_441 dX0_payOut_98 ?_
              replace h := h.2
              refine g_astore X [(7, .inr z32), (0, .inr (some a0)), (1, .inr r1), (2, .inl v8), (3, .inl y11), (5, .inl y18), (6, .inl y21)] dX0_payOut_101 (by decide) rfl ?_
              refine g_aload_n X dX0_payOut_103 rfl 1 rfl ?_
              refine g_aload X dX0_payOut_104 0 rfl ?_
              refine g_aload X dX0_payOut_106 0 rfl ?_
              refine g_aload_n X dX0_payOut_108 rfl 2 rfl ?_
              obtain ⟨J34, hjJ34, h⟩ := h
              have jp34 : ∀ (q35 : Option Nat) (q36 : Option Nat) (y37 : Int32), J34 q35 q36 y37 → Gw l G L0 p e rm_X0_payOut s m args below meth c 8 (0) (0) (MQ below (gQv G L0 Q) args s rm_X0_payOut.cells rm_X0_payOut.slots (GA L0)) w31 120 [(0, .inr (some a0)), (1, .inr r1), (2, .inl v8), (3, .inl y11), (5, .inl y18), (6, .inl y21)] [.int y37, va_rf q36, va_rf q35] := by
                intro q35 q36 y37 hJ
                have h := hjJ34 q35 q36 y37 hJ
                clear hJ
                obtain ⟨a38, rfl, hk, h⟩ := h
                refine g_callV_v X (As := [va_rf q36, .int y37]) (st := []) (n := 2) (c_X0_giveOut hst h) rfl (by decide) hk (wE_1 G w31 a38) m_633 m_634 m_635 m_24 m_636 (by decide +kernel) (by decide +kernel) rfl rfl (Nat.zero_le _) ⟨(by decide +kernel), (by decide +kernel)⟩ dX0_payOut_120 (fun w39 h => ?_)
                clear hk
                refine g_widen (c2 := (0)) (s2 := (0)) (by decide +kernel) (by decide +kernel) ?_
                refine g_iinc X dX0_payOut_123 5 rfl (d := (1 : Int32)) (by decide) (by decide) (fun v40 hv => ?_)
                replace h := h v40 hv; clear hv
                refine g_sub [0, 1, 2, 3, 4, 5] [(6, .inl v40), (0, .inr (some a0)), (1, .inr r1), (2, .inl v8), (3, .inl y11), (5, .inl y18)] rfl ?_
                refine g_goto X (tgt := 77) dX0_payOut_126 (by decide) ?_
                obtain ⟨n, hn, hI⟩ := h
                exact g_sub [1, 2, 3, 4, 5, 0] [(0, .inr (some a0)), (1, .inr r1), (2, .inl v8), (3, .inl y11), (5, .inl y18), (6, .inl v40)] rfl (ihn19 n hn v40 w39 hI)
              refine g_acmp_ne X (tgt := 118) dX0_payOut_109 (by decide) (fun hc => ?_) (fun hc => ?_)
              · replace h := h.1 hc; clear hc
                refine g_iload X dX0_payOut_118 5 rfl ?_
                exact g_sub [1, 2, 3, 4, 5, 6] [(0, .inr (some a0)), (1, .inr r1), (2, .inl v8), (3, .inl y11), (5, .inl y18), (6, .inl y21)] rfl (jp34 (some a0) z32 y18 h)
              · replace h := h.2 hc; clear hc
                refine g_iload_n X dX0_payOut_112 rfl 3 rfl ?_
                refine g_iload_n X dX0_payOut_113 rfl 4 rfl ?_
                refine g_isub X dX0_payOut_114 (fun v41 hv => ?_)
                replace h := h v41 hv; clear hv
                refine g_goto X (tgt := 120) dX0_payOut_115 (by decide) ?_
                exact g_sub [1, 2, 3, 4, 5, 6] [(0, .inr (some a0)), (1, .inr r1), (2, .inl v8), (3, .inl y11), (5, .inl y18), (6, .inl y21)] rfl (jp34 (some a0) z32 v41 h)
        exact g_sub [2, 3, 4, 5, 1, 0] [(0, .inr (some a0)), (1, .inr r1), (2, .inl v8), (3, .inl y11), (5, .inl y18), (6, .inl (0 : Int32))] rfl (lp20 n0 (0 : Int32) w14 hi)
      refine g_if_le X (tgt := 71) dX0_payOut_61 (by decide) (fun hc => ?_) (fun hc => ?_)
      · replace h := h.1 hc; clear hc
        refine g_iconst X (v := (0 : Int32)) dX0_payOut_71 (by decide) ?_
        exact g_sub [2, 3, 4, 1] [(0, .inr (some a0)), (1, .inr r1), (2, .inl v8), (3, .inl y11)] rfl (jp17 (0 : Int32) h)
      · replace h := h.2 hc; clear hc
        refine g_iload_n X dX0_payOut_64 rfl 1 rfl ?_
        refine g_iload X dX0_payOut_65 0 rfl ?_
        refine g_idiv X dX0_payOut_67 h.1 (fun v42 hv => ?_)
        replace h := h.2 v42 hv; clear hv
        refine g_goto X (tgt := 72) dX0_payOut_68 (by decide) ?_
        exact g_sub [2, 3, 4, 1] [(0, .inr (some a0)), (1, .inr r1), (2, .inl v8), (3, .inl y11)] rfl (jp17 v42 h)
    refine g_icmp_ne X (tgt := 46) dX0_payOut_30 (by decide) (fun hc => ?_) (fun hc => ?_)
    · replace h := h.1 hc; clear hc
      refine g_iconst X (v := (0 : Int32)) dX0_payOut_46 (by decide) ?_
      exact g_sub [1, 2, 0] [(0, .inr (some a0)), (1, .inr r1), (2, .inl v8)] rfl (jp10 (0 : Int32) h)
    · replace h := h.2 hc; clear hc
      refine g_aload_n X dX0_payOut_33 rfl 2 rfl ?_
      obtain ⟨a43, rfl, hk, h⟩ := h
      refine gg_303 X hk m_551 dX0_payOut_34 (fun v44 hv => ?_)
      replace h := h v44 hv; clear hv hk
      refine g_iload_n X dX0_payOut_37 rfl 0 rfl ?_
      refine g_iconst X (v := (2 : Int32)) dX0_payOut_38 (by decide) ?_
      refine g_idiv X dX0_payOut_39 h.1 (fun v45 hv => ?_)
      replace h := h.2 v45 hv; clear hv
      refine g_mmin X m_627 m_284 m_26 m_285 (by decide) (by decide +kernel) (by decide +kernel) (by decide +kernel) dX0_payOut_40 (fun v46 hv => ?_)
      replace h := h v46 hv; clear hv
      refine g_goto X (tgt := 47) dX0_payOut_43 (by decide) ?_
      exact g_sub [1, 2, 0] [(0, .inr (some a0)), (1, .inr (some a43)), (2, .inl v8)] rfl (jp10 v46 h)
  · replace h := h.2 hc; clear hc
    exact g_vret X hr (by decide +kernel) (by decide +kernel) dX0_payOut_4 h

abbrev rm_X0_clearBids : Room := { frames := 4, cells := 0, slots := 0, locals := 164 }
def wp_X0_clearBids (a0 : Nat) (w : Wd) (Q : Wd → Prop) : Prop :=
  ∃ Inv2 : Nat → Int32 → Wd → Prop, (∃ n : Nat, Inv2 n (0 : Int32) w) ∧ ∀ (n1 : Nat) (y3 : Int32) (w4 : Wd), Inv2 n1 y3 w4 →
  w4.K a0 = 1 ∧
  ∀ z5 : Option Nat, z5 = w4.R 102 a0 →
  ∃ a6, z5 = some a6 ∧ w4.K a6 = 6 ∧
  wp_Jx4a65c_size_8abf5 a6 w4 (fun v8 w7 => 
  (v8 ≤ y3 → Q w7) ∧ (¬ v8 ≤ y3 → w7.K a0 = 1 ∧
  ∀ z9 : Option Nat, z9 = w7.R 102 a0 →
  ∃ a10, z9 = some a10 ∧ w7.K a10 = 6 ∧
  wp_Jx4a65c_get_915e3 a10 y3 w7 (fun z12 w11 => 
  (∀ y13, z12 = some y13 → w11.K y13 = 3) ∧
  ∃ a14, z12 = some a14 ∧ w11.K a14 = 3 ∧
  ∀ w15 : Wd, w15 = w11.setI 303 a14 (0 : Int32) →
  ∀ v16 : Int32, v16 = y3 + (1 : Int32) →
  ∃ n : Nat, n < n1 ∧ Inv2 n v16 w15)))
set_option maxHeartbeats 4000000 in
set_option maxRecDepth 100000 in
theorem c_X0_clearBids {l : Launch} {G : GT} {L0 : Nat} (hst : l.stackTraces = false) {a0 : Nat} {w : Wd} {Q : Wd → Prop} (h : wp_X0_clearBids a0 w Q) : GMv l G L0 yX0_clearBids cX0_clearBids 2 none rm_X0_clearBids [.ref a0] w Q := by
  refine g_enter hst (by decide +kernel) [.inr (some a0)] rfl (show 1 ≤ 2 by decide) ?_
  intro p e s m args below meth c X hr hnm
  replace X : GC l G L0 p s m args meth c cX0_clearBids 2 "SusuRing$Circle" := X
  refine g_iconst X (v := (0 : Int32)) dX0_clearBids_0 (by decide) ?_
  refine g_istore_n X [(1, .inl (0 : Int32)), (0, .inr (some a0))] dX0_clearBids_1 rfl (by decide) rfl ?_
  obtain ⟨Inv2, ⟨n0, hi⟩, hsn1⟩ := h
  have lp2 : ∀ (n1 : Nat), ∀ (y3 : Int32) (w4 : Wd), Inv2 n1 y3 w4 → Gw l G L0 p e rm_X0_clearBids s m args below meth c 2 (0) (0) (MQ below (gQv G L0 Q) args s rm_X0_clearBids.cells rm_X0_clearBids.slots (GA L0)) w4 2 [(0, .inr (some a0)), (1, .inl y3)] [] := by
    intro n1
    induction n1 using Nat.strongRecOn with
    | ind n1 ihn1 =>
      intro y3 w4 hI
      have h := hsn1 n1 y3 w4 hI
      clear hI
      refine g_iload_n X dX0_clearBids_2 rfl 1 rfl ?_
      refine g_aload_n X dX0_clearBids_3 rfl 0 rfl ?_
      have hk := h.1
      replace h := h.2
      refine gg_102 X hk m_346 dX0_clearBids_4 (fun z5 hv => ?_)
      replace h := h z5 hv; clear hv hk
      obtain ⟨a6, rfl, hk, h⟩ := h
      refine g_callV_i X (As := []) (st := [.int y3]) (n := 0) (c_Jx4a65c_size_8abf5 hst h) rfl (by decide) hk (wE_6 G w4 a6) m_439 m_158 m_159 m_18 m_160 (by decide +kernel) (by decide +kernel) rfl rfl (by simp [cat_int, rf_cat]) ⟨(by decide +kernel), (by decide +kernel)⟩ dX0_clearBids_7 (fun v8 w7 h => ?_)
      clear hk
      refine g_widen (c2 := (0)) (s2 := (0)) (by decide +kernel) (by decide +kernel) ?_
      refine g_icmp_ge X (tgt := 34) dX0_clearBids_10 (by decide) (fun hc => ?_) (fun hc => ?_)
      · replace h := h.1 hc; clear hc
        exact g_vret X hr (by decide +kernel) (by decide +kernel) dX0_clearBids_34 h
      · replace h := h.2 hc; clear hc
        refine g_aload_n X dX0_clearBids_13 rfl 0 rfl ?_
        have hk := h.1
        replace h := h.2
        refine gg_102 X hk m_346 dX0_clearBids_14 (fun z9 hv => ?_)
        replace h := h z9 hv; clear hv hk
        refine g_iload_n X dX0_clearBids_17 rfl 1 rfl ?_
        obtain ⟨a10, rfl, hk, h⟩ := h
        refine g_callV_q X (As := [.int y3]) (st := []) (n := 1) (c_Jx4a65c_get_915e3 hst h) rfl (by decide) hk (wE_6 G w7 a10) m_440 m_316 m_317 m_18 m_318 (by decide +kernel) (by decide +kernel) rfl rfl (Nat.zero_le _) ⟨(by decide +kernel), (by decide +kernel)⟩ dX0_clearBids_18 (fun z12 w11 h => ?_)
        clear hk
        refine g_widen (c2 := (0)) (s2 := (0)) (by decide +kernel) (by decide +kernel) ?_
        refine g_castS X (C := "SusuRing$Place") (T := TX2) (N := 6) (ci := 3) rfl (by decide) (fun a => ⟨_, wE_3 G w11 a⟩) h.1 m_441 dX0_clearBids_21 ?_
        replace h := h.2
        refine g_iconst X (v := (0 : Int32)) dX0_clearBids_24 (by decide) ?_
        obtain ⟨a14, rfl, hk, h⟩ := h
        refine gp_303 X hk m_551 dX0_clearBids_25 (fun w15 hv => ?_)
        replace h := h w15 hv; clear hv hk
        refine g_iinc X dX0_clearBids_28 1 rfl (d := (1 : Int32)) (by decide) (by decide) (fun v16 hv => ?_)
        replace h := h v16 hv; clear hv
        refine g_sub [0, 1] [(1, .inl v16), (0, .inr (some a0))] rfl ?_
        refine g_goto X (tgt := 2) dX0_clearBids_31 (by decide) ?_
        obtain ⟨n, hn, hI⟩ := h
        exact g_sub [1, 0] [(0, .inr (some a0)), (1, .inl v16)] rfl (ihn1 n hn v16 w15 hI)
  exact g_sub [1, 0] [(0, .inr (some a0)), (1, .inl (0 : Int32))] rfl (lp2 n0 (0 : Int32) w hi)

abbrev rm_X0_endRoundIfAllHadTurns : Room := { frames := 4, cells := 0, slots := 0, locals := 164 }
def wp_X0_endRoundIfAllHadTurns (a0 : Nat) (w : Wd) (Q : Wd → Prop) : Prop :=
  w.K a0 = 1 ∧
  ∀ z1 : Option Nat, z1 = w.R 102 a0 →
  ∃ a2, z1 = some a2 ∧ w.K a2 = 6 ∧
  wp_Jx4a65c_isEmpty_aae02 a2 w (fun v4 w3 => 
  (v4 = 0 → ∃ Inv6 : Nat → Int32 → Wd → Prop, (∃ n : Nat, Inv6 n (0 : Int32) w3) ∧ ∀ (n5 : Nat) (y7 : Int32) (w8 : Wd), Inv6 n5 y7 w8 →
  w8.K a0 = 1 ∧
  ∀ z9 : Option Nat, z9 = w8.R 102 a0 →
  ∃ a10, z9 = some a10 ∧ w8.K a10 = 6 ∧
  wp_Jx4a65c_size_8abf5 a10 w8 (fun v12 w11 => 
  (v12 ≤ y7 → ∃ Inv14 : Nat → Int32 → Wd → Prop, (∃ n : Nat, Inv14 n (0 : Int32) w11) ∧ ∀ (n13 : Nat) (y15 : Int32) (w16 : Wd), Inv14 n13 y15 w16 →
  w16.K a0 = 1 ∧
  ∀ z17 : Option Nat, z17 = w16.R 102 a0 →
  ∃ a18, z17 = some a18 ∧ w16.K a18 = 6 ∧
  wp_Jx4a65c_size_8abf5 a18 w16 (fun v20 w19 => 
  (v20 ≤ y15 → w19.K a0 = 1 ∧
  ∀ v21 : Int32, v21 = w19.I 107 a0 →
  ∀ v22 : Int32, v22 = v21 + (1 : Int32) →
  w19.K a0 = 1 ∧
  ∀ w23 : Wd, w23 = w19.setI 107 a0 v22 →
  Q w23) ∧ (¬ v20 ≤ y15 → w19.K a0 = 1 ∧
  ∀ z24 : Option Nat, z24 = w19.R 102 a0 →
  ∃ a25, z24 = some a25 ∧ w19.K a25 = 6 ∧
  wp_Jx4a65c_get_915e3 a25 y15 w19 (fun z27 w26 => 
  (∀ y28, z27 = some y28 → w26.K y28 = 3) ∧
  ∃ a29, z27 = some a29 ∧ w26.K a29 = 3 ∧
  ((0 : Int32) = 0 ∨ (0 : Int32) = 1) ∧
  ∀ w30 : Wd, w30 = w26.setI 305 a29 (0 : Int32) →
  w30.K a0 = 1 ∧
  ∀ z31 : Option Nat, z31 = w30.R 102 a0 →
  ∃ a32, z31 = some a32 ∧ w30.K a32 = 6 ∧
  wp_Jx4a65c_get_915e3 a32 y15 w30 (fun z34 w33 => 
  (∀ y35, z34 = some y35 → w33.K y35 = 3) ∧
  ∃ a36, z34 = some a36 ∧ w33.K a36 = 3 ∧
  ∀ w37 : Wd, w37 = w33.setI 304 a36 (0 : Int32) →
  ∀ v38 : Int32, v38 = y15 + (1 : Int32) →
  ∃ n : Nat, n < n13 ∧ Inv14 n v38 w37))))) ∧ (¬ v12 ≤ y7 → w11.K a0 = 1 ∧
  ∀ z39 : Option Nat, z39 = w11.R 102 a0 →
  ∃ a40, z39 = some a40 ∧ w11.K a40 = 6 ∧
  wp_Jx4a65c_get_915e3 a40 y7 w11 (fun z42 w41 => 
  (∀ y43, z42 = some y43 → w41.K y43 = 3) ∧
  ∃ a44, z42 = some a44 ∧ w41.K a44 = 3 ∧
  ∀ v45 : Int32, v45 = w41.I 305 a44 →
  (¬ v45 = 0 → ∀ v46 : Int32, v46 = y7 + (1 : Int32) →
  ∃ n : Nat, n < n5 ∧ Inv6 n v46 w41) ∧ (v45 = 0 → Q w41))))) ∧ (¬ v4 = 0 → Q w3))
set_option maxHeartbeats 4000000 in
set_option maxRecDepth 100000 in
theorem c_X0_endRoundIfAllHadTurns {l : Launch} {G : GT} {L0 : Nat} (hst : l.stackTraces = false) {a0 : Nat} {w : Wd} {Q : Wd → Prop} (h : wp_X0_endRoundIfAllHadTurns a0 w Q) : GMv l G L0 yX0_endRoundIfAllHadTurns cX0_endRoundIfAllHadTurns 2 none rm_X0_endRoundIfAllHadTurns [.ref a0] w Q := by
  refine g_enter hst (by decide +kernel) [.inr (some a0)] rfl (show 1 ≤ 2 by decide) ?_
  intro p e s m args below meth c X hr hnm
  replace X : GC l G L0 p s m args meth c cX0_endRoundIfAllHadTurns 2 "SusuRing$Circle" := X
  refine g_aload_n X dX0_endRoundIfAllHadTurns_0 rfl 0 rfl ?_
  have hk := h.1
  replace h := h.2
  refine gg_102 X hk m_346 dX0_endRoundIfAllHadTurns_1 (fun z1 hv => ?_)
  replace h := h z1 hv; clear hv hk
  obtain ⟨a2, rfl, hk, h⟩ := h
  refine g_callV_i X (As := []) (st := []) (n := 0) (c_Jx4a65c_isEmpty_aae02 hst h) rfl (by decide) hk (wE_6 G w a2) m_525 m_526 m_527 m_18 m_528 (by decide +kernel) (by decide +kernel) rfl rfl (Nat.zero_le _) ⟨(by decide +kernel), (by decide +kernel)⟩ dX0_endRoundIfAllHadTurns_4 (fun v4 w3 h => ?_)
  clear hk
  refine g_widen (c2 := (0)) (s2 := (0)) (by decide +kernel) (by decide +kernel) ?_
  refine g_if_eq X (tgt := 11) dX0_endRoundIfAllHadTurns_7 (by decide) (fun hc => ?_) (fun hc => ?_)
  · replace h := h.1 hc; clear hc
    refine g_iconst X (v := (0 : Int32)) dX0_endRoundIfAllHadTurns_11 (by decide) ?_
    refine g_istore_n X [(1, .inl (0 : Int32)), (0, .inr (some a0))] dX0_endRoundIfAllHadTurns_12 rfl (by decide) rfl ?_
    obtain ⟨Inv6, ⟨n0, hi⟩, hsn5⟩ := h
    have lp6 : ∀ (n5 : Nat), ∀ (y7 : Int32) (w8 : Wd), Inv6 n5 y7 w8 → Gw l G L0 p e rm_X0_endRoundIfAllHadTurns s m args below meth c 2 (0) (0) (MQ below (gQv G L0 Q) args s rm_X0_endRoundIfAllHadTurns.cells rm_X0_endRoundIfAllHadTurns.slots (GA L0)) w8 13 [(0, .inr (some a0)), (1, .inl y7)] [] := by
      intro n5
      induction n5 using Nat.strongRecOn with
      | ind n5 ihn5 =>
        intro y7 w8 hI
        have h := hsn5 n5 y7 w8 hI
        clear hI
        refine g_iload_n X dX0_endRoundIfAllHadTurns_13 rfl 1 rfl ?_
        refine g_aload_n X dX0_endRoundIfAllHadTurns_14 rfl 0 rfl ?_
        have hk := h.1
        replace h := h.2
        refine gg_102 X hk m_346 dX0_endRoundIfAllHadTurns_15 (fun z9 hv => ?_)
        replace h := h z9 hv; clear hv hk
        obtain ⟨a10, rfl, hk, h⟩ := h
        refine g_callV_i X (As := []) (st := [.int y7]) (n := 0) (c_Jx4a65c_size_8abf5 hst h) rfl (by decide) hk (wE_6 G w8 a10) m_439 m_158 m_159 m_18 m_160 (by decide +kernel) (by decide +kernel) rfl rfl (by simp [cat_int, rf_cat]) ⟨(by decide +kernel), (by decide +kernel)⟩ dX0_endRoundIfAllHadTurns_18 (fun v12 w11 h => ?_)
        clear hk
        refine g_widen (c2 := (0)) (s2 := (0)) (by decide +kernel) (by decide +kernel) ?_
        refine g_icmp_ge X (tgt := 48) dX0_endRoundIfAllHadTurns_21 (by decide) (fun hc => ?_) (fun hc => ?_)
        · replace h := h.1 hc; clear hc
          refine g_iconst X (v := (0 : Int32)) dX0_endRoundIfAllHadTurns_48 (by decide) ?_
          refine g_istore_n X [(1, .inl (0 : Int32)), (0, .inr (some a0))] dX0_endRoundIfAllHadTurns_49 rfl (by decide) rfl ?_
          obtain ⟨Inv14, ⟨n0, hi⟩, hsn13⟩ := h
          have lp14 : ∀ (n13 : Nat), ∀ (y15 : Int32) (w16 : Wd), Inv14 n13 y15 w16 → Gw l G L0 p e rm_X0_endRoundIfAllHadTurns s m args below meth c 2 (0) (0) (MQ below (gQv G L0 Q) args s rm_X0_endRoundIfAllHadTurns.cells rm_X0_endRoundIfAllHadTurns.slots (GA L0)) w16 50 [(0, .inr (some a0)), (1, .inl y15)] [] := by
            intro n13
            induction n13 using Nat.strongRecOn with
            | ind n13 ihn13 =>
              intro y15 w16 hI
              have h := hsn13 n13 y15 w16 hI
              clear hI
              refine g_iload_n X dX0_endRoundIfAllHadTurns_50 rfl 1 rfl ?_
              refine g_aload_n X dX0_endRoundIfAllHadTurns_51 rfl 0 rfl ?_
              have hk := h.1
              replace h := h.2
              refine gg_102 X hk m_346 dX0_endRoundIfAllHadTurns_52 (fun z17 hv => ?_)
              replace h := h z17 hv; clear hv hk
              obtain ⟨a18, rfl, hk, h⟩ := h
              refine g_callV_i X (As := []) (st := [.int y15]) (n := 0) (c_Jx4a65c_size_8abf5 hst h) rfl (by decide) hk (wE_6 G w16 a18) m_439 m_158 m_159 m_18 m_160 (by decide +kernel) (by decide +kernel) rfl rfl (by simp [cat_int, rf_cat]) ⟨(by decide +kernel), (by decide +kernel)⟩ dX0_endRoundIfAllHadTurns_55 (fun v20 w19 h => ?_)
              clear hk
              refine g_widen (c2 := (0)) (s2 := (0)) (by decide +kernel) (by decide +kernel) ?_
              refine g_icmp_ge X (tgt := 97) dX0_endRoundIfAllHadTurns_58 (by decide) (fun hc => ?_) (fun hc => ?_)
              · replace h := h.1 hc; clear hc
                refine g_aload_n X dX0_endRoundIfAllHadTurns_97 rfl 0 rfl ?_
                refine g_dup X dX0_endRoundIfAllHadTurns_98 rf_cat ?_
                have hk := h.1
                replace h := h.2
                refine gg_107 X hk m_353 dX0_endRoundIfAllHadTurns_99 (fun v21 hv => ?_)
                replace h := h v21 hv; clear hv hk
                refine g_iconst X (v := (1 : Int32)) dX0_endRoundIfAllHadTurns_102 (by decide) ?_
                refine g_iadd X dX0_endRoundIfAllHadTurns_103 (fun v22 hv => ?_)
                replace h := h v22 hv; clear hv
                have hk := h.1
                replace h := h.2
                refine gp_107 X hk m_353 dX0_endRoundIfAllHadTurns_104 (fun w23 hv => ?_)
                replace h := h w23 hv; clear hv hk
                exact g_vret X hr (by decide +kernel) (by decide +kernel) dX0_endRoundIfAllHadTurns_107 h
              · replace h := h.2 hc; clear hc
                refine g_aload_n X dX0_endRoundIfAllHadTurns_61 rfl 0 rfl ?_
                have hk := h.1
                replace h := h.2
                refine gg_102 X hk m_346 dX0_endRoundIfAllHadTurns_62 (fun z24 hv => ?_)
                replace h := h z24 hv; clear hv hk
                refine g_iload_n X dX0_endRoundIfAllHadTurns_65 rfl 1 rfl ?_
                obtain ⟨a25, rfl, hk, h⟩ := h
                refine g_callV_q X (As := [.int y15]) (st := []) (n := 1) (c_Jx4a65c_get_915e3 hst h) rfl (by decide) hk (wE_6 G w19 a25) m_440 m_316 m_317 m_18 m_318 (by decide +kernel) (by decide +kernel) rfl rfl (Nat.zero_le _) ⟨(by decide +kernel), (by decide +kernel)⟩ dX0_endRoundIfAllHadTurns_66 (fun z27 w26 h => ?_)
                clear hk
                refine g_widen (c2 := (0)) (s2 := (0)) (by decide +kernel) (by decide +kernel) ?_
                refine g_castS X (C := "SusuRing$Place") (T := TX2) (N := 6) (ci := 3) rfl (by decide) (fun a => ⟨_, wE_3 G w26 a⟩) h.1 m_441 dX0_endRoundIfAllHadTurns_69 ?_
                replace h := h.2
                refine g_iconst X (v := (0 : Int32)) dX0_endRoundIfAllHadTurns_72 (by decide) ?_
                obtain ⟨a29, rfl, hk, h⟩ := h
                have hz := h.1
                replace h := h.2
                refine gp_305 X hk hz m_554 dX0_endRoundIfAllHadTurns_73 (fun w30 hv => ?_)
                replace h := h w30 hv; clear hv hk
                refine g_aload_n X dX0_endRoundIfAllHadTurns_76 rfl 0 rfl ?_
                have hk := h.1
                replace h := h.2
                refine gg_102 X hk m_346 dX0_endRoundIfAllHadTurns_77 (fun z31 hv => ?_)
                replace h := h z31 hv; clear hv hk
                refine g_iload_n X dX0_endRoundIfAllHadTurns_80 rfl 1 rfl ?_
                obtain ⟨a32, rfl, hk, h⟩ := h
                refine g_callV_q X (As := [.int y15]) (st := []) (n := 1) (c_Jx4a65c_get_915e3 hst h) rfl (by decide) hk (wE_6 G w30 a32) m_440 m_316 m_317 m_18 m_318 (by decide +kernel) (by decide +kernel) rfl rfl (Nat.zero_le _) ⟨(by decide +kernel), (by decide +kernel)⟩ dX0_endRoundIfAllHadTurns_81 (fun z34 w33 h => ?_)
                clear hk
                refine g_widen (c2 := (0)) (s2 := (0)) (by decide +kernel) (by decide +kernel) ?_
                refine g_castS X (C := "SusuRing$Place") (T := TX2) (N := 6) (ci := 3) rfl (by decide) (fun a => ⟨_, wE_3 G w33 a⟩) h.1 m_441 dX0_endRoundIfAllHadTurns_84 ?_
                replace h := h.2
                refine g_iconst X (v := (0 : Int32)) dX0_endRoundIfAllHadTurns_87 (by decide) ?_
                obtain ⟨a36, rfl, hk, h⟩ := h
                refine gp_304 X hk m_553 dX0_endRoundIfAllHadTurns_88 (fun w37 hv => ?_)
                replace h := h w37 hv; clear hv hk
                refine g_iinc X dX0_endRoundIfAllHadTurns_91 1 rfl (d := (1 : Int32)) (by decide) (by decide) (fun v38 hv => ?_)
                replace h := h v38 hv; clear hv
                refine g_sub [0, 1] [(1, .inl v38), (0, .inr (some a0))] rfl ?_
                refine g_goto X (tgt := 50) dX0_endRoundIfAllHadTurns_94 (by decide) ?_
                obtain ⟨n, hn, hI⟩ := h
                exact g_sub [1, 0] [(0, .inr (some a0)), (1, .inl v38)] rfl (ihn13 n hn v38 w37 hI)
          exact g_sub [1, 0] [(0, .inr (some a0)), (1, .inl (0 : Int32))] rfl (lp14 n0 (0 : Int32) w11 hi)
        · replace h := h.2 hc; clear hc
          refine g_aload_n X dX0_endRoundIfAllHadTurns_24 rfl 0 rfl ?_
          have hk := h.1
          replace h := h.2
          refine gg_102 X hk m_346 dX0_endRoundIfAllHadTurns_25 (fun z39 hv => ?_)
          replace h := h z39 hv; clear hv hk
          refine g_iload_n X dX0_endRoundIfAllHadTurns_28 rfl 1 rfl ?_
          obtain ⟨a40, rfl, hk, h⟩ := h
          refine g_callV_q X (As := [.int y7]) (st := []) (n := 1) (c_Jx4a65c_get_915e3 hst h) rfl (by decide) hk (wE_6 G w11 a40) m_440 m_316 m_317 m_18 m_318 (by decide +kernel) (by decide +kernel) rfl rfl (Nat.zero_le _) ⟨(by decide +kernel), (by decide +kernel)⟩ dX0_endRoundIfAllHadTurns_29 (fun z42 w41 h => ?_)
          clear hk
          refine g_widen (c2 := (0)) (s2 := (0)) (by decide +kernel) (by decide +kernel) ?_
          refine g_castS X (C := "SusuRing$Place") (T := TX2) (N := 6) (ci := 3) rfl (by decide) (fun a => ⟨_, wE_3 G w41 a⟩) h.1 m_441 dX0_endRoundIfAllHadTurns_32 ?_
          replace h := h.2
          obtain ⟨a44, rfl, hk, h⟩ := h
          refine gg_305 X hk m_554 dX0_endRoundIfAllHadTurns_35 (fun v45 hv => ?_)
          replace h := h v45 hv; clear hv hk
          refine g_if_ne X (tgt := 42) dX0_endRoundIfAllHadTurns_38 (by decide) (fun hc => ?_) (fun hc => ?_)
          · replace h := h.1 hc; clear hc
            refine g_iinc X dX0_endRoundIfAllHadTurns_42 1 rfl (d := (1 : Int32)) (by decide) (by decide) (fun v46 hv => ?_)
            replace h := h v46 hv; clear hv
            refine g_sub [0, 1] [(1, .inl v46), (0, .inr (some a0))] rfl ?_
            refine g_goto X (tgt := 13) dX0_endRoundIfAllHadTurns_45 (by decide) ?_
            obtain ⟨n, hn, hI⟩ := h
            exact g_sub [1, 0] [(0, .inr (some a0)), (1, .inl v46)] rfl (ihn5 n hn v46 w41 hI)
          · replace h := h.2 hc; clear hc
            exact g_vret X hr (by decide +kernel) (by decide +kernel) dX0_endRoundIfAllHadTurns_41 h
    exact g_sub [1, 0] [(0, .inr (some a0)), (1, .inl (0 : Int32))] rfl (lp6 n0 (0 : Int32) w3 hi)
  · replace h := h.2 hc; clear hc
    exact g_vret X hr (by decide +kernel) (by decide +kernel) dX0_endRoundIfAllHadTurns_10 h

abbrev rm_X0_removeFrom : Room := { frames := 4, cells := 0, slots := 0, locals := 166 }
def wp_X0_removeFrom (r0 : Option Nat) (r1 : Option Nat) (w : Wd) (Q : Wd → Prop) : Prop :=
  ∃ Inv2 : Nat → Int32 → Wd → Prop, (∃ n : Nat, Inv2 n (0 : Int32) w) ∧ ∀ (n1 : Nat) (y3 : Int32) (w4 : Wd), Inv2 n1 y3 w4 →
  ∃ a5, r0 = some a5 ∧ w4.K a5 = 6 ∧
  wp_Jx4a65c_size_8abf5 a5 w4 (fun v7 w6 => 
  (v7 ≤ y3 → Q w6) ∧ (¬ v7 ≤ y3 → w6.K a5 = 6 ∧
  wp_Jx4a65c_get_915e3 a5 y3 w6 (fun z9 w8 => 
  (¬ z9 = r1 → ∀ v10 : Int32, v10 = y3 + (1 : Int32) →
  ∃ n : Nat, n < n1 ∧ Inv2 n v10 w8) ∧ (z9 = r1 → w8.K a5 = 6 ∧
  wp_Jx4a65c_remove_915e3 a5 y3 w8 (fun z12 w11 => 
  Q w11)))))
set_option maxHeartbeats 4000000 in
set_option maxRecDepth 100000 in
theorem c_X0_removeFrom {l : Launch} {G : GT} {L0 : Nat} (hst : l.stackTraces = false) {r0 : Option Nat} {r1 : Option Nat} {w : Wd} {Q : Wd → Prop} (h : wp_X0_removeFrom r0 r1 w Q) : GMv l G L0 yX0_removeFrom cX0_removeFrom 3 none rm_X0_removeFrom [va_rf r0, va_rf r1] w Q := by
  refine g_enter hst (by decide +kernel) [.inr r0, .inr r1] rfl (show 2 ≤ 3 by decide) ?_
  intro p e s m args below meth c X hr hnm
  replace X : GC l G L0 p s m args meth c cX0_removeFrom 3 "SusuRing$Circle" := X
  refine g_iconst X (v := (0 : Int32)) dX0_removeFrom_0 (by decide) ?_
  refine g_istore_n X [(2, .inl (0 : Int32)), (0, .inr r0), (1, .inr r1)] dX0_removeFrom_1 rfl (by decide) rfl ?_
  obtain ⟨Inv2, ⟨n0, hi⟩, hsn1⟩ := h
  have lp2 : ∀ (n1 : Nat), ∀ (y3 : Int32) (w4 : Wd), Inv2 n1 y3 w4 → Gw l G L0 p e rm_X0_removeFrom s m args below meth c 3 (0) (0) (MQ below (gQv G L0 Q) args s rm_X0_removeFrom.cells rm_X0_removeFrom.slots (GA L0)) w4 2 [(0, .inr r0), (1, .inr r1), (2, .inl y3)] [] := by
    intro n1
    induction n1 using Nat.strongRecOn with
    | ind n1 ihn1 =>
      intro y3 w4 hI
      have h := hsn1 n1 y3 w4 hI
      clear hI
      refine g_iload_n X dX0_removeFrom_2 rfl 2 rfl ?_
      refine g_aload_n X dX0_removeFrom_3 rfl 0 rfl ?_
      obtain ⟨a5, rfl, hk, h⟩ := h
      refine g_callV_i X (As := []) (st := [.int y3]) (n := 0) (c_Jx4a65c_size_8abf5 hst h) rfl (by decide) hk (wE_6 G w4 a5) m_439 m_158 m_159 m_18 m_160 (by decide +kernel) (by decide +kernel) rfl rfl (by simp [cat_int, rf_cat]) ⟨(by decide +kernel), (by decide +kernel)⟩ dX0_removeFrom_4 (fun v7 w6 h => ?_)
      clear hk
      refine g_widen (c2 := (0)) (s2 := (0)) (by decide +kernel) (by decide +kernel) ?_
      refine g_icmp_ge X (tgt := 32) dX0_removeFrom_7 (by decide) (fun hc => ?_) (fun hc => ?_)
      · replace h := h.1 hc; clear hc
        exact g_vret X hr (by decide +kernel) (by decide +kernel) dX0_removeFrom_32 h
      · replace h := h.2 hc; clear hc
        refine g_aload_n X dX0_removeFrom_10 rfl 0 rfl ?_
        refine g_iload_n X dX0_removeFrom_11 rfl 2 rfl ?_
        have hk := h.1
        replace h := h.2
        refine g_callV_q X (As := [.int y3]) (st := []) (n := 1) (c_Jx4a65c_get_915e3 hst h) rfl (by decide) hk (wE_6 G w6 a5) m_440 m_316 m_317 m_18 m_318 (by decide +kernel) (by decide +kernel) rfl rfl (Nat.zero_le _) ⟨(by decide +kernel), (by decide +kernel)⟩ dX0_removeFrom_12 (fun z9 w8 h => ?_)
        clear hk
        refine g_widen (c2 := (0)) (s2 := (0)) (by decide +kernel) (by decide +kernel) ?_
        refine g_aload_n X dX0_removeFrom_15 rfl 1 rfl ?_
        refine g_acmp_ne X (tgt := 26) dX0_removeFrom_16 (by decide) (fun hc => ?_) (fun hc => ?_)
        · replace h := h.1 hc; clear hc
          refine g_iinc X dX0_removeFrom_26 2 rfl (d := (1 : Int32)) (by decide) (by decide) (fun v10 hv => ?_)
          replace h := h v10 hv; clear hv
          refine g_sub [0, 1, 2] [(2, .inl v10), (0, .inr (some a5)), (1, .inr r1)] rfl ?_
          refine g_goto X (tgt := 2) dX0_removeFrom_29 (by decide) ?_
          obtain ⟨n, hn, hI⟩ := h
          exact g_sub [1, 2, 0] [(0, .inr (some a5)), (1, .inr r1), (2, .inl v10)] rfl (ihn1 n hn v10 w8 hI)
        · replace h := h.2 hc; clear hc
          refine g_aload_n X dX0_removeFrom_19 rfl 0 rfl ?_
          refine g_iload_n X dX0_removeFrom_20 rfl 2 rfl ?_
          have hk := h.1
          replace h := h.2
          refine g_callV_q X (As := [.int y3]) (st := []) (n := 1) (c_Jx4a65c_remove_915e3 hst h) rfl (by decide) hk (wE_6 G w8 a5) m_512 m_513 m_514 m_18 m_515 (by decide +kernel) (by decide +kernel) rfl rfl (Nat.zero_le _) ⟨(by decide +kernel), (by decide +kernel)⟩ dX0_removeFrom_21 (fun z12 w11 h => ?_)
          clear hk
          refine g_widen (c2 := (0)) (s2 := (0)) (by decide +kernel) (by decide +kernel) ?_
          refine g_pop X dX0_removeFrom_24 rf_cat ?_
          exact g_vret X hr (by decide +kernel) (by decide +kernel) dX0_removeFrom_25 h
  exact g_sub [1, 2, 0] [(0, .inr r0), (1, .inr r1), (2, .inl (0 : Int32))] rfl (lp2 n0 (0 : Int32) w hi)

abbrev rm_X0_removePlace : Room := { frames := 5, cells := 0, slots := 0, locals := 188 }
def wp_X0_removePlace (a0 : Nat) (r1 : Option Nat) (w : Wd) (Q : Wd → Prop) : Prop :=
  w.K a0 = 1 ∧
  ∀ z1 : Option Nat, z1 = w.R 102 a0 →
  wp_X0_removeFrom z1 r1 w (fun w2 => 
  w2.K a0 = 1 ∧
  ∀ z3 : Option Nat, z3 = w2.R 103 a0 →
  wp_X0_removeFrom z3 r1 w2 (fun w4 => 
  w4.K a0 = 1 ∧
  wp_X0_endRoundIfAllHadTurns a0 w4 (fun w5 => 
  Q w5)))
set_option maxHeartbeats 4000000 in
set_option maxRecDepth 100000 in
theorem c_X0_removePlace {l : Launch} {G : GT} {L0 : Nat} (hst : l.stackTraces = false) {a0 : Nat} {r1 : Option Nat} {w : Wd} {Q : Wd → Prop} (h : wp_X0_removePlace a0 r1 w Q) : GMv l G L0 yX0_removePlace cX0_removePlace 2 none rm_X0_removePlace [.ref a0, va_rf r1] w Q := by
  refine g_enter hst (by decide +kernel) [.inr (some a0), .inr r1] rfl (show 2 ≤ 2 by decide) ?_
  intro p e s m args below meth c X hr hnm
  replace X : GC l G L0 p s m args meth c cX0_removePlace 2 "SusuRing$Circle" := X
  refine g_aload_n X dX0_removePlace_0 rfl 0 rfl ?_
  have hk := h.1
  replace h := h.2
  refine gg_102 X hk m_346 dX0_removePlace_1 (fun z1 hv => ?_)
  replace h := h z1 hv; clear hv hk
  refine g_aload_n X dX0_removePlace_4 rfl 1 rfl ?_
  refine g_callS_v X (As := [va_rf z1, va_rf r1]) (st := []) (n := 2) (c_X0_removeFrom hst h) m_509 m_510 m_24 m_511 (by decide +kernel) (by decide +kernel) rfl rfl (Nat.zero_le _) ⟨(by decide +kernel), (by decide +kernel)⟩ dX0_removePlace_5 (fun w2 h => ?_)
  refine g_widen (c2 := (0)) (s2 := (0)) (by decide +kernel) (by decide +kernel) ?_
  refine g_aload_n X dX0_removePlace_8 rfl 0 rfl ?_
  have hk := h.1
  replace h := h.2
  refine gg_103 X hk m_348 dX0_removePlace_9 (fun z3 hv => ?_)
  replace h := h z3 hv; clear hv hk
  refine g_aload_n X dX0_removePlace_12 rfl 1 rfl ?_
  refine g_callS_v X (As := [va_rf z3, va_rf r1]) (st := []) (n := 2) (c_X0_removeFrom hst h) m_509 m_510 m_24 m_511 (by decide +kernel) (by decide +kernel) rfl rfl (Nat.zero_le _) ⟨(by decide +kernel), (by decide +kernel)⟩ dX0_removePlace_13 (fun w4 h => ?_)
  refine g_widen (c2 := (0)) (s2 := (0)) (by decide +kernel) (by decide +kernel) ?_
  refine g_aload_n X dX0_removePlace_16 rfl 0 rfl ?_
  have hk := h.1
  replace h := h.2
  refine g_callV_v X (As := []) (st := []) (n := 0) (c_X0_endRoundIfAllHadTurns hst h) rfl (by decide) hk (wE_1 G w4 a0) m_521 m_522 m_523 m_24 m_524 (by decide +kernel) (by decide +kernel) rfl rfl (Nat.zero_le _) ⟨(by decide +kernel), (by decide +kernel)⟩ dX0_removePlace_17 (fun w5 h => ?_)
  clear hk
  refine g_widen (c2 := (0)) (s2 := (0)) (by decide +kernel) (by decide +kernel) ?_
  exact g_vret X hr (by decide +kernel) (by decide +kernel) dX0_removePlace_20 h

abbrev rm_X0_passOn : Room := { frames := 6, cells := 0, slots := 0, locals := 209 }
def wp_X0_passOn (a0 : Nat) (r1 : Option Nat) (r2 : Option Nat) (w : Wd) (Q : Int32 → Wd → Prop) : Prop :=
  w.K a0 = 1 ∧
  wp_X0_placeOf a0 r1 w (fun z2 w1 => 
  (¬ z2 = none → w1.K a0 = 1 ∧
  wp_X0_placeOf a0 r2 w1 (fun z4 w3 => 
  (¬ z4 = none → ∃ a5, z4 = some a5 ∧ w3.K a5 = 3 ∧
  ∀ v6 : Int32, v6 = w3.I 301 a5 →
  ∃ a7, z2 = some a7 ∧ w3.K a7 = 3 ∧
  ∀ v8 : Int32, v8 = w3.I 301 a7 →
  ∀ v9 : Int32, v9 = v6 + v8 →
  w3.K a5 = 3 ∧
  ∀ w10 : Wd, w10 = w3.setI 301 a5 v9 →
  w10.K a0 = 1 ∧
  wp_X0_removePlace a0 (some a7) w10 (fun w11 => 
  ((0 : Int32) = 0 ∨ (0 : Int32) = 1) ∧ Q (0 : Int32) w11)) ∧ (z4 = none → ∃ a12, z2 = some a12 ∧ w3.K a12 = 3 ∧
  ∀ w13 : Wd, w13 = w3.setR 300 a12 r2 →
  ((1 : Int32) = 0 ∨ (1 : Int32) = 1) ∧ Q (1 : Int32) w13))) ∧ (z2 = none → ((0 : Int32) = 0 ∨ (0 : Int32) = 1) ∧ Q (0 : Int32) w1))
set_option maxHeartbeats 4000000 in
set_option maxRecDepth 100000 in
theorem c_X0_passOn {l : Launch} {G : GT} {L0 : Nat} (hst : l.stackTraces = false) {a0 : Nat} {r1 : Option Nat} {r2 : Option Nat} {w : Wd} {Q : Int32 → Wd → Prop} (h : wp_X0_passOn a0 r1 r2 w Q) : GMi l G L0 yX0_passOn cX0_passOn 5 (some .boolean) rm_X0_passOn [.ref a0, va_rf r1, va_rf r2] w Q := by
  refine g_enter hst (by decide +kernel) [.inr (some a0), .inr r1, .inr r2] rfl (show 3 ≤ 5 by decide) ?_
  intro p e s m args below meth c X hr hnm
  replace X : GC l G L0 p s m args meth c cX0_passOn 5 "SusuRing$Circle" := X
  refine g_aload_n X dX0_passOn_0 rfl 0 rfl ?_
  refine g_aload_n X dX0_passOn_1 rfl 1 rfl ?_
  have hk := h.1
  replace h := h.2
  refine g_callV_q X (As := [va_rf r1]) (st := []) (n := 1) (c_X0_placeOf hst h) rfl (by decide) hk (wE_1 G w a0) m_504 m_432 m_433 m_24 m_434 (by decide +kernel) (by decide +kernel) rfl rfl (Nat.zero_le _) ⟨(by decide +kernel), (by decide +kernel)⟩ dX0_passOn_2 (fun z2 w1 h => ?_)
  clear hk
  refine g_widen (c2 := (0)) (s2 := (0)) (by decide +kernel) (by decide +kernel) ?_
  refine g_astore_n X [(3, .inr z2), (0, .inr (some a0)), (1, .inr r1), (2, .inr r2)] dX0_passOn_5 rfl (by decide) rfl ?_
  refine g_aload_n X dX0_passOn_6 rfl 0 rfl ?_
  refine g_ifnonnull X (tgt := 12) dX0_passOn_7 (by decide) (fun hc => ?_) (fun hc => ?_)
  · replace h := h.1 hc; clear hc
    refine g_aload_n X dX0_passOn_12 rfl 1 rfl ?_
    refine g_aload_n X dX0_passOn_13 rfl 3 rfl ?_
    have hk := h.1
    replace h := h.2
    refine g_callV_q X (As := [va_rf r2]) (st := []) (n := 1) (c_X0_placeOf hst h) rfl (by decide) hk (wE_1 G w1 a0) m_504 m_432 m_433 m_24 m_434 (by decide +kernel) (by decide +kernel) rfl rfl (Nat.zero_le _) ⟨(by decide +kernel), (by decide +kernel)⟩ dX0_passOn_14 (fun z4 w3 h => ?_)
    clear hk
    refine g_widen (c2 := (0)) (s2 := (0)) (by decide +kernel) (by decide +kernel) ?_
    refine g_astore X [(4, .inr z4), (3, .inr z2), (0, .inr (some a0)), (1, .inr r1), (2, .inr r2)] dX0_passOn_17 (by decide) rfl ?_
    refine g_aload X dX0_passOn_19 0 rfl ?_
    refine g_ifnonnull X (tgt := 31) dX0_passOn_21 (by decide) (fun hc => ?_) (fun hc => ?_)
    · replace h := h.1 hc; clear hc
      refine g_aload X dX0_passOn_31 0 rfl ?_
      refine g_dup X dX0_passOn_33 rf_cat ?_
      obtain ⟨a5, rfl, hk, h⟩ := h
      refine gg_301 X hk m_548 dX0_passOn_34 (fun v6 hv => ?_)
      replace h := h v6 hv; clear hv hk
      refine g_aload_n X dX0_passOn_37 rfl 1 rfl ?_
      obtain ⟨a7, rfl, hk, h⟩ := h
      refine gg_301 X hk m_548 dX0_passOn_38 (fun v8 hv => ?_)
      replace h := h v8 hv; clear hv hk
      refine g_iadd X dX0_passOn_41 (fun v9 hv => ?_)
      replace h := h v9 hv; clear hv
      have hk := h.1
      replace h := h.2
      refine gp_301 X hk m_548 dX0_passOn_42 (fun w10 hv => ?_)
      replace h := h w10 hv; clear hv hk
      refine g_aload_n X dX0_passOn_45 rfl 2 rfl ?_
      refine g_aload_n X dX0_passOn_46 rfl 1 rfl ?_
      have hk := h.1
      replace h := h.2
      refine g_callV_v X (As := [va_rf (some a7)]) (st := []) (n := 1) (c_X0_removePlace hst h) rfl (by decide) hk (wE_1 G w10 a0) m_505 m_506 m_507 m_24 m_508 (by decide +kernel) (by decide +kernel) rfl rfl (Nat.zero_le _) ⟨(by decide +kernel), (by decide +kernel)⟩ dX0_passOn_47 (fun w11 h => ?_)
      clear hk
      refine g_widen (c2 := (0)) (s2 := (0)) (by decide +kernel) (by decide +kernel) ?_
      refine g_iconst X (v := (0 : Int32)) dX0_passOn_50 (by decide) ?_
      exact g_zret X hr (by decide +kernel) (by decide +kernel) dX0_passOn_51 h.1 h.2
    · replace h := h.2 hc; clear hc
      refine g_aload_n X dX0_passOn_24 rfl 1 rfl ?_
      refine g_aload_n X dX0_passOn_25 rfl 4 rfl ?_
      obtain ⟨a12, rfl, hk, h⟩ := h
      refine gp_300 X hk m_545 dX0_passOn_26 (fun w13 hv => ?_)
      replace h := h w13 hv; clear hv hk
      refine g_iconst X (v := (1 : Int32)) dX0_passOn_29 (by decide) ?_
      exact g_zret X hr (by decide +kernel) (by decide +kernel) dX0_passOn_30 h.1 h.2
  · replace h := h.2 hc; clear hc
    refine g_iconst X (v := (0 : Int32)) dX0_passOn_10 (by decide) ?_
    exact g_zret X hr (by decide +kernel) (by decide +kernel) dX0_passOn_11 h.1 h.2
