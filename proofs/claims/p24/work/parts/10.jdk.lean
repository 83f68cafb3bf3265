abbrev rm_Jxa1e45_init_da8c8 : Room := { frames := 1, cells := 0, slots := 0, locals := 100 }
def wp_Jxa1e45_init_da8c8 (a0 : Nat) (w : Wd) (Q : Wd → Prop) : Prop :=
  Q w
set_option maxHeartbeats 4000000 in
set_option maxRecDepth 100000 in
theorem c_Jxa1e45_init_da8c8 {l : Launch} {G : GT} {L0 : Nat} (hst : l.stackTraces = false) {a0 : Nat} {w : Wd} {Q : Wd → Prop} (h : wp_Jxa1e45_init_da8c8 a0 w Q) : GMv l G L0 yJxa1e45_init_da8c8 cJxa1e45_init_da8c8 1 none rm_Jxa1e45_init_da8c8 [.ref a0] w Q := by
  refine g_enter hst (by decide +kernel) [.inr (some a0)] rfl (show 1 ≤ 1 by decide) ?_
  intro p e s m args below meth c X hr hnm
  replace X : GC l G L0 p s m args meth c cJxa1e45_init_da8c8 1 "java/util/AbstractCollection" := X
  refine g_aload_n X dJxa1e45_init_da8c8_0 rfl 0 rfl ?_
  refine g_objInit X m_53 m_40 m_41 (by decide) (by decide +kernel) dJxa1e45_init_da8c8_1 ?_
  exact g_vret X hr (by decide +kernel) (by decide +kernel) dJxa1e45_init_da8c8_4 h

abbrev rm_Jxc12de_init_da8c8 : Room := { frames := 2, cells := 0, slots := 0, locals := 120 }
def wp_Jxc12de_init_da8c8 (a0 : Nat) (w : Wd) (Q : Wd → Prop) : Prop :=
  wp_Jxa1e45_init_da8c8 a0 w (fun w1 => 
  w1.K a0 = 6 ∧
  ∀ w2 : Wd, w2 = w1.setI 600 a0 (0 : Int32) →
  Q w2)
set_option maxHeartbeats 4000000 in
set_option maxRecDepth 100000 in
theorem c_Jxc12de_init_da8c8 {l : Launch} {G : GT} {L0 : Nat} (hst : l.stackTraces = false) {a0 : Nat} {w : Wd} {Q : Wd → Prop} (h : wp_Jxc12de_init_da8c8 a0 w Q) : GMv l G L0 yJxc12de_init_da8c8 cJxc12de_init_da8c8 1 none rm_Jxc12de_init_da8c8 [.ref a0] w Q := by
  refine g_enter hst (by decide +kernel) [.inr (some a0)] rfl (show 1 ≤ 1 by decide) ?_
  intro p e s m args below meth c X hr hnm
  replace X : GC l G L0 p s m args meth c cJxc12de_init_da8c8 1 "java/util/AbstractList" := X
  refine g_aload_n X dJxc12de_init_da8c8_0 rfl 0 rfl ?_
  refine g_callI_v X (As := []) (st := []) (n := 0) (c_Jxa1e45_init_da8c8 hst h) m_50 m_51 rfl m_16 m_52 (by decide +kernel) (by decide +kernel) rfl rfl (Nat.zero_le _) ⟨(by decide +kernel), (by decide +kernel)⟩ dJxc12de_init_da8c8_1 (fun w1 h => ?_)
  refine g_widen (c2 := (0)) (s2 := (0)) (by decide +kernel) (by decide +kernel) ?_
  refine g_aload_n X dJxc12de_init_da8c8_4 rfl 0 rfl ?_
  refine g_iconst X (v := (0 : Int32)) dJxc12de_init_da8c8_5 (by decide) ?_
  have hk := h.1
  replace h := h.2
  refine gp_600 X hk _ (fun _ h => h) m_58 dJxc12de_init_da8c8_6 (fun w2 hv => ?_)
  replace h := h w2 hv; clear hv hk
  exact g_vret X hr (by decide +kernel) (by decide +kernel) dJxc12de_init_da8c8_9 h

abbrev rm_Jx4a65c_init_da8c8 : Room := { frames := 3, cells := 0, slots := 0, locals := 140 }
def wp_Jx4a65c_init_da8c8 (a0 : Nat) (w : Wd) (Q : Wd → Prop) : Prop :=
  wp_Jxc12de_init_da8c8 a0 w (fun w1 => 
  ∀ q2 : Nat, w1.K q2 = 15 → w1.N q2 = 0 → (∀ b, w1.K b = 15 → b = q2) →
  w1.K a0 = 6 ∧
  ∀ w3 : Wd, w3 = w1.setR 601 a0 (some q2) →
  Q w3)
set_option maxHeartbeats 4000000 in
set_option maxRecDepth 100000 in
theorem c_Jx4a65c_init_da8c8 {l : Launch} {G : GT} {L0 : Nat} (hst : l.stackTraces = false) {a0 : Nat} {w : Wd} {Q : Wd → Prop} (h : wp_Jx4a65c_init_da8c8 a0 w Q) : GMv l G L0 yJx4a65c_init_da8c8 cJx4a65c_init_da8c8 1 none rm_Jx4a65c_init_da8c8 [.ref a0] w Q := by
  refine g_enter hst (by decide +kernel) [.inr (some a0)] rfl (show 1 ≤ 1 by decide) ?_
  intro p e s m args below meth c X hr hnm
  replace X : GC l G L0 p s m args meth c cJx4a65c_init_da8c8 1 "java/util/ArrayList" := X
  refine g_aload_n X dJx4a65c_init_da8c8_0 rfl 0 rfl ?_
  refine g_callI_v X (As := []) (st := []) (n := 0) (c_Jxc12de_init_da8c8 hst h) m_47 m_48 rfl m_17 m_49 (by decide +kernel) (by decide +kernel) rfl rfl (Nat.zero_le _) ⟨(by decide +kernel), (by decide +kernel)⟩ dJx4a65c_init_da8c8_1 (fun w1 h => ?_)
  refine g_widen (c2 := (0)) (s2 := (0)) (by decide +kernel) (by decide +kernel) ?_
  refine g_aload_n X dJx4a65c_init_da8c8_4 rfl 0 rfl ?_
  refine g_empty X m_54 dJx4a65c_init_da8c8_5 (fun q2 h1 h2 h3 => ?_)
  replace h := h q2 h1 h2 h3; clear h1 h2 h3
  have hk := h.1
  replace h := h.2
  refine gp_601 X hk m_56 dJx4a65c_init_da8c8_8 (fun w3 hv => ?_)
  replace h := h w3 hv; clear hv hk
  exact g_vret X hr (by decide +kernel) (by decide +kernel) dJx4a65c_init_da8c8_11 h

abbrev rm_Jx4a65c_size_8abf5 : Room := { frames := 1, cells := 0, slots := 0, locals := 100 }
def wp_Jx4a65c_size_8abf5 (a0 : Nat) (w : Wd) (Q : Int32 → Wd → Prop) : Prop :=
  w.K a0 = 6 ∧
  ∀ v1 : Int32, v1 = w.I 602 a0 →
  Q v1 w
set_option maxHeartbeats 4000000 in
set_option maxRecDepth 100000 in
theorem c_Jx4a65c_size_8abf5 {l : Launch} {G : GT} {L0 : Nat} (hst : l.stackTraces = false) {a0 : Nat} {w : Wd} {Q : Int32 → Wd → Prop} (h : wp_Jx4a65c_size_8abf5 a0 w Q) : GMi l G L0 yJx4a65c_size_8abf5 cJx4a65c_size_8abf5 1 (some .int) rm_Jx4a65c_size_8abf5 [.ref a0] w Q := by
  refine g_enter hst (by decide +kernel) [.inr (some a0)] rfl (show 1 ≤ 1 by decide) ?_
  intro p e s m args below meth c X hr hnm
  replace X : GC l G L0 p s m args meth c cJx4a65c_size_8abf5 1 "java/util/ArrayList" := X
  refine g_aload_n X dJx4a65c_size_8abf5_0 rfl 0 rfl ?_
  have hk := h.1
  replace h := h.2
  refine gg_602 X hk m_57 dJx4a65c_size_8abf5_1 (fun v1 hv => ?_)
  replace h := h v1 hv; clear hv hk
  exact g_iret X hr (by decide +kernel) (by decide +kernel) dJx4a65c_size_8abf5_4 h

abbrev rm_J3_checkIndex_8e157 : Room := { frames := 1, cells := 0, slots := 0, locals := 100 }
def wp_J3_checkIndex_8e157 (x0 : Int32) (x1 : Int32) (r2 : Option Nat) (w : Wd) (Q : Int32 → Wd → Prop) : Prop :=
  ∃ J1 : Prop, (J1 →
  False) ∧
  (x0 < 0 → J1) ∧ (¬ x0 < 0 → (x0 < x1 → Q x0 w) ∧ (¬ x0 < x1 → J1))
set_option maxHeartbeats 4000000 in
set_option maxRecDepth 100000 in
theorem c_J3_checkIndex_8e157 {l : Launch} {G : GT} {L0 : Nat} (hst : l.stackTraces = false) {x0 : Int32} {x1 : Int32} {r2 : Option Nat} {w : Wd} {Q : Int32 → Wd → Prop} (h : wp_J3_checkIndex_8e157 x0 x1 r2 w Q) : GMi l G L0 yJ3_checkIndex_8e157 cJ3_checkIndex_8e157 3 (some .int) rm_J3_checkIndex_8e157 [.int x0, .int x1, va_rf r2] w Q := by
  refine g_enter hst (by decide +kernel) [.inl x0, .inl x1, .inr r2] rfl (show 3 ≤ 3 by decide) ?_
  intro p e s m args below meth c X hr hnm
  replace X : GC l G L0 p s m args meth c cJ3_checkIndex_8e157 3 "jdk/internal/util/Preconditions" := X
  refine g_iload_n X dJ3_checkIndex_8e157_0 rfl 0 rfl ?_
  obtain ⟨J1, hjJ1, h⟩ := h
  have jp1 : J1 → Gw l G L0 p e rm_J3_checkIndex_8e157 s m args below meth c 3 (0) (0) (MQ below (gQi G L0 Q) args s rm_J3_checkIndex_8e157.cells rm_J3_checkIndex_8e157.slots (GA L0)) w 9 [] [] := by
    intro hJ
    have h := hjJ1 hJ
    clear hJ
    exact h.elim
  refine g_if_lt X (tgt := 9) dJ3_checkIndex_8e157_1 (by decide) (fun hc => ?_) (fun hc => ?_)
  · replace h := h.1 hc; clear hc
    exact g_sub [] [] rfl (jp1  h)
  · replace h := h.2 hc; clear hc
    refine g_iload_n X dJ3_checkIndex_8e157_4 rfl 0 rfl ?_
    refine g_iload_n X dJ3_checkIndex_8e157_5 rfl 1 rfl ?_
    refine g_icmp_lt X (tgt := 16) dJ3_checkIndex_8e157_6 (by decide) (fun hc => ?_) (fun hc => ?_)
    · replace h := h.1 hc; clear hc
      refine g_iload_n X dJ3_checkIndex_8e157_16 rfl 0 rfl ?_
      exact g_iret X hr (by decide +kernel) (by decide +kernel) dJ3_checkIndex_8e157_17 h
    · replace h := h.2 hc; clear hc
      exact g_sub [] [] rfl (jp1  h)

abbrev rm_J15_checkIndex_7cf53 : Room := { frames := 2, cells := 0, slots := 0, locals := 122 }
def wp_J15_checkIndex_7cf53 (x0 : Int32) (x1 : Int32) (w : Wd) (Q : Int32 → Wd → Prop) : Prop :=
  wp_J3_checkIndex_8e157 x0 x1 none w (fun v2 w1 => 
  Q v2 w1)
set_option maxHeartbeats 4000000 in
set_option maxRecDepth 100000 in
theorem c_J15_checkIndex_7cf53 {l : Launch} {G : GT} {L0 : Nat} (hst : l.stackTraces = false) {x0 : Int32} {x1 : Int32} {w : Wd} {Q : Int32 → Wd → Prop} (h : wp_J15_checkIndex_7cf53 x0 x1 w Q) : GMi l G L0 yJ15_checkIndex_7cf53 cJ15_checkIndex_7cf53 2 (some .int) rm_J15_checkIndex_7cf53 [.int x0, .int x1] w Q := by
  refine g_enter hst (by decide +kernel) [.inl x0, .inl x1] rfl (show 2 ≤ 2 by decide) ?_
  intro p e s m args below meth c X hr hnm
  replace X : GC l G L0 p s m args meth c cJ15_checkIndex_7cf53 2 "java/util/Objects" := X
  refine g_iload_n X dJ15_checkIndex_7cf53_0 rfl 0 rfl ?_
  refine g_iload_n X dJ15_checkIndex_7cf53_1 rfl 1 rfl ?_
  refine g_null X dJ15_checkIndex_7cf53_2 ?_
  refine g_callS_i X (As := [.int x0, .int x1, va_rf none]) (st := []) (n := 3) (c_J3_checkIndex_8e157 hst h) m_322 m_323 m_32 m_324 (by decide +kernel) (by decide +kernel) rfl rfl (Nat.zero_le _) ⟨(by decide +kernel), (by decide +kernel)⟩ dJ15_checkIndex_7cf53_3 (fun v2 w1 h => ?_)
  refine g_widen (c2 := (0)) (s2 := (0)) (by decide +kernel) (by decide +kernel) ?_
  exact g_iret X hr (by decide +kernel) (by decide +kernel) dJ15_checkIndex_7cf53_6 h

abbrev rm_Jx4a65c_elementData_915e3 : Room := { frames := 1, cells := 0, slots := 0, locals := 100 }
def wp_Jx4a65c_elementData_915e3 (a0 : Nat) (x1 : Int32) (w : Wd) (Q : Option Nat → Wd → Prop) : Prop :=
  w.K a0 = 6 ∧
  ∀ z1 : Option Nat, z1 = w.R 601 a0 →
  ∃ a2, z1 = some a2 ∧ w.K a2 = 13 ∧
  ∃ j3 : Nat, x1 = nI j3 ∧ j3 < w.N a2 ∧ w.N a2 < 2 ^ 31 ∧
  ∀ z4 : Option Nat, z4 = w.O a2 j3 →
  Q z4 w
set_option maxHeartbeats 4000000 in
set_option maxRecDepth 100000 in
theorem c_Jx4a65c_elementData_915e3 {l : Launch} {G : GT} {L0 : Nat} (hst : l.stackTraces = false) {a0 : Nat} {x1 : Int32} {w : Wd} {Q : Option Nat → Wd → Prop} (h : wp_Jx4a65c_elementData_915e3 a0 x1 w Q) : GMq l G L0 yJx4a65c_elementData_915e3 cJx4a65c_elementData_915e3 2 (some (.object "java/lang/Object")) rm_Jx4a65c_elementData_915e3 [.ref a0, .int x1] w Q := by
  refine g_enter hst (by decide +kernel) [.inr (some a0), .inl x1] rfl (show 2 ≤ 2 by decide) ?_
  intro p e s m args below meth c X hr hnm
  replace X : GC l G L0 p s m args meth c cJx4a65c_elementData_915e3 2 "java/util/ArrayList" := X
  refine g_aload_n X dJx4a65c_elementData_915e3_0 rfl 0 rfl ?_
  have hk := h.1
  replace h := h.2
  refine gg_601 X hk m_56 dJx4a65c_elementData_915e3_1 (fun z1 hv => ?_)
  replace h := h z1 hv; clear hv hk
  refine g_iload_n X dJx4a65c_elementData_915e3_4 rfl 1 rfl ?_
  obtain ⟨a2, rfl, hk, h⟩ := h
  obtain ⟨j3, hi, hj, hN, h⟩ := h
  refine g_aald X hk hi hj hN dJx4a65c_elementData_915e3_5 (fun z4 hv => ?_)
  replace h := h z4 hv; clear hv hk hi hj hN
  exact g_aret X hr (Or.inl ⟨_, rfl⟩) (by decide +kernel) (by decide +kernel) dJx4a65c_elementData_915e3_6 h

abbrev rm_Jx4a65c_get_915e3 : Room := { frames := 3, cells := 0, slots := 0, locals := 143 }
def wp_Jx4a65c_get_915e3 (a0 : Nat) (x1 : Int32) (w : Wd) (Q : Option Nat → Wd → Prop) : Prop :=
  w.K a0 = 6 ∧
  ∀ v1 : Int32, v1 = w.I 602 a0 →
  wp_J15_checkIndex_7cf53 x1 v1 w (fun v3 w2 => 
  w2.K a0 = 6 ∧
  wp_Jx4a65c_elementData_915e3 a0 x1 w2 (fun z5 w4 => 
  Q z5 w4))
set_option maxHeartbeats 4000000 in
set_option maxRecDepth 100000 in
theorem c_Jx4a65c_get_915e3 {l : Launch} {G : GT} {L0 : Nat} (hst : l.stackTraces = false) {a0 : Nat} {x1 : Int32} {w : Wd} {Q : Option Nat → Wd → Prop} (h : wp_Jx4a65c_get_915e3 a0 x1 w Q) : GMq l G L0 yJx4a65c_get_915e3 cJx4a65c_get_915e3 2 (some (.object "java/lang/Object")) rm_Jx4a65c_get_915e3 [.ref a0, .int x1] w Q := by
  refine g_enter hst (by decide +kernel) [.inr (some a0), .inl x1] rfl (show 2 ≤ 2 by decide) ?_
  intro p e s m args below meth c X hr hnm
  replace X : GC l G L0 p s m args meth c cJx4a65c_get_915e3 2 "java/util/ArrayList" := X
  refine g_iload_n X dJx4a65c_get_915e3_0 rfl 1 rfl ?_
  refine g_aload_n X dJx4a65c_get_915e3_1 rfl 0 rfl ?_
  have hk := h.1
  replace h := h.2
  refine gg_602 X hk m_57 dJx4a65c_get_915e3_2 (fun v1 hv => ?_)
  replace h := h v1 hv; clear hv hk
  refine g_callS_i X (As := [.int x1, .int v1]) (st := []) (n := 2) (c_J15_checkIndex_7cf53 hst h) m_319 m_320 m_31 m_321 (by decide +kernel) (by decide +kernel) rfl rfl (Nat.zero_le _) ⟨(by decide +kernel), (by decide +kernel)⟩ dJx4a65c_get_915e3_5 (fun v3 w2 h => ?_)
  refine g_widen (c2 := (0)) (s2 := (0)) (by decide +kernel) (by decide +kernel) ?_
  refine g_pop X dJx4a65c_get_915e3_8 rfl ?_
  refine g_aload_n X dJx4a65c_get_915e3_9 rfl 0 rfl ?_
  refine g_iload_n X dJx4a65c_get_915e3_10 rfl 1 rfl ?_
  have hk := h.1
  replace h := h.2
  refine g_callV_q X (As := [.int x1]) (st := []) (n := 1) (c_Jx4a65c_elementData_915e3 hst h) rfl (by decide) hk (wE_6 G w2 a0) m_325 m_326 m_327 m_18 m_328 (by decide +kernel) (by decide +kernel) rfl rfl (Nat.zero_le _) ⟨(by decide +kernel), (by decide +kernel)⟩ dJx4a65c_get_915e3_11 (fun z5 w4 h => ?_)
  clear hk
  refine g_widen (c2 := (0)) (s2 := (0)) (by decide +kernel) (by decide +kernel) ?_
  exact g_aret X hr (Or.inl ⟨_, rfl⟩) (by decide +kernel) (by decide +kernel) dJx4a65c_get_915e3_14 h

abbrev rm_J8_newLength_cabcc : Room := { frames := 1, cells := 0, slots := 0, locals := 100 }
def wp_J8_newLength_cabcc (x0 : Int32) (x1 : Int32) (x2 : Int32) (w : Wd) (Q : Int32 → Wd → Prop) : Prop :=
  ∀ v1 : Int32, v1 = (if x1 < x2 then x2 else x1) →
  ∀ v2 : Int32, v2 = x0 + v1 →
  ∃ J3 : Prop, (J3 →
  False) ∧
  (v2 ≤ (0 : Int32) → J3) ∧ (¬ v2 ≤ (0 : Int32) → ((2147483639 : Int32) < v2 → J3) ∧ (¬ (2147483639 : Int32) < v2 → Q v2 w))
set_option maxHeartbeats 4000000 in
set_option maxRecDepth 100000 in
theorem c_J8_newLength_cabcc {l : Launch} {G : GT} {L0 : Nat} (hst : l.stackTraces = false) {x0 : Int32} {x1 : Int32} {x2 : Int32} {w : Wd} {Q : Int32 → Wd → Prop} (h : wp_J8_newLength_cabcc x0 x1 x2 w Q) : GMi l G L0 yJ8_newLength_cabcc cJ8_newLength_cabcc 4 (some .int) rm_J8_newLength_cabcc [.int x0, .int x1, .int x2] w Q := by
  refine g_enter hst (by decide +kernel) [.inl x0, .inl x1, .inl x2] rfl (show 3 ≤ 4 by decide) ?_
  intro p e s m args below meth c X hr hnm
  replace X : GC l G L0 p s m args meth c cJ8_newLength_cabcc 4 "jdk/internal/util/ArraysSupport" := X
  refine g_iload_n X dJ8_newLength_cabcc_0 rfl 0 rfl ?_
  refine g_iload_n X dJ8_newLength_cabcc_1 rfl 1 rfl ?_
  refine g_iload_n X dJ8_newLength_cabcc_2 rfl 2 rfl ?_
  refine g_mmax X m_255 m_256 m_26 m_257 (by decide) (by show _ ≤ 100; simp [cat_int, rf_cat, nativeFrameWords]) (by decide +kernel) (by decide +kernel) dJ8_newLength_cabcc_3 (fun v1 hv => ?_)
  replace h := h v1 hv; clear hv
  refine g_iadd X dJ8_newLength_cabcc_6 (fun v2 hv => ?_)
  replace h := h v2 hv; clear hv
  refine g_istore_n X [(3, .inl v2), (0, .inl x0), (1, .inl x1), (2, .inl x2)] dJ8_newLength_cabcc_7 rfl (by decide) rfl ?_
  refine g_iconst X (v := (0 : Int32)) dJ8_newLength_cabcc_8 (by decide) ?_
  refine g_iload_n X dJ8_newLength_cabcc_9 rfl 0 rfl ?_
  obtain ⟨J3, hjJ3, h⟩ := h
  have jp3 : J3 → Gw l G L0 p e rm_J8_newLength_cabcc s m args below meth c 4 (0) (0) (MQ below (gQi G L0 Q) args s rm_J8_newLength_cabcc.cells rm_J8_newLength_cabcc.slots (GA L0)) w 21 [] [] := by
    intro hJ
    have h := hjJ3 hJ
    clear hJ
    exact h.elim
  refine g_icmp_ge X (tgt := 21) dJ8_newLength_cabcc_10 (by decide) (fun hc => ?_) (fun hc => ?_)
  · replace h := h.1 hc; clear hc
    exact g_sub [] [] rfl (jp3  h)
  · replace h := h.2 hc; clear hc
    refine g_iload_n X dJ8_newLength_cabcc_13 rfl 0 rfl ?_
    refine g_ldc X (v := (2147483639 : Int32)) m_258 dJ8_newLength_cabcc_14 ?_
    refine g_icmp_gt X (tgt := 21) dJ8_newLength_cabcc_16 (by decide) (fun hc => ?_) (fun hc => ?_)
    · replace h := h.1 hc; clear hc
      exact g_sub [] [] rfl (jp3  h)
    · replace h := h.2 hc; clear hc
      refine g_iload_n X dJ8_newLength_cabcc_19 rfl 0 rfl ?_
      exact g_iret X hr (by decide +kernel) (by decide +kernel) dJ8_newLength_cabcc_20 h

abbrev rm_Jx4a65c_grow_92f84 : Room := { frames := 3, cells := 2, slots := 128, locals := 171 }
def wp_Jx4a65c_grow_92f84 (a0 : Nat) (x1 : Int32) (w : Wd) (Q : Option Nat → Wd → Prop) : Prop :=
  w.K a0 = 6 ∧
  ∀ z1 : Option Nat, z1 = w.R 601 a0 →
  ∃ a2, z1 = some a2 ∧
  ∃ k4, w.K a2 = k4 ∧ (k4 = 11 ∨ k4 = 13 ∨ k4 = 15) ∧ ∀ v3 : Int32, v3 = nI (w.N a2) →
  ∃ J5 : Prop, (J5 →
  ∀ v6 : Int32, v6 = x1 - v3 →
  ∀ v7 : Int32, v7 = v3 >>> ((1 : Int32) &&& 31) →
  wp_J8_newLength_cabcc v3 v6 v7 w (fun v9 w8 => 
  w8.K a0 = 6 ∧
  ∀ z10 : Option Nat, z10 = w8.R 601 a0 →
  wp_J7_copyOf_1904c z10 v9 w8 (fun z12 w11 => 
  w11.K a0 = 6 ∧
  ∀ w13 : Wd, w13 = w11.setR 601 a0 z12 →
  Q z12 w13))) ∧
  (0 < v3 → J5) ∧ (¬ 0 < v3 → w.K a0 = 6 ∧
  ∀ z14 : Option Nat, z14 = w.R 601 a0 →
  ∀ q15 : Nat, w.K q15 = 15 → w.N q15 = 0 → (∀ b, w.K b = 15 → b = q15) →
  (z14 = (some q15) → ∀ v16 : Int32, v16 = (if (10 : Int32) < x1 then x1 else (10 : Int32)) →
  ∃ k19 : Nat, v16 = nI k19 ∧ k19 ≤ 64 ∧
  ∀ q17 : Nat, w.K q17 = 0 → ∀ w18 : Wd, w18 = w.newA 13 q17 k19 →
  w18.K a0 = 6 ∧
  ∀ w20 : Wd, w20 = w18.setR 601 a0 (some q17) →
  Q (some q17) w20) ∧ (¬ z14 = (some q15) → J5))
set_option maxHeartbeats 4000000 in
set_option maxRecDepth 100000 in
theorem c_Jx4a65c_grow_92f84 {l : Launch} {G : GT} {L0 : Nat} (hst : l.stackTraces = false) {a0 : Nat} {x1 : Int32} {w : Wd} {Q : Option Nat → Wd → Prop} (h : wp_Jx4a65c_grow_92f84 a0 x1 w Q) : GMq l G L0 yJx4a65c_grow_92f84 cJx4a65c_grow_92f84 4 (some (.array (.object "java/lang/Object"))) rm_Jx4a65c_grow_92f84 [.ref a0, .int x1] w Q := by
  refine g_enter hst (by decide +kernel) [.inr (some a0), .inl x1] rfl (show 2 ≤ 4 by decide) ?_
  intro p e s m args below meth c X hr hnm
  replace X : GC l G L0 p s m args meth c cJx4a65c_grow_92f84 4 "java/util/ArrayList" := X
  refine g_aload_n X dJx4a65c_grow_92f84_0 rfl 0 rfl ?_
  have hk := h.1
  replace h := h.2
  refine gg_601 X hk m_56 dJx4a65c_grow_92f84_1 (fun z1 hv => ?_)
  replace h := h z1 hv; clear hv hk
  obtain ⟨a2, rfl, h⟩ := h
  obtain ⟨k4, h1, h2, h⟩ := h
  refine g_alen X h1 h2 dJx4a65c_grow_92f84_4 (fun v3 hv => ?_)
  replace h := h v3 hv; clear hv h1 h2
  refine g_istore_n X [(2, .inl v3), (0, .inr (some a0)), (1, .inl x1)] dJx4a65c_grow_92f84_5 rfl (by decide) rfl ?_
  refine g_iload_n X dJx4a65c_grow_92f84_6 rfl 0 rfl ?_
  obtain ⟨J5, hjJ5, h⟩ := h
  have jp5 : J5 → Gw l G L0 p e rm_Jx4a65c_grow_92f84 s m args below meth c 4 (0) (0) (MQ below (gQq G L0 Q) args s rm_Jx4a65c_grow_92f84.cells rm_Jx4a65c_grow_92f84.slots (GA L0)) w 20 [(0, .inr (some a0)), (1, .inl x1), (2, .inl v3)] [] := by
    intro hJ
    have h := hjJ5 hJ
    clear hJ
    refine g_iload_n X dJx4a65c_grow_92f84_20 rfl 2 rfl ?_
    refine g_iload_n X dJx4a65c_grow_92f84_21 rfl 1 rfl ?_
    refine g_iload_n X dJx4a65c_grow_92f84_22 rfl 2 rfl ?_
    refine g_isub X dJx4a65c_grow_92f84_23 (fun v6 hv => ?_)
    replace h := h v6 hv; clear hv
    refine g_iload_n X dJx4a65c_grow_92f84_24 rfl 2 rfl ?_
    refine g_iconst X (v := (1 : Int32)) dJx4a65c_grow_92f84_25 (by decide) ?_
    refine g_ishr X dJx4a65c_grow_92f84_26 (fun v7 hv => ?_)
    replace h := h v7 hv; clear hv
    refine g_callS_i X (As := [.int v3, .int v6, .int v7]) (st := []) (n := 3) (c_J8_newLength_cabcc hst h) m_252 m_253 m_25 m_254 (by decide +kernel) (by decide +kernel) rfl rfl (Nat.zero_le _) ⟨(by decide +kernel), (by decide +kernel)⟩ dJx4a65c_grow_92f84_27 (fun v9 w8 h => ?_)
    refine g_widen (c2 := (0)) (s2 := (0)) (by decide +kernel) (by decide +kernel) ?_
    refine g_istore_n X [(3, .inl v9), (0, .inr (some a0)), (1, .inl x1), (2, .inl v3)] dJx4a65c_grow_92f84_30 rfl (by decide) rfl ?_
    refine g_aload_n X dJx4a65c_grow_92f84_31 rfl 1 rfl ?_
    refine g_aload_n X dJx4a65c_grow_92f84_32 rfl 1 rfl ?_
    have hk := h.1
    replace h := h.2
    refine gg_601 X hk m_56 dJx4a65c_grow_92f84_33 (fun z10 hv => ?_)
    replace h := h z10 hv; clear hv hk
    refine g_iload_n X dJx4a65c_grow_92f84_36 rfl 0 rfl ?_
    refine g_callS_q X (As := [va_rf z10, .int v9]) (st := [va_rf (some a0)]) (n := 2) (c_J7_copyOf_1904c hst h) m_262 m_263 m_27 m_264 (by decide +kernel) (by decide +kernel) rfl rfl (by simp [cat_int, rf_cat]) ⟨(by decide +kernel), (by decide +kernel)⟩ dJx4a65c_grow_92f84_37 (fun z12 w11 h => ?_)
    refine g_widen (c2 := (1)) (s2 := (64)) (by decide +kernel) (by decide +kernel) ?_
    refine g_dup_x1 X dJx4a65c_grow_92f84_40 rf_cat rf_cat ?_
    have hk := h.1
    replace h := h.2
    refine gp_601 X hk m_56 dJx4a65c_grow_92f84_41 (fun w13 hv => ?_)
    replace h := h w13 hv; clear hv hk
    exact g_aret X hr (Or.inr ⟨_, rfl⟩) (by decide +kernel) (by decide +kernel) dJx4a65c_grow_92f84_44 h
  refine g_if_gt X (tgt := 20) dJx4a65c_grow_92f84_7 (by decide) (fun hc => ?_) (fun hc => ?_)
  · replace h := h.1 hc; clear hc
    exact g_sub [1, 2, 0] [(0, .inr (some a0)), (1, .inl x1), (2, .inl v3)] rfl (jp5  h)
  · replace h := h.2 hc; clear hc
    refine g_aload_n X dJx4a65c_grow_92f84_10 rfl 1 rfl ?_
    have hk := h.1
    replace h := h.2
    refine gg_601 X hk m_56 dJx4a65c_grow_92f84_11 (fun z14 hv => ?_)
    replace h := h z14 hv; clear hv hk
    refine g_empty X m_54 dJx4a65c_grow_92f84_14 (fun q15 h1 h2 h3 => ?_)
    replace h := h q15 h1 h2 h3; clear h1 h2 h3
    refine g_acmp_eq X (tgt := 45) dJx4a65c_grow_92f84_17 (by decide) (fun hc => ?_) (fun hc => ?_)
    · replace h := h.1 hc; clear hc
      refine g_aload_n X dJx4a65c_grow_92f84_45 rfl 1 rfl ?_
      refine g_bipush X (v := (10 : Int32)) dJx4a65c_grow_92f84_46 (by decide) ?_
      refine g_iload_n X dJx4a65c_grow_92f84_48 rfl 2 rfl ?_
      refine g_mmax X m_289 m_256 m_26 m_257 (by decide) (by show _ ≤ 171; simp [cat_int, rf_cat, nativeFrameWords]) (by decide +kernel) (by decide +kernel) dJx4a65c_grow_92f84_49 (fun v16 hv => ?_)
      replace h := h v16 hv; clear hv
      obtain ⟨k19, hi, hn, h⟩ := h
      refine g_newO X m_290 hi (by omega) (by have e1 : rm_Jx4a65c_grow_92f84.cells = 2 := rfl; omega) (by have e2 : rm_Jx4a65c_grow_92f84.slots = 128 := rfl; omega) dJx4a65c_grow_92f84_52 (fun q17 h1 w18 hv => ?_)
      replace h := h q17 h1 w18 hv; clear hv h1 hi
      refine g_widen (c2 := (1)) (s2 := (64)) (by omega) (by omega) ?_
      clear hn
      refine g_dup_x1 X dJx4a65c_grow_92f84_55 rf_cat rf_cat ?_
      have hk := h.1
      replace h := h.2
      refine gp_601 X hk m_56 dJx4a65c_grow_92f84_56 (fun w20 hv => ?_)
      replace h := h w20 hv; clear hv hk
      exact g_aret X hr (Or.inr ⟨_, rfl⟩) (by decide +kernel) (by decide +kernel) dJx4a65c_grow_92f84_59 h
    · replace h := h.2 hc; clear hc
      exact g_sub [1, 2, 0] [(0, .inr (some a0)), (1, .inl x1), (2, .inl v3)] rfl (jp5  h)

abbrev rm_Jx4a65c_grow_d5877 : Room := { frames := 4, cells := 2, slots := 128, locals := 194 }
def wp_Jx4a65c_grow_d5877 (a0 : Nat) (w : Wd) (Q : Option Nat → Wd → Prop) : Prop :=
  w.K a0 = 6 ∧
  ∀ v1 : Int32, v1 = w.I 602 a0 →
  ∀ v2 : Int32, v2 = v1 + (1 : Int32) →
  w.K a0 = 6 ∧
  wp_Jx4a65c_grow_92f84 a0 v2 w (fun z4 w3 => 
  Q z4 w3)
set_option maxHeartbeats 4000000 in
set_option maxRecDepth 100000 in
theorem c_Jx4a65c_grow_d5877 {l : Launch} {G : GT} {L0 : Nat} (hst : l.stackTraces = false) {a0 : Nat} {w : Wd} {Q : Option Nat → Wd → Prop} (h : wp_Jx4a65c_grow_d5877 a0 w Q) : GMq l G L0 yJx4a65c_grow_d5877 cJx4a65c_grow_d5877 1 (some (.array (.object "java/lang/Object"))) rm_Jx4a65c_grow_d5877 [.ref a0] w Q := by
  refine g_enter hst (by decide +kernel) [.inr (some a0)] rfl (show 1 ≤ 1 by decide) ?_
  intro p e s m args below meth c X hr hnm
  replace X : GC l G L0 p s m args meth c cJx4a65c_grow_d5877 1 "java/util/ArrayList" := X
  refine g_aload_n X dJx4a65c_grow_d5877_0 rfl 0 rfl ?_
  refine g_aload_n X dJx4a65c_grow_d5877_1 rfl 0 rfl ?_
  have hk := h.1
  replace h := h.2
  refine gg_602 X hk m_57 dJx4a65c_grow_d5877_2 (fun v1 hv => ?_)
  replace h := h v1 hv; clear hv hk
  refine g_iconst X (v := (1 : Int32)) dJx4a65c_grow_d5877_5 (by decide) ?_
  refine g_iadd X dJx4a65c_grow_d5877_6 (fun v2 hv => ?_)
  replace h := h v2 hv; clear hv
  have hk := h.1
  replace h := h.2
  refine g_callV_q X (As := [.int v2]) (st := []) (n := 1) (c_Jx4a65c_grow_92f84 hst h) rfl (by decide) hk (wE_6 G w a0) m_248 m_250 m_3 m_18 m_251 (by decide +kernel) (by decide +kernel) rfl rfl (Nat.zero_le _) ⟨(by decide +kernel), (by decide +kernel)⟩ dJx4a65c_grow_d5877_7 (fun z4 w3 h => ?_)
  clear hk
  refine g_widen (c2 := (2)) (s2 := (128)) (by decide +kernel) (by decide +kernel) ?_
  exact g_aret X hr (Or.inr ⟨_, rfl⟩) (by decide +kernel) (by decide +kernel) dJx4a65c_grow_d5877_10 h

abbrev rm_Jx4a65c_add_72be8 : Room := { frames := 5, cells := 2, slots := 128, locals := 214 }
def wp_Jx4a65c_add_72be8 (a0 : Nat) (r1 : Option Nat) (r2 : Option Nat) (x3 : Int32) (w : Wd) (Q : Wd → Prop) : Prop :=
  ∃ a1, r2 = some a1 ∧
  ∃ k3, w.K a1 = k3 ∧ (k3 = 11 ∨ k3 = 13 ∨ k3 = 15) ∧ ∀ v2 : Int32, v2 = nI (w.N a1) →
  ∃ J4 : Option Nat → Wd → Prop, (∀ (q5 : Option Nat) (w6 : Wd), J4 q5 w6 →
  ∃ a7, q5 = some a7 ∧ w6.K a7 = 13 ∧
  ∃ j8 : Nat, x3 = nI j8 ∧ j8 < w6.N a7 ∧ w6.N a7 < 2 ^ 31 ∧
  (∀ y9, r1 = some y9 → w6.K y9 = 1 ∨ w6.K y9 = 2 ∨ w6.K y9 = 3) ∧
  ∀ w10 : Wd, w10 = w6.setO a7 j8 r1 →
  ∀ v11 : Int32, v11 = x3 + (1 : Int32) →
  w10.K a0 = 6 ∧
  ∀ w12 : Wd, w12 = w10.setI 602 a0 v11 →
  Q w12) ∧
  (¬ x3 = v2 → J4 (some a1) w) ∧ (x3 = v2 → w.K a0 = 6 ∧
  wp_Jx4a65c_grow_d5877 a0 w (fun z14 w13 => 
  J4 z14 w13))
set_option maxHeartbeats 4000000 in
set_option maxRecDepth 100000 in
theorem c_Jx4a65c_add_72be8 {l : Launch} {G : GT} {L0 : Nat} (hst : l.stackTraces = false) {a0 : Nat} {r1 : Option Nat} {r2 : Option Nat} {x3 : Int32} {w : Wd} {Q : Wd → Prop} (h : wp_Jx4a65c_add_72be8 a0 r1 r2 x3 w Q) : GMv l G L0 yJx4a65c_add_72be8 cJx4a65c_add_72be8 4 none rm_Jx4a65c_add_72be8 [.ref a0, va_rf r1, va_rf r2, .int x3] w Q := by
  refine g_enter hst (by decide +kernel) [.inr (some a0), .inr r1, .inr r2, .inl x3] rfl (show 4 ≤ 4 by decide) ?_
  intro p e s m args below meth c X hr hnm
  replace X : GC l G L0 p s m args meth c cJx4a65c_add_72be8 4 "java/util/ArrayList" := X
  refine g_iload_n X dJx4a65c_add_72be8_0 rfl 3 rfl ?_
  refine g_aload_n X dJx4a65c_add_72be8_1 rfl 2 rfl ?_
  obtain ⟨a1, rfl, h⟩ := h
  obtain ⟨k3, h1, h2, h⟩ := h
  refine g_alen X h1 h2 dJx4a65c_add_72be8_2 (fun v2 hv => ?_)
  replace h := h v2 hv; clear hv h1 h2
  obtain ⟨J4, hjJ4, h⟩ := h
  have jp4 : ∀ (q5 : Option Nat) (w6 : Wd), J4 q5 w6 → Gw l G L0 p e rm_Jx4a65c_add_72be8 s m args below meth c 4 (2) (128) (MQ below (gQv G L0 Q) args s rm_Jx4a65c_add_72be8.cells rm_Jx4a65c_add_72be8.slots (GA L0)) w6 11 [(0, .inr (some a0)), (1, .inr r1), (2, .inr q5), (3, .inl x3)] [] := by
    intro q5 w6 hJ
    have h := hjJ4 q5 w6 hJ
    clear hJ
    refine g_aload_n X dJx4a65c_add_72be8_11 rfl 2 rfl ?_
    refine g_iload_n X dJx4a65c_add_72be8_12 rfl 3 rfl ?_
    refine g_aload_n X dJx4a65c_add_72be8_13 rfl 1 rfl ?_
    obtain ⟨a7, rfl, hk, h⟩ := h
    obtain ⟨j8, hi, hj, hN, h⟩ := h
    have hr := h.1
    replace h := h.2
    refine g_aast X hk hi hj hN hr dJx4a65c_add_72be8_14 (fun w10 hv => ?_)
    replace h := h w10 hv; clear hv hk hi hj hN hr
    refine g_aload_n X dJx4a65c_add_72be8_15 rfl 0 rfl ?_
    refine g_iload_n X dJx4a65c_add_72be8_16 rfl 3 rfl ?_
    refine g_iconst X (v := (1 : Int32)) dJx4a65c_add_72be8_17 (by decide) ?_
    refine g_iadd X dJx4a65c_add_72be8_18 (fun v11 hv => ?_)
    replace h := h v11 hv; clear hv
    have hk := h.1
    replace h := h.2
    refine gp_602 X hk m_57 dJx4a65c_add_72be8_19 (fun w12 hv => ?_)
    replace h := h w12 hv; clear hv hk
    exact g_vret X hr (by decide +kernel) (by decide +kernel) dJx4a65c_add_72be8_22 h
  refine g_icmp_ne X (tgt := 11) dJx4a65c_add_72be8_3 (by decide) (fun hc => ?_) (fun hc => ?_)
  · replace h := h.1 hc; clear hc
    refine g_widen (c2 := (2)) (s2 := (128)) (by decide) (by decide) ?_
    exact g_sub [0, 1, 2, 3] [(0, .inr (some a0)), (1, .inr r1), (2, .inr (some a1)), (3, .inl x3)] rfl (jp4 (some a1) w h)
  · replace h := h.2 hc; clear hc
    refine g_aload_n X dJx4a65c_add_72be8_6 rfl 0 rfl ?_
    have hk := h.1
    replace h := h.2
    refine g_callV_q X (As := []) (st := []) (n := 0) (c_Jx4a65c_grow_d5877 hst h) rfl (by decide) hk (wE_6 G w a0) m_244 m_246 m_2 m_18 m_247 (by decide +kernel) (by decide +kernel) rfl rfl (Nat.zero_le _) ⟨(by decide +kernel), (by decide +kernel)⟩ dJx4a65c_add_72be8_7 (fun z14 w13 h => ?_)
    clear hk
    refine g_widen (c2 := (2)) (s2 := (128)) (by decide +kernel) (by decide +kernel) ?_
    refine g_astore_n X [(2, .inr z14), (0, .inr (some a0)), (1, .inr r1), (3, .inl x3)] dJx4a65c_add_72be8_10 rfl (by decide) rfl ?_
    exact g_sub [1, 2, 0, 3] [(0, .inr (some a0)), (1, .inr r1), (2, .inr z14), (3, .inl x3)] rfl (jp4 z14 w13 h)

abbrev rm_Jx4a65c_add_9ea2d : Room := { frames := 6, cells := 2, slots := 128, locals := 237 }
def wp_Jx4a65c_add_9ea2d (a0 : Nat) (r1 : Option Nat) (w : Wd) (Q : Int32 → Wd → Prop) : Prop :=
  w.K a0 = 6 ∧
  ∀ v1 : Int32, v1 = w.I 600 a0 →
  ∀ v2 : Int32, v2 = v1 + (1 : Int32) →
  w.K a0 = 6 ∧
  ∀ w3 : Wd, w3 = w.setI 600 a0 v2 →
  w3.K a0 = 6 ∧
  ∀ z4 : Option Nat, z4 = w3.R 601 a0 →
  w3.K a0 = 6 ∧
  ∀ v5 : Int32, v5 = w3.I 602 a0 →
  w3.K a0 = 6 ∧
  wp_Jx4a65c_add_72be8 a0 r1 z4 v5 w3 (fun w6 => 
  ((1 : Int32) = 0 ∨ (1 : Int32) = 1) ∧ Q (1 : Int32) w6)
set_option maxHeartbeats 4000000 in
set_option maxRecDepth 100000 in
theorem c_Jx4a65c_add_9ea2d {l : Launch} {G : GT} {L0 : Nat} (hst : l.stackTraces = false) {a0 : Nat} {r1 : Option Nat} {w : Wd} {Q : Int32 → Wd → Prop} (h : wp_Jx4a65c_add_9ea2d a0 r1 w Q) : GMi l G L0 yJx4a65c_add_9ea2d cJx4a65c_add_9ea2d 2 (some .boolean) rm_Jx4a65c_add_9ea2d [.ref a0, va_rf r1] w Q := by
  refine g_enter hst (by decide +kernel) [.inr (some a0), .inr r1] rfl (show 2 ≤ 2 by decide) ?_
  intro p e s m args below meth c X hr hnm
  replace X : GC l G L0 p s m args meth c cJx4a65c_add_9ea2d 2 "java/util/ArrayList" := X
  refine g_aload_n X dJx4a65c_add_9ea2d_0 rfl 0 rfl ?_
  refine g_dup X dJx4a65c_add_9ea2d_1 rf_cat ?_
  have hk := h.1
  replace h := h.2
  refine gg_600 X hk _ (fun x hx => u_same (X.1.2.2.2.2 _ m_60) x hx) m_59 dJx4a65c_add_9ea2d_2 (fun v1 hv => ?_)
  replace h := h v1 hv; clear hv hk
  refine g_iconst X (v := (1 : Int32)) dJx4a65c_add_9ea2d_5 (by decide) ?_
  refine g_iadd X dJx4a65c_add_9ea2d_6 (fun v2 hv => ?_)
  replace h := h v2 hv; clear hv
  have hk := h.1
  replace h := h.2
  refine gp_600 X hk _ (fun x hx => u_same (X.1.2.2.2.2 _ m_60) x hx) m_59 dJx4a65c_add_9ea2d_7 (fun w3 hv => ?_)
  replace h := h w3 hv; clear hv hk
  refine g_aload_n X dJx4a65c_add_9ea2d_10 rfl 0 rfl ?_
  refine g_aload_n X dJx4a65c_add_9ea2d_11 rfl 1 rfl ?_
  refine g_aload_n X dJx4a65c_add_9ea2d_12 rfl 0 rfl ?_
  have hk := h.1
  replace h := h.2
  refine gg_601 X hk m_56 dJx4a65c_add_9ea2d_13 (fun z4 hv => ?_)
  replace h := h z4 hv; clear hv hk
  refine g_aload_n X dJx4a65c_add_9ea2d_16 rfl 0 rfl ?_
  have hk := h.1
  replace h := h.2
  refine gg_602 X hk m_57 dJx4a65c_add_9ea2d_17 (fun v5 hv => ?_)
  replace h := h v5 hv; clear hv hk
  have hk := h.1
  replace h := h.2
  refine g_callV_v X (As := [va_rf r1, va_rf z4, .int v5]) (st := []) (n := 3) (c_Jx4a65c_add_72be8 hst h) rfl (by decide) hk (wE_6 G w3 a0) m_240 m_242 m_1 m_18 m_243 (by decide +kernel) (by decide +kernel) rfl rfl (Nat.zero_le _) ⟨(by decide +kernel), (by decide +kernel)⟩ dJx4a65c_add_9ea2d_20 (fun w6 h => ?_)
  clear hk
  refine g_widen (c2 := (2)) (s2 := (128)) (by decide +kernel) (by decide +kernel) ?_
  refine g_iconst X (v := (1 : Int32)) dJx4a65c_add_9ea2d_23 (by decide) ?_
  exact g_zret X hr (by decide +kernel) (by decide +kernel) dJx4a65c_add_9ea2d_24 h.1 h.2

abbrev rm_Jx4a65c_fastRemove_b59b0 : Room := { frames := 1, cells := 0, slots := 0, locals := 100 }
def wp_Jx4a65c_fastRemove_b59b0 (a0 : Nat) (r1 : Option Nat) (x2 : Int32) (w : Wd) (Q : Wd → Prop) : Prop :=
  w.K a0 = 6 ∧
  ∀ v1 : Int32, v1 = w.I 600 a0 →
  ∀ v2 : Int32, v2 = v1 + (1 : Int32) →
  w.K a0 = 6 ∧
  ∀ w3 : Wd, w3 = w.setI 600 a0 v2 →
  w3.K a0 = 6 ∧
  ∀ v4 : Int32, v4 = w3.I 602 a0 →
  ∀ v5 : Int32, v5 = v4 - (1 : Int32) →
  ∃ J6 : Wd → Prop, (∀  (w7 : Wd), J6 w7 →
  w7.K a0 = 6 ∧
  ∀ w8 : Wd, w8 = w7.setI 602 a0 v5 →
  ∃ a9, r1 = some a9 ∧ w8.K a9 = 13 ∧
  ∃ j10 : Nat, v5 = nI j10 ∧ j10 < w8.N a9 ∧ w8.N a9 < 2 ^ 31 ∧
  (∀ y11, none = some y11 → w8.K y11 = 1 ∨ w8.K y11 = 2 ∨ w8.K y11 = 3) ∧
  ∀ w12 : Wd, w12 = w8.setO a9 j10 none →
  Q w12) ∧
  (v5 ≤ x2 → J6 w3) ∧ (¬ v5 ≤ x2 → ∀ v13 : Int32, v13 = x2 + (1 : Int32) →
  ∀ v14 : Int32, v14 = v5 - x2 →
  ∃ a15, r1 = some a15 ∧
  ∃ j16 j17 j18 : Nat, w3.K a15 = 13 ∧ w3.K a15 = 13 ∧ v13 = nI j16 ∧ x2 = nI j17 ∧ v14 = nI j18 ∧ j16 + j18 ≤ w3.N a15 ∧ j17 + j18 ≤ w3.N a15 ∧ w3.N a15 < 2 ^ 31 ∧ w3.N a15 < 2 ^ 31 ∧ (∀ t20, t20 < j18 → ∀ y21, w3.O a15 (j16 + t20) = some y21 → w3.K y21 = 1 ∨ w3.K y21 = 2 ∨ w3.K y21 = 3) ∧ ∀ w19 : Wd, w19 = w3.cpO a15 a15 j16 j17 j18 →
  J6 w19)
set_option maxHeartbeats 4000000 in
set_option maxRecDepth 100000 in
theorem c_Jx4a65c_fastRemove_b59b0 {l : Launch} {G : GT} {L0 : Nat} (hst : l.stackTraces = false) {a0 : Nat} {r1 : Option Nat} {x2 : Int32} {w : Wd} {Q : Wd → Prop} (h : wp_Jx4a65c_fastRemove_b59b0 a0 r1 x2 w Q) : GMv l G L0 yJx4a65c_fastRemove_b59b0 cJx4a65c_fastRemove_b59b0 4 none rm_Jx4a65c_fastRemove_b59b0 [.ref a0, va_rf r1, .int x2] w Q := by
  refine g_enter hst (by decide +kernel) [.inr (some a0), .inr r1, .inl x2] rfl (show 3 ≤ 4 by decide) ?_
  intro p e s m args below meth c X hr hnm
  replace X : GC l G L0 p s m args meth c cJx4a65c_fastRemove_b59b0 4 "java/util/ArrayList" := X
  refine g_aload_n X dJx4a65c_fastRemove_b59b0_0 rfl 0 rfl ?_
  refine g_dup X dJx4a65c_fastRemove_b59b0_1 rf_cat ?_
  have hk := h.1
  replace h := h.2
  refine gg_600 X hk _ (fun x hx => u_same (X.1.2.2.2.2 _ m_60) x hx) m_59 dJx4a65c_fastRemove_b59b0_2 (fun v1 hv => ?_)
  replace h := h v1 hv; clear hv hk
  refine g_iconst X (v := (1 : Int32)) dJx4a65c_fastRemove_b59b0_5 (by decide) ?_
  refine g_iadd X dJx4a65c_fastRemove_b59b0_6 (fun v2 hv => ?_)
  replace h := h v2 hv; clear hv
  have hk := h.1
  replace h := h.2
  refine gp_600 X hk _ (fun x hx => u_same (X.1.2.2.2.2 _ m_60) x hx) m_59 dJx4a65c_fastRemove_b59b0_7 (fun w3 hv => ?_)
  replace h := h w3 hv; clear hv hk
  refine g_aload_n X dJx4a65c_fastRemove_b59b0_10 rfl 0 rfl ?_
  have hk := h.1
  replace h := h.2
  refine gg_602 X hk m_57 dJx4a65c_fastRemove_b59b0_11 (fun v4 hv => ?_)
  replace h := h v4 hv; clear hv hk
  refine g_iconst X (v := (1 : Int32)) dJx4a65c_fastRemove_b59b0_14 (by decide) ?_
  refine g_isub X dJx4a65c_fastRemove_b59b0_15 (fun v5 hv => ?_)
  replace h := h v5 hv; clear hv
  refine g_dup X dJx4a65c_fastRemove_b59b0_16 rfl ?_
  refine g_istore_n X [(3, .inl v5), (0, .inr (some a0)), (1, .inr r1), (2, .inl x2)] dJx4a65c_fastRemove_b59b0_17 rfl (by decide) rfl ?_
  refine g_iload_n X dJx4a65c_fastRemove_b59b0_18 rfl 3 rfl ?_
  obtain ⟨J6, hjJ6, h⟩ := h
  have jp6 : ∀  (w7 : Wd), J6 w7 → Gw l G L0 p e rm_Jx4a65c_fastRemove_b59b0 s m args below meth c 4 (0) (0) (MQ below (gQv G L0 Q) args s rm_Jx4a65c_fastRemove_b59b0.cells rm_Jx4a65c_fastRemove_b59b0.slots (GA L0)) w7 34 [(0, .inr (some a0)), (1, .inr r1), (3, .inl v5)] [] := by
    intro w7 hJ
    have h := hjJ6 w7 hJ
    clear hJ
    refine g_aload_n X dJx4a65c_fastRemove_b59b0_34 rfl 1 rfl ?_
    refine g_aload_n X dJx4a65c_fastRemove_b59b0_35 rfl 0 rfl ?_
    refine g_iload_n X dJx4a65c_fastRemove_b59b0_36 rfl 2 rfl ?_
    refine g_dup_x1 X dJx4a65c_fastRemove_b59b0_37 rfl rf_cat ?_
    have hk := h.1
    replace h := h.2
    refine gp_602 X hk m_57 dJx4a65c_fastRemove_b59b0_38 (fun w8 hv => ?_)
    replace h := h w8 hv; clear hv hk
    refine g_null X dJx4a65c_fastRemove_b59b0_41 ?_
    obtain ⟨a9, rfl, hk, h⟩ := h
    obtain ⟨j10, hi, hj, hN, h⟩ := h
    have hr := h.1
    replace h := h.2
    refine g_aast X hk hi hj hN hr dJx4a65c_fastRemove_b59b0_42 (fun w12 hv => ?_)
    replace h := h w12 hv; clear hv hk hi hj hN hr
    exact g_vret X hr (by decide +kernel) (by decide +kernel) dJx4a65c_fastRemove_b59b0_43 h
  refine g_icmp_le X (tgt := 34) dJx4a65c_fastRemove_b59b0_19 (by decide) (fun hc => ?_) (fun hc => ?_)
  · replace h := h.1 hc; clear hc
    exact g_sub [1, 2, 0] [(0, .inr (some a0)), (1, .inr r1), (3, .inl v5)] rfl (jp6 w3 h)
  · replace h := h.2 hc; clear hc
    refine g_aload_n X dJx4a65c_fastRemove_b59b0_22 rfl 2 rfl ?_
    refine g_iload_n X dJx4a65c_fastRemove_b59b0_23 rfl 3 rfl ?_
    refine g_iconst X (v := (1 : Int32)) dJx4a65c_fastRemove_b59b0_24 (by decide) ?_
    refine g_iadd X dJx4a65c_fastRemove_b59b0_25 (fun v13 hv => ?_)
    replace h := h v13 hv; clear hv
    refine g_aload_n X dJx4a65c_fastRemove_b59b0_26 rfl 2 rfl ?_
    refine g_iload_n X dJx4a65c_fastRemove_b59b0_27 rfl 3 rfl ?_
    refine g_iload_n X dJx4a65c_fastRemove_b59b0_28 rfl 0 rfl ?_
    refine g_iload_n X dJx4a65c_fastRemove_b59b0_29 rfl 3 rfl ?_
    refine g_isub X dJx4a65c_fastRemove_b59b0_30 (fun v14 hv => ?_)
    replace h := h v14 hv; clear hv
    obtain ⟨a15, rfl, h⟩ := h
    obtain ⟨j16, j17, j18, z1, z2, z3, z4, z5, z6, z7, z8, z9, z10, h⟩ := h
    refine g_acpy X z1 z2 z3 z4 z5 z6 z7 z8 z9 z10 m_520 m_288 m_287 m_28 (by decide) (by decide +kernel) dJx4a65c_fastRemove_b59b0_31 (fun w19 hv => ?_)
    replace h := h w19 hv; clear hv z1 z2 z3 z4 z5 z6 z7 z8 z9 z10
    exact g_sub [1, 2, 0] [(0, .inr (some a0)), (1, .inr (some a15)), (3, .inl v5)] rfl (jp6 w19 h)

abbrev rm_Jx4a65c_remove_915e3 : Room := { frames := 3, cells := 0, slots := 0, locals := 143 }
def wp_Jx4a65c_remove_915e3 (a0 : Nat) (x1 : Int32) (w : Wd) (Q : Option Nat → Wd → Prop) : Prop :=
  w.K a0 = 6 ∧
  ∀ v1 : Int32, v1 = w.I 602 a0 →
  wp_J15_checkIndex_7cf53 x1 v1 w (fun v3 w2 => 
  w2.K a0 = 6 ∧
  ∀ z4 : Option Nat, z4 = w2.R 601 a0 →
  ∃ a5, z4 = some a5 ∧ w2.K a5 = 13 ∧
  ∃ j6 : Nat, x1 = nI j6 ∧ j6 < w2.N a5 ∧ w2.N a5 < 2 ^ 31 ∧
  ∀ z7 : Option Nat, z7 = w2.O a5 j6 →
  w2.K a0 = 6 ∧
  wp_Jx4a65c_fastRemove_b59b0 a0 (some a5) x1 w2 (fun w8 => 
  Q z7 w8))
set_option maxHeartbeats 4000000 in
set_option maxRecDepth 100000 in
theorem c_Jx4a65c_remove_915e3 {l : Launch} {G : GT} {L0 : Nat} (hst : l.stackTraces = false) {a0 : Nat} {x1 : Int32} {w : Wd} {Q : Option Nat → Wd → Prop} (h : wp_Jx4a65c_remove_915e3 a0 x1 w Q) : GMq l G L0 yJx4a65c_remove_915e3 cJx4a65c_remove_915e3 4 (some (.object "java/lang/Object")) rm_Jx4a65c_remove_915e3 [.ref a0, .int x1] w Q := by
  refine g_enter hst (by decide +kernel) [.inr (some a0), .inl x1] rfl (show 2 ≤ 4 by decide) ?_
  intro p e s m args below meth c X hr hnm
  replace X : GC l G L0 p s m args meth c cJx4a65c_remove_915e3 4 "java/util/ArrayList" := X
  refine g_iload_n X dJx4a65c_remove_915e3_0 rfl 1 rfl ?_
  refine g_aload_n X dJx4a65c_remove_915e3_1 rfl 0 rfl ?_
  have hk := h.1
  replace h := h.2
  refine gg_602 X hk m_57 dJx4a65c_remove_915e3_2 (fun v1 hv => ?_)
  replace h := h v1 hv; clear hv hk
  refine g_callS_i X (As := [.int x1, .int v1]) (st := []) (n := 2) (c_J15_checkIndex_7cf53 hst h) m_319 m_320 m_31 m_321 (by decide +kernel) (by decide +kernel) rfl rfl (Nat.zero_le _) ⟨(by decide +kernel), (by decide +kernel)⟩ dJx4a65c_remove_915e3_5 (fun v3 w2 h => ?_)
  refine g_widen (c2 := (0)) (s2 := (0)) (by decide +kernel) (by decide +kernel) ?_
  refine g_pop X dJx4a65c_remove_915e3_8 rfl ?_
  refine g_aload_n X dJx4a65c_remove_915e3_9 rfl 0 rfl ?_
  have hk := h.1
  replace h := h.2
  refine gg_601 X hk m_56 dJx4a65c_remove_915e3_10 (fun z4 hv => ?_)
  replace h := h z4 hv; clear hv hk
  refine g_astore_n X [(2, .inr z4), (0, .inr (some a0)), (1, .inl x1)] dJx4a65c_remove_915e3_13 rfl (by decide) rfl ?_
  refine g_aload_n X dJx4a65c_remove_915e3_14 rfl 0 rfl ?_
  refine g_iload_n X dJx4a65c_remove_915e3_15 rfl 2 rfl ?_
  obtain ⟨a5, rfl, hk, h⟩ := h
  obtain ⟨j6, hi, hj, hN, h⟩ := h
  refine g_aald X hk hi hj hN dJx4a65c_remove_915e3_16 (fun z7 hv => ?_)
  replace h := h z7 hv; clear hv hk hi hj hN
  refine g_astore_n X [(3, .inr z7), (2, .inr (some a5)), (0, .inr (some a0)), (1, .inl x1)] dJx4a65c_remove_915e3_17 rfl (by decide) rfl ?_
  refine g_aload_n X dJx4a65c_remove_915e3_18 rfl 2 rfl ?_
  refine g_aload_n X dJx4a65c_remove_915e3_19 rfl 1 rfl ?_
  refine g_iload_n X dJx4a65c_remove_915e3_20 rfl 3 rfl ?_
  have hk := h.1
  replace h := h.2
  refine g_callV_v X (As := [va_rf (some a5), .int x1]) (st := []) (n := 2) (c_Jx4a65c_fastRemove_b59b0 hst h) rfl (by decide) hk (wE_6 G w2 a0) m_516 m_518 m_10 m_18 m_519 (by decide +kernel) (by decide +kernel) rfl rfl (Nat.zero_le _) ⟨(by decide +kernel), (by decide +kernel)⟩ dJx4a65c_remove_915e3_21 (fun w8 h => ?_)
  clear hk
  refine g_widen (c2 := (0)) (s2 := (0)) (by decide +kernel) (by decide +kernel) ?_
  refine g_aload_n X dJx4a65c_remove_915e3_24 rfl 0 rfl ?_
  exact g_aret X hr (Or.inl ⟨_, rfl⟩) (by decide +kernel) (by decide +kernel) dJx4a65c_remove_915e3_25 h

abbrev rm_Jx4a65c_rangeCheckForAdd_d00df : Room := { frames := 1, cells := 0, slots := 0, locals := 100 }
def wp_Jx4a65c_rangeCheckForAdd_d00df (a0 : Nat) (x1 : Int32) (w : Wd) (Q : Wd → Prop) : Prop :=
  w.K a0 = 6 ∧
  ∀ v1 : Int32, v1 = w.I 602 a0 →
  ∃ J2 : Prop, (J2 →
  False) ∧
  (v1 < x1 → J2) ∧ (¬ v1 < x1 → (0 ≤ x1 → Q w) ∧ (¬ 0 ≤ x1 → J2))
set_option maxHeartbeats 4000000 in
set_option maxRecDepth 100000 in
theorem c_Jx4a65c_rangeCheckForAdd_d00df {l : Launch} {G : GT} {L0 : Nat} (hst : l.stackTraces = false) {a0 : Nat} {x1 : Int32} {w : Wd} {Q : Wd → Prop} (h : wp_Jx4a65c_rangeCheckForAdd_d00df a0 x1 w Q) : GMv l G L0 yJx4a65c_rangeCheckForAdd_d00df cJx4a65c_rangeCheckForAdd_d00df 2 none rm_Jx4a65c_rangeCheckForAdd_d00df [.ref a0, .int x1] w Q := by
  refine g_enter hst (by decide +kernel) [.inr (some a0), .inl x1] rfl (show 2 ≤ 2 by decide) ?_
  intro p e s m args below meth c X hr hnm
  replace X : GC l G L0 p s m args meth c cJx4a65c_rangeCheckForAdd_d00df 2 "java/util/ArrayList" := X
  refine g_iload_n X dJx4a65c_rangeCheckForAdd_d00df_0 rfl 1 rfl ?_
  refine g_aload_n X dJx4a65c_rangeCheckForAdd_d00df_1 rfl 0 rfl ?_
  have hk := h.1
  replace h := h.2
  refine gg_602 X hk m_57 dJx4a65c_rangeCheckForAdd_d00df_2 (fun v1 hv => ?_)
  replace h := h v1 hv; clear hv hk
  obtain ⟨J2, hjJ2, h⟩ := h
  have jp2 : J2 → Gw l G L0 p e rm_Jx4a65c_rangeCheckForAdd_d00df s m args below meth c 2 (0) (0) (MQ below (gQv G L0 Q) args s rm_Jx4a65c_rangeCheckForAdd_d00df.cells rm_Jx4a65c_rangeCheckForAdd_d00df.slots (GA L0)) w 12 [] [] := by
    intro hJ
    have h := hjJ2 hJ
    clear hJ
    exact h.elim
  refine g_icmp_gt X (tgt := 12) dJx4a65c_rangeCheckForAdd_d00df_5 (by decide) (fun hc => ?_) (fun hc => ?_)
  · replace h := h.1 hc; clear hc
    exact g_sub [] [] rfl (jp2  h)
  · replace h := h.2 hc; clear hc
    refine g_iload_n X dJx4a65c_rangeCheckForAdd_d00df_8 rfl 1 rfl ?_
    refine g_if_ge X (tgt := 25) dJx4a65c_rangeCheckForAdd_d00df_9 (by decide) (fun hc => ?_) (fun hc => ?_)
    · replace h := h.1 hc; clear hc
      exact g_vret X hr (by decide +kernel) (by decide +kernel) dJx4a65c_rangeCheckForAdd_d00df_25 h
    · replace h := h.2 hc; clear hc
      exact g_sub [] [] rfl (jp2  h)

abbrev rm_Jx4a65c_add_7a177 : Room := { frames := 5, cells := 2, slots := 128, locals := 214 }
def wp_Jx4a65c_add_7a177 (a0 : Nat) (x1 : Int32) (r2 : Option Nat) (w : Wd) (Q : Wd → Prop) : Prop :=
  w.K a0 = 6 ∧
  wp_Jx4a65c_rangeCheckForAdd_d00df a0 x1 w (fun w1 => 
  w1.K a0 = 6 ∧
  ∀ v2 : Int32, v2 = w1.I 600 a0 →
  ∀ v3 : Int32, v3 = v2 + (1 : Int32) →
  w1.K a0 = 6 ∧
  ∀ w4 : Wd, w4 = w1.setI 600 a0 v3 →
  w4.K a0 = 6 ∧
  ∀ v5 : Int32, v5 = w4.I 602 a0 →
  w4.K a0 = 6 ∧
  ∀ z6 : Option Nat, z6 = w4.R 601 a0 →
  ∃ a7, z6 = some a7 ∧
  ∃ k9, w4.K a7 = k9 ∧ (k9 = 11 ∨ k9 = 13 ∨ k9 = 15) ∧ ∀ v8 : Int32, v8 = nI (w4.N a7) →
  ∃ J10 : Option Nat → Wd → Prop, (∀ (q11 : Option Nat) (w12 : Wd), J10 q11 w12 →
  ∀ v13 : Int32, v13 = x1 + (1 : Int32) →
  ∀ v14 : Int32, v14 = v5 - x1 →
  ∃ a15, q11 = some a15 ∧
  ∃ j16 j17 j18 : Nat, w12.K a15 = 13 ∧ w12.K a15 = 13 ∧ x1 = nI j16 ∧ v13 = nI j17 ∧ v14 = nI j18 ∧ j16 + j18 ≤ w12.N a15 ∧ j17 + j18 ≤ w12.N a15 ∧ w12.N a15 < 2 ^ 31 ∧ w12.N a15 < 2 ^ 31 ∧ (∀ t20, t20 < j18 → ∀ y21, w12.O a15 (j16 + t20) = some y21 → w12.K y21 = 1 ∨ w12.K y21 = 2 ∨ w12.K y21 = 3) ∧ ∀ w19 : Wd, w19 = w12.cpO a15 a15 j16 j17 j18 →
  w19.K a15 = 13 ∧
  ∃ j22 : Nat, x1 = nI j22 ∧ j22 < w19.N a15 ∧ w19.N a15 < 2 ^ 31 ∧
  (∀ y23, r2 = some y23 → w19.K y23 = 1 ∨ w19.K y23 = 2 ∨ w19.K y23 = 3) ∧
  ∀ w24 : Wd, w24 = w19.setO a15 j22 r2 →
  ∀ v25 : Int32, v25 = v5 + (1 : Int32) →
  w24.K a0 = 6 ∧
  ∀ w26 : Wd, w26 = w24.setI 602 a0 v25 →
  Q w26) ∧
  (¬ v5 = v8 → J10 (some a7) w4) ∧ (v5 = v8 → w4.K a0 = 6 ∧
  wp_Jx4a65c_grow_d5877 a0 w4 (fun z28 w27 => 
  J10 z28 w27)))
set_option maxHeartbeats 4000000 in
set_option maxRecDepth 100000 in
theorem c_Jx4a65c_add_7a177 {l : Launch} {G : GT} {L0 : Nat} (hst : l.stackTraces = false) {a0 : Nat} {x1 : Int32} {r2 : Option Nat} {w : Wd} {Q : Wd → Prop} (h : wp_Jx4a65c_add_7a177 a0 x1 r2 w Q) : GMv l G L0 yJx4a65c_add_7a177 cJx4a65c_add_7a177 5 none rm_Jx4a65c_add_7a177 [.ref a0, .int x1, va_rf r2] w Q := by
  refine g_enter hst (by decide +kernel) [.inr (some a0), .inl x1, .inr r2] rfl (show 3 ≤ 5 by decide) ?_
  intro p e s m args below meth c X hr hnm
  replace X : GC l G L0 p s m args meth c cJx4a65c_add_7a177 5 "java/util/ArrayList" := X
  refine g_aload_n X dJx4a65c_add_7a177_0 rfl 0 rfl ?_
  refine g_iload_n X dJx4a65c_add_7a177_1 rfl 1 rfl ?_
  have hk := h.1
  replace h := h.2
  refine g_callV_v X (As := [.int x1]) (st := []) (n := 1) (c_Jx4a65c_rangeCheckForAdd_d00df hst h) rfl (by decide) hk (wE_6 G w a0) m_594 m_596 m_11 m_18 m_597 (by decide +kernel) (by decide +kernel) rfl rfl (Nat.zero_le _) ⟨(by decide +kernel), (by decide +kernel)⟩ dJx4a65c_add_7a177_2 (fun w1 h => ?_)
  clear hk
  refine g_widen (c2 := (0)) (s2 := (0)) (by decide +kernel) (by decide +kernel) ?_
  refine g_aload_n X dJx4a65c_add_7a177_5 rfl 0 rfl ?_
  refine g_dup X dJx4a65c_add_7a177_6 rf_cat ?_
  have hk := h.1
  replace h := h.2
  refine gg_600 X hk _ (fun x hx => u_same (X.1.2.2.2.2 _ m_60) x hx) m_59 dJx4a65c_add_7a177_7 (fun v2 hv => ?_)
  replace h := h v2 hv; clear hv hk
  refine g_iconst X (v := (1 : Int32)) dJx4a65c_add_7a177_10 (by decide) ?_
  refine g_iadd X dJx4a65c_add_7a177_11 (fun v3 hv => ?_)
  replace h := h v3 hv; clear hv
  have hk := h.1
  replace h := h.2
  refine gp_600 X hk _ (fun x hx => u_same (X.1.2.2.2.2 _ m_60) x hx) m_59 dJx4a65c_add_7a177_12 (fun w4 hv => ?_)
  replace h := h w4 hv; clear hv hk
  refine g_aload_n X dJx4a65c_add_7a177_15 rfl 0 rfl ?_
  have hk := h.1
  replace h := h.2
  refine gg_602 X hk m_57 dJx4a65c_add_7a177_16 (fun v5 hv => ?_)
  replace h := h v5 hv; clear hv hk
  refine g_dup X dJx4a65c_add_7a177_19 rfl ?_
  refine g_istore_n X [(3, .inl v5), (0, .inr (some a0)), (1, .inl x1), (2, .inr r2)] dJx4a65c_add_7a177_20 rfl (by decide) rfl ?_
  refine g_aload_n X dJx4a65c_add_7a177_21 rfl 1 rfl ?_
  have hk := h.1
  replace h := h.2
  refine gg_601 X hk m_56 dJx4a65c_add_7a177_22 (fun z6 hv => ?_)
  replace h := h z6 hv; clear hv hk
  refine g_dup X dJx4a65c_add_7a177_25 rf_cat ?_
  refine g_astore X [(4, .inr z6), (3, .inl v5), (0, .inr (some a0)), (1, .inl x1), (2, .inr r2)] dJx4a65c_add_7a177_26 (by decide) rfl ?_
  obtain ⟨a7, rfl, h⟩ := h
  obtain ⟨k9, h1, h2, h⟩ := h
  refine g_alen X h1 h2 dJx4a65c_add_7a177_28 (fun v8 hv => ?_)
  replace h := h v8 hv; clear hv h1 h2
  obtain ⟨J10, hjJ10, h⟩ := h
  have jp10 : ∀ (q11 : Option Nat) (w12 : Wd), J10 q11 w12 → Gw l G L0 p e rm_Jx4a65c_add_7a177 s m args below meth c 5 (2) (128) (MQ below (gQv G L0 Q) args s rm_Jx4a65c_add_7a177.cells rm_Jx4a65c_add_7a177.slots (GA L0)) w12 38 [(0, .inr (some a0)), (1, .inl x1), (2, .inr r2), (3, .inl v5), (4, .inr q11)] [] := by
    intro q11 w12 hJ
    have h := hjJ10 q11 w12 hJ
    clear hJ
    refine g_aload X dJx4a65c_add_7a177_38 4 rfl ?_
    refine g_iload_n X dJx4a65c_add_7a177_40 rfl 1 rfl ?_
    refine g_aload X dJx4a65c_add_7a177_41 4 rfl ?_
    refine g_iload_n X dJx4a65c_add_7a177_43 rfl 1 rfl ?_
    refine g_iconst X (v := (1 : Int32)) dJx4a65c_add_7a177_44 (by decide) ?_
    refine g_iadd X dJx4a65c_add_7a177_45 (fun v13 hv => ?_)
    replace h := h v13 hv; clear hv
    refine g_iload_n X dJx4a65c_add_7a177_46 rfl 3 rfl ?_
    refine g_iload_n X dJx4a65c_add_7a177_47 rfl 1 rfl ?_
    refine g_isub X dJx4a65c_add_7a177_48 (fun v14 hv => ?_)
    replace h := h v14 hv; clear hv
    obtain ⟨a15, rfl, h⟩ := h
    obtain ⟨j16, j17, j18, z1, z2, z3, z4, z5, z6, z7, z8, z9, z10, h⟩ := h
    refine g_acpy X z1 z2 z3 z4 z5 z6 z7 z8 z9 z10 m_520 m_288 m_287 m_28 (by decide) (by decide +kernel) dJx4a65c_add_7a177_49 (fun w19 hv => ?_)
    replace h := h w19 hv; clear hv z1 z2 z3 z4 z5 z6 z7 z8 z9 z10
    refine g_aload X dJx4a65c_add_7a177_52 4 rfl ?_
    refine g_iload_n X dJx4a65c_add_7a177_54 rfl 1 rfl ?_
    refine g_aload_n X dJx4a65c_add_7a177_55 rfl 2 rfl ?_
    have hk := h.1
    replace h := h.2
    obtain ⟨j22, hi, hj, hN, h⟩ := h
    have hr := h.1
    replace h := h.2
    refine g_aast X hk hi hj hN hr dJx4a65c_add_7a177_56 (fun w24 hv => ?_)
    replace h := h w24 hv; clear hv hk hi hj hN hr
    refine g_aload_n X dJx4a65c_add_7a177_57 rfl 0 rfl ?_
    refine g_iload_n X dJx4a65c_add_7a177_58 rfl 3 rfl ?_
    refine g_iconst X (v := (1 : Int32)) dJx4a65c_add_7a177_59 (by decide) ?_
    refine g_iadd X dJx4a65c_add_7a177_60 (fun v25 hv => ?_)
    replace h := h v25 hv; clear hv
    have hk := h.1
    replace h := h.2
    refine gp_602 X hk m_57 dJx4a65c_add_7a177_61 (fun w26 hv => ?_)
    replace h := h w26 hv; clear hv hk
    exact g_vret X hr (by decide +kernel) (by decide +kernel) dJx4a65c_add_7a177_64 h
  refine g_icmp_ne X (tgt := 38) dJx4a65c_add_7a177_29 (by decide) (fun hc => ?_) (fun hc => ?_)
  · replace h := h.1 hc; clear hc
    refine g_widen (c2 := (2)) (s2 := (128)) (by decide) (by decide) ?_
    exact g_sub [2, 3, 4, 1, 0] [(0, .inr (some a0)), (1, .inl x1), (2, .inr r2), (3, .inl v5), (4, .inr (some a7))] rfl (jp10 (some a7) w4 h)
  · replace h := h.2 hc; clear hc
    refine g_aload_n X dJx4a65c_add_7a177_32 rfl 2 rfl ?_
    have hk := h.1
    replace h := h.2
    refine g_callV_q X (As := []) (st := []) (n := 0) (c_Jx4a65c_grow_d5877 hst h) rfl (by decide) hk (wE_6 G w4 a0) m_244 m_246 m_2 m_18 m_247 (by decide +kernel) (by decide +kernel) rfl rfl (Nat.zero_le _) ⟨(by decide +kernel), (by decide +kernel)⟩ dJx4a65c_add_7a177_33 (fun z28 w27 h => ?_)
    clear hk
    refine g_widen (c2 := (2)) (s2 := (128)) (by decide +kernel) (by decide +kernel) ?_
    refine g_astore X [(4, .inr z28), (3, .inl v5), (0, .inr (some a0)), (1, .inl x1), (2, .inr r2)] dJx4a65c_add_7a177_36 (by decide) rfl ?_
    exact g_sub [2, 3, 4, 1, 0] [(0, .inr (some a0)), (1, .inl x1), (2, .inr r2), (3, .inl v5), (4, .inr z28)] rfl (jp10 z28 w27 h)

abbrev rm_Jx4a65c_isEmpty_aae02 : Room := { frames := 1, cells := 0, slots := 0, locals := 100 }
def wp_Jx4a65c_isEmpty_aae02 (a0 : Nat) (w : Wd) (Q : Int32 → Wd → Prop) : Prop :=
  w.K a0 = 6 ∧
  ∀ v1 : Int32, v1 = w.I 602 a0 →
  ∃ J2 : Int32 → Prop, (∀ (y3 : Int32), J2 y3 →
  (y3 = 0 ∨ y3 = 1) ∧ Q y3 w) ∧
  (¬ v1 = 0 → J2 (0 : Int32)) ∧ (v1 = 0 → J2 (1 : Int32))
set_option maxHeartbeats 4000000 in
set_option maxRecDepth 100000 in
theorem c_Jx4a65c_isEmpty_aae02 {l : Launch} {G : GT} {L0 : Nat} (hst : l.stackTraces = false) {a0 : Nat} {w : Wd} {Q : Int32 → Wd → Prop} (h : wp_Jx4a65c_isEmpty_aae02 a0 w Q) : GMi l G L0 yJx4a65c_isEmpty_aae02 cJx4a65c_isEmpty_aae02 1 (some .boolean) rm_Jx4a65c_isEmpty_aae02 [.ref a0] w Q := by
  refine g_enter hst (by decide +kernel) [.inr (some a0)] rfl (show 1 ≤ 1 by decide) ?_
  intro p e s m args below meth c X hr hnm
  replace X : GC l G L0 p s m args meth c cJx4a65c_isEmpty_aae02 1 "java/util/ArrayList" := X
  refine g_aload_n X dJx4a65c_isEmpty_aae02_0 rfl 0 rfl ?_
  have hk := h.1
  replace h := h.2
  refine gg_602 X hk m_57 dJx4a65c_isEmpty_aae02_1 (fun v1 hv => ?_)
  replace h := h v1 hv; clear hv hk
  obtain ⟨J2, hjJ2, h⟩ := h
  have jp2 : ∀ (y3 : Int32), J2 y3 → Gw l G L0 p e rm_Jx4a65c_isEmpty_aae02 s m args below meth c 1 (0) (0) (MQ below (gQi G L0 Q) args s rm_Jx4a65c_isEmpty_aae02.cells rm_Jx4a65c_isEmpty_aae02.slots (GA L0)) w 12 [] [.int y3] := by
    intro y3 hJ
    have h := hjJ2 y3 hJ
    clear hJ
    exact g_zret X hr (by decide +kernel) (by decide +kernel) dJx4a65c_isEmpty_aae02_12 h.1 h.2
  refine g_if_ne X (tgt := 11) dJx4a65c_isEmpty_aae02_4 (by decide) (fun hc => ?_) (fun hc => ?_)
  · replace h := h.1 hc; clear hc
    refine g_iconst X (v := (0 : Int32)) dJx4a65c_isEmpty_aae02_11 (by decide) ?_
    exact g_sub [] [] rfl (jp2 (0 : Int32) h)
  · replace h := h.2 hc; clear hc
    refine g_iconst X (v := (1 : Int32)) dJx4a65c_isEmpty_aae02_7 (by decide) ?_
    refine g_goto X (tgt := 12) dJx4a65c_isEmpty_aae02_8 (by decide) ?_
    exact g_sub [] [] rfl (jp2 (1 : Int32) h)
