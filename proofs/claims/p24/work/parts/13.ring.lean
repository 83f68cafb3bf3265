abbrev rm_X3_init : Room := { frames := 4, cells := 2, slots := 6, locals := 160 }
def wp_X3_init (a0 : Nat) (w : Wd) (Q : Wd → Prop) : Prop :=
  ∀ q1 : Nat, w.K q1 = 0 → ∀ w2 : Wd, w2 = w.new 6 q1 →
  wp_Jx4a65c_init_da8c8 q1 w2 (fun w3 => 
  w3.K a0 = 4 ∧
  ∀ w4 : Wd, w4 = w3.setR 400 a0 (some q1) →
  ∀ q5 : Nat, w4.K q5 = 0 → ∀ w6 : Wd, w6 = w4.new 6 q5 →
  wp_Jx4a65c_init_da8c8 q5 w6 (fun w7 => 
  w7.K a0 = 4 ∧
  ∀ w8 : Wd, w8 = w7.setR 401 a0 (some q5) →
  Q w8))
set_option maxHeartbeats 4000000 in
set_option maxRecDepth 100000 in
theorem c_X3_init {l : Launch} {G : GT} {L0 : Nat} (hst : l.stackTraces = false) {a0 : Nat} {w : Wd} {Q : Wd → Prop} (h : wp_X3_init a0 w Q) : GMv l G L0 yX3_init cX3_init 1 none rm_X3_init [.ref a0] w Q := by
  refine g_enter hst (by decide +kernel) [.inr (some a0)] rfl (show 1 ≤ 1 by decide) ?_
  intro p e s m args below meth c X hr hnm
  replace X : GC l G L0 p s m args meth c cX3_init 1 "SusuRing" := X
  refine g_aload_n X dX3_init_0 rfl 0 rfl ?_
  refine g_objInit X m_39 m_40 m_41 (by decide) (by decide +kernel) dX3_init_1 ?_
  refine g_aload_n X dX3_init_4 rfl 0 rfl ?_
  refine gnew_6 X m_42 m_43 m_18 (by decide +kernel) (by decide +kernel) dX3_init_5 (fun q1 h1 w2 hv => ?_)
  replace h := h q1 h1 w2 hv; clear hv h1
  refine g_widen (c2 := (1)) (s2 := (3)) (by decide) (by decide) ?_
  refine g_dup X dX3_init_8 rf_cat ?_
  refine g_callI_v X (As := []) (st := [va_rf (some q1), va_rf (some a0)]) (n := 0) (c_Jx4a65c_init_da8c8 hst h) m_44 m_45 rfl m_18 m_46 (by decide +kernel) (by decide +kernel) rfl rfl (by simp [cat_int, rf_cat]) ⟨(by decide +kernel), (by decide +kernel)⟩ dX3_init_9 (fun w3 h => ?_)
  refine g_widen (c2 := (1)) (s2 := (3)) (by decide +kernel) (by decide +kernel) ?_
  have hk := h.1
  replace h := h.2
  refine gp_400 X hk hnm rfl m_68 dX3_init_12 (fun w4 hv => ?_)
  replace h := h w4 hv; clear hv hk
  refine g_aload_n X dX3_init_15 rfl 0 rfl ?_
  refine gnew_6 X m_42 m_43 m_18 (by decide +kernel) (by decide +kernel) dX3_init_16 (fun q5 h1 w6 hv => ?_)
  replace h := h q5 h1 w6 hv; clear hv h1
  refine g_widen (c2 := (2)) (s2 := (6)) (by decide) (by decide) ?_
  refine g_dup X dX3_init_19 rf_cat ?_
  refine g_callI_v X (As := []) (st := [va_rf (some q5), va_rf (some a0)]) (n := 0) (c_Jx4a65c_init_da8c8 hst h) m_44 m_45 rfl m_18 m_46 (by decide +kernel) (by decide +kernel) rfl rfl (by simp [cat_int, rf_cat]) ⟨(by decide +kernel), (by decide +kernel)⟩ dX3_init_20 (fun w7 h => ?_)
  refine g_widen (c2 := (2)) (s2 := (6)) (by decide +kernel) (by decide +kernel) ?_
  have hk := h.1
  replace h := h.2
  refine gp_401 X hk hnm rfl m_69 dX3_init_23 (fun w8 hv => ?_)
  replace h := h w8 hv; clear hv hk
  exact g_vret X hr (by decide +kernel) (by decide +kernel) dX3_init_26 h

abbrev rm_X3_checkRange : Room := { frames := 6, cells := 1, slots := 6, locals := 100 }
def wp_X3_checkRange (x0 : Int32) (x1 : Int32) (x2 : Int32) (w : Wd) (Q : Wd → Prop) (QX : String → Wd → Prop) : Prop :=
  ∃ J1 : Prop, (J1 →
  QX "java/lang/IllegalArgumentException" w) ∧
  (x0 < x1 → J1) ∧ (¬ x0 < x1 → (x0 ≤ x2 → Q w) ∧ (¬ x0 ≤ x2 → J1))
set_option maxHeartbeats 4000000 in
set_option maxRecDepth 100000 in
theorem c_X3_checkRange {l : Launch} {G : GT} {L0 : Nat} (hst : l.stackTraces = false) {x0 : Int32} {x1 : Int32} {x2 : Int32} {w : Wd} {Q : Wd → Prop} {QX : String → Wd → Prop} (h : wp_X3_checkRange x0 x1 x2 w Q QX) : GXv l G L0 yX3_checkRange cX3_checkRange 3 none rm_X3_checkRange [.int x0, .int x1, .int x2] w Q QX := by
  refine g_enterX hst (by decide +kernel) [.inl x0, .inl x1, .inl x2] rfl (show 3 ≤ 3 by decide) ?_
  intro p e s m args below meth c X hr hnm htab
  replace X : GC l G L0 p s m args meth c cX3_checkRange 3 "SusuRing" := X
  refine g_iload_n X dX3_checkRange_0 rfl 0 rfl ?_
  refine g_iload_n X dX3_checkRange_1 rfl 1 rfl ?_
  obtain ⟨J1, hjJ1, h⟩ := h
  have jp1 : J1 → Gw l G L0 p e rm_X3_checkRange s m args below meth c 3 (0) (0) (vx_MQ below (gQv G L0 Q) (gXC G L0 QX) args s rm_X3_checkRange.cells rm_X3_checkRange.slots (GA L0)) w 10 [] [] := by
    intro hJ
    have h := hjJ1 hJ
    clear hJ
    exact g_throw X (cls := "java/lang/IllegalArgumentException") (text := "an argument is out of its range") (ik := 64) (is := 264) htab (by decide +kernel) m_88 m_22 (by decide +kernel) at_IAE_g at_IAE_b at_IAE_o dX3_checkRange_10 dX3_checkRange_13 (Or.inr ⟨dX3_checkRange_14, dX3_checkRange_17, dX3_checkRange_20⟩) (by decide) (by decide +kernel) (by decide +kernel) (by decide +kernel) (by decide +kernel) (by decide +kernel) h
  refine g_icmp_lt X (tgt := 10) dX3_checkRange_2 (by decide) (fun hc => ?_) (fun hc => ?_)
  · replace h := h.1 hc; clear hc
    exact g_sub [] [] rfl (jp1  h)
  · replace h := h.2 hc; clear hc
    refine g_iload_n X dX3_checkRange_5 rfl 0 rfl ?_
    refine g_iload_n X dX3_checkRange_6 rfl 2 rfl ?_
    refine g_icmp_le X (tgt := 21) dX3_checkRange_7 (by decide) (fun hc => ?_) (fun hc => ?_)
    · replace h := h.1 hc; clear hc
      exact g_vretX X hr (by decide +kernel) (by decide +kernel) dX3_checkRange_21 h
    · replace h := h.2 hc; clear hc
      exact g_sub [] [] rfl (jp1  h)

abbrev rm_X3_person : Room := { frames := 7, cells := 7, slots := 223, locals := 258 }
def wp_X3_person (a0 : Nat) (x1 : Int32) (x2 : Int32) (w : Wd) (Q : Int32 → Wd → Prop) (QX : String → Wd → Prop) : Prop :=
  wp_X3_checkRange x1 (1 : Int32) (120 : Int32) w (fun w1 => 
  wp_X3_checkRange x2 (0 : Int32) (99999 : Int32) w1 (fun w2 => 
  w2.K a0 = 4 ∧
  ∀ z3 : Option Nat, z3 = w2.R 400 a0 →
  ∃ a4, z3 = some a4 ∧ w2.K a4 = 6 ∧
  wp_Jx4a65c_size_8abf5 a4 w2 (fun v6 w5 => 
  (v6 < (16 : Int32) → ∀ q7 : Nat, w5.K q7 = 0 → ∀ w8 : Wd, w8 = w5.new 2 q7 →
  w8.K a0 = 4 ∧
  ∀ z9 : Option Nat, z9 = w8.R 400 a0 →
  ∃ a10, z9 = some a10 ∧ w8.K a10 = 6 ∧
  wp_Jx4a65c_size_8abf5 a10 w8 (fun v12 w11 => 
  wp_X1_init q7 v12 x1 x2 w11 (fun w13 => 
  w13.K a0 = 4 ∧
  ∀ z14 : Option Nat, z14 = w13.R 400 a0 →
  ∃ a15, z14 = some a15 ∧ w13.K a15 = 6 ∧
  wp_Jx4a65c_add_9ea2d a15 (some q7) w13 (fun v17 w16 => 
  w16.K q7 = 2 ∧
  ∀ v18 : Int32, v18 = w16.I 200 q7 →
  Q v18 w16)))) ∧ (¬ v6 < (16 : Int32) → QX "java/lang/IllegalStateException" w5))) QX) QX
set_option maxHeartbeats 4000000 in
set_option maxRecDepth 100000 in
theorem c_X3_person {l : Launch} {G : GT} {L0 : Nat} (hst : l.stackTraces = false) {a0 : Nat} {x1 : Int32} {x2 : Int32} {w : Wd} {Q : Int32 → Wd → Prop} {QX : String → Wd → Prop} (h : wp_X3_person a0 x1 x2 w Q QX) : GXi l G L0 yX3_person cX3_person 4 (some .int) rm_X3_person [.ref a0, .int x1, .int x2] w Q QX := by
  refine g_enterX hst (by decide +kernel) [.inr (some a0), .inl x1, .inl x2] rfl (show 3 ≤ 4 by decide) ?_
  intro p e s m args below meth c X hr hnm htab
  replace X : GC l G L0 p s m args meth c cX3_person 4 "SusuRing" := X
  refine g_iload_n X dX3_person_0 rfl 1 rfl ?_
  refine g_iconst X (v := (1 : Int32)) dX3_person_1 (by decide) ?_
  refine g_bipush X (v := (120 : Int32)) dX3_person_2 (by decide) ?_
  refine g_callXS_v X htab (As := [.int x1, .int (1 : Int32), .int (120 : Int32)]) (st := []) (n := 3) (c_X3_checkRange hst h) m_85 m_86 m_15 m_87 (by decide +kernel) (by decide +kernel) rfl rfl (Nat.zero_le _) ⟨(by decide +kernel), (by decide +kernel)⟩ dX3_person_4 (by decide +kernel) (by decide +kernel) (fun E w1 hE => hE) (fun w1 h => ?_)
  refine g_widen (c2 := (1)) (s2 := (6)) (by decide +kernel) (by decide +kernel) ?_
  refine g_iload_n X dX3_person_7 rfl 2 rfl ?_
  refine g_iconst X (v := (0 : Int32)) dX3_person_8 (by decide) ?_
  refine g_ldc X (v := (99999 : Int32)) m_156 dX3_person_9 ?_
  refine g_callXS_v X htab (As := [.int x2, .int (0 : Int32), .int (99999 : Int32)]) (st := []) (n := 3) (c_X3_checkRange hst h) m_85 m_86 m_15 m_87 (by decide +kernel) (by decide +kernel) rfl rfl (Nat.zero_le _) ⟨(by decide +kernel), (by decide +kernel)⟩ dX3_person_11 (by decide +kernel) (by decide +kernel) (fun E w1 hE => hE) (fun w2 h => ?_)
  refine g_widen (c2 := (2)) (s2 := (12)) (by decide +kernel) (by decide +kernel) ?_
  refine g_aload_n X dX3_person_14 rfl 0 rfl ?_
  have hk := h.1
  replace h := h.2
  refine gg_400 X hk m_68 dX3_person_15 (fun z3 hv => ?_)
  replace h := h z3 hv; clear hv hk
  obtain ⟨a4, rfl, hk, h⟩ := h
  refine g_callV_i X (As := []) (st := []) (n := 0) (c_Jx4a65c_size_8abf5 hst h) rfl (by decide) hk (wE_6 G w2 a4) m_157 m_158 m_159 m_18 m_160 (by decide +kernel) (by decide +kernel) rfl rfl (Nat.zero_le _) ⟨(by decide +kernel), (by decide +kernel)⟩ dX3_person_18 (fun v6 w5 h => ?_)
  clear hk
  refine g_widen (c2 := (2)) (s2 := (12)) (by decide +kernel) (by decide +kernel) ?_
  refine g_bipush X (v := (16 : Int32)) dX3_person_21 (by decide) ?_
  refine g_icmp_lt X (tgt := 36) dX3_person_23 (by decide) (fun hc => ?_) (fun hc => ?_)
  · replace h := h.1 hc; clear hc
    refine gnew_2 X m_177 m_178 m_29 (by decide +kernel) (by decide +kernel) dX3_person_36 (fun q7 h1 w8 hv => ?_)
    replace h := h q7 h1 w8 hv; clear hv h1
    refine g_widen (c2 := (3)) (s2 := (25)) (by decide) (by decide) ?_
    refine g_dup X dX3_person_39 rf_cat ?_
    refine g_aload_n X dX3_person_40 rfl 0 rfl ?_
    have hk := h.1
    replace h := h.2
    refine gg_400 X hk m_68 dX3_person_41 (fun z9 hv => ?_)
    replace h := h z9 hv; clear hv hk
    obtain ⟨a10, rfl, hk, h⟩ := h
    refine g_callV_i X (As := []) (st := [va_rf (some q7), va_rf (some q7)]) (n := 0) (c_Jx4a65c_size_8abf5 hst h) rfl (by decide) hk (wE_6 G w8 a10) m_157 m_158 m_159 m_18 m_160 (by decide +kernel) (by decide +kernel) rfl rfl (by simp [cat_int, rf_cat]) ⟨(by decide +kernel), (by decide +kernel)⟩ dX3_person_44 (fun v12 w11 h => ?_)
    clear hk
    refine g_widen (c2 := (3)) (s2 := (25)) (by decide +kernel) (by decide +kernel) ?_
    refine g_iload_n X dX3_person_47 rfl 1 rfl ?_
    refine g_iload_n X dX3_person_48 rfl 2 rfl ?_
    refine g_callI_v X (As := [.int v12, .int x1, .int x2]) (st := [va_rf (some q7)]) (n := 3) (c_X1_init hst h) m_179 m_180 rfl m_29 m_181 (by decide +kernel) (by decide +kernel) rfl rfl (by simp [cat_int, rf_cat]) ⟨(by decide +kernel), (by decide +kernel)⟩ dX3_person_49 (fun w13 h => ?_)
    refine g_widen (c2 := (4)) (s2 := (89)) (by decide +kernel) (by decide +kernel) ?_
    refine g_astore_n X [(3, .inr (some q7)), (0, .inr (some a0)), (1, .inl x1), (2, .inl x2)] dX3_person_52 rfl (by decide) rfl ?_
    refine g_aload_n X dX3_person_53 rfl 1 rfl ?_
    have hk := h.1
    replace h := h.2
    refine gg_400 X hk m_68 dX3_person_54 (fun z14 hv => ?_)
    replace h := h z14 hv; clear hv hk
    refine g_aload_n X dX3_person_57 rfl 0 rfl ?_
    obtain ⟨a15, rfl, hk, h⟩ := h
    refine g_callV_i X (As := [va_rf (some q7)]) (st := []) (n := 1) (c_Jx4a65c_add_9ea2d hst h) rfl (by decide) hk (wE_6 G w13 a15) m_236 m_237 m_238 m_18 m_239 (by decide +kernel) (by decide +kernel) rfl rfl (Nat.zero_le _) ⟨(by decide +kernel), (by decide +kernel)⟩ dX3_person_58 (fun v17 w16 h => ?_)
    clear hk
    refine g_widen (c2 := (6)) (s2 := (217)) (by decide +kernel) (by decide +kernel) ?_
    refine g_pop X dX3_person_61 rfl ?_
    refine g_aload_n X dX3_person_62 rfl 0 rfl ?_
    have hk := h.1
    replace h := h.2
    refine gg_200 X hk m_184 dX3_person_63 (fun v18 hv => ?_)
    replace h := h v18 hv; clear hv hk
    exact g_iretX X hr (by decide +kernel) (by decide +kernel) dX3_person_66 h
  · replace h := h.2 hc; clear hc
    exact g_throw X (cls := "java/lang/IllegalStateException") (text := "there are 16 people") (ik := 28) (is := 30) htab (by decide +kernel) m_161 m_23 (by decide +kernel) at_ISE_g at_ISE_b at_ISE_o dX3_person_26 dX3_person_29 (Or.inl ⟨dX3_person_30, dX3_person_32, dX3_person_35⟩) (by decide) (by decide +kernel) (by decide +kernel) (by decide +kernel) (by decide +kernel) (by decide +kernel) h

abbrev rm_X3_personAt : Room := { frames := 6, cells := 1, slots := 6, locals := 164 }
def wp_X3_personAt (a0 : Nat) (x1 : Int32) (w : Wd) (Q : Option Nat → Wd → Prop) (QX : String → Wd → Prop) : Prop :=
  ∃ J1 : Wd → Prop, (∀  (w2 : Wd), J1 w2 →
  QX "java/lang/IndexOutOfBoundsException" w2) ∧
  (x1 < 0 → J1 w) ∧ (¬ x1 < 0 → w.K a0 = 4 ∧
  ∀ z3 : Option Nat, z3 = w.R 400 a0 →
  ∃ a4, z3 = some a4 ∧ w.K a4 = 6 ∧
  wp_Jx4a65c_size_8abf5 a4 w (fun v6 w5 => 
  (x1 < v6 → w5.K a0 = 4 ∧
  ∀ z7 : Option Nat, z7 = w5.R 400 a0 →
  ∃ a8, z7 = some a8 ∧ w5.K a8 = 6 ∧
  wp_Jx4a65c_get_915e3 a8 x1 w5 (fun z10 w9 => 
  (∀ y11, z10 = some y11 → w9.K y11 = 2) ∧
  Q z10 w9)) ∧ (¬ x1 < v6 → J1 w5)))
set_option maxHeartbeats 4000000 in
set_option maxRecDepth 100000 in
theorem c_X3_personAt {l : Launch} {G : GT} {L0 : Nat} (hst : l.stackTraces = false) {a0 : Nat} {x1 : Int32} {w : Wd} {Q : Option Nat → Wd → Prop} {QX : String → Wd → Prop} (h : wp_X3_personAt a0 x1 w Q QX) : GXq l G L0 yX3_personAt cX3_personAt 2 (some (.object "SusuRing$Person")) rm_X3_personAt [.ref a0, .int x1] w Q QX := by
  refine g_enterX hst (by decide +kernel) [.inr (some a0), .inl x1] rfl (show 2 ≤ 2 by decide) ?_
  intro p e s m args below meth c X hr hnm htab
  replace X : GC l G L0 p s m args meth c cX3_personAt 2 "SusuRing" := X
  refine g_iload_n X dX3_personAt_0 rfl 1 rfl ?_
  obtain ⟨J1, hjJ1, h⟩ := h
  have jp1 : ∀  (w2 : Wd), J1 w2 → Gw l G L0 p e rm_X3_personAt s m args below meth c 2 (0) (0) (vx_MQ below (gQq G L0 Q) (gXC G L0 QX) args s rm_X3_personAt.cells rm_X3_personAt.slots (GA L0)) w2 15 [] [] := by
    intro w2 hJ
    have h := hjJ1 w2 hJ
    clear hJ
    exact g_throw X (cls := "java/lang/IndexOutOfBoundsException") (text := "there is no such person") (ik := 239) (is := 260) htab (by decide +kernel) m_299 m_30 (by decide +kernel) at_IOB_g at_IOB_b at_IOB_o dX3_personAt_15 dX3_personAt_18 (Or.inr ⟨dX3_personAt_19, dX3_personAt_22, dX3_personAt_25⟩) (by decide) (by decide +kernel) (by decide +kernel) (by decide +kernel) (by decide +kernel) (by decide +kernel) h
  refine g_if_lt X (tgt := 15) dX3_personAt_1 (by decide) (fun hc => ?_) (fun hc => ?_)
  · replace h := h.1 hc; clear hc
    exact g_sub [] [] rfl (jp1 w h)
  · replace h := h.2 hc; clear hc
    refine g_iload_n X dX3_personAt_4 rfl 1 rfl ?_
    refine g_aload_n X dX3_personAt_5 rfl 0 rfl ?_
    have hk := h.1
    replace h := h.2
    refine gg_400 X hk m_68 dX3_personAt_6 (fun z3 hv => ?_)
    replace h := h z3 hv; clear hv hk
    obtain ⟨a4, rfl, hk, h⟩ := h
    refine g_callV_i X (As := []) (st := [.int x1]) (n := 0) (c_Jx4a65c_size_8abf5 hst h) rfl (by decide) hk (wE_6 G w a4) m_157 m_158 m_159 m_18 m_160 (by decide +kernel) (by decide +kernel) rfl rfl (by simp [cat_int, rf_cat]) ⟨(by decide +kernel), (by decide +kernel)⟩ dX3_personAt_9 (fun v6 w5 h => ?_)
    clear hk
    refine g_widen (c2 := (0)) (s2 := (0)) (by decide +kernel) (by decide +kernel) ?_
    refine g_icmp_lt X (tgt := 26) dX3_personAt_12 (by decide) (fun hc => ?_) (fun hc => ?_)
    · replace h := h.1 hc; clear hc
      refine g_aload_n X dX3_personAt_26 rfl 0 rfl ?_
      have hk := h.1
      replace h := h.2
      refine gg_400 X hk m_68 dX3_personAt_27 (fun z7 hv => ?_)
      replace h := h z7 hv; clear hv hk
      refine g_iload_n X dX3_personAt_30 rfl 1 rfl ?_
      obtain ⟨a8, rfl, hk, h⟩ := h
      refine g_callV_q X (As := [.int x1]) (st := []) (n := 1) (c_Jx4a65c_get_915e3 hst h) rfl (by decide) hk (wE_6 G w5 a8) m_315 m_316 m_317 m_18 m_318 (by decide +kernel) (by decide +kernel) rfl rfl (Nat.zero_le _) ⟨(by decide +kernel), (by decide +kernel)⟩ dX3_personAt_31 (fun z10 w9 h => ?_)
      clear hk
      refine g_widen (c2 := (0)) (s2 := (0)) (by decide +kernel) (by decide +kernel) ?_
      refine g_castS X (C := "SusuRing$Person") (T := TX1) (N := 13) (ci := 2) rfl (by decide) (fun a => ⟨_, wE_2 G w9 a⟩) h.1 m_177 dX3_personAt_34 ?_
      replace h := h.2
      exact g_aretX X hr (Or.inl ⟨_, rfl⟩) (by decide +kernel) (by decide +kernel) dX3_personAt_37 h
    · replace h := h.2 hc; clear hc
      exact g_sub [] [] rfl (jp1 w5 h)

abbrev rm_X3_earn : Room := { frames := 7, cells := 3, slots := 18, locals := 185 }
def wp_X3_earn (a0 : Nat) (x1 : Int32) (x2 : Int32) (w : Wd) (Q : Int32 → Wd → Prop) (QX : String → Wd → Prop) : Prop :=
  w.K a0 = 4 ∧
  wp_X3_personAt a0 x1 w (fun z2 w1 => 
  wp_X3_checkRange x2 (-10000 : Int32) (10000 : Int32) w1 (fun w3 => 
  ∃ a4, z2 = some a4 ∧ w3.K a4 = 2 ∧
  ∀ v5 : Int32, v5 = w3.I 204 a4 →
  ∀ v6 : Int32, v6 = v5 + x2 →
  w3.K a4 = 2 ∧
  ∀ v7 : Int32, v7 = w3.I 212 a4 →
  ∃ J8 : Prop, (J8 →
  QX "java/lang/IllegalStateException" w3) ∧
  (¬ v7 = 0 → J8) ∧ (v7 = 0 → (v6 < 0 → J8) ∧ (¬ v6 < 0 → (v6 ≤ (10000000 : Int32) → w3.K a4 = 2 ∧
  ∀ w9 : Wd, w9 = w3.setI 204 a4 v6 →
  w9.K a0 = 4 ∧
  ∀ v10 : Int32, v10 = w9.I 403 a0 →
  ∀ v11 : Int32, v11 = v10 + x2 →
  w9.K a0 = 4 ∧
  ∀ w12 : Wd, w12 = w9.setI 403 a0 v11 →
  Q v6 w12) ∧ (¬ v6 ≤ (10000000 : Int32) → J8)))) QX) QX
set_option maxHeartbeats 4000000 in
set_option maxRecDepth 100000 in
theorem c_X3_earn {l : Launch} {G : GT} {L0 : Nat} (hst : l.stackTraces = false) {a0 : Nat} {x1 : Int32} {x2 : Int32} {w : Wd} {Q : Int32 → Wd → Prop} {QX : String → Wd → Prop} (h : wp_X3_earn a0 x1 x2 w Q QX) : GXi l G L0 yX3_earn cX3_earn 5 (some .int) rm_X3_earn [.ref a0, .int x1, .int x2] w Q QX := by
  refine g_enterX hst (by decide +kernel) [.inr (some a0), .inl x1, .inl x2] rfl (show 3 ≤ 5 by decide) ?_
  intro p e s m args below meth c X hr hnm htab
  replace X : GC l G L0 p s m args meth c cX3_earn 5 "SusuRing" := X
  refine g_aload_n X dX3_earn_0 rfl 0 rfl ?_
  refine g_iload_n X dX3_earn_1 rfl 1 rfl ?_
  have hk := h.1
  replace h := h.2
  refine g_callXV_q X htab (As := [.int x1]) (st := []) (n := 1) (c_X3_personAt hst h) rfl (by decide) hk (wE_4 G w a0) m_295 m_297 m_4 m_15 m_298 (by decide +kernel) (by decide +kernel) rfl rfl (Nat.zero_le _) ⟨(by decide +kernel), (by decide +kernel)⟩ dX3_earn_2 (by decide +kernel) (by decide +kernel) (fun E w1 hE => hE) (fun z2 w1 h => ?_)
  clear hk
  refine g_widen (c2 := (1)) (s2 := (6)) (by decide +kernel) (by decide +kernel) ?_
  refine g_astore_n X [(3, .inr z2), (0, .inr (some a0)), (1, .inl x1), (2, .inl x2)] dX3_earn_5 rfl (by decide) rfl ?_
  refine g_iload_n X dX3_earn_6 rfl 3 rfl ?_
  refine g_sipush X (v := (-10000 : Int32)) dX3_earn_7 (by decide) ?_
  refine g_sipush X (v := (10000 : Int32)) dX3_earn_10 (by decide) ?_
  refine g_callXS_v X htab (As := [.int x2, .int (-10000 : Int32), .int (10000 : Int32)]) (st := []) (n := 3) (c_X3_checkRange hst h) m_85 m_86 m_15 m_87 (by decide +kernel) (by decide +kernel) rfl rfl (Nat.zero_le _) ⟨(by decide +kernel), (by decide +kernel)⟩ dX3_earn_13 (by decide +kernel) (by decide +kernel) (fun E w1 hE => hE) (fun w3 h => ?_)
  refine g_widen (c2 := (2)) (s2 := (12)) (by decide +kernel) (by decide +kernel) ?_
  refine g_aload_n X dX3_earn_16 rfl 0 rfl ?_
  obtain ⟨a4, rfl, hk, h⟩ := h
  refine gg_204 X hk m_190 dX3_earn_17 (fun v5 hv => ?_)
  replace h := h v5 hv; clear hv hk
  refine g_iload_n X dX3_earn_20 rfl 3 rfl ?_
  refine g_iadd X dX3_earn_21 (fun v6 hv => ?_)
  replace h := h v6 hv; clear hv
  refine g_istore X [(4, .inl v6), (3, .inr (some a4)), (0, .inr (some a0)), (1, .inl x1), (2, .inl x2)] dX3_earn_22 (by decide) rfl ?_
  refine g_aload_n X dX3_earn_24 rfl 1 rfl ?_
  have hk := h.1
  replace h := h.2
  refine gg_212 X hk m_207 dX3_earn_25 (fun v7 hv => ?_)
  replace h := h v7 hv; clear hv hk
  obtain ⟨J8, hjJ8, h⟩ := h
  have jp8 : J8 → Gw l G L0 p e rm_X3_earn s m args below meth c 5 (2) (12) (vx_MQ below (gQi G L0 Q) (gXC G L0 QX) args s rm_X3_earn.cells rm_X3_earn.slots (GA L0)) w3 43 [] [] := by
    intro hJ
    have h := hjJ8 hJ
    clear hJ
    exact g_throw X (cls := "java/lang/IllegalStateException") (text := "dead, or the purse has too little or too much") (ik := 28) (is := 59) htab (by decide +kernel) m_161 m_23 (by decide +kernel) at_ISE_g at_ISE_b at_ISE_o dX3_earn_43 dX3_earn_46 (Or.inl ⟨dX3_earn_47, dX3_earn_49, dX3_earn_52⟩) (by decide) (by decide +kernel) (by decide +kernel) (by decide +kernel) (by decide +kernel) (by decide +kernel) h
  refine g_if_ne X (tgt := 43) dX3_earn_28 (by decide) (fun hc => ?_) (fun hc => ?_)
  · replace h := h.1 hc; clear hc
    exact g_sub [] [] rfl (jp8  h)
  · replace h := h.2 hc; clear hc
    refine g_iload X dX3_earn_31 0 rfl ?_
    refine g_if_lt X (tgt := 43) dX3_earn_33 (by decide) (fun hc => ?_) (fun hc => ?_)
    · replace h := h.1 hc; clear hc
      exact g_sub [] [] rfl (jp8  h)
    · replace h := h.2 hc; clear hc
      refine g_iload X dX3_earn_36 0 rfl ?_
      refine g_ldc X (v := (10000000 : Int32)) m_329 dX3_earn_38 ?_
      refine g_icmp_le X (tgt := 53) dX3_earn_40 (by decide) (fun hc => ?_) (fun hc => ?_)
      · replace h := h.1 hc; clear hc
        refine g_aload_n X dX3_earn_53 rfl 1 rfl ?_
        refine g_iload X dX3_earn_54 0 rfl ?_
        have hk := h.1
        replace h := h.2
        refine gp_204 X hk m_190 dX3_earn_56 (fun w9 hv => ?_)
        replace h := h w9 hv; clear hv hk
        refine g_aload_n X dX3_earn_59 rfl 2 rfl ?_
        refine g_dup X dX3_earn_60 rf_cat ?_
        have hk := h.1
        replace h := h.2
        refine gg_403 X hk m_71 dX3_earn_61 (fun v10 hv => ?_)
        replace h := h v10 hv; clear hv hk
        refine g_iload_n X dX3_earn_64 rfl 4 rfl ?_
        refine g_iadd X dX3_earn_65 (fun v11 hv => ?_)
        replace h := h v11 hv; clear hv
        have hk := h.1
        replace h := h.2
        refine gp_403 X hk m_71 dX3_earn_66 (fun w12 hv => ?_)
        replace h := h w12 hv; clear hv hk
        refine g_iload X dX3_earn_69 0 rfl ?_
        exact g_iretX X hr (by decide +kernel) (by decide +kernel) dX3_earn_71 h
      · replace h := h.2 hc; clear hc
        exact g_sub [] [] rfl (jp8  h)

abbrev rm_X3_die : Room := { frames := 7, cells := 4, slots := 24, locals := 233 }
def wp_X3_die (a0 : Nat) (x1 : Int32) (x2 : Int32) (w : Wd) (Q : Int32 → Wd → Prop) (QX : String → Wd → Prop) : Prop :=
  w.K a0 = 4 ∧
  wp_X3_personAt a0 x1 w (fun z2 w1 => 
  w1.K a0 = 4 ∧
  wp_X3_personAt a0 x2 w1 (fun z4 w3 => 
  (¬ x1 = x2 → ∃ a5, z2 = some a5 ∧ w3.K a5 = 2 ∧
  ∀ v6 : Int32, v6 = w3.I 212 a5 →
  ∃ J7 : Prop, (J7 →
  QX "java/lang/IllegalStateException" w3) ∧
  (¬ v6 = 0 → J7) ∧ (v6 = 0 → ∃ a8, z4 = some a8 ∧ w3.K a8 = 2 ∧
  ∀ v9 : Int32, v9 = w3.I 212 a8 →
  (¬ v9 = 0 → J7) ∧ (v9 = 0 → w3.K a5 = 2 ∧
  ∀ v10 : Int32, v10 = w3.I 205 a5 →
  w3.K a8 = 2 ∧
  ∀ v11 : Int32, v11 = w3.I 205 a8 →
  ∀ v12 : Int32, v12 = v10 + v11 →
  (v12 ≤ (100 : Int32) → w3.K a5 = 2 ∧
  wp_X1_bequeath a5 (some a8) w3 (fun w13 => 
  ∃ Inv15 : Nat → Int32 → Int32 → Wd → Prop, (∃ n : Nat, Inv15 n (0 : Int32) (0 : Int32) w13) ∧ ∀ (n14 : Nat) (y16 : Int32) (y17 : Int32) (w18 : Wd), Inv15 n14 y16 y17 w18 →
  w18.K a0 = 4 ∧
  ∀ z19 : Option Nat, z19 = w18.R 401 a0 →
  ∃ a20, z19 = some a20 ∧ w18.K a20 = 6 ∧
  wp_Jx4a65c_size_8abf5 a20 w18 (fun v22 w21 => 
  (v22 ≤ y17 → Q y16 w21) ∧ (¬ v22 ≤ y17 → w21.K a0 = 4 ∧
  ∀ z23 : Option Nat, z23 = w21.R 401 a0 →
  ∃ a24, z23 = some a24 ∧ w21.K a24 = 6 ∧
  wp_Jx4a65c_get_915e3 a24 y17 w21 (fun z26 w25 => 
  (∀ y27, z26 = some y27 → w25.K y27 = 1) ∧
  ∃ a28, z26 = some a28 ∧ w25.K a28 = 1 ∧
  wp_X0_passOn a28 (some a5) (some a8) w25 (fun v30 w29 => 
  ∃ J31 : Int32 → Prop, (∀ (y32 : Int32), J31 y32 →
  ∀ v33 : Int32, v33 = y17 + (1 : Int32) →
  ∃ n : Nat, n < n14 ∧ Inv15 n y32 v33 w29) ∧
  (v30 = 0 → J31 y16) ∧ (¬ v30 = 0 → ∀ v34 : Int32, v34 = y16 + (1 : Int32) →
  J31 v34))))))) ∧ (¬ v12 ≤ (100 : Int32) → J7)))) ∧ (x1 = x2 → QX "java/lang/IllegalArgumentException" w3)) QX) QX
set_option maxHeartbeats 4000000 in
set_option maxRecDepth 100000 in
theorem c_X3_die {l : Launch} {G : GT} {L0 : Nat} (hst : l.stackTraces = false) {a0 : Nat} {x1 : Int32} {x2 : Int32} {w : Wd} {Q : Int32 → Wd → Prop} {QX : String → Wd → Prop} (h : wp_X3_die a0 x1 x2 w Q QX) : GXi l G L0 yX3_die cX3_die 7 (some .int) rm_X3_die [.ref a0, .int x1, .int x2] w Q QX := by
  refine g_enterX hst (by decide +kernel) [.inr (some a0), .inl x1, .inl x2] rfl (show 3 ≤ 7 by decide) ?_
  intro p e s m args below meth c X hr hnm htab
  replace X : GC l G L0 p s m args meth c cX3_die 7 "SusuRing" := X
  refine g_aload_n X dX3_die_0 rfl 0 rfl ?_
  refine g_iload_n X dX3_die_1 rfl 1 rfl ?_
  have hk := h.1
  replace h := h.2
  refine g_callXV_q X htab (As := [.int x1]) (st := []) (n := 1) (c_X3_personAt hst h) rfl (by decide) hk (wE_4 G w a0) m_295 m_297 m_4 m_15 m_298 (by decide +kernel) (by decide +kernel) rfl rfl (Nat.zero_le _) ⟨(by decide +kernel), (by decide +kernel)⟩ dX3_die_2 (by decide +kernel) (by decide +kernel) (fun E w1 hE => hE) (fun z2 w1 h => ?_)
  clear hk
  refine g_widen (c2 := (1)) (s2 := (6)) (by decide +kernel) (by decide +kernel) ?_
  refine g_astore_n X [(3, .inr z2), (0, .inr (some a0)), (1, .inl x1), (2, .inl x2)] dX3_die_5 rfl (by decide) rfl ?_
  refine g_aload_n X dX3_die_6 rfl 1 rfl ?_
  refine g_iload_n X dX3_die_7 rfl 3 rfl ?_
  have hk := h.1
  replace h := h.2
  refine g_callXV_q X htab (As := [.int x2]) (st := []) (n := 1) (c_X3_personAt hst h) rfl (by decide) hk (wE_4 G w1 a0) m_295 m_297 m_4 m_15 m_298 (by decide +kernel) (by decide +kernel) rfl rfl (Nat.zero_le _) ⟨(by decide +kernel), (by decide +kernel)⟩ dX3_die_8 (by decide +kernel) (by decide +kernel) (fun E w1 hE => hE) (fun z4 w3 h => ?_)
  clear hk
  refine g_widen (c2 := (2)) (s2 := (12)) (by decide +kernel) (by decide +kernel) ?_
  refine g_astore X [(4, .inr z4), (3, .inr z2), (0, .inr (some a0)), (1, .inl x1), (2, .inl x2)] dX3_die_11 (by decide) rfl ?_
  refine g_iload_n X dX3_die_13 rfl 3 rfl ?_
  refine g_iload_n X dX3_die_14 rfl 4 rfl ?_
  refine g_icmp_ne X (tgt := 28) dX3_die_15 (by decide) (fun hc => ?_) (fun hc => ?_)
  · replace h := h.1 hc; clear hc
    refine g_aload_n X dX3_die_28 rfl 1 rfl ?_
    obtain ⟨a5, rfl, hk, h⟩ := h
    refine gg_212 X hk m_207 dX3_die_29 (fun v6 hv => ?_)
    replace h := h v6 hv; clear hv hk
    obtain ⟨J7, hjJ7, h⟩ := h
    have jp7 : J7 → Gw l G L0 p e rm_X3_die s m args below meth c 7 (2) (12) (vx_MQ below (gQi G L0 Q) (gXC G L0 QX) args s rm_X3_die.cells rm_X3_die.slots (GA L0)) w3 58 [] [] := by
      intro hJ
      have h := hjJ7 hJ
      clear hJ
      exact g_throw X (cls := "java/lang/IllegalStateException") (text := "one is dead, or the heir would have too many shares") (ik := 28) (is := 72) htab (by decide +kernel) m_161 m_23 (by decide +kernel) at_ISE_g at_ISE_b at_ISE_o dX3_die_58 dX3_die_61 (Or.inl ⟨dX3_die_62, dX3_die_64, dX3_die_67⟩) (by decide) (by decide +kernel) (by decide +kernel) (by decide +kernel) (by decide +kernel) (by decide +kernel) h
    refine g_if_ne X (tgt := 58) dX3_die_32 (by decide) (fun hc => ?_) (fun hc => ?_)
    · replace h := h.1 hc; clear hc
      exact g_sub [] [] rfl (jp7  h)
    · replace h := h.2 hc; clear hc
      refine g_aload X dX3_die_35 0 rfl ?_
      obtain ⟨a8, rfl, hk, h⟩ := h
      refine gg_212 X hk m_207 dX3_die_37 (fun v9 hv => ?_)
      replace h := h v9 hv; clear hv hk
      refine g_if_ne X (tgt := 58) dX3_die_40 (by decide) (fun hc => ?_) (fun hc => ?_)
      · replace h := h.1 hc; clear hc
        exact g_sub [] [] rfl (jp7  h)
      · replace h := h.2 hc; clear hc
        refine g_aload_n X dX3_die_43 rfl 1 rfl ?_
        have hk := h.1
        replace h := h.2
        refine gg_205 X hk m_194 dX3_die_44 (fun v10 hv => ?_)
        replace h := h v10 hv; clear hv hk
        refine g_aload X dX3_die_47 0 rfl ?_
        have hk := h.1
        replace h := h.2
        refine gg_205 X hk m_194 dX3_die_49 (fun v11 hv => ?_)
        replace h := h v11 hv; clear hv hk
        refine g_iadd X dX3_die_52 (fun v12 hv => ?_)
        replace h := h v12 hv; clear hv
        refine g_bipush X (v := (100 : Int32)) dX3_die_53 (by decide) ?_
        refine g_icmp_le X (tgt := 68) dX3_die_55 (by decide) (fun hc => ?_) (fun hc => ?_)
        · replace h := h.1 hc; clear hc
          refine g_aload_n X dX3_die_68 rfl 1 rfl ?_
          refine g_aload X dX3_die_69 0 rfl ?_
          have hk := h.1
          replace h := h.2
          refine g_callV_v X (As := [va_rf (some a8)]) (st := []) (n := 1) (c_X1_bequeath hst h) rfl (by decide) hk (wE_2 G w3 a5) m_495 m_496 m_497 m_29 m_498 (by decide +kernel) (by decide +kernel) rfl rfl (Nat.zero_le _) ⟨(by decide +kernel), (by decide +kernel)⟩ dX3_die_71 (fun w13 h => ?_)
          clear hk
          refine g_widen (c2 := (2)) (s2 := (12)) (by decide +kernel) (by decide +kernel) ?_
          refine g_iconst X (v := (0 : Int32)) dX3_die_74 (by decide) ?_
          refine g_istore X [(5, .inl (0 : Int32)), (4, .inr (some a8)), (3, .inr (some a5)), (0, .inr (some a0)), (1, .inl x1), (2, .inl x2)] dX3_die_75 (by decide) rfl ?_
          refine g_iconst X (v := (0 : Int32)) dX3_die_77 (by decide) ?_
          refine g_istore X [(6, .inl (0 : Int32)), (5, .inl (0 : Int32)), (4, .inr (some a8)), (3, .inr (some a5)), (0, .inr (some a0)), (1, .inl x1), (2, .inl x2)] dX3_die_78 (by decide) rfl ?_
          obtain ⟨Inv15, ⟨n0, hi⟩, hsn14⟩ := h
          have lp15 : ∀ (n14 : Nat), ∀ (y16 : Int32) (y17 : Int32) (w18 : Wd), Inv15 n14 y16 y17 w18 → Gw l G L0 p e rm_X3_die s m args below meth c 7 (2) (12) (vx_MQ below (gQi G L0 Q) (gXC G L0 QX) args s rm_X3_die.cells rm_X3_die.slots (GA L0)) w18 80 [(0, .inr (some a0)), (3, .inr (some a5)), (4, .inr (some a8)), (5, .inl y16), (6, .inl y17)] [] := by
            intro n14
            induction n14 using Nat.strongRecOn with
            | ind n14 ihn14 =>
              intro y16 y17 w18 hI
              have h := hsn14 n14 y16 y17 w18 hI
              clear hI
              refine g_iload X dX3_die_80 4 rfl ?_
              refine g_aload_n X dX3_die_82 rfl 0 rfl ?_
              have hk := h.1
              replace h := h.2
              refine gg_401 X hk m_69 dX3_die_83 (fun z19 hv => ?_)
              replace h := h z19 hv; clear hv hk
              obtain ⟨a20, rfl, hk, h⟩ := h
              refine g_callV_i X (As := []) (st := [.int y17]) (n := 0) (c_Jx4a65c_size_8abf5 hst h) rfl (by decide) hk (wE_6 G w18 a20) m_157 m_158 m_159 m_18 m_160 (by decide +kernel) (by decide +kernel) rfl rfl (by simp [cat_int, rf_cat]) ⟨(by decide +kernel), (by decide +kernel)⟩ dX3_die_86 (fun v22 w21 h => ?_)
              clear hk
              refine g_widen (c2 := (2)) (s2 := (12)) (by decide +kernel) (by decide +kernel) ?_
              refine g_icmp_ge X (tgt := 122) dX3_die_89 (by decide) (fun hc => ?_) (fun hc => ?_)
              · replace h := h.1 hc; clear hc
                refine g_iload X dX3_die_122 3 rfl ?_
                exact g_iretX X hr (by decide +kernel) (by decide +kernel) dX3_die_124 h
              · replace h := h.2 hc; clear hc
                refine g_aload_n X dX3_die_92 rfl 0 rfl ?_
                have hk := h.1
                replace h := h.2
                refine gg_401 X hk m_69 dX3_die_93 (fun z23 hv => ?_)
                replace h := h z23 hv; clear hv hk
                refine g_iload X dX3_die_96 4 rfl ?_
                obtain ⟨a24, rfl, hk, h⟩ := h
                refine g_callV_q X (As := [.int y17]) (st := []) (n := 1) (c_Jx4a65c_get_915e3 hst h) rfl (by decide) hk (wE_6 G w21 a24) m_315 m_316 m_317 m_18 m_318 (by decide +kernel) (by decide +kernel) rfl rfl (Nat.zero_le _) ⟨(by decide +kernel), (by decide +kernel)⟩ dX3_die_98 (fun z26 w25 h => ?_)
                clear hk
                refine g_widen (c2 := (2)) (s2 := (12)) (by decide +kernel) (by decide +kernel) ?_
                refine g_castS X (C := "SusuRing$Circle") (T := TX0) (N := 8) (ci := 1) rfl (by decide) (fun a => ⟨_, wE_1 G w25 a⟩) h.1 m_336 dX3_die_101 ?_
                replace h := h.2
                refine g_aload_n X dX3_die_104 rfl 1 rfl ?_
                refine g_aload X dX3_die_105 2 rfl ?_
                obtain ⟨a28, rfl, hk, h⟩ := h
                refine g_callV_i X (As := [va_rf (some a5), va_rf (some a8)]) (st := []) (n := 2) (c_X0_passOn hst h) rfl (by decide) hk (wE_1 G w25 a28) m_500 m_501 m_502 m_24 m_503 (by decide +kernel) (by decide +kernel) rfl rfl (Nat.zero_le _) ⟨(by decide +kernel), (by decide +kernel)⟩ dX3_die_107 (fun v30 w29 h => ?_)
                clear hk
                refine g_widen (c2 := (2)) (s2 := (12)) (by decide +kernel) (by decide +kernel) ?_
                obtain ⟨J31, hjJ31, h⟩ := h
                have jp31 : ∀ (y32 : Int32), J31 y32 → Gw l G L0 p e rm_X3_die s m args below meth c 7 (2) (12) (vx_MQ below (gQi G L0 Q) (gXC G L0 QX) args s rm_X3_die.cells rm_X3_die.slots (GA L0)) w29 116 [(0, .inr (some a0)), (3, .inr (some a5)), (4, .inr (some a8)), (5, .inl y32), (6, .inl y17)] [] := by
                  intro y32 hJ
                  have h := hjJ31 y32 hJ
                  clear hJ
                  refine g_iinc X dX3_die_116 4 rfl (d := (1 : Int32)) (by decide) (by decide) (fun v33 hv => ?_)
                  replace h := h v33 hv; clear hv
                  refine g_sub [0, 1, 2, 3, 4] [(6, .inl v33), (0, .inr (some a0)), (3, .inr (some a5)), (4, .inr (some a8)), (5, .inl y32)] rfl ?_
                  refine g_goto X (tgt := 80) dX3_die_119 (by decide) ?_
                  obtain ⟨n, hn, hI⟩ := h
                  exact g_sub [1, 2, 3, 4, 0] [(0, .inr (some a0)), (3, .inr (some a5)), (4, .inr (some a8)), (5, .inl y32), (6, .inl v33)] rfl (ihn14 n hn y32 v33 w29 hI)
                refine g_if_eq X (tgt := 116) dX3_die_110 (by decide) (fun hc => ?_) (fun hc => ?_)
                · replace h := h.1 hc; clear hc
                  exact g_sub [0, 1, 2, 3, 4] [(0, .inr (some a0)), (3, .inr (some a5)), (4, .inr (some a8)), (5, .inl y16), (6, .inl y17)] rfl (jp31 y16 h)
                · replace h := h.2 hc; clear hc
                  refine g_iinc X dX3_die_113 3 rfl (d := (1 : Int32)) (by decide) (by decide) (fun v34 hv => ?_)
                  replace h := h v34 hv; clear hv
                  refine g_sub [0, 1, 2, 3, 4] [(5, .inl v34), (0, .inr (some a0)), (3, .inr (some a5)), (4, .inr (some a8)), (6, .inl y17)] rfl ?_
                  exact g_sub [1, 2, 3, 0, 4] [(0, .inr (some a0)), (3, .inr (some a5)), (4, .inr (some a8)), (5, .inl v34), (6, .inl y17)] rfl (jp31 v34 h)
          exact g_sub [4, 3, 2, 1, 0] [(0, .inr (some a0)), (3, .inr (some a5)), (4, .inr (some a8)), (5, .inl (0 : Int32)), (6, .inl (0 : Int32))] rfl (lp15 n0 (0 : Int32) (0 : Int32) w13 hi)
        · replace h := h.2 hc; clear hc
          exact g_sub [] [] rfl (jp7  h)
  · replace h := h.2 hc; clear hc
    exact g_throw X (cls := "java/lang/IllegalArgumentException") (text := "nobody is the own heir") (ik := 64) (is := 66) htab (by decide +kernel) m_88 m_22 (by decide +kernel) at_IAE_g at_IAE_b at_IAE_o dX3_die_18 dX3_die_21 (Or.inl ⟨dX3_die_22, dX3_die_24, dX3_die_27⟩) (by decide) (by decide +kernel) (by decide +kernel) (by decide +kernel) (by decide +kernel) (by decide +kernel) h

abbrev rm_X3_circle : Room := { frames := 7, cells := 8, slots := 160, locals := 258 }
def wp_X3_circle (a0 : Nat) (x1 : Int32) (x2 : Int32) (w : Wd) (Q : Int32 → Wd → Prop) (QX : String → Wd → Prop) : Prop :=
  wp_X3_checkRange x1 (1 : Int32) (1000 : Int32) w (fun w1 => 
  wp_X3_checkRange x2 (0 : Int32) (3 : Int32) w1 (fun w2 => 
  w2.K a0 = 4 ∧
  ∀ z3 : Option Nat, z3 = w2.R 401 a0 →
  ∃ a4, z3 = some a4 ∧ w2.K a4 = 6 ∧
  wp_Jx4a65c_size_8abf5 a4 w2 (fun v6 w5 => 
  (v6 < (4 : Int32) → w5.K a0 = 4 ∧
  ∀ z7 : Option Nat, z7 = w5.R 401 a0 →
  ∀ q8 : Nat, w5.K q8 = 0 → ∀ w9 : Wd, w9 = w5.new 1 q8 →
  wp_X0_init q8 x1 x2 w9 (fun w10 => 
  ∃ a11, z7 = some a11 ∧ w10.K a11 = 6 ∧
  wp_Jx4a65c_add_9ea2d a11 (some q8) w10 (fun v13 w12 => 
  w12.K a0 = 4 ∧
  ∀ z14 : Option Nat, z14 = w12.R 401 a0 →
  ∃ a15, z14 = some a15 ∧ w12.K a15 = 6 ∧
  wp_Jx4a65c_size_8abf5 a15 w12 (fun v17 w16 => 
  ∀ v18 : Int32, v18 = v17 - (1 : Int32) →
  Q v18 w16)))) ∧ (¬ v6 < (4 : Int32) → QX "java/lang/IllegalStateException" w5))) QX) QX
set_option maxHeartbeats 4000000 in
set_option maxRecDepth 100000 in
theorem c_X3_circle {l : Launch} {G : GT} {L0 : Nat} (hst : l.stackTraces = false) {a0 : Nat} {x1 : Int32} {x2 : Int32} {w : Wd} {Q : Int32 → Wd → Prop} {QX : String → Wd → Prop} (h : wp_X3_circle a0 x1 x2 w Q QX) : GXi l G L0 yX3_circle cX3_circle 3 (some .int) rm_X3_circle [.ref a0, .int x1, .int x2] w Q QX := by
  refine g_enterX hst (by decide +kernel) [.inr (some a0), .inl x1, .inl x2] rfl (show 3 ≤ 3 by decide) ?_
  intro p e s m args below meth c X hr hnm htab
  replace X : GC l G L0 p s m args meth c cX3_circle 3 "SusuRing" := X
  refine g_iload_n X dX3_circle_0 rfl 1 rfl ?_
  refine g_iconst X (v := (1 : Int32)) dX3_circle_1 (by decide) ?_
  refine g_sipush X (v := (1000 : Int32)) dX3_circle_2 (by decide) ?_
  refine g_callXS_v X htab (As := [.int x1, .int (1 : Int32), .int (1000 : Int32)]) (st := []) (n := 3) (c_X3_checkRange hst h) m_85 m_86 m_15 m_87 (by decide +kernel) (by decide +kernel) rfl rfl (Nat.zero_le _) ⟨(by decide +kernel), (by decide +kernel)⟩ dX3_circle_5 (by decide +kernel) (by decide +kernel) (fun E w1 hE => hE) (fun w1 h => ?_)
  refine g_widen (c2 := (1)) (s2 := (6)) (by decide +kernel) (by decide +kernel) ?_
  refine g_iload_n X dX3_circle_8 rfl 2 rfl ?_
  refine g_iconst X (v := (0 : Int32)) dX3_circle_9 (by decide) ?_
  refine g_iconst X (v := (3 : Int32)) dX3_circle_10 (by decide) ?_
  refine g_callXS_v X htab (As := [.int x2, .int (0 : Int32), .int (3 : Int32)]) (st := []) (n := 3) (c_X3_checkRange hst h) m_85 m_86 m_15 m_87 (by decide +kernel) (by decide +kernel) rfl rfl (Nat.zero_le _) ⟨(by decide +kernel), (by decide +kernel)⟩ dX3_circle_11 (by decide +kernel) (by decide +kernel) (fun E w1 hE => hE) (fun w2 h => ?_)
  refine g_widen (c2 := (2)) (s2 := (12)) (by decide +kernel) (by decide +kernel) ?_
  refine g_aload_n X dX3_circle_14 rfl 0 rfl ?_
  have hk := h.1
  replace h := h.2
  refine gg_401 X hk m_69 dX3_circle_15 (fun z3 hv => ?_)
  replace h := h z3 hv; clear hv hk
  obtain ⟨a4, rfl, hk, h⟩ := h
  refine g_callV_i X (As := []) (st := []) (n := 0) (c_Jx4a65c_size_8abf5 hst h) rfl (by decide) hk (wE_6 G w2 a4) m_157 m_158 m_159 m_18 m_160 (by decide +kernel) (by decide +kernel) rfl rfl (Nat.zero_le _) ⟨(by decide +kernel), (by decide +kernel)⟩ dX3_circle_18 (fun v6 w5 h => ?_)
  clear hk
  refine g_widen (c2 := (2)) (s2 := (12)) (by decide +kernel) (by decide +kernel) ?_
  refine g_iconst X (v := (4 : Int32)) dX3_circle_21 (by decide) ?_
  refine g_icmp_lt X (tgt := 35) dX3_circle_22 (by decide) (fun hc => ?_) (fun hc => ?_)
  · replace h := h.1 hc; clear hc
    refine g_aload_n X dX3_circle_35 rfl 0 rfl ?_
    have hk := h.1
    replace h := h.2
    refine gg_401 X hk m_69 dX3_circle_36 (fun z7 hv => ?_)
    replace h := h z7 hv; clear hv hk
    refine gnew_1 X m_336 m_337 m_24 (by decide +kernel) (by decide +kernel) dX3_circle_39 (fun q8 h1 w9 hv => ?_)
    replace h := h q8 h1 w9 hv; clear hv h1
    refine g_widen (c2 := (3)) (s2 := (20)) (by decide) (by decide) ?_
    refine g_dup X dX3_circle_42 rf_cat ?_
    refine g_iload_n X dX3_circle_43 rfl 1 rfl ?_
    refine g_iload_n X dX3_circle_44 rfl 2 rfl ?_
    refine g_callI_v X (As := [.int x1, .int x2]) (st := [va_rf (some q8), va_rf z7]) (n := 2) (c_X0_init hst h) m_338 m_339 rfl m_24 m_340 (by decide +kernel) (by decide +kernel) rfl rfl (by simp [cat_int, rf_cat]) ⟨(by decide +kernel), (by decide +kernel)⟩ dX3_circle_45 (fun w10 h => ?_)
    refine g_widen (c2 := (5)) (s2 := (26)) (by decide +kernel) (by decide +kernel) ?_
    obtain ⟨a11, rfl, hk, h⟩ := h
    refine g_callV_i X (As := [va_rf (some q8)]) (st := []) (n := 1) (c_Jx4a65c_add_9ea2d hst h) rfl (by decide) hk (wE_6 G w10 a11) m_236 m_237 m_238 m_18 m_239 (by decide +kernel) (by decide +kernel) rfl rfl (Nat.zero_le _) ⟨(by decide +kernel), (by decide +kernel)⟩ dX3_circle_48 (fun v13 w12 h => ?_)
    clear hk
    refine g_widen (c2 := (7)) (s2 := (154)) (by decide +kernel) (by decide +kernel) ?_
    refine g_pop X dX3_circle_51 rfl ?_
    refine g_aload_n X dX3_circle_52 rfl 0 rfl ?_
    have hk := h.1
    replace h := h.2
    refine gg_401 X hk m_69 dX3_circle_53 (fun z14 hv => ?_)
    replace h := h z14 hv; clear hv hk
    obtain ⟨a15, rfl, hk, h⟩ := h
    refine g_callV_i X (As := []) (st := []) (n := 0) (c_Jx4a65c_size_8abf5 hst h) rfl (by decide) hk (wE_6 G w12 a15) m_157 m_158 m_159 m_18 m_160 (by decide +kernel) (by decide +kernel) rfl rfl (Nat.zero_le _) ⟨(by decide +kernel), (by decide +kernel)⟩ dX3_circle_56 (fun v17 w16 h => ?_)
    clear hk
    refine g_widen (c2 := (7)) (s2 := (154)) (by decide +kernel) (by decide +kernel) ?_
    refine g_iconst X (v := (1 : Int32)) dX3_circle_59 (by decide) ?_
    refine g_isub X dX3_circle_60 (fun v18 hv => ?_)
    replace h := h v18 hv; clear hv
    exact g_iretX X hr (by decide +kernel) (by decide +kernel) dX3_circle_61 h
  · replace h := h.2 hc; clear hc
    exact g_throw X (cls := "java/lang/IllegalStateException") (text := "there are 4 circles") (ik := 28) (is := 88) htab (by decide +kernel) m_161 m_23 (by decide +kernel) at_ISE_g at_ISE_b at_ISE_o dX3_circle_25 dX3_circle_28 (Or.inl ⟨dX3_circle_29, dX3_circle_31, dX3_circle_34⟩) (by decide) (by decide +kernel) (by decide +kernel) (by decide +kernel) (by decide +kernel) (by decide +kernel) h

abbrev rm_X3_circleAt : Room := { frames := 6, cells := 1, slots := 6, locals := 164 }
def wp_X3_circleAt (a0 : Nat) (x1 : Int32) (w : Wd) (Q : Option Nat → Wd → Prop) (QX : String → Wd → Prop) : Prop :=
  ∃ J1 : Wd → Prop, (∀  (w2 : Wd), J1 w2 →
  QX "java/lang/IndexOutOfBoundsException" w2) ∧
  (x1 < 0 → J1 w) ∧ (¬ x1 < 0 → w.K a0 = 4 ∧
  ∀ z3 : Option Nat, z3 = w.R 401 a0 →
  ∃ a4, z3 = some a4 ∧ w.K a4 = 6 ∧
  wp_Jx4a65c_size_8abf5 a4 w (fun v6 w5 => 
  (x1 < v6 → w5.K a0 = 4 ∧
  ∀ z7 : Option Nat, z7 = w5.R 401 a0 →
  ∃ a8, z7 = some a8 ∧ w5.K a8 = 6 ∧
  wp_Jx4a65c_get_915e3 a8 x1 w5 (fun z10 w9 => 
  (∀ y11, z10 = some y11 → w9.K y11 = 1) ∧
  Q z10 w9)) ∧ (¬ x1 < v6 → J1 w5)))
set_option maxHeartbeats 4000000 in
set_option maxRecDepth 100000 in
theorem c_X3_circleAt {l : Launch} {G : GT} {L0 : Nat} (hst : l.stackTraces = false) {a0 : Nat} {x1 : Int32} {w : Wd} {Q : Option Nat → Wd → Prop} {QX : String → Wd → Prop} (h : wp_X3_circleAt a0 x1 w Q QX) : GXq l G L0 yX3_circleAt cX3_circleAt 2 (some (.object "SusuRing$Circle")) rm_X3_circleAt [.ref a0, .int x1] w Q QX := by
  refine g_enterX hst (by decide +kernel) [.inr (some a0), .inl x1] rfl (show 2 ≤ 2 by decide) ?_
  intro p e s m args below meth c X hr hnm htab
  replace X : GC l G L0 p s m args meth c cX3_circleAt 2 "SusuRing" := X
  refine g_iload_n X dX3_circleAt_0 rfl 1 rfl ?_
  obtain ⟨J1, hjJ1, h⟩ := h
  have jp1 : ∀  (w2 : Wd), J1 w2 → Gw l G L0 p e rm_X3_circleAt s m args below meth c 2 (0) (0) (vx_MQ below (gQq G L0 Q) (gXC G L0 QX) args s rm_X3_circleAt.cells rm_X3_circleAt.slots (GA L0)) w2 15 [] [] := by
    intro w2 hJ
    have h := hjJ1 w2 hJ
    clear hJ
    exact g_throw X (cls := "java/lang/IndexOutOfBoundsException") (text := "there is no such circle") (ik := 239) (is := 262) htab (by decide +kernel) m_299 m_30 (by decide +kernel) at_IOB_g at_IOB_b at_IOB_o dX3_circleAt_15 dX3_circleAt_18 (Or.inr ⟨dX3_circleAt_19, dX3_circleAt_22, dX3_circleAt_25⟩) (by decide) (by decide +kernel) (by decide +kernel) (by decide +kernel) (by decide +kernel) (by decide +kernel) h
  refine g_if_lt X (tgt := 15) dX3_circleAt_1 (by decide) (fun hc => ?_) (fun hc => ?_)
  · replace h := h.1 hc; clear hc
    exact g_sub [] [] rfl (jp1 w h)
  · replace h := h.2 hc; clear hc
    refine g_iload_n X dX3_circleAt_4 rfl 1 rfl ?_
    refine g_aload_n X dX3_circleAt_5 rfl 0 rfl ?_
    have hk := h.1
    replace h := h.2
    refine gg_401 X hk m_69 dX3_circleAt_6 (fun z3 hv => ?_)
    replace h := h z3 hv; clear hv hk
    obtain ⟨a4, rfl, hk, h⟩ := h
    refine g_callV_i X (As := []) (st := [.int x1]) (n := 0) (c_Jx4a65c_size_8abf5 hst h) rfl (by decide) hk (wE_6 G w a4) m_157 m_158 m_159 m_18 m_160 (by decide +kernel) (by decide +kernel) rfl rfl (by simp [cat_int, rf_cat]) ⟨(by decide +kernel), (by decide +kernel)⟩ dX3_circleAt_9 (fun v6 w5 h => ?_)
    clear hk
    refine g_widen (c2 := (0)) (s2 := (0)) (by decide +kernel) (by decide +kernel) ?_
    refine g_icmp_lt X (tgt := 26) dX3_circleAt_12 (by decide) (fun hc => ?_) (fun hc => ?_)
    · replace h := h.1 hc; clear hc
      refine g_aload_n X dX3_circleAt_26 rfl 0 rfl ?_
      have hk := h.1
      replace h := h.2
      refine gg_401 X hk m_69 dX3_circleAt_27 (fun z7 hv => ?_)
      replace h := h z7 hv; clear hv hk
      refine g_iload_n X dX3_circleAt_30 rfl 1 rfl ?_
      obtain ⟨a8, rfl, hk, h⟩ := h
      refine g_callV_q X (As := [.int x1]) (st := []) (n := 1) (c_Jx4a65c_get_915e3 hst h) rfl (by decide) hk (wE_6 G w5 a8) m_315 m_316 m_317 m_18 m_318 (by decide +kernel) (by decide +kernel) rfl rfl (Nat.zero_le _) ⟨(by decide +kernel), (by decide +kernel)⟩ dX3_circleAt_31 (fun z10 w9 h => ?_)
      clear hk
      refine g_widen (c2 := (0)) (s2 := (0)) (by decide +kernel) (by decide +kernel) ?_
      refine g_castS X (C := "SusuRing$Circle") (T := TX0) (N := 8) (ci := 1) rfl (by decide) (fun a => ⟨_, wE_1 G w9 a⟩) h.1 m_336 dX3_circleAt_34 ?_
      replace h := h.2
      exact g_aretX X hr (Or.inl ⟨_, rfl⟩) (by decide +kernel) (by decide +kernel) dX3_circleAt_37 h
    · replace h := h.2 hc; clear hc
      exact g_sub [] [] rfl (jp1 w5 h)

abbrev rm_X3_enter : Room := { frames := 7, cells := 7, slots := 158, locals := 258 }
def wp_X3_enter (a0 : Nat) (x1 : Int32) (x2 : Int32) (w : Wd) (Q : Int32 → Wd → Prop) (QX : String → Wd → Prop) : Prop :=
  w.K a0 = 4 ∧
  wp_X3_circleAt a0 x1 w (fun z2 w1 => 
  w1.K a0 = 4 ∧
  wp_X3_personAt a0 x2 w1 (fun z4 w3 => 
  ∃ a5, z2 = some a5 ∧ w3.K a5 = 1 ∧
  ∀ v6 : Int32, v6 = w3.I 104 a5 →
  ∃ J7 : Wd → Prop, (∀  (w8 : Wd), J7 w8 →
  QX "java/lang/IllegalStateException" w8) ∧
  (¬ v6 = 0 → J7 w3) ∧ (v6 = 0 → w3.K a5 = 1 ∧
  ∀ z9 : Option Nat, z9 = w3.R 102 a5 →
  ∃ a10, z9 = some a10 ∧ w3.K a10 = 6 ∧
  wp_Jx4a65c_size_8abf5 a10 w3 (fun v12 w11 => 
  (v12 < (10 : Int32) → ∃ a13, z4 = some a13 ∧ w11.K a13 = 2 ∧
  ∀ v14 : Int32, v14 = w11.I 212 a13 →
  ∃ J15 : Wd → Prop, (∀  (w16 : Wd), J15 w16 →
  QX "java/lang/IllegalStateException" w16) ∧
  (¬ v14 = 0 → J15 w11) ∧ (v14 = 0 → w11.K a5 = 1 ∧
  wp_X0_placeOf a5 (some a13) w11 (fun z18 w17 => 
  (z18 = none → w17.K a5 = 1 ∧
  ∀ z19 : Option Nat, z19 = w17.R 102 a5 →
  ∀ q20 : Nat, w17.K q20 = 0 → ∀ w21 : Wd, w21 = w17.new 3 q20 →
  wp_X2_init q20 (some a13) w21 (fun w22 => 
  ∃ a23, z19 = some a23 ∧ w22.K a23 = 6 ∧
  wp_Jx4a65c_add_9ea2d a23 (some q20) w22 (fun v25 w24 => 
  w24.K a5 = 1 ∧
  ∀ z26 : Option Nat, z26 = w24.R 102 a5 →
  ∃ a27, z26 = some a27 ∧ w24.K a27 = 6 ∧
  wp_Jx4a65c_size_8abf5 a27 w24 (fun v29 w28 => 
  Q v29 w28)))) ∧ (¬ z18 = none → J15 w17)))) ∧ (¬ v12 < (10 : Int32) → J7 w11)))) QX) QX
set_option maxHeartbeats 4000000 in
set_option maxRecDepth 100000 in
theorem c_X3_enter {l : Launch} {G : GT} {L0 : Nat} (hst : l.stackTraces = false) {a0 : Nat} {x1 : Int32} {x2 : Int32} {w : Wd} {Q : Int32 → Wd → Prop} {QX : String → Wd → Prop} (h : wp_X3_enter a0 x1 x2 w Q QX) : GXi l G L0 yX3_enter cX3_enter 5 (some .int) rm_X3_enter [.ref a0, .int x1, .int x2] w Q QX := by
  refine g_enterX hst (by decide +kernel) [.inr (some a0), .inl x1, .inl x2] rfl (show 3 ≤ 5 by decide) ?_
  intro p e s m args below meth c X hr hnm htab
  replace X : GC l G L0 p s m args meth c cX3_enter 5 "SusuRing" := X
  refine g_aload_n X dX3_enter_0 rfl 0 rfl ?_
  refine g_iload_n X dX3_enter_1 rfl 1 rfl ?_
  have hk := h.1
  replace h := h.2
  refine g_callXV_q X htab (As := [.int x1]) (st := []) (n := 1) (c_X3_circleAt hst h) rfl (by decide) hk (wE_4 G w a0) m_426 m_428 m_9 m_15 m_429 (by decide +kernel) (by decide +kernel) rfl rfl (Nat.zero_le _) ⟨(by decide +kernel), (by decide +kernel)⟩ dX3_enter_2 (by decide +kernel) (by decide +kernel) (fun E w1 hE => hE) (fun z2 w1 h => ?_)
  clear hk
  refine g_widen (c2 := (1)) (s2 := (6)) (by decide +kernel) (by decide +kernel) ?_
  refine g_astore_n X [(3, .inr z2), (0, .inr (some a0)), (1, .inl x1), (2, .inl x2)] dX3_enter_5 rfl (by decide) rfl ?_
  refine g_aload_n X dX3_enter_6 rfl 1 rfl ?_
  refine g_iload_n X dX3_enter_7 rfl 3 rfl ?_
  have hk := h.1
  replace h := h.2
  refine g_callXV_q X htab (As := [.int x2]) (st := []) (n := 1) (c_X3_personAt hst h) rfl (by decide) hk (wE_4 G w1 a0) m_295 m_297 m_4 m_15 m_298 (by decide +kernel) (by decide +kernel) rfl rfl (Nat.zero_le _) ⟨(by decide +kernel), (by decide +kernel)⟩ dX3_enter_8 (by decide +kernel) (by decide +kernel) (fun E w1 hE => hE) (fun z4 w3 h => ?_)
  clear hk
  refine g_widen (c2 := (2)) (s2 := (12)) (by decide +kernel) (by decide +kernel) ?_
  refine g_astore X [(4, .inr z4), (3, .inr z2), (0, .inr (some a0)), (1, .inl x1), (2, .inl x2)] dX3_enter_11 (by decide) rfl ?_
  refine g_aload_n X dX3_enter_13 rfl 1 rfl ?_
  obtain ⟨a5, rfl, hk, h⟩ := h
  refine gg_104 X hk m_349 dX3_enter_14 (fun v6 hv => ?_)
  replace h := h v6 hv; clear hv hk
  obtain ⟨J7, hjJ7, h⟩ := h
  have jp7 : ∀  (w8 : Wd), J7 w8 → Gw l G L0 p e rm_X3_enter s m args below meth c 5 (2) (12) (vx_MQ below (gQi G L0 Q) (gXC G L0 QX) args s rm_X3_enter.cells rm_X3_enter.slots (GA L0)) w8 32 [] [] := by
    intro w8 hJ
    have h := hjJ7 w8 hJ
    clear hJ
    exact g_throw X (cls := "java/lang/IllegalStateException") (text := "the circle has started, or is full") (ik := 28) (is := 103) htab (by decide +kernel) m_161 m_23 (by decide +kernel) at_ISE_g at_ISE_b at_ISE_o dX3_enter_32 dX3_enter_35 (Or.inl ⟨dX3_enter_36, dX3_enter_38, dX3_enter_41⟩) (by decide) (by decide +kernel) (by decide +kernel) (by decide +kernel) (by decide +kernel) (by decide +kernel) h
  refine g_if_ne X (tgt := 32) dX3_enter_17 (by decide) (fun hc => ?_) (fun hc => ?_)
  · replace h := h.1 hc; clear hc
    exact g_sub [] [] rfl (jp7 w3 h)
  · replace h := h.2 hc; clear hc
    refine g_aload_n X dX3_enter_20 rfl 1 rfl ?_
    have hk := h.1
    replace h := h.2
    refine gg_102 X hk m_347 dX3_enter_21 (fun z9 hv => ?_)
    replace h := h z9 hv; clear hv hk
    obtain ⟨a10, rfl, hk, h⟩ := h
    refine g_callV_i X (As := []) (st := []) (n := 0) (c_Jx4a65c_size_8abf5 hst h) rfl (by decide) hk (wE_6 G w3 a10) m_157 m_158 m_159 m_18 m_160 (by decide +kernel) (by decide +kernel) rfl rfl (Nat.zero_le _) ⟨(by decide +kernel), (by decide +kernel)⟩ dX3_enter_24 (fun v12 w11 h => ?_)
    clear hk
    refine g_widen (c2 := (2)) (s2 := (12)) (by decide +kernel) (by decide +kernel) ?_
    refine g_bipush X (v := (10 : Int32)) dX3_enter_27 (by decide) ?_
    refine g_icmp_lt X (tgt := 42) dX3_enter_29 (by decide) (fun hc => ?_) (fun hc => ?_)
    · replace h := h.1 hc; clear hc
      refine g_aload X dX3_enter_42 0 rfl ?_
      obtain ⟨a13, rfl, hk, h⟩ := h
      refine gg_212 X hk m_207 dX3_enter_44 (fun v14 hv => ?_)
      replace h := h v14 hv; clear hv hk
      obtain ⟨J15, hjJ15, h⟩ := h
      have jp15 : ∀  (w16 : Wd), J15 w16 → Gw l G L0 p e rm_X3_enter s m args below meth c 5 (2) (12) (vx_MQ below (gQi G L0 Q) (gXC G L0 QX) args s rm_X3_enter.cells rm_X3_enter.slots (GA L0)) w16 59 [] [] := by
        intro w16 hJ
        have h := hjJ15 w16 hJ
        clear hJ
        exact g_throw X (cls := "java/lang/IllegalStateException") (text := "the person is dead, or a member") (ik := 28) (is := 109) htab (by decide +kernel) m_161 m_23 (by decide +kernel) at_ISE_g at_ISE_b at_ISE_o dX3_enter_59 dX3_enter_62 (Or.inl ⟨dX3_enter_63, dX3_enter_65, dX3_enter_68⟩) (by decide) (by decide +kernel) (by decide +kernel) (by decide +kernel) (by decide +kernel) (by decide +kernel) h
      refine g_if_ne X (tgt := 59) dX3_enter_47 (by decide) (fun hc => ?_) (fun hc => ?_)
      · replace h := h.1 hc; clear hc
        exact g_sub [] [] rfl (jp15 w11 h)
      · replace h := h.2 hc; clear hc
        refine g_aload_n X dX3_enter_50 rfl 1 rfl ?_
        refine g_aload X dX3_enter_51 0 rfl ?_
        have hk := h.1
        replace h := h.2
        refine g_callV_q X (As := [va_rf (some a13)]) (st := []) (n := 1) (c_X0_placeOf hst h) rfl (by decide) hk (wE_1 G w11 a5) m_431 m_432 m_433 m_24 m_434 (by decide +kernel) (by decide +kernel) rfl rfl (Nat.zero_le _) ⟨(by decide +kernel), (by decide +kernel)⟩ dX3_enter_53 (fun z18 w17 h => ?_)
        clear hk
        refine g_widen (c2 := (2)) (s2 := (12)) (by decide +kernel) (by decide +kernel) ?_
        refine g_ifnull X (tgt := 69) dX3_enter_56 (by decide) (fun hc => ?_) (fun hc => ?_)
        · replace h := h.1 hc; clear hc
          refine g_aload_n X dX3_enter_69 rfl 1 rfl ?_
          have hk := h.1
          replace h := h.2
          refine gg_102 X hk m_347 dX3_enter_70 (fun z19 hv => ?_)
          replace h := h z19 hv; clear hv hk
          refine gnew_3 X m_538 m_539 m_33 (by decide +kernel) (by decide +kernel) dX3_enter_73 (fun q20 h1 w21 hv => ?_)
          replace h := h q20 h1 w21 hv; clear hv h1
          refine g_widen (c2 := (3)) (s2 := (18)) (by decide) (by decide) ?_
          refine g_dup X dX3_enter_76 rf_cat ?_
          refine g_aload X dX3_enter_77 0 rfl ?_
          refine g_callI_v X (As := [va_rf (some a13)]) (st := [va_rf (some q20), va_rf z19]) (n := 1) (c_X2_init hst h) m_540 m_541 rfl m_33 m_542 (by decide +kernel) (by decide +kernel) rfl rfl (by simp [cat_int, rf_cat]) ⟨(by decide +kernel), (by decide +kernel)⟩ dX3_enter_79 (fun w22 h => ?_)
          refine g_widen (c2 := (3)) (s2 := (18)) (by decide +kernel) (by decide +kernel) ?_
          obtain ⟨a23, rfl, hk, h⟩ := h
          refine g_callV_i X (As := [va_rf (some q20)]) (st := []) (n := 1) (c_Jx4a65c_add_9ea2d hst h) rfl (by decide) hk (wE_6 G w22 a23) m_236 m_237 m_238 m_18 m_239 (by decide +kernel) (by decide +kernel) rfl rfl (Nat.zero_le _) ⟨(by decide +kernel), (by decide +kernel)⟩ dX3_enter_82 (fun v25 w24 h => ?_)
          clear hk
          refine g_widen (c2 := (5)) (s2 := (146)) (by decide +kernel) (by decide +kernel) ?_
          refine g_pop X dX3_enter_85 rfl ?_
          refine g_aload_n X dX3_enter_86 rfl 1 rfl ?_
          have hk := h.1
          replace h := h.2
          refine gg_102 X hk m_347 dX3_enter_87 (fun z26 hv => ?_)
          replace h := h z26 hv; clear hv hk
          obtain ⟨a27, rfl, hk, h⟩ := h
          refine g_callV_i X (As := []) (st := []) (n := 0) (c_Jx4a65c_size_8abf5 hst h) rfl (by decide) hk (wE_6 G w24 a27) m_157 m_158 m_159 m_18 m_160 (by decide +kernel) (by decide +kernel) rfl rfl (Nat.zero_le _) ⟨(by decide +kernel), (by decide +kernel)⟩ dX3_enter_90 (fun v29 w28 h => ?_)
          clear hk
          refine g_widen (c2 := (5)) (s2 := (146)) (by decide +kernel) (by decide +kernel) ?_
          exact g_iretX X hr (by decide +kernel) (by decide +kernel) dX3_enter_93 h
        · replace h := h.2 hc; clear hc
          exact g_sub [] [] rfl (jp15 w17 h)
    · replace h := h.2 hc; clear hc
      exact g_sub [] [] rfl (jp7 w11 h)

abbrev rm_X3_numberAt : Room := { frames := 1, cells := 0, slots := 0, locals := 100 }
def wp_X3_numberAt (r0 : Option Nat) (w : Wd) (Q : Int32 → Wd → Prop) : Prop :=
  ∃ J1 : Int32 → Prop, (∀ (y2 : Int32), J1 y2 →
  Q y2 w) ∧
  (¬ r0 = none → ∃ a3, r0 = some a3 ∧ w.K a3 = 3 ∧
  ∀ z4 : Option Nat, z4 = w.R 300 a3 →
  ∃ a5, z4 = some a5 ∧ w.K a5 = 2 ∧
  ∀ v6 : Int32, v6 = w.I 200 a5 →
  J1 v6) ∧ (r0 = none → J1 (-1 : Int32))
set_option maxHeartbeats 4000000 in
set_option maxRecDepth 100000 in
theorem c_X3_numberAt {l : Launch} {G : GT} {L0 : Nat} (hst : l.stackTraces = false) {r0 : Option Nat} {w : Wd} {Q : Int32 → Wd → Prop} (h : wp_X3_numberAt r0 w Q) : GMi l G L0 yX3_numberAt cX3_numberAt 1 (some .int) rm_X3_numberAt [va_rf r0] w Q := by
  refine g_enter hst (by decide +kernel) [.inr r0] rfl (show 1 ≤ 1 by decide) ?_
  intro p e s m args below meth c X hr hnm
  replace X : GC l G L0 p s m args meth c cX3_numberAt 1 "SusuRing" := X
  refine g_aload_n X dX3_numberAt_0 rfl 0 rfl ?_
  obtain ⟨J1, hjJ1, h⟩ := h
  have jp1 : ∀ (y2 : Int32), J1 y2 → Gw l G L0 p e rm_X3_numberAt s m args below meth c 1 (0) (0) (MQ below (gQi G L0 Q) args s rm_X3_numberAt.cells rm_X3_numberAt.slots (GA L0)) w 15 [] [.int y2] := by
    intro y2 hJ
    have h := hjJ1 y2 hJ
    clear hJ
    exact g_iret X hr (by decide +kernel) (by decide +kernel) dX3_numberAt_15 h
  refine g_ifnonnull X (tgt := 8) dX3_numberAt_1 (by decide) (fun hc => ?_) (fun hc => ?_)
  · replace h := h.1 hc; clear hc
    refine g_aload_n X dX3_numberAt_8 rfl 0 rfl ?_
    obtain ⟨a3, rfl, hk, h⟩ := h
    refine gg_300 X hk m_546 dX3_numberAt_9 (fun z4 hv => ?_)
    replace h := h z4 hv; clear hv hk
    obtain ⟨a5, rfl, hk, h⟩ := h
    refine gg_200 X hk m_184 dX3_numberAt_12 (fun v6 hv => ?_)
    replace h := h v6 hv; clear hv hk
    exact g_sub [] [] rfl (jp1 v6 h)
  · replace h := h.2 hc; clear hc
    refine g_iconst X (v := (-1 : Int32)) dX3_numberAt_4 (by decide) ?_
    refine g_goto X (tgt := 15) dX3_numberAt_5 (by decide) ?_
    exact g_sub [] [] rfl (jp1 (-1 : Int32) h)

abbrev rm_X3_start : Room := { frames := 8, cells := 71, slots := 4370, locals := 283 }
def wp_X3_start (a0 : Nat) (x1 : Int32) (x2 : Int32) (w : Wd) (Q : Int32 → Wd → Prop) (QX : String → Wd → Prop) : Prop :=
  w.K a0 = 4 ∧
  wp_X3_circleAt a0 x1 w (fun z2 w1 => 
  wp_X3_checkRange x2 (0 : Int32) (9999 : Int32) w1 (fun w3 => 
  ∃ a4, z2 = some a4 ∧ w3.K a4 = 1 ∧
  ∀ v5 : Int32, v5 = w3.I 104 a4 →
  ∃ J6 : Wd → Prop, (∀  (w7 : Wd), J6 w7 →
  QX "java/lang/IllegalStateException" w7) ∧
  (¬ v5 = 0 → J6 w3) ∧ (v5 = 0 → w3.K a4 = 1 ∧
  ∀ z8 : Option Nat, z8 = w3.R 102 a4 →
  ∃ a9, z8 = some a9 ∧ w3.K a9 = 6 ∧
  wp_Jx4a65c_size_8abf5 a9 w3 (fun v11 w10 => 
  ((2 : Int32) ≤ v11 → w10.K a4 = 1 ∧
  ((1 : Int32) = 0 ∨ (1 : Int32) = 1) ∧
  ∀ w12 : Wd, w12 = w10.setI 104 a4 (1 : Int32) →
  w12.K a4 = 1 ∧
  wp_X0_makeOrder a4 x2 w12 (fun w13 => 
  w13.K a4 = 1 ∧
  wp_X0_hasOrder a4 w13 (fun v15 w14 => 
  ∃ J16 : Int32 → Wd → Prop, (∀ (y17 : Int32) (w18 : Wd), J16 y17 w18 →
  Q y17 w18) ∧
  (v15 = 0 → J16 (-1 : Int32) w14) ∧ (¬ v15 = 0 → w14.K a4 = 1 ∧
  wp_X0_upNext a4 w14 (fun z20 w19 => 
  wp_X3_numberAt z20 w19 (fun v22 w21 => 
  J16 v22 w21)))))) ∧ (¬ (2 : Int32) ≤ v11 → J6 w10)))) QX) QX
set_option maxHeartbeats 4000000 in
set_option maxRecDepth 100000 in
theorem c_X3_start {l : Launch} {G : GT} {L0 : Nat} (hst : l.stackTraces = false) {a0 : Nat} {x1 : Int32} {x2 : Int32} {w : Wd} {Q : Int32 → Wd → Prop} {QX : String → Wd → Prop} (h : wp_X3_start a0 x1 x2 w Q QX) : GXi l G L0 yX3_start cX3_start 4 (some .int) rm_X3_start [.ref a0, .int x1, .int x2] w Q QX := by
  refine g_enterX hst (by decide +kernel) [.inr (some a0), .inl x1, .inl x2] rfl (show 3 ≤ 4 by decide) ?_
  intro p e s m args below meth c X hr hnm htab
  replace X : GC l G L0 p s m args meth c cX3_start 4 "SusuRing" := X
  refine g_aload_n X dX3_start_0 rfl 0 rfl ?_
  refine g_iload_n X dX3_start_1 rfl 1 rfl ?_
  have hk := h.1
  replace h := h.2
  refine g_callXV_q X htab (As := [.int x1]) (st := []) (n := 1) (c_X3_circleAt hst h) rfl (by decide) hk (wE_4 G w a0) m_426 m_428 m_9 m_15 m_429 (by decide +kernel) (by decide +kernel) rfl rfl (Nat.zero_le _) ⟨(by decide +kernel), (by decide +kernel)⟩ dX3_start_2 (by decide +kernel) (by decide +kernel) (fun E w1 hE => hE) (fun z2 w1 h => ?_)
  clear hk
  refine g_widen (c2 := (1)) (s2 := (6)) (by decide +kernel) (by decide +kernel) ?_
  refine g_astore_n X [(3, .inr z2), (0, .inr (some a0)), (1, .inl x1), (2, .inl x2)] dX3_start_5 rfl (by decide) rfl ?_
  refine g_iload_n X dX3_start_6 rfl 3 rfl ?_
  refine g_iconst X (v := (0 : Int32)) dX3_start_7 (by decide) ?_
  refine g_sipush X (v := (9999 : Int32)) dX3_start_8 (by decide) ?_
  refine g_callXS_v X htab (As := [.int x2, .int (0 : Int32), .int (9999 : Int32)]) (st := []) (n := 3) (c_X3_checkRange hst h) m_85 m_86 m_15 m_87 (by decide +kernel) (by decide +kernel) rfl rfl (Nat.zero_le _) ⟨(by decide +kernel), (by decide +kernel)⟩ dX3_start_11 (by decide +kernel) (by decide +kernel) (fun E w1 hE => hE) (fun w3 h => ?_)
  refine g_widen (c2 := (2)) (s2 := (12)) (by decide +kernel) (by decide +kernel) ?_
  refine g_aload_n X dX3_start_14 rfl 0 rfl ?_
  obtain ⟨a4, rfl, hk, h⟩ := h
  refine gg_104 X hk m_349 dX3_start_15 (fun v5 hv => ?_)
  replace h := h v5 hv; clear hv hk
  obtain ⟨J6, hjJ6, h⟩ := h
  have jp6 : ∀  (w7 : Wd), J6 w7 → Gw l G L0 p e rm_X3_start s m args below meth c 4 (2) (12) (vx_MQ below (gQi G L0 Q) (gXC G L0 QX) args s rm_X3_start.cells rm_X3_start.slots (GA L0)) w7 32 [] [] := by
    intro w7 hJ
    have h := hjJ6 w7 hJ
    clear hJ
    exact g_throw X (cls := "java/lang/IllegalStateException") (text := "the circle has started, or too few members") (ik := 28) (is := 115) htab (by decide +kernel) m_161 m_23 (by decide +kernel) at_ISE_g at_ISE_b at_ISE_o dX3_start_32 dX3_start_35 (Or.inl ⟨dX3_start_36, dX3_start_38, dX3_start_41⟩) (by decide) (by decide +kernel) (by decide +kernel) (by decide +kernel) (by decide +kernel) (by decide +kernel) h
  refine g_if_ne X (tgt := 32) dX3_start_18 (by decide) (fun hc => ?_) (fun hc => ?_)
  · replace h := h.1 hc; clear hc
    exact g_sub [] [] rfl (jp6 w3 h)
  · replace h := h.2 hc; clear hc
    refine g_aload_n X dX3_start_21 rfl 0 rfl ?_
    have hk := h.1
    replace h := h.2
    refine gg_102 X hk m_347 dX3_start_22 (fun z8 hv => ?_)
    replace h := h z8 hv; clear hv hk
    obtain ⟨a9, rfl, hk, h⟩ := h
    refine g_callV_i X (As := []) (st := []) (n := 0) (c_Jx4a65c_size_8abf5 hst h) rfl (by decide) hk (wE_6 G w3 a9) m_157 m_158 m_159 m_18 m_160 (by decide +kernel) (by decide +kernel) rfl rfl (Nat.zero_le _) ⟨(by decide +kernel), (by decide +kernel)⟩ dX3_start_25 (fun v11 w10 h => ?_)
    clear hk
    refine g_widen (c2 := (2)) (s2 := (12)) (by decide +kernel) (by decide +kernel) ?_
    refine g_iconst X (v := (2 : Int32)) dX3_start_28 (by decide) ?_
    refine g_icmp_ge X (tgt := 42) dX3_start_29 (by decide) (fun hc => ?_) (fun hc => ?_)
    · replace h := h.1 hc; clear hc
      refine g_aload_n X dX3_start_42 rfl 0 rfl ?_
      refine g_iconst X (v := (1 : Int32)) dX3_start_43 (by decide) ?_
      have hk := h.1
      replace h := h.2
      have hz := h.1
      replace h := h.2
      refine gp_104 X hk hz m_349 dX3_start_44 (fun w12 hv => ?_)
      replace h := h w12 hv; clear hv hk
      refine g_aload_n X dX3_start_47 rfl 0 rfl ?_
      refine g_iload_n X dX3_start_48 rfl 3 rfl ?_
      have hk := h.1
      replace h := h.2
      refine g_callV_v X (As := [.int x2]) (st := []) (n := 1) (c_X0_makeOrder hst h) rfl (by decide) hk (wE_1 G w12 a4) m_577 m_578 m_579 m_24 m_580 (by decide +kernel) (by decide +kernel) rfl rfl (Nat.zero_le _) ⟨(by decide +kernel), (by decide +kernel)⟩ dX3_start_49 (fun w13 h => ?_)
      clear hk
      refine g_widen (c2 := (70)) (s2 := (4364)) (by decide +kernel) (by decide +kernel) ?_
      refine g_aload_n X dX3_start_52 rfl 0 rfl ?_
      have hk := h.1
      replace h := h.2
      refine g_callV_i X (As := []) (st := []) (n := 0) (c_X0_hasOrder hst h) rfl (by decide) hk (wE_1 G w13 a4) m_598 m_452 m_453 m_24 m_454 (by decide +kernel) (by decide +kernel) rfl rfl (Nat.zero_le _) ⟨(by decide +kernel), (by decide +kernel)⟩ dX3_start_53 (fun v15 w14 h => ?_)
      clear hk
      refine g_widen (c2 := (70)) (s2 := (4364)) (by decide +kernel) (by decide +kernel) ?_
      obtain ⟨J16, hjJ16, h⟩ := h
      have jp16 : ∀ (y17 : Int32) (w18 : Wd), J16 y17 w18 → Gw l G L0 p e rm_X3_start s m args below meth c 4 (70) (4364) (vx_MQ below (gQi G L0 Q) (gXC G L0 QX) args s rm_X3_start.cells rm_X3_start.slots (GA L0)) w18 70 [] [.int y17] := by
        intro y17 w18 hJ
        have h := hjJ16 y17 w18 hJ
        clear hJ
        exact g_iretX X hr (by decide +kernel) (by decide +kernel) dX3_start_70 h
      refine g_if_eq X (tgt := 69) dX3_start_56 (by decide) (fun hc => ?_) (fun hc => ?_)
      · replace h := h.1 hc; clear hc
        refine g_iconst X (v := (-1 : Int32)) dX3_start_69 (by decide) ?_
        exact g_sub [] [] rfl (jp16 (-1 : Int32) w14 h)
      · replace h := h.2 hc; clear hc
        refine g_aload_n X dX3_start_59 rfl 0 rfl ?_
        have hk := h.1
        replace h := h.2
        refine g_callV_q X (As := []) (st := []) (n := 0) (c_X0_upNext hst h) rfl (by decide) hk (wE_1 G w14 a4) m_447 m_448 m_449 m_24 m_450 (by decide +kernel) (by decide +kernel) rfl rfl (Nat.zero_le _) ⟨(by decide +kernel), (by decide +kernel)⟩ dX3_start_60 (fun z20 w19 h => ?_)
        clear hk
        refine g_widen (c2 := (70)) (s2 := (4364)) (by decide +kernel) (by decide +kernel) ?_
        refine g_callS_i X (As := [va_rf z20]) (st := []) (n := 1) (c_X3_numberAt hst h) m_467 m_468 m_15 m_469 (by decide +kernel) (by decide +kernel) rfl rfl (Nat.zero_le _) ⟨(by decide +kernel), (by decide +kernel)⟩ dX3_start_63 (fun v22 w21 h => ?_)
        refine g_widen (c2 := (70)) (s2 := (4364)) (by decide +kernel) (by decide +kernel) ?_
        refine g_goto X (tgt := 70) dX3_start_66 (by decide) ?_
        exact g_sub [] [] rfl (jp16 v22 w21 h)
    · replace h := h.2 hc; clear hc
      exact g_sub [] [] rfl (jp6 w10 h)

abbrev rm_X3_want : Room := { frames := 7, cells := 4, slots := 24, locals := 208 }
def wp_X3_want (a0 : Nat) (x1 : Int32) (x2 : Int32) (x3 : Int32) (x4 : Int32) (w : Wd) (Q : Int32 → Wd → Prop) (QX : String → Wd → Prop) : Prop :=
  w.K a0 = 4 ∧
  wp_X3_circleAt a0 x1 w (fun z2 w1 => 
  w1.K a0 = 4 ∧
  wp_X3_personAt a0 x2 w1 (fun z4 w3 => 
  wp_X3_checkRange x3 (0 : Int32) (10000 : Int32) w3 (fun w5 => 
  ∃ a6, z2 = some a6 ∧ w5.K a6 = 1 ∧
  wp_X0_placeOf a6 z4 w5 (fun z8 w7 => 
  (¬ z8 = none → ∃ J9 : Int32 → Wd → Prop, (∀ (y10 : Int32) (w11 : Wd), J9 y10 w11 →
  Q y10 w11) ∧
  (x4 = 0 → ∃ a12, z8 = some a12 ∧ w7.K a12 = 3 ∧
  wp_X2_changeNeed a12 x3 w7 (fun v14 w13 => 
  J9 v14 w13)) ∧ (¬ x4 = 0 → ∃ a15, z8 = some a15 ∧ w7.K a15 = 3 ∧
  wp_X2_changeBid a15 x3 w7 (fun v17 w16 => 
  J9 v17 w16))) ∧ (z8 = none → QX "java/lang/IllegalStateException" w7))) QX) QX) QX
set_option maxHeartbeats 4000000 in
set_option maxRecDepth 100000 in
theorem c_X3_want {l : Launch} {G : GT} {L0 : Nat} (hst : l.stackTraces = false) {a0 : Nat} {x1 : Int32} {x2 : Int32} {x3 : Int32} {x4 : Int32} {w : Wd} {Q : Int32 → Wd → Prop} {QX : String → Wd → Prop} (h : wp_X3_want a0 x1 x2 x3 x4 w Q QX) : GXi l G L0 yX3_want cX3_want 8 (some .int) rm_X3_want [.ref a0, .int x1, .int x2, .int x3, .int x4] w Q QX := by
  refine g_enterX hst (by decide +kernel) [.inr (some a0), .inl x1, .inl x2, .inl x3, .inl x4] rfl (show 5 ≤ 8 by decide) ?_
  intro p e s m args below meth c X hr hnm htab
  replace X : GC l G L0 p s m args meth c cX3_want 8 "SusuRing" := X
  refine g_aload_n X dX3_want_0 rfl 0 rfl ?_
  refine g_iload_n X dX3_want_1 rfl 1 rfl ?_
  have hk := h.1
  replace h := h.2
  refine g_callXV_q X htab (As := [.int x1]) (st := []) (n := 1) (c_X3_circleAt hst h) rfl (by decide) hk (wE_4 G w a0) m_426 m_428 m_9 m_15 m_429 (by decide +kernel) (by decide +kernel) rfl rfl (Nat.zero_le _) ⟨(by decide +kernel), (by decide +kernel)⟩ dX3_want_2 (by decide +kernel) (by decide +kernel) (fun E w1 hE => hE) (fun z2 w1 h => ?_)
  clear hk
  refine g_widen (c2 := (1)) (s2 := (6)) (by decide +kernel) (by decide +kernel) ?_
  refine g_astore X [(5, .inr z2), (0, .inr (some a0)), (1, .inl x1), (2, .inl x2), (3, .inl x3), (4, .inl x4)] dX3_want_5 (by decide) rfl ?_
  refine g_aload_n X dX3_want_7 rfl 1 rfl ?_
  refine g_iload_n X dX3_want_8 rfl 3 rfl ?_
  have hk := h.1
  replace h := h.2
  refine g_callXV_q X htab (As := [.int x2]) (st := []) (n := 1) (c_X3_personAt hst h) rfl (by decide) hk (wE_4 G w1 a0) m_295 m_297 m_4 m_15 m_298 (by decide +kernel) (by decide +kernel) rfl rfl (Nat.zero_le _) ⟨(by decide +kernel), (by decide +kernel)⟩ dX3_want_9 (by decide +kernel) (by decide +kernel) (fun E w1 hE => hE) (fun z4 w3 h => ?_)
  clear hk
  refine g_widen (c2 := (2)) (s2 := (12)) (by decide +kernel) (by decide +kernel) ?_
  refine g_astore X [(6, .inr z4), (5, .inr z2), (0, .inr (some a0)), (1, .inl x1), (2, .inl x2), (3, .inl x3), (4, .inl x4)] dX3_want_12 (by decide) rfl ?_
  refine g_iload_n X dX3_want_14 rfl 5 rfl ?_
  refine g_iconst X (v := (0 : Int32)) dX3_want_15 (by decide) ?_
  refine g_sipush X (v := (10000 : Int32)) dX3_want_16 (by decide) ?_
  refine g_callXS_v X htab (As := [.int x3, .int (0 : Int32), .int (10000 : Int32)]) (st := []) (n := 3) (c_X3_checkRange hst h) m_85 m_86 m_15 m_87 (by decide +kernel) (by decide +kernel) rfl rfl (Nat.zero_le _) ⟨(by decide +kernel), (by decide +kernel)⟩ dX3_want_19 (by decide +kernel) (by decide +kernel) (fun E w1 hE => hE) (fun w5 h => ?_)
  refine g_widen (c2 := (3)) (s2 := (18)) (by decide +kernel) (by decide +kernel) ?_
  refine g_aload X dX3_want_22 1 rfl ?_
  refine g_aload X dX3_want_24 0 rfl ?_
  obtain ⟨a6, rfl, hk, h⟩ := h
  refine g_callV_q X (As := [va_rf z4]) (st := []) (n := 1) (c_X0_placeOf hst h) rfl (by decide) hk (wE_1 G w5 a6) m_431 m_432 m_433 m_24 m_434 (by decide +kernel) (by decide +kernel) rfl rfl (Nat.zero_le _) ⟨(by decide +kernel), (by decide +kernel)⟩ dX3_want_26 (fun z8 w7 h => ?_)
  clear hk
  refine g_widen (c2 := (3)) (s2 := (18)) (by decide +kernel) (by decide +kernel) ?_
  refine g_astore X [(7, .inr z8), (6, .inr z4), (5, .inr (some a6)), (0, .inr (some a0)), (1, .inl x1), (2, .inl x2), (3, .inl x3), (4, .inl x4)] dX3_want_29 (by decide) rfl ?_
  refine g_aload X dX3_want_31 0 rfl ?_
  refine g_ifnonnull X (tgt := 46) dX3_want_33 (by decide) (fun hc => ?_) (fun hc => ?_)
  · replace h := h.1 hc; clear hc
    refine g_iload X dX3_want_46 7 rfl ?_
    obtain ⟨J9, hjJ9, h⟩ := h
    have jp9 : ∀ (y10 : Int32) (w11 : Wd), J9 y10 w11 → Gw l G L0 p e rm_X3_want s m args below meth c 8 (3) (18) (vx_MQ below (gQi G L0 Q) (gXC G L0 QX) args s rm_X3_want.cells rm_X3_want.slots (GA L0)) w11 66 [] [.int y10] := by
      intro y10 w11 hJ
      have h := hjJ9 y10 w11 hJ
      clear hJ
      exact g_iretX X hr (by decide +kernel) (by decide +kernel) dX3_want_66 h
    refine g_if_eq X (tgt := 60) dX3_want_48 (by decide) (fun hc => ?_) (fun hc => ?_)
    · replace h := h.1 hc; clear hc
      refine g_aload X dX3_want_60 0 rfl ?_
      refine g_iload_n X dX3_want_62 rfl 6 rfl ?_
      obtain ⟨a12, rfl, hk, h⟩ := h
      refine g_callV_i X (As := [.int x3]) (st := []) (n := 1) (c_X2_changeNeed hst h) rfl (by decide) hk (wE_3 G w7 a12) m_611 m_612 m_613 m_33 m_614 (by decide +kernel) (by decide +kernel) rfl rfl (Nat.zero_le _) ⟨(by decide +kernel), (by decide +kernel)⟩ dX3_want_63 (fun v14 w13 h => ?_)
      clear hk
      refine g_widen (c2 := (3)) (s2 := (18)) (by decide +kernel) (by decide +kernel) ?_
      exact g_sub [] [] rfl (jp9 v14 w13 h)
    · replace h := h.2 hc; clear hc
      refine g_aload X dX3_want_51 0 rfl ?_
      refine g_iload_n X dX3_want_53 rfl 6 rfl ?_
      obtain ⟨a15, rfl, hk, h⟩ := h
      refine g_callV_i X (As := [.int x3]) (st := []) (n := 1) (c_X2_changeBid hst h) rfl (by decide) hk (wE_3 G w7 a15) m_607 m_608 m_609 m_33 m_610 (by decide +kernel) (by decide +kernel) rfl rfl (Nat.zero_le _) ⟨(by decide +kernel), (by decide +kernel)⟩ dX3_want_54 (fun v17 w16 h => ?_)
      clear hk
      refine g_widen (c2 := (3)) (s2 := (18)) (by decide +kernel) (by decide +kernel) ?_
      refine g_goto X (tgt := 66) dX3_want_57 (by decide) ?_
      exact g_sub [] [] rfl (jp9 v17 w16 h)
  · replace h := h.2 hc; clear hc
    exact g_throw X (cls := "java/lang/IllegalStateException") (text := "the person is no member") (ik := 28) (is := 133) htab (by decide +kernel) m_161 m_23 (by decide +kernel) at_ISE_g at_ISE_b at_ISE_o dX3_want_36 dX3_want_39 (Or.inl ⟨dX3_want_40, dX3_want_42, dX3_want_45⟩) (by decide) (by decide +kernel) (by decide +kernel) (by decide +kernel) (by decide +kernel) (by decide +kernel) h

abbrev rm_X3_meet : Room := { frames := 7, cells := 2, slots := 12, locals := 207 }
def wp_X3_meet (a0 : Nat) (x1 : Int32) (x2 : Int32) (w : Wd) (Q : Int32 → Wd → Prop) (QX : String → Wd → Prop) : Prop :=
  w.K a0 = 4 ∧
  wp_X3_circleAt a0 x1 w (fun z2 w1 => 
  ∃ a3, z2 = some a3 ∧ w1.K a3 = 1 ∧
  ∀ v4 : Int32, v4 = w1.I 104 a3 →
  ∃ J5 : Wd → Prop, (∀  (w6 : Wd), J5 w6 →
  QX "java/lang/IllegalStateException" w6) ∧
  (v4 = 0 → J5 w1) ∧ (¬ v4 = 0 → w1.K a3 = 1 ∧
  ∀ z7 : Option Nat, z7 = w1.R 102 a3 →
  ∃ a8, z7 = some a8 ∧ w1.K a8 = 6 ∧
  wp_Jx4a65c_size_8abf5 a8 w1 (fun v10 w9 => 
  ((2 : Int32) ≤ v10 → w9.K a3 = 1 ∧
  wp_X0_collect a3 x2 w9 (fun w11 => 
  w11.K a3 = 1 ∧
  wp_X0_upNext a3 w11 (fun z13 w12 => 
  w12.K a3 = 1 ∧
  wp_X0_payOut a3 z13 w12 (fun w14 => 
  w14.K a3 = 1 ∧
  ∀ v15 : Int32, v15 = w14.I 106 a3 →
  ∀ v16 : Int32, v16 = v15 + (1 : Int32) →
  w14.K a3 = 1 ∧
  ∀ w17 : Wd, w17 = w14.setI 106 a3 v16 →
  w17.K a3 = 1 ∧
  wp_X0_clearBids a3 w17 (fun w18 => 
  w18.K a3 = 1 ∧
  wp_X0_endRoundIfAllHadTurns a3 w18 (fun w19 => 
  wp_X3_numberAt z13 w19 (fun v21 w20 => 
  Q v21 w20))))))) ∧ (¬ (2 : Int32) ≤ v10 → J5 w9)))) QX
set_option maxHeartbeats 4000000 in
set_option maxRecDepth 100000 in
theorem c_X3_meet {l : Launch} {G : GT} {L0 : Nat} (hst : l.stackTraces = false) {a0 : Nat} {x1 : Int32} {x2 : Int32} {w : Wd} {Q : Int32 → Wd → Prop} {QX : String → Wd → Prop} (h : wp_X3_meet a0 x1 x2 w Q QX) : GXi l G L0 yX3_meet cX3_meet 5 (some .int) rm_X3_meet [.ref a0, .int x1, .int x2] w Q QX := by
  refine g_enterX hst (by decide +kernel) [.inr (some a0), .inl x1, .inl x2] rfl (show 3 ≤ 5 by decide) ?_
  intro p e s m args below meth c X hr hnm htab
  replace X : GC l G L0 p s m args meth c cX3_meet 5 "SusuRing" := X
  refine g_aload_n X dX3_meet_0 rfl 0 rfl ?_
  refine g_iload_n X dX3_meet_1 rfl 1 rfl ?_
  have hk := h.1
  replace h := h.2
  refine g_callXV_q X htab (As := [.int x1]) (st := []) (n := 1) (c_X3_circleAt hst h) rfl (by decide) hk (wE_4 G w a0) m_426 m_428 m_9 m_15 m_429 (by decide +kernel) (by decide +kernel) rfl rfl (Nat.zero_le _) ⟨(by decide +kernel), (by decide +kernel)⟩ dX3_meet_2 (by decide +kernel) (by decide +kernel) (fun E w1 hE => hE) (fun z2 w1 h => ?_)
  clear hk
  refine g_widen (c2 := (1)) (s2 := (6)) (by decide +kernel) (by decide +kernel) ?_
  refine g_astore_n X [(3, .inr z2), (0, .inr (some a0)), (1, .inl x1), (2, .inl x2)] dX3_meet_5 rfl (by decide) rfl ?_
  refine g_aload_n X dX3_meet_6 rfl 0 rfl ?_
  obtain ⟨a3, rfl, hk, h⟩ := h
  refine gg_104 X hk m_349 dX3_meet_7 (fun v4 hv => ?_)
  replace h := h v4 hv; clear hv hk
  obtain ⟨J5, hjJ5, h⟩ := h
  have jp5 : ∀  (w6 : Wd), J5 w6 → Gw l G L0 p e rm_X3_meet s m args below meth c 5 (1) (6) (vx_MQ below (gQi G L0 Q) (gXC G L0 QX) args s rm_X3_meet.cells rm_X3_meet.slots (GA L0)) w6 24 [] [] := by
    intro w6 hJ
    have h := hjJ5 w6 hJ
    clear hJ
    exact g_throw X (cls := "java/lang/IllegalStateException") (text := "the circle has not started, or too few members") (ik := 28) (is := 142) htab (by decide +kernel) m_161 m_23 (by decide +kernel) at_ISE_g at_ISE_b at_ISE_o dX3_meet_24 dX3_meet_27 (Or.inl ⟨dX3_meet_28, dX3_meet_30, dX3_meet_33⟩) (by decide) (by decide +kernel) (by decide +kernel) (by decide +kernel) (by decide +kernel) (by decide +kernel) h
  refine g_if_eq X (tgt := 24) dX3_meet_10 (by decide) (fun hc => ?_) (fun hc => ?_)
  · replace h := h.1 hc; clear hc
    exact g_sub [] [] rfl (jp5 w1 h)
  · replace h := h.2 hc; clear hc
    refine g_aload_n X dX3_meet_13 rfl 0 rfl ?_
    have hk := h.1
    replace h := h.2
    refine gg_102 X hk m_347 dX3_meet_14 (fun z7 hv => ?_)
    replace h := h z7 hv; clear hv hk
    obtain ⟨a8, rfl, hk, h⟩ := h
    refine g_callV_i X (As := []) (st := []) (n := 0) (c_Jx4a65c_size_8abf5 hst h) rfl (by decide) hk (wE_6 G w1 a8) m_157 m_158 m_159 m_18 m_160 (by decide +kernel) (by decide +kernel) rfl rfl (Nat.zero_le _) ⟨(by decide +kernel), (by decide +kernel)⟩ dX3_meet_17 (fun v10 w9 h => ?_)
    clear hk
    refine g_widen (c2 := (1)) (s2 := (6)) (by decide +kernel) (by decide +kernel) ?_
    refine g_iconst X (v := (2 : Int32)) dX3_meet_20 (by decide) ?_
    refine g_icmp_ge X (tgt := 34) dX3_meet_21 (by decide) (fun hc => ?_) (fun hc => ?_)
    · replace h := h.1 hc; clear hc
      refine g_aload_n X dX3_meet_34 rfl 0 rfl ?_
      refine g_iload_n X dX3_meet_35 rfl 3 rfl ?_
      have hk := h.1
      replace h := h.2
      refine g_callV_v X (As := [.int x2]) (st := []) (n := 1) (c_X0_collect hst h) rfl (by decide) hk (wE_1 G w9 a3) m_623 m_624 m_625 m_24 m_626 (by decide +kernel) (by decide +kernel) rfl rfl (Nat.zero_le _) ⟨(by decide +kernel), (by decide +kernel)⟩ dX3_meet_36 (fun w11 h => ?_)
      clear hk
      refine g_widen (c2 := (1)) (s2 := (6)) (by decide +kernel) (by decide +kernel) ?_
      refine g_aload_n X dX3_meet_39 rfl 0 rfl ?_
      have hk := h.1
      replace h := h.2
      refine g_callV_q X (As := []) (st := []) (n := 0) (c_X0_upNext hst h) rfl (by decide) hk (wE_1 G w11 a3) m_447 m_448 m_449 m_24 m_450 (by decide +kernel) (by decide +kernel) rfl rfl (Nat.zero_le _) ⟨(by decide +kernel), (by decide +kernel)⟩ dX3_meet_40 (fun z13 w12 h => ?_)
      clear hk
      refine g_widen (c2 := (1)) (s2 := (6)) (by decide +kernel) (by decide +kernel) ?_
      refine g_astore X [(4, .inr z13), (3, .inr (some a3)), (0, .inr (some a0)), (1, .inl x1), (2, .inl x2)] dX3_meet_43 (by decide) rfl ?_
      refine g_aload_n X dX3_meet_45 rfl 1 rfl ?_
      refine g_aload X dX3_meet_46 0 rfl ?_
      have hk := h.1
      replace h := h.2
      refine g_callV_v X (As := [va_rf z13]) (st := []) (n := 1) (c_X0_payOut hst h) rfl (by decide) hk (wE_1 G w12 a3) m_629 m_630 m_631 m_24 m_632 (by decide +kernel) (by decide +kernel) rfl rfl (Nat.zero_le _) ⟨(by decide +kernel), (by decide +kernel)⟩ dX3_meet_48 (fun w14 h => ?_)
      clear hk
      refine g_widen (c2 := (1)) (s2 := (6)) (by decide +kernel) (by decide +kernel) ?_
      refine g_aload_n X dX3_meet_51 rfl 1 rfl ?_
      refine g_dup X dX3_meet_52 rf_cat ?_
      have hk := h.1
      replace h := h.2
      refine gg_106 X hk m_352 dX3_meet_53 (fun v15 hv => ?_)
      replace h := h v15 hv; clear hv hk
      refine g_iconst X (v := (1 : Int32)) dX3_meet_56 (by decide) ?_
      refine g_iadd X dX3_meet_57 (fun v16 hv => ?_)
      replace h := h v16 hv; clear hv
      have hk := h.1
      replace h := h.2
      refine gp_106 X hk m_352 dX3_meet_58 (fun w17 hv => ?_)
      replace h := h w17 hv; clear hv hk
      refine g_aload_n X dX3_meet_61 rfl 1 rfl ?_
      have hk := h.1
      replace h := h.2
      refine g_callV_v X (As := []) (st := []) (n := 0) (c_X0_clearBids hst h) rfl (by decide) hk (wE_1 G w17 a3) m_641 m_642 m_643 m_24 m_644 (by decide +kernel) (by decide +kernel) rfl rfl (Nat.zero_le _) ⟨(by decide +kernel), (by decide +kernel)⟩ dX3_meet_62 (fun w18 h => ?_)
      clear hk
      refine g_widen (c2 := (1)) (s2 := (6)) (by decide +kernel) (by decide +kernel) ?_
      refine g_aload_n X dX3_meet_65 rfl 1 rfl ?_
      have hk := h.1
      replace h := h.2
      refine g_callV_v X (As := []) (st := []) (n := 0) (c_X0_endRoundIfAllHadTurns hst h) rfl (by decide) hk (wE_1 G w18 a3) m_645 m_522 m_523 m_24 m_524 (by decide +kernel) (by decide +kernel) rfl rfl (Nat.zero_le _) ⟨(by decide +kernel), (by decide +kernel)⟩ dX3_meet_66 (fun w19 h => ?_)
      clear hk
      refine g_widen (c2 := (1)) (s2 := (6)) (by decide +kernel) (by decide +kernel) ?_
      refine g_aload X dX3_meet_69 0 rfl ?_
      refine g_callS_i X (As := [va_rf z13]) (st := []) (n := 1) (c_X3_numberAt hst h) m_467 m_468 m_15 m_469 (by decide +kernel) (by decide +kernel) rfl rfl (Nat.zero_le _) ⟨(by decide +kernel), (by decide +kernel)⟩ dX3_meet_71 (fun v21 w20 h => ?_)
      refine g_widen (c2 := (1)) (s2 := (6)) (by decide +kernel) (by decide +kernel) ?_
      exact g_iretX X hr (by decide +kernel) (by decide +kernel) dX3_meet_74 h
    · replace h := h.2 hc; clear hc
      exact g_sub [] [] rfl (jp5 w9 h)

abbrev rm_X3_leave : Room := { frames := 7, cells := 3, slots := 18, locals := 209 }
def wp_X3_leave (a0 : Nat) (x1 : Int32) (x2 : Int32) (w : Wd) (Q : Int32 → Wd → Prop) (QX : String → Wd → Prop) : Prop :=
  w.K a0 = 4 ∧
  wp_X3_circleAt a0 x1 w (fun z2 w1 => 
  w1.K a0 = 4 ∧
  wp_X3_personAt a0 x2 w1 (fun z4 w3 => 
  ∃ a5, z2 = some a5 ∧ w3.K a5 = 1 ∧
  wp_X0_placeOf a5 z4 w3 (fun z7 w6 => 
  ∃ J8 : Prop, (J8 →
  QX "java/lang/IllegalStateException" w6) ∧
  (z7 = none → J8) ∧ (¬ z7 = none → ∃ a9, z7 = some a9 ∧ w6.K a9 = 3 ∧
  ∀ v10 : Int32, v10 = w6.I 305 a9 →
  (¬ v10 = 0 → J8) ∧ (v10 = 0 → w6.K a9 = 3 ∧
  ∀ v11 : Int32, v11 = w6.I 301 a9 →
  (v11 ≤ 0 → w6.K a9 = 3 ∧
  ∀ v12 : Int32, v12 = w6.I 304 a9 →
  w6.K a5 = 1 ∧
  ∀ v13 : Int32, v13 = w6.I 105 a5 →
  ∀ v14 : Int32, v14 = (if v13 < v12 then v13 else v12) →
  w6.K a5 = 1 ∧
  wp_X0_giveOut a5 (some a9) v14 w6 (fun w15 => 
  w15.K a5 = 1 ∧
  wp_X0_removePlace a5 (some a9) w15 (fun w16 => 
  Q v14 w16))) ∧ (¬ v11 ≤ 0 → J8))))) QX) QX
set_option maxHeartbeats 4000000 in
set_option maxRecDepth 100000 in
theorem c_X3_leave {l : Launch} {G : GT} {L0 : Nat} (hst : l.stackTraces = false) {a0 : Nat} {x1 : Int32} {x2 : Int32} {w : Wd} {Q : Int32 → Wd → Prop} {QX : String → Wd → Prop} (h : wp_X3_leave a0 x1 x2 w Q QX) : GXi l G L0 yX3_leave cX3_leave 7 (some .int) rm_X3_leave [.ref a0, .int x1, .int x2] w Q QX := by
  refine g_enterX hst (by decide +kernel) [.inr (some a0), .inl x1, .inl x2] rfl (show 3 ≤ 7 by decide) ?_
  intro p e s m args below meth c X hr hnm htab
  replace X : GC l G L0 p s m args meth c cX3_leave 7 "SusuRing" := X
  refine g_aload_n X dX3_leave_0 rfl 0 rfl ?_
  refine g_iload_n X dX3_leave_1 rfl 1 rfl ?_
  have hk := h.1
  replace h := h.2
  refine g_callXV_q X htab (As := [.int x1]) (st := []) (n := 1) (c_X3_circleAt hst h) rfl (by decide) hk (wE_4 G w a0) m_426 m_428 m_9 m_15 m_429 (by decide +kernel) (by decide +kernel) rfl rfl (Nat.zero_le _) ⟨(by decide +kernel), (by decide +kernel)⟩ dX3_leave_2 (by decide +kernel) (by decide +kernel) (fun E w1 hE => hE) (fun z2 w1 h => ?_)
  clear hk
  refine g_widen (c2 := (1)) (s2 := (6)) (by decide +kernel) (by decide +kernel) ?_
  refine g_astore_n X [(3, .inr z2), (0, .inr (some a0)), (1, .inl x1), (2, .inl x2)] dX3_leave_5 rfl (by decide) rfl ?_
  refine g_aload_n X dX3_leave_6 rfl 1 rfl ?_
  refine g_iload_n X dX3_leave_7 rfl 3 rfl ?_
  have hk := h.1
  replace h := h.2
  refine g_callXV_q X htab (As := [.int x2]) (st := []) (n := 1) (c_X3_personAt hst h) rfl (by decide) hk (wE_4 G w1 a0) m_295 m_297 m_4 m_15 m_298 (by decide +kernel) (by decide +kernel) rfl rfl (Nat.zero_le _) ⟨(by decide +kernel), (by decide +kernel)⟩ dX3_leave_8 (by decide +kernel) (by decide +kernel) (fun E w1 hE => hE) (fun z4 w3 h => ?_)
  clear hk
  refine g_widen (c2 := (2)) (s2 := (12)) (by decide +kernel) (by decide +kernel) ?_
  refine g_astore X [(4, .inr z4), (3, .inr z2), (0, .inr (some a0)), (1, .inl x1), (2, .inl x2)] dX3_leave_11 (by decide) rfl ?_
  refine g_aload_n X dX3_leave_13 rfl 1 rfl ?_
  refine g_aload X dX3_leave_14 0 rfl ?_
  obtain ⟨a5, rfl, hk, h⟩ := h
  refine g_callV_q X (As := [va_rf z4]) (st := []) (n := 1) (c_X0_placeOf hst h) rfl (by decide) hk (wE_1 G w3 a5) m_431 m_432 m_433 m_24 m_434 (by decide +kernel) (by decide +kernel) rfl rfl (Nat.zero_le _) ⟨(by decide +kernel), (by decide +kernel)⟩ dX3_leave_16 (fun z7 w6 h => ?_)
  clear hk
  refine g_widen (c2 := (2)) (s2 := (12)) (by decide +kernel) (by decide +kernel) ?_
  refine g_astore X [(5, .inr z7), (4, .inr z4), (3, .inr (some a5)), (0, .inr (some a0)), (1, .inl x1), (2, .inl x2)] dX3_leave_19 (by decide) rfl ?_
  refine g_aload X dX3_leave_21 0 rfl ?_
  obtain ⟨J8, hjJ8, h⟩ := h
  have jp8 : J8 → Gw l G L0 p e rm_X3_leave s m args below meth c 7 (2) (12) (vx_MQ below (gQi G L0 Q) (gXC G L0 QX) args s rm_X3_leave.cells rm_X3_leave.slots (GA L0)) w6 42 [] [] := by
    intro hJ
    have h := hjJ8 hJ
    clear hJ
    exact g_throw X (cls := "java/lang/IllegalStateException") (text := "no member, or with a turn or arrears") (ik := 28) (is := 167) htab (by decide +kernel) m_161 m_23 (by decide +kernel) at_ISE_g at_ISE_b at_ISE_o dX3_leave_42 dX3_leave_45 (Or.inl ⟨dX3_leave_46, dX3_leave_48, dX3_leave_51⟩) (by decide) (by decide +kernel) (by decide +kernel) (by decide +kernel) (by decide +kernel) (by decide +kernel) h
  refine g_ifnull X (tgt := 42) dX3_leave_23 (by decide) (fun hc => ?_) (fun hc => ?_)
  · replace h := h.1 hc; clear hc
    exact g_sub [] [] rfl (jp8  h)
  · replace h := h.2 hc; clear hc
    refine g_aload X dX3_leave_26 0 rfl ?_
    obtain ⟨a9, rfl, hk, h⟩ := h
    refine gg_305 X hk m_555 dX3_leave_28 (fun v10 hv => ?_)
    replace h := h v10 hv; clear hv hk
    refine g_if_ne X (tgt := 42) dX3_leave_31 (by decide) (fun hc => ?_) (fun hc => ?_)
    · replace h := h.1 hc; clear hc
      exact g_sub [] [] rfl (jp8  h)
    · replace h := h.2 hc; clear hc
      refine g_aload X dX3_leave_34 0 rfl ?_
      have hk := h.1
      replace h := h.2
      refine gg_301 X hk m_547 dX3_leave_36 (fun v11 hv => ?_)
      replace h := h v11 hv; clear hv hk
      refine g_if_le X (tgt := 52) dX3_leave_39 (by decide) (fun hc => ?_) (fun hc => ?_)
      · replace h := h.1 hc; clear hc
        refine g_aload X dX3_leave_52 0 rfl ?_
        have hk := h.1
        replace h := h.2
        refine gg_304 X hk m_552 dX3_leave_54 (fun v12 hv => ?_)
        replace h := h v12 hv; clear hv hk
        refine g_aload_n X dX3_leave_57 rfl 2 rfl ?_
        have hk := h.1
        replace h := h.2
        refine gg_105 X hk m_350 dX3_leave_58 (fun v13 hv => ?_)
        replace h := h v13 hv; clear hv hk
        refine g_mmin X m_392 m_284 m_26 m_285 (by decide) (by decide +kernel) (by decide +kernel) (by decide +kernel) dX3_leave_61 (fun v14 hv => ?_)
        replace h := h v14 hv; clear hv
        refine g_istore X [(6, .inl v14), (5, .inr (some a9)), (4, .inr z4), (3, .inr (some a5)), (0, .inr (some a0)), (1, .inl x1), (2, .inl x2)] dX3_leave_64 (by decide) rfl ?_
        refine g_aload_n X dX3_leave_66 rfl 3 rfl ?_
        refine g_aload X dX3_leave_67 1 rfl ?_
        refine g_iload X dX3_leave_69 0 rfl ?_
        have hk := h.1
        replace h := h.2
        refine g_callV_v X (As := [va_rf (some a9), .int v14]) (st := []) (n := 2) (c_X0_giveOut hst h) rfl (by decide) hk (wE_1 G w6 a5) m_654 m_634 m_635 m_24 m_636 (by decide +kernel) (by decide +kernel) rfl rfl (Nat.zero_le _) ⟨(by decide +kernel), (by decide +kernel)⟩ dX3_leave_71 (fun w15 h => ?_)
        clear hk
        refine g_widen (c2 := (2)) (s2 := (12)) (by decide +kernel) (by decide +kernel) ?_
        refine g_aload_n X dX3_leave_74 rfl 3 rfl ?_
        refine g_aload X dX3_leave_75 1 rfl ?_
        have hk := h.1
        replace h := h.2
        refine g_callV_v X (As := [va_rf (some a9)]) (st := []) (n := 1) (c_X0_removePlace hst h) rfl (by decide) hk (wE_1 G w15 a5) m_655 m_506 m_507 m_24 m_508 (by decide +kernel) (by decide +kernel) rfl rfl (Nat.zero_le _) ⟨(by decide +kernel), (by decide +kernel)⟩ dX3_leave_77 (fun w16 h => ?_)
        clear hk
        refine g_widen (c2 := (2)) (s2 := (12)) (by decide +kernel) (by decide +kernel) ?_
        refine g_iload X dX3_leave_80 0 rfl ?_
        exact g_iretX X hr (by decide +kernel) (by decide +kernel) dX3_leave_82 h
      · replace h := h.2 hc; clear hc
        exact g_sub [] [] rfl (jp8  h)

abbrev rm_X3_payFund : Room := { frames := 2, cells := 0, slots := 0, locals := 121 }
def wp_X3_payFund (a0 : Nat) (r1 : Option Nat) (x2 : Int32) (w : Wd) (Q : Wd → Prop) : Prop :=
  ∃ a1, r1 = some a1 ∧ w.K a1 = 2 ∧
  wp_X1_payIn a1 x2 w (fun w2 => 
  w2.K a0 = 4 ∧
  ∀ v3 : Int32, v3 = w2.I 402 a0 →
  ∀ v4 : Int32, v4 = v3 + x2 →
  w2.K a0 = 4 ∧
  ∀ w5 : Wd, w5 = w2.setI 402 a0 v4 →
  Q w5)
set_option maxHeartbeats 4000000 in
set_option maxRecDepth 100000 in
theorem c_X3_payFund {l : Launch} {G : GT} {L0 : Nat} (hst : l.stackTraces = false) {a0 : Nat} {r1 : Option Nat} {x2 : Int32} {w : Wd} {Q : Wd → Prop} (h : wp_X3_payFund a0 r1 x2 w Q) : GMv l G L0 yX3_payFund cX3_payFund 3 none rm_X3_payFund [.ref a0, va_rf r1, .int x2] w Q := by
  refine g_enter hst (by decide +kernel) [.inr (some a0), .inr r1, .inl x2] rfl (show 3 ≤ 3 by decide) ?_
  intro p e s m args below meth c X hr hnm
  replace X : GC l G L0 p s m args meth c cX3_payFund 3 "SusuRing" := X
  refine g_aload_n X dX3_payFund_0 rfl 1 rfl ?_
  refine g_iload_n X dX3_payFund_1 rfl 2 rfl ?_
  obtain ⟨a1, rfl, hk, h⟩ := h
  refine g_callV_v X (As := [.int x2]) (st := []) (n := 1) (c_X1_payIn hst h) rfl (by decide) hk (wE_2 G w a1) m_397 m_398 m_399 m_29 m_400 (by decide +kernel) (by decide +kernel) rfl rfl (Nat.zero_le _) ⟨(by decide +kernel), (by decide +kernel)⟩ dX3_payFund_2 (fun w2 h => ?_)
  clear hk
  refine g_widen (c2 := (0)) (s2 := (0)) (by decide +kernel) (by decide +kernel) ?_
  refine g_aload_n X dX3_payFund_5 rfl 0 rfl ?_
  refine g_dup X dX3_payFund_6 rf_cat ?_
  have hk := h.1
  replace h := h.2
  refine gg_402 X hk m_70 dX3_payFund_7 (fun v3 hv => ?_)
  replace h := h v3 hv; clear hv hk
  refine g_iload_n X dX3_payFund_10 rfl 2 rfl ?_
  refine g_iadd X dX3_payFund_11 (fun v4 hv => ?_)
  replace h := h v4 hv; clear hv
  have hk := h.1
  replace h := h.2
  refine gp_402 X hk m_70 dX3_payFund_12 (fun w5 hv => ?_)
  replace h := h w5 hv; clear hv hk
  exact g_vret X hr (by decide +kernel) (by decide +kernel) dX3_payFund_15 h

abbrev rm_X3_buy : Room := { frames := 7, cells := 3, slots := 18, locals := 185 }
def wp_X3_buy (a0 : Nat) (x1 : Int32) (x2 : Int32) (w : Wd) (Q : Int32 → Wd → Prop) (QX : String → Wd → Prop) : Prop :=
  w.K a0 = 4 ∧
  wp_X3_personAt a0 x1 w (fun z2 w1 => 
  wp_X3_checkRange x2 (1 : Int32) (100 : Int32) w1 (fun w3 => 
  ∀ v4 : Int32, v4 = x2 * (10 : Int32) →
  ∃ a5, z2 = some a5 ∧ w3.K a5 = 2 ∧
  ∀ v6 : Int32, v6 = w3.I 212 a5 →
  ∃ J7 : Prop, (J7 →
  QX "java/lang/IllegalStateException" w3) ∧
  (¬ v6 = 0 → J7) ∧ (v6 = 0 → w3.K a5 = 2 ∧
  ∀ v8 : Int32, v8 = w3.I 205 a5 →
  ∀ v9 : Int32, v9 = v8 + x2 →
  ((100 : Int32) < v9 → J7) ∧ (¬ (100 : Int32) < v9 → w3.K a5 = 2 ∧
  ∀ v10 : Int32, v10 = w3.I 204 a5 →
  (v4 ≤ v10 → w3.K a5 = 2 ∧
  ∀ v11 : Int32, v11 = w3.I 205 a5 →
  ∀ v12 : Int32, v12 = v11 + x2 →
  w3.K a5 = 2 ∧
  ∀ w13 : Wd, w13 = w3.setI 205 a5 v12 →
  w13.K a0 = 4 ∧
  wp_X3_payFund a0 (some a5) v4 w13 (fun w14 => 
  w14.K a5 = 2 ∧
  ∀ v15 : Int32, v15 = w14.I 205 a5 →
  Q v15 w14)) ∧ (¬ v4 ≤ v10 → J7)))) QX) QX
set_option maxHeartbeats 4000000 in
set_option maxRecDepth 100000 in
theorem c_X3_buy {l : Launch} {G : GT} {L0 : Nat} (hst : l.stackTraces = false) {a0 : Nat} {x1 : Int32} {x2 : Int32} {w : Wd} {Q : Int32 → Wd → Prop} {QX : String → Wd → Prop} (h : wp_X3_buy a0 x1 x2 w Q QX) : GXi l G L0 yX3_buy cX3_buy 5 (some .int) rm_X3_buy [.ref a0, .int x1, .int x2] w Q QX := by
  refine g_enterX hst (by decide +kernel) [.inr (some a0), .inl x1, .inl x2] rfl (show 3 ≤ 5 by decide) ?_
  intro p e s m args below meth c X hr hnm htab
  replace X : GC l G L0 p s m args meth c cX3_buy 5 "SusuRing" := X
  refine g_aload_n X dX3_buy_0 rfl 0 rfl ?_
  refine g_iload_n X dX3_buy_1 rfl 1 rfl ?_
  have hk := h.1
  replace h := h.2
  refine g_callXV_q X htab (As := [.int x1]) (st := []) (n := 1) (c_X3_personAt hst h) rfl (by decide) hk (wE_4 G w a0) m_295 m_297 m_4 m_15 m_298 (by decide +kernel) (by decide +kernel) rfl rfl (Nat.zero_le _) ⟨(by decide +kernel), (by decide +kernel)⟩ dX3_buy_2 (by decide +kernel) (by decide +kernel) (fun E w1 hE => hE) (fun z2 w1 h => ?_)
  clear hk
  refine g_widen (c2 := (1)) (s2 := (6)) (by decide +kernel) (by decide +kernel) ?_
  refine g_astore_n X [(3, .inr z2), (0, .inr (some a0)), (1, .inl x1), (2, .inl x2)] dX3_buy_5 rfl (by decide) rfl ?_
  refine g_iload_n X dX3_buy_6 rfl 3 rfl ?_
  refine g_iconst X (v := (1 : Int32)) dX3_buy_7 (by decide) ?_
  refine g_bipush X (v := (100 : Int32)) dX3_buy_8 (by decide) ?_
  refine g_callXS_v X htab (As := [.int x2, .int (1 : Int32), .int (100 : Int32)]) (st := []) (n := 3) (c_X3_checkRange hst h) m_85 m_86 m_15 m_87 (by decide +kernel) (by decide +kernel) rfl rfl (Nat.zero_le _) ⟨(by decide +kernel), (by decide +kernel)⟩ dX3_buy_10 (by decide +kernel) (by decide +kernel) (fun E w1 hE => hE) (fun w3 h => ?_)
  refine g_widen (c2 := (2)) (s2 := (12)) (by decide +kernel) (by decide +kernel) ?_
  refine g_iload_n X dX3_buy_13 rfl 3 rfl ?_
  refine g_bipush X (v := (10 : Int32)) dX3_buy_14 (by decide) ?_
  refine g_imul X dX3_buy_16 (fun v4 hv => ?_)
  replace h := h v4 hv; clear hv
  refine g_istore X [(4, .inl v4), (3, .inr z2), (0, .inr (some a0)), (1, .inl x1), (2, .inl x2)] dX3_buy_17 (by decide) rfl ?_
  refine g_aload_n X dX3_buy_19 rfl 1 rfl ?_
  obtain ⟨a5, rfl, hk, h⟩ := h
  refine gg_212 X hk m_207 dX3_buy_20 (fun v6 hv => ?_)
  replace h := h v6 hv; clear hv hk
  obtain ⟨J7, hjJ7, h⟩ := h
  have jp7 : J7 → Gw l G L0 p e rm_X3_buy s m args below meth c 5 (2) (12) (vx_MQ below (gQi G L0 Q) (gXC G L0 QX) args s rm_X3_buy.cells rm_X3_buy.slots (GA L0)) w3 46 [] [] := by
    intro hJ
    have h := hjJ7 hJ
    clear hJ
    exact g_throw X (cls := "java/lang/IllegalStateException") (text := "dead, too many shares, or too little in the purse") (ik := 28) (is := 188) htab (by decide +kernel) m_161 m_23 (by decide +kernel) at_ISE_g at_ISE_b at_ISE_o dX3_buy_46 dX3_buy_49 (Or.inl ⟨dX3_buy_50, dX3_buy_52, dX3_buy_55⟩) (by decide) (by decide +kernel) (by decide +kernel) (by decide +kernel) (by decide +kernel) (by decide +kernel) h
  refine g_if_ne X (tgt := 46) dX3_buy_23 (by decide) (fun hc => ?_) (fun hc => ?_)
  · replace h := h.1 hc; clear hc
    exact g_sub [] [] rfl (jp7  h)
  · replace h := h.2 hc; clear hc
    refine g_aload_n X dX3_buy_26 rfl 1 rfl ?_
    have hk := h.1
    replace h := h.2
    refine gg_205 X hk m_194 dX3_buy_27 (fun v8 hv => ?_)
    replace h := h v8 hv; clear hv hk
    refine g_iload_n X dX3_buy_30 rfl 4 rfl ?_
    refine g_iadd X dX3_buy_31 (fun v9 hv => ?_)
    replace h := h v9 hv; clear hv
    refine g_bipush X (v := (100 : Int32)) dX3_buy_32 (by decide) ?_
    refine g_icmp_gt X (tgt := 46) dX3_buy_34 (by decide) (fun hc => ?_) (fun hc => ?_)
    · replace h := h.1 hc; clear hc
      exact g_sub [] [] rfl (jp7  h)
    · replace h := h.2 hc; clear hc
      refine g_aload_n X dX3_buy_37 rfl 1 rfl ?_
      have hk := h.1
      replace h := h.2
      refine gg_204 X hk m_190 dX3_buy_38 (fun v10 hv => ?_)
      replace h := h v10 hv; clear hv hk
      refine g_iload X dX3_buy_41 0 rfl ?_
      refine g_icmp_ge X (tgt := 56) dX3_buy_43 (by decide) (fun hc => ?_) (fun hc => ?_)
      · replace h := h.1 hc; clear hc
        refine g_aload_n X dX3_buy_56 rfl 1 rfl ?_
        refine g_dup X dX3_buy_57 rf_cat ?_
        have hk := h.1
        replace h := h.2
        refine gg_205 X hk m_194 dX3_buy_58 (fun v11 hv => ?_)
        replace h := h v11 hv; clear hv hk
        refine g_iload_n X dX3_buy_61 rfl 4 rfl ?_
        refine g_iadd X dX3_buy_62 (fun v12 hv => ?_)
        replace h := h v12 hv; clear hv
        have hk := h.1
        replace h := h.2
        refine gp_205 X hk m_194 dX3_buy_63 (fun w13 hv => ?_)
        replace h := h w13 hv; clear hv hk
        refine g_aload_n X dX3_buy_66 rfl 2 rfl ?_
        refine g_aload_n X dX3_buy_67 rfl 1 rfl ?_
        refine g_iload X dX3_buy_68 0 rfl ?_
        have hk := h.1
        replace h := h.2
        refine g_callV_v X (As := [va_rf (some a5), .int v4]) (st := []) (n := 2) (c_X3_payFund hst h) rfl (by decide) hk (wE_4 G w13 a0) m_393 m_395 m_7 m_15 m_396 (by decide +kernel) (by decide +kernel) rfl rfl (Nat.zero_le _) ⟨(by decide +kernel), (by decide +kernel)⟩ dX3_buy_70 (fun w14 h => ?_)
        clear hk
        refine g_widen (c2 := (2)) (s2 := (12)) (by decide +kernel) (by decide +kernel) ?_
        refine g_aload_n X dX3_buy_73 rfl 1 rfl ?_
        have hk := h.1
        replace h := h.2
        refine gg_205 X hk m_194 dX3_buy_74 (fun v15 hv => ?_)
        replace h := h v15 hv; clear hv hk
        exact g_iretX X hr (by decide +kernel) (by decide +kernel) dX3_buy_77 h
      · replace h := h.2 hc; clear hc
        exact g_sub [] [] rfl (jp7  h)

abbrev rm_X3_houseDebts : Room := { frames := 4, cells := 0, slots := 0, locals := 164 }
def wp_X3_houseDebts (a0 : Nat) (r1 : Option Nat) (w : Wd) (Q : Int32 → Wd → Prop) : Prop :=
  ∃ Inv2 : Nat → Int32 → Int32 → Wd → Prop, (∃ n : Nat, Inv2 n (0 : Int32) (0 : Int32) w) ∧ ∀ (n1 : Nat) (y3 : Int32) (y4 : Int32) (w5 : Wd), Inv2 n1 y3 y4 w5 →
  w5.K a0 = 4 ∧
  ∀ z6 : Option Nat, z6 = w5.R 400 a0 →
  ∃ a7, z6 = some a7 ∧ w5.K a7 = 6 ∧
  wp_Jx4a65c_size_8abf5 a7 w5 (fun v9 w8 => 
  (v9 ≤ y4 → Q y3 w8) ∧ (¬ v9 ≤ y4 → w8.K a0 = 4 ∧
  ∀ z10 : Option Nat, z10 = w8.R 400 a0 →
  ∃ a11, z10 = some a11 ∧ w8.K a11 = 6 ∧
  wp_Jx4a65c_get_915e3 a11 y4 w8 (fun z13 w12 => 
  (∀ y14, z13 = some y14 → w12.K y14 = 2) ∧
  ∃ a15, z13 = some a15 ∧ w12.K a15 = 2 ∧
  ∀ v16 : Int32, v16 = w12.I 212 a15 →
  ∃ J17 : Int32 → Wd → Prop, (∀ (y18 : Int32) (w19 : Wd), J17 y18 w19 →
  ∀ v20 : Int32, v20 = y4 + (1 : Int32) →
  ∃ n : Nat, n < n1 ∧ Inv2 n y18 v20 w19) ∧
  (¬ v16 = 0 → J17 y3 w12) ∧ (v16 = 0 → w12.K a15 = 2 ∧
  wp_X1_isOfHouse a15 r1 w12 (fun v22 w21 => 
  (v22 = 0 → J17 y3 w21) ∧ (¬ v22 = 0 → w21.K a15 = 2 ∧
  ∀ v23 : Int32, v23 = w21.I 206 a15 →
  ∀ v24 : Int32, v24 = y3 + v23 →
  J17 v24 w21))))))
set_option maxHeartbeats 4000000 in
set_option maxRecDepth 100000 in
theorem c_X3_houseDebts {l : Launch} {G : GT} {L0 : Nat} (hst : l.stackTraces = false) {a0 : Nat} {r1 : Option Nat} {w : Wd} {Q : Int32 → Wd → Prop} (h : wp_X3_houseDebts a0 r1 w Q) : GMi l G L0 yX3_houseDebts cX3_houseDebts 5 (some .int) rm_X3_houseDebts [.ref a0, va_rf r1] w Q := by
  refine g_enter hst (by decide +kernel) [.inr (some a0), .inr r1] rfl (show 2 ≤ 5 by decide) ?_
  intro p e s m args below meth c X hr hnm
  replace X : GC l G L0 p s m args meth c cX3_houseDebts 5 "SusuRing" := X
  refine g_iconst X (v := (0 : Int32)) dX3_houseDebts_0 (by decide) ?_
  refine g_istore_n X [(2, .inl (0 : Int32)), (0, .inr (some a0)), (1, .inr r1)] dX3_houseDebts_1 rfl (by decide) rfl ?_
  refine g_iconst X (v := (0 : Int32)) dX3_houseDebts_2 (by decide) ?_
  refine g_istore_n X [(3, .inl (0 : Int32)), (2, .inl (0 : Int32)), (0, .inr (some a0)), (1, .inr r1)] dX3_houseDebts_3 rfl (by decide) rfl ?_
  obtain ⟨Inv2, ⟨n0, hi⟩, hsn1⟩ := h
  have lp2 : ∀ (n1 : Nat), ∀ (y3 : Int32) (y4 : Int32) (w5 : Wd), Inv2 n1 y3 y4 w5 → Gw l G L0 p e rm_X3_houseDebts s m args below meth c 5 (0) (0) (MQ below (gQi G L0 Q) args s rm_X3_houseDebts.cells rm_X3_houseDebts.slots (GA L0)) w5 4 [(0, .inr (some a0)), (1, .inr r1), (2, .inl y3), (3, .inl y4)] [] := by
    intro n1
    induction n1 using Nat.strongRecOn with
    | ind n1 ihn1 =>
      intro y3 y4 w5 hI
      have h := hsn1 n1 y3 y4 w5 hI
      clear hI
      refine g_iload_n X dX3_houseDebts_4 rfl 3 rfl ?_
      refine g_aload_n X dX3_houseDebts_5 rfl 0 rfl ?_
      have hk := h.1
      replace h := h.2
      refine gg_400 X hk m_68 dX3_houseDebts_6 (fun z6 hv => ?_)
      replace h := h z6 hv; clear hv hk
      obtain ⟨a7, rfl, hk, h⟩ := h
      refine g_callV_i X (As := []) (st := [.int y4]) (n := 0) (c_Jx4a65c_size_8abf5 hst h) rfl (by decide) hk (wE_6 G w5 a7) m_157 m_158 m_159 m_18 m_160 (by decide +kernel) (by decide +kernel) rfl rfl (by simp [cat_int, rf_cat]) ⟨(by decide +kernel), (by decide +kernel)⟩ dX3_houseDebts_9 (fun v9 w8 h => ?_)
      clear hk
      refine g_widen (c2 := (0)) (s2 := (0)) (by decide +kernel) (by decide +kernel) ?_
      refine g_icmp_ge X (tgt := 59) dX3_houseDebts_12 (by decide) (fun hc => ?_) (fun hc => ?_)
      · replace h := h.1 hc; clear hc
        refine g_iload_n X dX3_houseDebts_59 rfl 2 rfl ?_
        exact g_iret X hr (by decide +kernel) (by decide +kernel) dX3_houseDebts_60 h
      · replace h := h.2 hc; clear hc
        refine g_aload_n X dX3_houseDebts_15 rfl 0 rfl ?_
        have hk := h.1
        replace h := h.2
        refine gg_400 X hk m_68 dX3_houseDebts_16 (fun z10 hv => ?_)
        replace h := h z10 hv; clear hv hk
        refine g_iload_n X dX3_houseDebts_19 rfl 3 rfl ?_
        obtain ⟨a11, rfl, hk, h⟩ := h
        refine g_callV_q X (As := [.int y4]) (st := []) (n := 1) (c_Jx4a65c_get_915e3 hst h) rfl (by decide) hk (wE_6 G w8 a11) m_315 m_316 m_317 m_18 m_318 (by decide +kernel) (by decide +kernel) rfl rfl (Nat.zero_le _) ⟨(by decide +kernel), (by decide +kernel)⟩ dX3_houseDebts_20 (fun z13 w12 h => ?_)
        clear hk
        refine g_widen (c2 := (0)) (s2 := (0)) (by decide +kernel) (by decide +kernel) ?_
        refine g_castS X (C := "SusuRing$Person") (T := TX1) (N := 13) (ci := 2) rfl (by decide) (fun a => ⟨_, wE_2 G w12 a⟩) h.1 m_177 dX3_houseDebts_23 ?_
        replace h := h.2
        refine g_astore X [(4, .inr z13), (0, .inr (some a0)), (1, .inr r1), (2, .inl y3), (3, .inl y4)] dX3_houseDebts_26 (by decide) rfl ?_
        refine g_aload X dX3_houseDebts_28 0 rfl ?_
        obtain ⟨a15, rfl, hk, h⟩ := h
        refine gg_212 X hk m_207 dX3_houseDebts_30 (fun v16 hv => ?_)
        replace h := h v16 hv; clear hv hk
        obtain ⟨J17, hjJ17, h⟩ := h
        have jp17 : ∀ (y18 : Int32) (w19 : Wd), J17 y18 w19 → Gw l G L0 p e rm_X3_houseDebts s m args below meth c 5 (0) (0) (MQ below (gQi G L0 Q) args s rm_X3_houseDebts.cells rm_X3_houseDebts.slots (GA L0)) w19 53 [(0, .inr (some a0)), (1, .inr r1), (2, .inl y18), (3, .inl y4)] [] := by
          intro y18 w19 hJ
          have h := hjJ17 y18 w19 hJ
          clear hJ
          refine g_iinc X dX3_houseDebts_53 3 rfl (d := (1 : Int32)) (by decide) (by decide) (fun v20 hv => ?_)
          replace h := h v20 hv; clear hv
          refine g_sub [0, 1, 2, 3] [(3, .inl v20), (0, .inr (some a0)), (1, .inr r1), (2, .inl y18)] rfl ?_
          refine g_goto X (tgt := 4) dX3_houseDebts_56 (by decide) ?_
          obtain ⟨n, hn, hI⟩ := h
          exact g_sub [1, 2, 3, 0] [(0, .inr (some a0)), (1, .inr r1), (2, .inl y18), (3, .inl v20)] rfl (ihn1 n hn y18 v20 w19 hI)
        refine g_if_ne X (tgt := 53) dX3_houseDebts_33 (by decide) (fun hc => ?_) (fun hc => ?_)
        · replace h := h.1 hc; clear hc
          exact g_sub [1, 2, 3, 4] [(0, .inr (some a0)), (1, .inr r1), (2, .inl y3), (3, .inl y4)] rfl (jp17 y3 w12 h)
        · replace h := h.2 hc; clear hc
          refine g_aload X dX3_houseDebts_36 0 rfl ?_
          refine g_aload_n X dX3_houseDebts_38 rfl 2 rfl ?_
          have hk := h.1
          replace h := h.2
          refine g_callV_i X (As := [va_rf r1]) (st := []) (n := 1) (c_X1_isOfHouse hst h) rfl (by decide) hk (wE_2 G w12 a15) m_418 m_419 m_420 m_29 m_421 (by decide +kernel) (by decide +kernel) rfl rfl (Nat.zero_le _) ⟨(by decide +kernel), (by decide +kernel)⟩ dX3_houseDebts_39 (fun v22 w21 h => ?_)
          clear hk
          refine g_widen (c2 := (0)) (s2 := (0)) (by decide +kernel) (by decide +kernel) ?_
          refine g_if_eq X (tgt := 53) dX3_houseDebts_42 (by decide) (fun hc => ?_) (fun hc => ?_)
          · replace h := h.1 hc; clear hc
            exact g_sub [1, 2, 3, 4] [(0, .inr (some a0)), (1, .inr r1), (2, .inl y3), (3, .inl y4)] rfl (jp17 y3 w21 h)
          · replace h := h.2 hc; clear hc
            refine g_iload_n X dX3_houseDebts_45 rfl 3 rfl ?_
            refine g_aload X dX3_houseDebts_46 0 rfl ?_
            have hk := h.1
            replace h := h.2
            refine gg_206 X hk m_196 dX3_houseDebts_48 (fun v23 hv => ?_)
            replace h := h v23 hv; clear hv hk
            refine g_iadd X dX3_houseDebts_51 (fun v24 hv => ?_)
            replace h := h v24 hv; clear hv
            refine g_istore_n X [(2, .inl v24), (4, .inr (some a15)), (0, .inr (some a0)), (1, .inr r1), (3, .inl y4)] dX3_houseDebts_52 rfl (by decide) rfl ?_
            exact g_sub [2, 3, 0, 4] [(0, .inr (some a0)), (1, .inr r1), (2, .inl v24), (3, .inl y4)] rfl (jp17 v24 w21 h)
  exact g_sub [2, 3, 1, 0] [(0, .inr (some a0)), (1, .inr r1), (2, .inl (0 : Int32)), (3, .inl (0 : Int32))] rfl (lp2 n0 (0 : Int32) (0 : Int32) w hi)

abbrev rm_X3_highestLoan : Room := { frames := 5, cells := 0, slots := 0, locals := 188 }
def wp_X3_highestLoan (a0 : Nat) (r1 : Option Nat) (w : Wd) (Q : Int32 → Wd → Prop) : Prop :=
  ∃ a1, r1 = some a1 ∧ w.K a1 = 2 ∧
  ∀ v2 : Int32, v2 = w.I 210 a1 →
  ∀ v3 : Int32, v3 = (1 : Int32) + v2 →
  ∀ v4 : Int32, v4 = (50 : Int32) * v3 →
  w.K a0 = 4 ∧
  wp_X3_houseDebts a0 (some a1) w (fun v6 w5 => 
  ∀ v7 : Int32, v7 = (500 : Int32) - v6 →
  ∀ v8 : Int32, v8 = (if v7 < v4 then v7 else v4) →
  Q v8 w5)
set_option maxHeartbeats 4000000 in
set_option maxRecDepth 100000 in
theorem c_X3_highestLoan {l : Launch} {G : GT} {L0 : Nat} (hst : l.stackTraces = false) {a0 : Nat} {r1 : Option Nat} {w : Wd} {Q : Int32 → Wd → Prop} (h : wp_X3_highestLoan a0 r1 w Q) : GMi l G L0 yX3_highestLoan cX3_highestLoan 2 (some .int) rm_X3_highestLoan [.ref a0, va_rf r1] w Q := by
  refine g_enter hst (by decide +kernel) [.inr (some a0), .inr r1] rfl (show 2 ≤ 2 by decide) ?_
  intro p e s m args below meth c X hr hnm
  replace X : GC l G L0 p s m args meth c cX3_highestLoan 2 "SusuRing" := X
  refine g_bipush X (v := (50 : Int32)) dX3_highestLoan_0 (by decide) ?_
  refine g_iconst X (v := (1 : Int32)) dX3_highestLoan_2 (by decide) ?_
  refine g_aload_n X dX3_highestLoan_3 rfl 1 rfl ?_
  obtain ⟨a1, rfl, hk, h⟩ := h
  refine gg_210 X hk m_203 dX3_highestLoan_4 (fun v2 hv => ?_)
  replace h := h v2 hv; clear hv hk
  refine g_iadd X dX3_highestLoan_7 (fun v3 hv => ?_)
  replace h := h v3 hv; clear hv
  refine g_imul X dX3_highestLoan_8 (fun v4 hv => ?_)
  replace h := h v4 hv; clear hv
  refine g_sipush X (v := (500 : Int32)) dX3_highestLoan_9 (by decide) ?_
  refine g_aload_n X dX3_highestLoan_12 rfl 0 rfl ?_
  refine g_aload_n X dX3_highestLoan_13 rfl 1 rfl ?_
  have hk := h.1
  replace h := h.2
  refine g_callV_i X (As := [va_rf (some a1)]) (st := [.int (500 : Int32), .int v4]) (n := 1) (c_X3_houseDebts hst h) rfl (by decide) hk (wE_4 G w a0) m_681 m_683 m_13 m_15 m_684 (by decide +kernel) (by decide +kernel) rfl rfl (by simp [cat_int, rf_cat]) ⟨(by decide +kernel), (by decide +kernel)⟩ dX3_highestLoan_14 (fun v6 w5 h => ?_)
  clear hk
  refine g_widen (c2 := (0)) (s2 := (0)) (by decide +kernel) (by decide +kernel) ?_
  refine g_isub X dX3_highestLoan_17 (fun v7 hv => ?_)
  replace h := h v7 hv; clear hv
  refine g_mmin X m_392 m_284 m_26 m_285 (by decide) (by decide +kernel) (by decide +kernel) (by decide +kernel) dX3_highestLoan_18 (fun v8 hv => ?_)
  replace h := h v8 hv; clear hv
  exact g_iret X hr (by decide +kernel) (by decide +kernel) dX3_highestLoan_21 h

abbrev rm_X3_borrow : Room := { frames := 7, cells := 7, slots := 42, locals := 209 }
def wp_X3_borrow (a0 : Nat) (x1 : Int32) (x2 : Int32) (x3 : Int32) (x4 : Int32) (w : Wd) (Q : Int32 → Wd → Prop) (QX : String → Wd → Prop) : Prop :=
  w.K a0 = 4 ∧
  wp_X3_personAt a0 x1 w (fun z2 w1 => 
  w1.K a0 = 4 ∧
  wp_X3_personAt a0 x3 w1 (fun z4 w3 => 
  w3.K a0 = 4 ∧
  wp_X3_personAt a0 x4 w3 (fun z6 w5 => 
  ∃ J7 : Prop, (J7 →
  QX "java/lang/IllegalArgumentException" w5) ∧
  (x1 = x3 → J7) ∧ (¬ x1 = x3 → (x1 = x4 → J7) ∧ (¬ x1 = x4 → (¬ x3 = x4 → wp_X3_checkRange x2 (1 : Int32) (1000 : Int32) w5 (fun w8 => 
  ∃ a9, z2 = some a9 ∧ w8.K a9 = 2 ∧
  wp_X1_hasShare a9 w8 (fun v11 w10 => 
  ∃ J12 : Wd → Prop, (∀  (w13 : Wd), J12 w13 →
  QX "java/lang/IllegalStateException" w13) ∧
  (v11 = 0 → J12 w10) ∧ (¬ v11 = 0 → ∃ a14, z4 = some a14 ∧ w10.K a14 = 2 ∧
  wp_X1_hasShare a14 w10 (fun v16 w15 => 
  (v16 = 0 → J12 w15) ∧ (¬ v16 = 0 → ∃ a17, z6 = some a17 ∧ w15.K a17 = 2 ∧
  wp_X1_hasShare a17 w15 (fun v19 w18 => 
  (¬ v19 = 0 → w18.K a9 = 2 ∧
  wp_X1_hasLoan a9 w18 (fun v21 w20 => 
  ∃ J22 : Wd → Prop, (∀  (w23 : Wd), J22 w23 →
  QX "java/lang/IllegalStateException" w23) ∧
  (¬ v21 = 0 → J22 w20) ∧ (v21 = 0 → w20.K a0 = 4 ∧
  wp_X3_highestLoan a0 (some a9) w20 (fun v25 w24 => 
  (v25 < x2 → J22 w24) ∧ (¬ v25 < x2 → w24.K a0 = 4 ∧
  ∀ v26 : Int32, v26 = w24.I 402 a0 →
  (x2 ≤ v26 → w24.K a9 = 2 ∧
  wp_X1_takeLoan a9 x2 (some a14) (some a17) w24 (fun w27 => 
  w27.K a0 = 4 ∧
  ∀ v28 : Int32, v28 = w27.I 402 a0 →
  ∀ v29 : Int32, v29 = v28 - x2 →
  w27.K a0 = 4 ∧
  ∀ w30 : Wd, w30 = w27.setI 402 a0 v29 →
  w30.K a9 = 2 ∧
  ∀ v31 : Int32, v31 = w30.I 204 a9 →
  Q v31 w30)) ∧ (¬ x2 ≤ v26 → J22 w24)))))) ∧ (v19 = 0 → J12 w18))))))) QX) ∧ (x3 = x4 → J7)))) QX) QX) QX
set_option maxHeartbeats 4000000 in
set_option maxRecDepth 100000 in
theorem c_X3_borrow {l : Launch} {G : GT} {L0 : Nat} (hst : l.stackTraces = false) {a0 : Nat} {x1 : Int32} {x2 : Int32} {x3 : Int32} {x4 : Int32} {w : Wd} {Q : Int32 → Wd → Prop} {QX : String → Wd → Prop} (h : wp_X3_borrow a0 x1 x2 x3 x4 w Q QX) : GXi l G L0 yX3_borrow cX3_borrow 8 (some .int) rm_X3_borrow [.ref a0, .int x1, .int x2, .int x3, .int x4] w Q QX := by
  refine g_enterX hst (by decide +kernel) [.inr (some a0), .inl x1, .inl x2, .inl x3, .inl x4] rfl (show 5 ≤ 8 by decide) ?_
  intro p e s m args below meth c X hr hnm htab
  replace X : GC l G L0 p s m args meth c cX3_borrow 8 "SusuRing" := X
  refine g_aload_n X dX3_borrow_0 rfl 0 rfl ?_
  refine g_iload_n X dX3_borrow_1 rfl 1 rfl ?_
  have hk := h.1
  replace h := h.2
  refine g_callXV_q X htab (As := [.int x1]) (st := []) (n := 1) (c_X3_personAt hst h) rfl (by decide) hk (wE_4 G w a0) m_295 m_297 m_4 m_15 m_298 (by decide +kernel) (by decide +kernel) rfl rfl (Nat.zero_le _) ⟨(by decide +kernel), (by decide +kernel)⟩ dX3_borrow_2 (by decide +kernel) (by decide +kernel) (fun E w1 hE => hE) (fun z2 w1 h => ?_)
  clear hk
  refine g_widen (c2 := (1)) (s2 := (6)) (by decide +kernel) (by decide +kernel) ?_
  refine g_astore X [(5, .inr z2), (0, .inr (some a0)), (1, .inl x1), (2, .inl x2), (3, .inl x3), (4, .inl x4)] dX3_borrow_5 (by decide) rfl ?_
  refine g_aload_n X dX3_borrow_7 rfl 1 rfl ?_
  refine g_iload_n X dX3_borrow_8 rfl 4 rfl ?_
  have hk := h.1
  replace h := h.2
  refine g_callXV_q X htab (As := [.int x3]) (st := []) (n := 1) (c_X3_personAt hst h) rfl (by decide) hk (wE_4 G w1 a0) m_295 m_297 m_4 m_15 m_298 (by decide +kernel) (by decide +kernel) rfl rfl (Nat.zero_le _) ⟨(by decide +kernel), (by decide +kernel)⟩ dX3_borrow_9 (by decide +kernel) (by decide +kernel) (fun E w1 hE => hE) (fun z4 w3 h => ?_)
  clear hk
  refine g_widen (c2 := (2)) (s2 := (12)) (by decide +kernel) (by decide +kernel) ?_
  refine g_astore X [(6, .inr z4), (5, .inr z2), (0, .inr (some a0)), (1, .inl x1), (2, .inl x2), (3, .inl x3), (4, .inl x4)] dX3_borrow_12 (by decide) rfl ?_
  refine g_aload_n X dX3_borrow_14 rfl 2 rfl ?_
  refine g_iload X dX3_borrow_15 6 rfl ?_
  have hk := h.1
  replace h := h.2
  refine g_callXV_q X htab (As := [.int x4]) (st := []) (n := 1) (c_X3_personAt hst h) rfl (by decide) hk (wE_4 G w3 a0) m_295 m_297 m_4 m_15 m_298 (by decide +kernel) (by decide +kernel) rfl rfl (Nat.zero_le _) ⟨(by decide +kernel), (by decide +kernel)⟩ dX3_borrow_17 (by decide +kernel) (by decide +kernel) (fun E w1 hE => hE) (fun z6 w5 h => ?_)
  clear hk
  refine g_widen (c2 := (3)) (s2 := (18)) (by decide +kernel) (by decide +kernel) ?_
  refine g_astore X [(7, .inr z6), (6, .inr z4), (5, .inr z2), (0, .inr (some a0)), (1, .inl x1), (2, .inl x2), (3, .inl x3), (4, .inl x4)] dX3_borrow_20 (by decide) rfl ?_
  refine g_iload_n X dX3_borrow_22 rfl 4 rfl ?_
  refine g_iload_n X dX3_borrow_23 rfl 6 rfl ?_
  obtain ⟨J7, hjJ7, h⟩ := h
  have jp7 : J7 → Gw l G L0 p e rm_X3_borrow s m args below meth c 8 (3) (18) (vx_MQ below (gQi G L0 Q) (gXC G L0 QX) args s rm_X3_borrow.cells rm_X3_borrow.slots (GA L0)) w5 39 [] [] := by
    intro hJ
    have h := hjJ7 hJ
    clear hJ
    exact g_throw X (cls := "java/lang/IllegalArgumentException") (text := "two of the three are the same") (ik := 64) (is := 194) htab (by decide +kernel) m_88 m_22 (by decide +kernel) at_IAE_g at_IAE_b at_IAE_o dX3_borrow_39 dX3_borrow_42 (Or.inl ⟨dX3_borrow_43, dX3_borrow_45, dX3_borrow_48⟩) (by decide) (by decide +kernel) (by decide +kernel) (by decide +kernel) (by decide +kernel) (by decide +kernel) h
  refine g_icmp_eq X (tgt := 39) dX3_borrow_24 (by decide) (fun hc => ?_) (fun hc => ?_)
  · replace h := h.1 hc; clear hc
    exact g_sub [] [] rfl (jp7  h)
  · replace h := h.2 hc; clear hc
    refine g_iload_n X dX3_borrow_27 rfl 4 rfl ?_
    refine g_iload X dX3_borrow_28 7 rfl ?_
    refine g_icmp_eq X (tgt := 39) dX3_borrow_30 (by decide) (fun hc => ?_) (fun hc => ?_)
    · replace h := h.1 hc; clear hc
      exact g_sub [] [] rfl (jp7  h)
    · replace h := h.2 hc; clear hc
      refine g_iload_n X dX3_borrow_33 rfl 6 rfl ?_
      refine g_iload X dX3_borrow_34 7 rfl ?_
      refine g_icmp_ne X (tgt := 49) dX3_borrow_36 (by decide) (fun hc => ?_) (fun hc => ?_)
      · replace h := h.1 hc; clear hc
        refine g_iload_n X dX3_borrow_49 rfl 5 rfl ?_
        refine g_iconst X (v := (1 : Int32)) dX3_borrow_50 (by decide) ?_
        refine g_sipush X (v := (1000 : Int32)) dX3_borrow_51 (by decide) ?_
        refine g_callXS_v X htab (As := [.int x2, .int (1 : Int32), .int (1000 : Int32)]) (st := []) (n := 3) (c_X3_checkRange hst h) m_85 m_86 m_15 m_87 (by decide +kernel) (by decide +kernel) rfl rfl (Nat.zero_le _) ⟨(by decide +kernel), (by decide +kernel)⟩ dX3_borrow_54 (by decide +kernel) (by decide +kernel) (fun E w1 hE => hE) (fun w8 h => ?_)
        refine g_widen (c2 := (4)) (s2 := (24)) (by decide +kernel) (by decide +kernel) ?_
        refine g_aload X dX3_borrow_57 2 rfl ?_
        obtain ⟨a9, rfl, hk, h⟩ := h
        refine g_callV_i X (As := []) (st := []) (n := 0) (c_X1_hasShare hst h) rfl (by decide) hk (wE_2 G w8 a9) m_672 m_673 m_674 m_29 m_675 (by decide +kernel) (by decide +kernel) rfl rfl (Nat.zero_le _) ⟨(by decide +kernel), (by decide +kernel)⟩ dX3_borrow_59 (fun v11 w10 h => ?_)
        clear hk
        refine g_widen (c2 := (4)) (s2 := (24)) (by decide +kernel) (by decide +kernel) ?_
        obtain ⟨J12, hjJ12, h⟩ := h
        have jp12 : ∀  (w13 : Wd), J12 w13 → Gw l G L0 p e rm_X3_borrow s m args below meth c 8 (4) (24) (vx_MQ below (gQi G L0 Q) (gXC G L0 QX) args s rm_X3_borrow.cells rm_X3_borrow.slots (GA L0)) w13 81 [] [] := by
          intro w13 hJ
          have h := hjJ12 w13 hJ
          clear hJ
          exact g_throw X (cls := "java/lang/IllegalStateException") (text := "one of the three is dead, or has no share") (ik := 28) (is := 199) htab (by decide +kernel) m_161 m_23 (by decide +kernel) at_ISE_g at_ISE_b at_ISE_o dX3_borrow_81 dX3_borrow_84 (Or.inl ⟨dX3_borrow_85, dX3_borrow_87, dX3_borrow_90⟩) (by decide) (by decide +kernel) (by decide +kernel) (by decide +kernel) (by decide +kernel) (by decide +kernel) h
        refine g_if_eq X (tgt := 81) dX3_borrow_62 (by decide) (fun hc => ?_) (fun hc => ?_)
        · replace h := h.1 hc; clear hc
          exact g_sub [] [] rfl (jp12 w10 h)
        · replace h := h.2 hc; clear hc
          refine g_aload X dX3_borrow_65 1 rfl ?_
          obtain ⟨a14, rfl, hk, h⟩ := h
          refine g_callV_i X (As := []) (st := []) (n := 0) (c_X1_hasShare hst h) rfl (by decide) hk (wE_2 G w10 a14) m_672 m_673 m_674 m_29 m_675 (by decide +kernel) (by decide +kernel) rfl rfl (Nat.zero_le _) ⟨(by decide +kernel), (by decide +kernel)⟩ dX3_borrow_67 (fun v16 w15 h => ?_)
          clear hk
          refine g_widen (c2 := (4)) (s2 := (24)) (by decide +kernel) (by decide +kernel) ?_
          refine g_if_eq X (tgt := 81) dX3_borrow_70 (by decide) (fun hc => ?_) (fun hc => ?_)
          · replace h := h.1 hc; clear hc
            exact g_sub [] [] rfl (jp12 w15 h)
          · replace h := h.2 hc; clear hc
            refine g_aload X dX3_borrow_73 0 rfl ?_
            obtain ⟨a17, rfl, hk, h⟩ := h
            refine g_callV_i X (As := []) (st := []) (n := 0) (c_X1_hasShare hst h) rfl (by decide) hk (wE_2 G w15 a17) m_672 m_673 m_674 m_29 m_675 (by decide +kernel) (by decide +kernel) rfl rfl (Nat.zero_le _) ⟨(by decide +kernel), (by decide +kernel)⟩ dX3_borrow_75 (fun v19 w18 h => ?_)
            clear hk
            refine g_widen (c2 := (4)) (s2 := (24)) (by decide +kernel) (by decide +kernel) ?_
            refine g_if_ne X (tgt := 91) dX3_borrow_78 (by decide) (fun hc => ?_) (fun hc => ?_)
            · replace h := h.1 hc; clear hc
              refine g_aload X dX3_borrow_91 2 rfl ?_
              have hk := h.1
              replace h := h.2
              refine g_callV_i X (As := []) (st := []) (n := 0) (c_X1_hasLoan hst h) rfl (by decide) hk (wE_2 G w18 a9) m_376 m_377 m_378 m_29 m_379 (by decide +kernel) (by decide +kernel) rfl rfl (Nat.zero_le _) ⟨(by decide +kernel), (by decide +kernel)⟩ dX3_borrow_93 (fun v21 w20 h => ?_)
              clear hk
              refine g_widen (c2 := (4)) (s2 := (24)) (by decide +kernel) (by decide +kernel) ?_
              obtain ⟨J22, hjJ22, h⟩ := h
              have jp22 : ∀  (w23 : Wd), J22 w23 → Gw l G L0 p e rm_X3_borrow s m args below meth c 8 (4) (24) (vx_MQ below (gQi G L0 Q) (gXC G L0 QX) args s rm_X3_borrow.cells rm_X3_borrow.slots (GA L0)) w23 117 [] [] := by
                intro w23 hJ
                have h := hjJ22 w23 hJ
                clear hJ
                exact g_throw X (cls := "java/lang/IllegalStateException") (text := "there is a loan, or the amount is too high") (ik := 28) (is := 211) htab (by decide +kernel) m_161 m_23 (by decide +kernel) at_ISE_g at_ISE_b at_ISE_o dX3_borrow_117 dX3_borrow_120 (Or.inl ⟨dX3_borrow_121, dX3_borrow_123, dX3_borrow_126⟩) (by decide) (by decide +kernel) (by decide +kernel) (by decide +kernel) (by decide +kernel) (by decide +kernel) h
              refine g_if_ne X (tgt := 117) dX3_borrow_96 (by decide) (fun hc => ?_) (fun hc => ?_)
              · replace h := h.1 hc; clear hc
                exact g_sub [] [] rfl (jp22 w20 h)
              · replace h := h.2 hc; clear hc
                refine g_iload_n X dX3_borrow_99 rfl 5 rfl ?_
                refine g_aload_n X dX3_borrow_100 rfl 3 rfl ?_
                refine g_aload X dX3_borrow_101 2 rfl ?_
                have hk := h.1
                replace h := h.2
                refine g_callV_i X (As := [va_rf (some a9)]) (st := [.int x2]) (n := 1) (c_X3_highestLoan hst h) rfl (by decide) hk (wE_4 G w20 a0) m_677 m_679 m_12 m_15 m_680 (by decide +kernel) (by decide +kernel) rfl rfl (by simp [cat_int, rf_cat]) ⟨(by decide +kernel), (by decide +kernel)⟩ dX3_borrow_103 (fun v25 w24 h => ?_)
                clear hk
                refine g_widen (c2 := (4)) (s2 := (24)) (by decide +kernel) (by decide +kernel) ?_
                refine g_icmp_gt X (tgt := 117) dX3_borrow_106 (by decide) (fun hc => ?_) (fun hc => ?_)
                · replace h := h.1 hc; clear hc
                  exact g_sub [] [] rfl (jp22 w24 h)
                · replace h := h.2 hc; clear hc
                  refine g_iload_n X dX3_borrow_109 rfl 5 rfl ?_
                  refine g_aload_n X dX3_borrow_110 rfl 3 rfl ?_
                  have hk := h.1
                  replace h := h.2
                  refine gg_402 X hk m_70 dX3_borrow_111 (fun v26 hv => ?_)
                  replace h := h v26 hv; clear hv hk
                  refine g_icmp_le X (tgt := 127) dX3_borrow_114 (by decide) (fun hc => ?_) (fun hc => ?_)
                  · replace h := h.1 hc; clear hc
                    refine g_aload X dX3_borrow_127 2 rfl ?_
                    refine g_iload_n X dX3_borrow_129 rfl 5 rfl ?_
                    refine g_aload X dX3_borrow_130 1 rfl ?_
                    refine g_aload X dX3_borrow_132 0 rfl ?_
                    have hk := h.1
                    replace h := h.2
                    refine g_callV_v X (As := [.int x2, va_rf (some a14), va_rf (some a17)]) (st := []) (n := 3) (c_X1_takeLoan hst h) rfl (by decide) hk (wE_2 G w24 a9) m_686 m_687 m_688 m_29 m_689 (by decide +kernel) (by decide +kernel) rfl rfl (Nat.zero_le _) ⟨(by decide +kernel), (by decide +kernel)⟩ dX3_borrow_134 (fun w27 h => ?_)
                    clear hk
                    refine g_widen (c2 := (4)) (s2 := (24)) (by decide +kernel) (by decide +kernel) ?_
                    refine g_aload_n X dX3_borrow_137 rfl 3 rfl ?_
                    refine g_dup X dX3_borrow_138 rf_cat ?_
                    have hk := h.1
                    replace h := h.2
                    refine gg_402 X hk m_70 dX3_borrow_139 (fun v28 hv => ?_)
                    replace h := h v28 hv; clear hv hk
                    refine g_iload_n X dX3_borrow_142 rfl 5 rfl ?_
                    refine g_isub X dX3_borrow_143 (fun v29 hv => ?_)
                    replace h := h v29 hv; clear hv
                    have hk := h.1
                    replace h := h.2
                    refine gp_402 X hk m_70 dX3_borrow_144 (fun w30 hv => ?_)
                    replace h := h w30 hv; clear hv hk
                    refine g_aload X dX3_borrow_147 2 rfl ?_
                    have hk := h.1
                    replace h := h.2
                    refine gg_204 X hk m_190 dX3_borrow_149 (fun v31 hv => ?_)
                    replace h := h v31 hv; clear hv hk
                    exact g_iretX X hr (by decide +kernel) (by decide +kernel) dX3_borrow_152 h
                  · replace h := h.2 hc; clear hc
                    exact g_sub [] [] rfl (jp22 w24 h)
            · replace h := h.2 hc; clear hc
              exact g_sub [] [] rfl (jp12 w18 h)
      · replace h := h.2 hc; clear hc
        exact g_sub [] [] rfl (jp7  h)

abbrev rm_X3_repay : Room := { frames := 7, cells := 3, slots := 18, locals := 185 }
def wp_X3_repay (a0 : Nat) (x1 : Int32) (x2 : Int32) (w : Wd) (Q : Int32 → Wd → Prop) (QX : String → Wd → Prop) : Prop :=
  w.K a0 = 4 ∧
  wp_X3_personAt a0 x1 w (fun z2 w1 => 
  wp_X3_checkRange x2 (1 : Int32) (10000 : Int32) w1 (fun w3 => 
  ∃ a4, z2 = some a4 ∧ w3.K a4 = 2 ∧
  ∀ v5 : Int32, v5 = w3.I 206 a4 →
  ∀ v6 : Int32, v6 = (if v5 < x2 then v5 else x2) →
  w3.K a4 = 2 ∧
  wp_X1_hasLoan a4 w3 (fun v8 w7 => 
  ∃ J9 : Prop, (J9 →
  QX "java/lang/IllegalStateException" w7) ∧
  (v8 = 0 → J9) ∧ (¬ v8 = 0 → w7.K a4 = 2 ∧
  ∀ v10 : Int32, v10 = w7.I 204 a4 →
  (v6 ≤ v10 → w7.K a0 = 4 ∧
  wp_X3_payFund a0 (some a4) v6 w7 (fun w11 => 
  w11.K a4 = 2 ∧
  ∀ v12 : Int32, v12 = w11.I 206 a4 →
  ∀ v13 : Int32, v13 = v12 - v6 →
  w11.K a4 = 2 ∧
  ∀ w14 : Wd, w14 = w11.setI 206 a4 v13 →
  w14.K a4 = 2 ∧
  wp_X1_hasLoan a4 w14 (fun v16 w15 => 
  ∃ J17 : Wd → Prop, (∀  (w18 : Wd), J17 w18 →
  w18.K a4 = 2 ∧
  ∀ v19 : Int32, v19 = w18.I 206 a4 →
  Q v19 w18) ∧
  (¬ v16 = 0 → J17 w15) ∧ (v16 = 0 → w15.K a4 = 2 ∧
  ∀ v20 : Int32, v20 = w15.I 210 a4 →
  ∀ v21 : Int32, v21 = v20 + (1 : Int32) →
  w15.K a4 = 2 ∧
  ∀ w22 : Wd, w22 = w15.setI 210 a4 v21 →
  J17 w22)))) ∧ (¬ v6 ≤ v10 → J9)))) QX) QX
set_option maxHeartbeats 4000000 in
set_option maxRecDepth 100000 in
theorem c_X3_repay {l : Launch} {G : GT} {L0 : Nat} (hst : l.stackTraces = false) {a0 : Nat} {x1 : Int32} {x2 : Int32} {w : Wd} {Q : Int32 → Wd → Prop} {QX : String → Wd → Prop} (h : wp_X3_repay a0 x1 x2 w Q QX) : GXi l G L0 yX3_repay cX3_repay 5 (some .int) rm_X3_repay [.ref a0, .int x1, .int x2] w Q QX := by
  refine g_enterX hst (by decide +kernel) [.inr (some a0), .inl x1, .inl x2] rfl (show 3 ≤ 5 by decide) ?_
  intro p e s m args below meth c X hr hnm htab
  replace X : GC l G L0 p s m args meth c cX3_repay 5 "SusuRing" := X
  refine g_aload_n X dX3_repay_0 rfl 0 rfl ?_
  refine g_iload_n X dX3_repay_1 rfl 1 rfl ?_
  have hk := h.1
  replace h := h.2
  refine g_callXV_q X htab (As := [.int x1]) (st := []) (n := 1) (c_X3_personAt hst h) rfl (by decide) hk (wE_4 G w a0) m_295 m_297 m_4 m_15 m_298 (by decide +kernel) (by decide +kernel) rfl rfl (Nat.zero_le _) ⟨(by decide +kernel), (by decide +kernel)⟩ dX3_repay_2 (by decide +kernel) (by decide +kernel) (fun E w1 hE => hE) (fun z2 w1 h => ?_)
  clear hk
  refine g_widen (c2 := (1)) (s2 := (6)) (by decide +kernel) (by decide +kernel) ?_
  refine g_astore_n X [(3, .inr z2), (0, .inr (some a0)), (1, .inl x1), (2, .inl x2)] dX3_repay_5 rfl (by decide) rfl ?_
  refine g_iload_n X dX3_repay_6 rfl 3 rfl ?_
  refine g_iconst X (v := (1 : Int32)) dX3_repay_7 (by decide) ?_
  refine g_sipush X (v := (10000 : Int32)) dX3_repay_8 (by decide) ?_
  refine g_callXS_v X htab (As := [.int x2, .int (1 : Int32), .int (10000 : Int32)]) (st := []) (n := 3) (c_X3_checkRange hst h) m_85 m_86 m_15 m_87 (by decide +kernel) (by decide +kernel) rfl rfl (Nat.zero_le _) ⟨(by decide +kernel), (by decide +kernel)⟩ dX3_repay_11 (by decide +kernel) (by decide +kernel) (fun E w1 hE => hE) (fun w3 h => ?_)
  refine g_widen (c2 := (2)) (s2 := (12)) (by decide +kernel) (by decide +kernel) ?_
  refine g_iload_n X dX3_repay_14 rfl 3 rfl ?_
  refine g_aload_n X dX3_repay_15 rfl 0 rfl ?_
  obtain ⟨a4, rfl, hk, h⟩ := h
  refine gg_206 X hk m_196 dX3_repay_16 (fun v5 hv => ?_)
  replace h := h v5 hv; clear hv hk
  refine g_mmin X m_392 m_284 m_26 m_285 (by decide) (by decide +kernel) (by decide +kernel) (by decide +kernel) dX3_repay_19 (fun v6 hv => ?_)
  replace h := h v6 hv; clear hv
  refine g_istore X [(4, .inl v6), (3, .inr (some a4)), (0, .inr (some a0)), (1, .inl x1), (2, .inl x2)] dX3_repay_22 (by decide) rfl ?_
  refine g_aload_n X dX3_repay_24 rfl 1 rfl ?_
  have hk := h.1
  replace h := h.2
  refine g_callV_i X (As := []) (st := []) (n := 0) (c_X1_hasLoan hst h) rfl (by decide) hk (wE_2 G w3 a4) m_376 m_377 m_378 m_29 m_379 (by decide +kernel) (by decide +kernel) rfl rfl (Nat.zero_le _) ⟨(by decide +kernel), (by decide +kernel)⟩ dX3_repay_25 (fun v8 w7 h => ?_)
  clear hk
  refine g_widen (c2 := (2)) (s2 := (12)) (by decide +kernel) (by decide +kernel) ?_
  obtain ⟨J9, hjJ9, h⟩ := h
  have jp9 : J9 → Gw l G L0 p e rm_X3_repay s m args below meth c 5 (2) (12) (vx_MQ below (gQi G L0 Q) (gXC G L0 QX) args s rm_X3_repay.cells rm_X3_repay.slots (GA L0)) w7 40 [] [] := by
    intro hJ
    have h := hjJ9 hJ
    clear hJ
    exact g_throw X (cls := "java/lang/IllegalStateException") (text := "there is no loan, or too little in the purse") (ik := 28) (is := 220) htab (by decide +kernel) m_161 m_23 (by decide +kernel) at_ISE_g at_ISE_b at_ISE_o dX3_repay_40 dX3_repay_43 (Or.inl ⟨dX3_repay_44, dX3_repay_46, dX3_repay_49⟩) (by decide) (by decide +kernel) (by decide +kernel) (by decide +kernel) (by decide +kernel) (by decide +kernel) h
  refine g_if_eq X (tgt := 40) dX3_repay_28 (by decide) (fun hc => ?_) (fun hc => ?_)
  · replace h := h.1 hc; clear hc
    exact g_sub [] [] rfl (jp9  h)
  · replace h := h.2 hc; clear hc
    refine g_aload_n X dX3_repay_31 rfl 1 rfl ?_
    have hk := h.1
    replace h := h.2
    refine gg_204 X hk m_190 dX3_repay_32 (fun v10 hv => ?_)
    replace h := h v10 hv; clear hv hk
    refine g_iload X dX3_repay_35 0 rfl ?_
    refine g_icmp_ge X (tgt := 50) dX3_repay_37 (by decide) (fun hc => ?_) (fun hc => ?_)
    · replace h := h.1 hc; clear hc
      refine g_aload_n X dX3_repay_50 rfl 2 rfl ?_
      refine g_aload_n X dX3_repay_51 rfl 1 rfl ?_
      refine g_iload X dX3_repay_52 0 rfl ?_
      have hk := h.1
      replace h := h.2
      refine g_callV_v X (As := [va_rf (some a4), .int v6]) (st := []) (n := 2) (c_X3_payFund hst h) rfl (by decide) hk (wE_4 G w7 a0) m_393 m_395 m_7 m_15 m_396 (by decide +kernel) (by decide +kernel) rfl rfl (Nat.zero_le _) ⟨(by decide +kernel), (by decide +kernel)⟩ dX3_repay_54 (fun w11 h => ?_)
      clear hk
      refine g_widen (c2 := (2)) (s2 := (12)) (by decide +kernel) (by decide +kernel) ?_
      refine g_aload_n X dX3_repay_57 rfl 1 rfl ?_
      refine g_dup X dX3_repay_58 rf_cat ?_
      have hk := h.1
      replace h := h.2
      refine gg_206 X hk m_196 dX3_repay_59 (fun v12 hv => ?_)
      replace h := h v12 hv; clear hv hk
      refine g_iload X dX3_repay_62 0 rfl ?_
      refine g_isub X dX3_repay_64 (fun v13 hv => ?_)
      replace h := h v13 hv; clear hv
      have hk := h.1
      replace h := h.2
      refine gp_206 X hk m_196 dX3_repay_65 (fun w14 hv => ?_)
      replace h := h w14 hv; clear hv hk
      refine g_aload_n X dX3_repay_68 rfl 1 rfl ?_
      have hk := h.1
      replace h := h.2
      refine g_callV_i X (As := []) (st := []) (n := 0) (c_X1_hasLoan hst h) rfl (by decide) hk (wE_2 G w14 a4) m_376 m_377 m_378 m_29 m_379 (by decide +kernel) (by decide +kernel) rfl rfl (Nat.zero_le _) ⟨(by decide +kernel), (by decide +kernel)⟩ dX3_repay_69 (fun v16 w15 h => ?_)
      clear hk
      refine g_widen (c2 := (2)) (s2 := (12)) (by decide +kernel) (by decide +kernel) ?_
      obtain ⟨J17, hjJ17, h⟩ := h
      have jp17 : ∀  (w18 : Wd), J17 w18 → Gw l G L0 p e rm_X3_repay s m args below meth c 5 (2) (12) (vx_MQ below (gQi G L0 Q) (gXC G L0 QX) args s rm_X3_repay.cells rm_X3_repay.slots (GA L0)) w18 85 [(3, .inr (some a4))] [] := by
        intro w18 hJ
        have h := hjJ17 w18 hJ
        clear hJ
        refine g_aload_n X dX3_repay_85 rfl 0 rfl ?_
        have hk := h.1
        replace h := h.2
        refine gg_206 X hk m_196 dX3_repay_86 (fun v19 hv => ?_)
        replace h := h v19 hv; clear hv hk
        exact g_iretX X hr (by decide +kernel) (by decide +kernel) dX3_repay_89 h
      refine g_if_ne X (tgt := 85) dX3_repay_72 (by decide) (fun hc => ?_) (fun hc => ?_)
      · replace h := h.1 hc; clear hc
        exact g_sub [1] [(3, .inr (some a4))] rfl (jp17 w15 h)
      · replace h := h.2 hc; clear hc
        refine g_aload_n X dX3_repay_75 rfl 1 rfl ?_
        refine g_dup X dX3_repay_76 rf_cat ?_
        have hk := h.1
        replace h := h.2
        refine gg_210 X hk m_203 dX3_repay_77 (fun v20 hv => ?_)
        replace h := h v20 hv; clear hv hk
        refine g_iconst X (v := (1 : Int32)) dX3_repay_80 (by decide) ?_
        refine g_iadd X dX3_repay_81 (fun v21 hv => ?_)
        replace h := h v21 hv; clear hv
        have hk := h.1
        replace h := h.2
        refine gp_210 X hk m_203 dX3_repay_82 (fun w22 hv => ?_)
        replace h := h w22 hv; clear hv hk
        exact g_sub [1] [(3, .inr (some a4))] rfl (jp17 w22 h)
    · replace h := h.2 hc; clear hc
      exact g_sub [] [] rfl (jp9  h)

abbrev rm_X3_payForOther : Room := { frames := 3, cells := 0, slots := 0, locals := 143 }
def wp_X3_payForOther (a0 : Nat) (r1 : Option Nat) (x2 : Int32) (w : Wd) (Q : Wd → Prop) : Prop :=
  ∃ J1 : Wd → Prop, (∀  (w2 : Wd), J1 w2 →
  Q w2) ∧
  (r1 = none → J1 w) ∧ (¬ r1 = none → ∃ a3, r1 = some a3 ∧ w.K a3 = 2 ∧
  ∀ v4 : Int32, v4 = w.I 212 a3 →
  (¬ v4 = 0 → J1 w) ∧ (v4 = 0 → w.K a3 = 2 ∧
  ∀ v5 : Int32, v5 = w.I 204 a3 →
  ∀ v6 : Int32, v6 = (if v5 < x2 then v5 else x2) →
  w.K a0 = 4 ∧
  wp_X3_payFund a0 (some a3) v6 w (fun w7 => 
  J1 w7)))
set_option maxHeartbeats 4000000 in
set_option maxRecDepth 100000 in
theorem c_X3_payForOther {l : Launch} {G : GT} {L0 : Nat} (hst : l.stackTraces = false) {a0 : Nat} {r1 : Option Nat} {x2 : Int32} {w : Wd} {Q : Wd → Prop} (h : wp_X3_payForOther a0 r1 x2 w Q) : GMv l G L0 yX3_payForOther cX3_payForOther 3 none rm_X3_payForOther [.ref a0, va_rf r1, .int x2] w Q := by
  refine g_enter hst (by decide +kernel) [.inr (some a0), .inr r1, .inl x2] rfl (show 3 ≤ 3 by decide) ?_
  intro p e s m args below meth c X hr hnm
  replace X : GC l G L0 p s m args meth c cX3_payForOther 3 "SusuRing" := X
  refine g_aload_n X dX3_payForOther_0 rfl 1 rfl ?_
  obtain ⟨J1, hjJ1, h⟩ := h
  have jp1 : ∀  (w2 : Wd), J1 w2 → Gw l G L0 p e rm_X3_payForOther s m args below meth c 3 (0) (0) (MQ below (gQv G L0 Q) args s rm_X3_payForOther.cells rm_X3_payForOther.slots (GA L0)) w2 24 [] [] := by
    intro w2 hJ
    have h := hjJ1 w2 hJ
    clear hJ
    exact g_vret X hr (by decide +kernel) (by decide +kernel) dX3_payForOther_24 h
  refine g_ifnull X (tgt := 24) dX3_payForOther_1 (by decide) (fun hc => ?_) (fun hc => ?_)
  · replace h := h.1 hc; clear hc
    exact g_sub [] [] rfl (jp1 w h)
  · replace h := h.2 hc; clear hc
    refine g_aload_n X dX3_payForOther_4 rfl 1 rfl ?_
    obtain ⟨a3, rfl, hk, h⟩ := h
    refine gg_212 X hk m_207 dX3_payForOther_5 (fun v4 hv => ?_)
    replace h := h v4 hv; clear hv hk
    refine g_if_ne X (tgt := 24) dX3_payForOther_8 (by decide) (fun hc => ?_) (fun hc => ?_)
    · replace h := h.1 hc; clear hc
      exact g_sub [] [] rfl (jp1 w h)
    · replace h := h.2 hc; clear hc
      refine g_aload_n X dX3_payForOther_11 rfl 0 rfl ?_
      refine g_aload_n X dX3_payForOther_12 rfl 1 rfl ?_
      refine g_iload_n X dX3_payForOther_13 rfl 2 rfl ?_
      refine g_aload_n X dX3_payForOther_14 rfl 1 rfl ?_
      have hk := h.1
      replace h := h.2
      refine gg_204 X hk m_190 dX3_payForOther_15 (fun v5 hv => ?_)
      replace h := h v5 hv; clear hv hk
      refine g_mmin X m_392 m_284 m_26 m_285 (by decide) (by show _ ≤ 143; simp [cat_int, rf_cat, nativeFrameWords]) (by decide +kernel) (by decide +kernel) dX3_payForOther_18 (fun v6 hv => ?_)
      replace h := h v6 hv; clear hv
      have hk := h.1
      replace h := h.2
      refine g_callV_v X (As := [va_rf (some a3), .int v6]) (st := []) (n := 2) (c_X3_payFund hst h) rfl (by decide) hk (wE_4 G w a0) m_393 m_395 m_7 m_15 m_396 (by decide +kernel) (by decide +kernel) rfl rfl (Nat.zero_le _) ⟨(by decide +kernel), (by decide +kernel)⟩ dX3_payForOther_21 (fun w7 h => ?_)
      clear hk
      refine g_widen (c2 := (0)) (s2 := (0)) (by decide +kernel) (by decide +kernel) ?_
      exact g_sub [] [] rfl (jp1 w7 h)

abbrev rm_X3_defaultLoan : Room := { frames := 4, cells := 0, slots := 0, locals := 165 }
def wp_X3_defaultLoan (a0 : Nat) (r1 : Option Nat) (w : Wd) (Q : Wd → Prop) : Prop :=
  ∃ a1, r1 = some a1 ∧ w.K a1 = 2 ∧
  ∀ v2 : Int32, v2 = w.I 206 a1 →
  ¬ (2 : Int32) = 0 ∧ ∀ v3 : Int32, v3 = v2 / (2 : Int32) →
  w.K a1 = 2 ∧
  ∀ v4 : Int32, v4 = w.I 206 a1 →
  ∀ v5 : Int32, v5 = v4 - v3 →
  w.K a1 = 2 ∧
  ∀ z6 : Option Nat, z6 = w.R 208 a1 →
  w.K a0 = 4 ∧
  wp_X3_payForOther a0 z6 v3 w (fun w7 => 
  w7.K a1 = 2 ∧
  ∀ z8 : Option Nat, z8 = w7.R 209 a1 →
  w7.K a0 = 4 ∧
  wp_X3_payForOther a0 z8 v5 w7 (fun w9 => 
  w9.K a1 = 2 ∧
  ∀ w10 : Wd, w10 = w9.setI 206 a1 (0 : Int32) →
  w10.K a1 = 2 ∧
  ∀ w11 : Wd, w11 = w10.setI 210 a1 (0 : Int32) →
  Q w11))
set_option maxHeartbeats 4000000 in
set_option maxRecDepth 100000 in
theorem c_X3_defaultLoan {l : Launch} {G : GT} {L0 : Nat} (hst : l.stackTraces = false) {a0 : Nat} {r1 : Option Nat} {w : Wd} {Q : Wd → Prop} (h : wp_X3_defaultLoan a0 r1 w Q) : GMv l G L0 yX3_defaultLoan cX3_defaultLoan 4 none rm_X3_defaultLoan [.ref a0, va_rf r1] w Q := by
  refine g_enter hst (by decide +kernel) [.inr (some a0), .inr r1] rfl (show 2 ≤ 4 by decide) ?_
  intro p e s m args below meth c X hr hnm
  replace X : GC l G L0 p s m args meth c cX3_defaultLoan 4 "SusuRing" := X
  refine g_aload_n X dX3_defaultLoan_0 rfl 1 rfl ?_
  obtain ⟨a1, rfl, hk, h⟩ := h
  refine gg_206 X hk m_196 dX3_defaultLoan_1 (fun v2 hv => ?_)
  replace h := h v2 hv; clear hv hk
  refine g_iconst X (v := (2 : Int32)) dX3_defaultLoan_4 (by decide) ?_
  refine g_idiv X dX3_defaultLoan_5 h.1 (fun v3 hv => ?_)
  replace h := h.2 v3 hv; clear hv
  refine g_istore_n X [(2, .inl v3), (0, .inr (some a0)), (1, .inr (some a1))] dX3_defaultLoan_6 rfl (by decide) rfl ?_
  refine g_aload_n X dX3_defaultLoan_7 rfl 2 rfl ?_
  have hk := h.1
  replace h := h.2
  refine gg_206 X hk m_196 dX3_defaultLoan_8 (fun v4 hv => ?_)
  replace h := h v4 hv; clear hv hk
  refine g_iload_n X dX3_defaultLoan_11 rfl 0 rfl ?_
  refine g_isub X dX3_defaultLoan_12 (fun v5 hv => ?_)
  replace h := h v5 hv; clear hv
  refine g_istore_n X [(3, .inl v5), (2, .inl v3), (0, .inr (some a0)), (1, .inr (some a1))] dX3_defaultLoan_13 rfl (by decide) rfl ?_
  refine g_aload_n X dX3_defaultLoan_14 rfl 2 rfl ?_
  refine g_aload_n X dX3_defaultLoan_15 rfl 3 rfl ?_
  have hk := h.1
  replace h := h.2
  refine gg_208 X hk m_200 dX3_defaultLoan_16 (fun z6 hv => ?_)
  replace h := h z6 hv; clear hv hk
  refine g_iload_n X dX3_defaultLoan_19 rfl 1 rfl ?_
  have hk := h.1
  replace h := h.2
  refine g_callV_v X (As := [va_rf z6, .int v3]) (st := []) (n := 2) (c_X3_payForOther hst h) rfl (by decide) hk (wE_4 G w a0) m_388 m_390 m_6 m_15 m_391 (by decide +kernel) (by decide +kernel) rfl rfl (Nat.zero_le _) ⟨(by decide +kernel), (by decide +kernel)⟩ dX3_defaultLoan_20 (fun w7 h => ?_)
  clear hk
  refine g_widen (c2 := (0)) (s2 := (0)) (by decide +kernel) (by decide +kernel) ?_
  refine g_aload_n X dX3_defaultLoan_23 rfl 2 rfl ?_
  refine g_aload_n X dX3_defaultLoan_24 rfl 3 rfl ?_
  have hk := h.1
  replace h := h.2
  refine gg_209 X hk m_202 dX3_defaultLoan_25 (fun z8 hv => ?_)
  replace h := h z8 hv; clear hv hk
  refine g_iload_n X dX3_defaultLoan_28 rfl 0 rfl ?_
  have hk := h.1
  replace h := h.2
  refine g_callV_v X (As := [va_rf z8, .int v5]) (st := []) (n := 2) (c_X3_payForOther hst h) rfl (by decide) hk (wE_4 G w7 a0) m_388 m_390 m_6 m_15 m_391 (by decide +kernel) (by decide +kernel) rfl rfl (Nat.zero_le _) ⟨(by decide +kernel), (by decide +kernel)⟩ dX3_defaultLoan_29 (fun w9 h => ?_)
  clear hk
  refine g_widen (c2 := (0)) (s2 := (0)) (by decide +kernel) (by decide +kernel) ?_
  refine g_aload_n X dX3_defaultLoan_32 rfl 3 rfl ?_
  refine g_iconst X (v := (0 : Int32)) dX3_defaultLoan_33 (by decide) ?_
  have hk := h.1
  replace h := h.2
  refine gp_206 X hk m_196 dX3_defaultLoan_34 (fun w10 hv => ?_)
  replace h := h w10 hv; clear hv hk
  refine g_aload_n X dX3_defaultLoan_37 rfl 3 rfl ?_
  refine g_iconst X (v := (0 : Int32)) dX3_defaultLoan_38 (by decide) ?_
  have hk := h.1
  replace h := h.2
  refine gp_210 X hk m_203 dX3_defaultLoan_39 (fun w11 hv => ?_)
  replace h := h w11 hv; clear hv hk
  exact g_vret X hr (by decide +kernel) (by decide +kernel) dX3_defaultLoan_42 h

abbrev rm_X3_month : Room := { frames := 5, cells := 0, slots := 0, locals := 188 }
def wp_X3_month (a0 : Nat) (x1 : Int32) (w : Wd) (Q : Int32 → Wd → Prop) : Prop :=
  (x1 = 0 → ∃ Inv2 : Nat → Int32 → Int32 → Wd → Prop, (∃ n : Nat, Inv2 n (0 : Int32) (0 : Int32) w) ∧ ∀ (n1 : Nat) (y3 : Int32) (y4 : Int32) (w5 : Wd), Inv2 n1 y3 y4 w5 →
  w5.K a0 = 4 ∧
  ∀ z6 : Option Nat, z6 = w5.R 400 a0 →
  ∃ a7, z6 = some a7 ∧ w5.K a7 = 6 ∧
  wp_Jx4a65c_size_8abf5 a7 w5 (fun v9 w8 => 
  (v9 ≤ y4 → Q y3 w8) ∧ (¬ v9 ≤ y4 → w8.K a0 = 4 ∧
  ∀ z10 : Option Nat, z10 = w8.R 400 a0 →
  ∃ a11, z10 = some a11 ∧ w8.K a11 = 6 ∧
  wp_Jx4a65c_get_915e3 a11 y4 w8 (fun z13 w12 => 
  (∀ y14, z13 = some y14 → w12.K y14 = 2) ∧
  ∃ a15, z13 = some a15 ∧ w12.K a15 = 2 ∧
  wp_X1_hasLoan a15 w12 (fun v17 w16 => 
  ∃ J18 : Int32 → Wd → Prop, (∀ (y19 : Int32) (w20 : Wd), J18 y19 w20 →
  ∀ v21 : Int32, v21 = y4 + (1 : Int32) →
  ∃ n : Nat, n < n1 ∧ Inv2 n y19 v21 w20) ∧
  (v17 = 0 → J18 y3 w16) ∧ (¬ v17 = 0 → w16.K a15 = 2 ∧
  wp_X1_ageLoan a15 w16 (fun w22 => 
  w22.K a15 = 2 ∧
  ∀ v23 : Int32, v23 = w22.I 207 a15 →
  (v23 ≤ (6 : Int32) → J18 y3 w22) ∧ (¬ v23 ≤ (6 : Int32) → w22.K a0 = 4 ∧
  wp_X3_defaultLoan a0 (some a15) w22 (fun w24 => 
  ∀ v25 : Int32, v25 = y3 + (1 : Int32) →
  J18 v25 w24))))))))) ∧ (¬ x1 = 0 → Q (0 : Int32) w)
set_option maxHeartbeats 4000000 in
set_option maxRecDepth 100000 in
theorem c_X3_month {l : Launch} {G : GT} {L0 : Nat} (hst : l.stackTraces = false) {a0 : Nat} {x1 : Int32} {w : Wd} {Q : Int32 → Wd → Prop} (h : wp_X3_month a0 x1 w Q) : GMi l G L0 yX3_month cX3_month 5 (some .int) rm_X3_month [.ref a0, .int x1] w Q := by
  refine g_enter hst (by decide +kernel) [.inr (some a0), .inl x1] rfl (show 2 ≤ 5 by decide) ?_
  intro p e s m args below meth c X hr hnm
  replace X : GC l G L0 p s m args meth c cX3_month 5 "SusuRing" := X
  refine g_iload_n X dX3_month_0 rfl 1 rfl ?_
  refine g_if_eq X (tgt := 6) dX3_month_1 (by decide) (fun hc => ?_) (fun hc => ?_)
  · replace h := h.1 hc; clear hc
    refine g_iconst X (v := (0 : Int32)) dX3_month_6 (by decide) ?_
    refine g_istore_n X [(2, .inl (0 : Int32)), (0, .inr (some a0)), (1, .inl x1)] dX3_month_7 rfl (by decide) rfl ?_
    refine g_iconst X (v := (0 : Int32)) dX3_month_8 (by decide) ?_
    refine g_istore_n X [(3, .inl (0 : Int32)), (2, .inl (0 : Int32)), (0, .inr (some a0)), (1, .inl x1)] dX3_month_9 rfl (by decide) rfl ?_
    obtain ⟨Inv2, ⟨n0, hi⟩, hsn1⟩ := h
    have lp2 : ∀ (n1 : Nat), ∀ (y3 : Int32) (y4 : Int32) (w5 : Wd), Inv2 n1 y3 y4 w5 → Gw l G L0 p e rm_X3_month s m args below meth c 5 (0) (0) (MQ below (gQi G L0 Q) args s rm_X3_month.cells rm_X3_month.slots (GA L0)) w5 10 [(0, .inr (some a0)), (2, .inl y3), (3, .inl y4)] [] := by
      intro n1
      induction n1 using Nat.strongRecOn with
      | ind n1 ihn1 =>
        intro y3 y4 w5 hI
        have h := hsn1 n1 y3 y4 w5 hI
        clear hI
        refine g_iload_n X dX3_month_10 rfl 2 rfl ?_
        refine g_aload_n X dX3_month_11 rfl 0 rfl ?_
        have hk := h.1
        replace h := h.2
        refine gg_400 X hk m_68 dX3_month_12 (fun z6 hv => ?_)
        replace h := h z6 hv; clear hv hk
        obtain ⟨a7, rfl, hk, h⟩ := h
        refine g_callV_i X (As := []) (st := [.int y4]) (n := 0) (c_Jx4a65c_size_8abf5 hst h) rfl (by decide) hk (wE_6 G w5 a7) m_157 m_158 m_159 m_18 m_160 (by decide +kernel) (by decide +kernel) rfl rfl (by simp [cat_int, rf_cat]) ⟨(by decide +kernel), (by decide +kernel)⟩ dX3_month_15 (fun v9 w8 h => ?_)
        clear hk
        refine g_widen (c2 := (0)) (s2 := (0)) (by decide +kernel) (by decide +kernel) ?_
        refine g_icmp_ge X (tgt := 72) dX3_month_18 (by decide) (fun hc => ?_) (fun hc => ?_)
        · replace h := h.1 hc; clear hc
          refine g_iload_n X dX3_month_72 rfl 1 rfl ?_
          exact g_iret X hr (by decide +kernel) (by decide +kernel) dX3_month_73 h
        · replace h := h.2 hc; clear hc
          refine g_aload_n X dX3_month_21 rfl 0 rfl ?_
          have hk := h.1
          replace h := h.2
          refine gg_400 X hk m_68 dX3_month_22 (fun z10 hv => ?_)
          replace h := h z10 hv; clear hv hk
          refine g_iload_n X dX3_month_25 rfl 2 rfl ?_
          obtain ⟨a11, rfl, hk, h⟩ := h
          refine g_callV_q X (As := [.int y4]) (st := []) (n := 1) (c_Jx4a65c_get_915e3 hst h) rfl (by decide) hk (wE_6 G w8 a11) m_315 m_316 m_317 m_18 m_318 (by decide +kernel) (by decide +kernel) rfl rfl (Nat.zero_le _) ⟨(by decide +kernel), (by decide +kernel)⟩ dX3_month_26 (fun z13 w12 h => ?_)
          clear hk
          refine g_widen (c2 := (0)) (s2 := (0)) (by decide +kernel) (by decide +kernel) ?_
          refine g_castS X (C := "SusuRing$Person") (T := TX1) (N := 13) (ci := 2) rfl (by decide) (fun a => ⟨_, wE_2 G w12 a⟩) h.1 m_177 dX3_month_29 ?_
          replace h := h.2
          refine g_astore X [(4, .inr z13), (0, .inr (some a0)), (2, .inl y3), (3, .inl y4)] dX3_month_32 (by decide) rfl ?_
          refine g_aload X dX3_month_34 0 rfl ?_
          obtain ⟨a15, rfl, hk, h⟩ := h
          refine g_callV_i X (As := []) (st := []) (n := 0) (c_X1_hasLoan hst h) rfl (by decide) hk (wE_2 G w12 a15) m_376 m_377 m_378 m_29 m_379 (by decide +kernel) (by decide +kernel) rfl rfl (Nat.zero_le _) ⟨(by decide +kernel), (by decide +kernel)⟩ dX3_month_36 (fun v17 w16 h => ?_)
          clear hk
          refine g_widen (c2 := (0)) (s2 := (0)) (by decide +kernel) (by decide +kernel) ?_
          obtain ⟨J18, hjJ18, h⟩ := h
          have jp18 : ∀ (y19 : Int32) (w20 : Wd), J18 y19 w20 → Gw l G L0 p e rm_X3_month s m args below meth c 5 (0) (0) (MQ below (gQi G L0 Q) args s rm_X3_month.cells rm_X3_month.slots (GA L0)) w20 66 [(0, .inr (some a0)), (2, .inl y19), (3, .inl y4)] [] := by
            intro y19 w20 hJ
            have h := hjJ18 y19 w20 hJ
            clear hJ
            refine g_iinc X dX3_month_66 2 rfl (d := (1 : Int32)) (by decide) (by decide) (fun v21 hv => ?_)
            replace h := h v21 hv; clear hv
            refine g_sub [0, 1, 2] [(3, .inl v21), (0, .inr (some a0)), (2, .inl y19)] rfl ?_
            refine g_goto X (tgt := 10) dX3_month_69 (by decide) ?_
            obtain ⟨n, hn, hI⟩ := h
            exact g_sub [1, 2, 0] [(0, .inr (some a0)), (2, .inl y19), (3, .inl v21)] rfl (ihn1 n hn y19 v21 w20 hI)
          refine g_if_eq X (tgt := 66) dX3_month_39 (by decide) (fun hc => ?_) (fun hc => ?_)
          · replace h := h.1 hc; clear hc
            exact g_sub [1, 2, 3] [(0, .inr (some a0)), (2, .inl y3), (3, .inl y4)] rfl (jp18 y3 w16 h)
          · replace h := h.2 hc; clear hc
            refine g_aload X dX3_month_42 0 rfl ?_
            have hk := h.1
            replace h := h.2
            refine g_callV_v X (As := []) (st := []) (n := 0) (c_X1_ageLoan hst h) rfl (by decide) hk (wE_2 G w16 a15) m_380 m_381 m_382 m_29 m_383 (by decide +kernel) (by decide +kernel) rfl rfl (Nat.zero_le _) ⟨(by decide +kernel), (by decide +kernel)⟩ dX3_month_44 (fun w22 h => ?_)
            clear hk
            refine g_widen (c2 := (0)) (s2 := (0)) (by decide +kernel) (by decide +kernel) ?_
            refine g_aload X dX3_month_47 0 rfl ?_
            have hk := h.1
            replace h := h.2
            refine gg_207 X hk m_198 dX3_month_49 (fun v23 hv => ?_)
            replace h := h v23 hv; clear hv hk
            refine g_bipush X (v := (6 : Int32)) dX3_month_52 (by decide) ?_
            refine g_icmp_le X (tgt := 66) dX3_month_54 (by decide) (fun hc => ?_) (fun hc => ?_)
            · replace h := h.1 hc; clear hc
              exact g_sub [1, 2, 3] [(0, .inr (some a0)), (2, .inl y3), (3, .inl y4)] rfl (jp18 y3 w22 h)
            · replace h := h.2 hc; clear hc
              refine g_aload_n X dX3_month_57 rfl 1 rfl ?_
              refine g_aload X dX3_month_58 0 rfl ?_
              have hk := h.1
              replace h := h.2
              refine g_callV_v X (As := [va_rf (some a15)]) (st := []) (n := 1) (c_X3_defaultLoan hst h) rfl (by decide) hk (wE_4 G w22 a0) m_384 m_386 m_5 m_15 m_387 (by decide +kernel) (by decide +kernel) rfl rfl (Nat.zero_le _) ⟨(by decide +kernel), (by decide +kernel)⟩ dX3_month_60 (fun w24 h => ?_)
              clear hk
              refine g_widen (c2 := (0)) (s2 := (0)) (by decide +kernel) (by decide +kernel) ?_
              refine g_iinc X dX3_month_63 2 rfl (d := (1 : Int32)) (by decide) (by decide) (fun v25 hv => ?_)
              replace h := h v25 hv; clear hv
              refine g_sub [0, 1, 2, 3] [(2, .inl v25), (4, .inr (some a15)), (0, .inr (some a0)), (3, .inl y4)] rfl ?_
              exact g_sub [2, 0, 3] [(0, .inr (some a0)), (2, .inl v25), (3, .inl y4)] rfl (jp18 v25 w24 h)
    exact g_sub [2, 1, 0] [(0, .inr (some a0)), (2, .inl (0 : Int32)), (3, .inl (0 : Int32))] rfl (lp2 n0 (0 : Int32) (0 : Int32) w hi)
  · replace h := h.2 hc; clear hc
    refine g_iconst X (v := (0 : Int32)) dX3_month_4 (by decide) ?_
    exact g_iret X hr (by decide +kernel) (by decide +kernel) dX3_month_5 h

abbrev rm_X3_feast : Room := { frames := 6, cells := 1, slots := 6, locals := 164 }
def wp_X3_feast (a0 : Nat) (w : Wd) (Q : Int32 → Wd → Prop) (QX : String → Wd → Prop) : Prop :=
  ∃ Inv2 : Nat → Int32 → Int32 → Int32 → Wd → Prop, (∃ n : Nat, Inv2 n (0 : Int32) (0 : Int32) (0 : Int32) w) ∧ ∀ (n1 : Nat) (y3 : Int32) (y4 : Int32) (y5 : Int32) (w6 : Wd), Inv2 n1 y3 y4 y5 w6 →
  w6.K a0 = 4 ∧
  ∀ z7 : Option Nat, z7 = w6.R 400 a0 →
  ∃ a8, z7 = some a8 ∧ w6.K a8 = 6 ∧
  wp_Jx4a65c_size_8abf5 a8 w6 (fun v10 w9 => 
  (v10 ≤ y5 → ∃ J11 : Prop, (J11 →
  QX "java/lang/IllegalStateException" w9) ∧
  (y3 ≤ 0 → J11) ∧ (¬ y3 ≤ 0 → (y4 = 0 → w9.K a0 = 4 ∧
  ∀ v12 : Int32, v12 = w9.I 402 a0 →
  ¬ y3 = 0 ∧ ∀ v13 : Int32, v13 = v12 / y3 →
  ∃ Inv15 : Nat → Int32 → Wd → Prop, (∃ n : Nat, Inv15 n (0 : Int32) w9) ∧ ∀ (n14 : Nat) (y16 : Int32) (w17 : Wd), Inv15 n14 y16 w17 →
  w17.K a0 = 4 ∧
  ∀ z18 : Option Nat, z18 = w17.R 400 a0 →
  ∃ a19, z18 = some a19 ∧ w17.K a19 = 6 ∧
  wp_Jx4a65c_size_8abf5 a19 w17 (fun v21 w20 => 
  (v21 ≤ y16 → Q v13 w20) ∧ (¬ v21 ≤ y16 → w20.K a0 = 4 ∧
  ∀ z22 : Option Nat, z22 = w20.R 400 a0 →
  ∃ a23, z22 = some a23 ∧ w20.K a23 = 6 ∧
  wp_Jx4a65c_get_915e3 a23 y16 w20 (fun z25 w24 => 
  (∀ y26, z25 = some y26 → w24.K y26 = 2) ∧
  w24.K a0 = 4 ∧
  ∀ v27 : Int32, v27 = w24.I 402 a0 →
  ∃ a28, z25 = some a28 ∧ w24.K a28 = 2 ∧
  ∀ v29 : Int32, v29 = w24.I 205 a28 →
  ∀ v30 : Int32, v30 = v13 * v29 →
  ∀ v31 : Int32, v31 = v27 - v30 →
  w24.K a0 = 4 ∧
  ∀ w32 : Wd, w32 = w24.setI 402 a0 v31 →
  w32.K a28 = 2 ∧
  ∀ v33 : Int32, v33 = w32.I 205 a28 →
  ∀ v34 : Int32, v34 = v13 * v33 →
  w32.K a28 = 2 ∧
  wp_X1_getOut a28 v34 w32 (fun w35 => 
  w35.K a28 = 2 ∧
  ∀ w36 : Wd, w36 = w35.setI 205 a28 (0 : Int32) →
  ∀ v37 : Int32, v37 = y16 + (1 : Int32) →
  ∃ n : Nat, n < n14 ∧ Inv15 n v37 w36))))) ∧ (¬ y4 = 0 → J11))) ∧ (¬ v10 ≤ y5 → w9.K a0 = 4 ∧
  ∀ z38 : Option Nat, z38 = w9.R 400 a0 →
  ∃ a39, z38 = some a39 ∧ w9.K a39 = 6 ∧
  wp_Jx4a65c_get_915e3 a39 y5 w9 (fun z41 w40 => 
  (∀ y42, z41 = some y42 → w40.K y42 = 2) ∧
  ∃ a43, z41 = some a43 ∧ w40.K a43 = 2 ∧
  ∀ v44 : Int32, v44 = w40.I 205 a43 →
  ∀ v45 : Int32, v45 = y3 + v44 →
  ∃ J46 : Int32 → Wd → Prop, (∀ (y47 : Int32) (w48 : Wd), J46 y47 w48 →
  ∀ v49 : Int32, v49 = y5 + (1 : Int32) →
  ∃ n : Nat, n < n1 ∧ Inv2 n v45 y47 v49 w48) ∧
  ∃ J50 : Wd → Prop, (∀  (w51 : Wd), J50 w51 →
  J46 (1 : Int32) w51) ∧
  (¬ y4 = 0 → J50 w40) ∧ (y4 = 0 → w40.K a0 = 4 ∧
  ∀ z52 : Option Nat, z52 = w40.R 400 a0 →
  ∃ a53, z52 = some a53 ∧ w40.K a53 = 6 ∧
  wp_Jx4a65c_get_915e3 a53 y5 w40 (fun z55 w54 => 
  (∀ y56, z55 = some y56 → w54.K y56 = 2) ∧
  ∃ a57, z55 = some a57 ∧ w54.K a57 = 2 ∧
  wp_X1_hasLoan a57 w54 (fun v59 w58 => 
  (v59 = 0 → J46 (0 : Int32) w58) ∧ (¬ v59 = 0 → J50 w58)))))))
set_option maxHeartbeats 4000000 in
set_option maxRecDepth 100000 in
theorem c_X3_feast {l : Launch} {G : GT} {L0 : Nat} (hst : l.stackTraces = false) {a0 : Nat} {w : Wd} {Q : Int32 → Wd → Prop} {QX : String → Wd → Prop} (h : wp_X3_feast a0 w Q QX) : GXi l G L0 yX3_feast cX3_feast 6 (some .int) rm_X3_feast [.ref a0] w Q QX := by
  refine g_enterX hst (by decide +kernel) [.inr (some a0)] rfl (show 1 ≤ 6 by decide) ?_
  intro p e s m args below meth c X hr hnm htab
  replace X : GC l G L0 p s m args meth c cX3_feast 6 "SusuRing" := X
  refine g_iconst X (v := (0 : Int32)) dX3_feast_0 (by decide) ?_
  refine g_istore_n X [(1, .inl (0 : Int32)), (0, .inr (some a0))] dX3_feast_1 rfl (by decide) rfl ?_
  refine g_iconst X (v := (0 : Int32)) dX3_feast_2 (by decide) ?_
  refine g_istore_n X [(2, .inl (0 : Int32)), (1, .inl (0 : Int32)), (0, .inr (some a0))] dX3_feast_3 rfl (by decide) rfl ?_
  refine g_iconst X (v := (0 : Int32)) dX3_feast_4 (by decide) ?_
  refine g_istore_n X [(3, .inl (0 : Int32)), (2, .inl (0 : Int32)), (1, .inl (0 : Int32)), (0, .inr (some a0))] dX3_feast_5 rfl (by decide) rfl ?_
  obtain ⟨Inv2, ⟨n0, hi⟩, hsn1⟩ := h
  have lp2 : ∀ (n1 : Nat), ∀ (y3 : Int32) (y4 : Int32) (y5 : Int32) (w6 : Wd), Inv2 n1 y3 y4 y5 w6 → Gw l G L0 p e rm_X3_feast s m args below meth c 6 (0) (0) (vx_MQ below (gQi G L0 Q) (gXC G L0 QX) args s rm_X3_feast.cells rm_X3_feast.slots (GA L0)) w6 6 [(0, .inr (some a0)), (1, .inl y3), (2, .inl y4), (3, .inl y5)] [] := by
    intro n1
    induction n1 using Nat.strongRecOn with
    | ind n1 ihn1 =>
      intro y3 y4 y5 w6 hI
      have h := hsn1 n1 y3 y4 y5 w6 hI
      clear hI
      refine g_iload_n X dX3_feast_6 rfl 3 rfl ?_
      refine g_aload_n X dX3_feast_7 rfl 0 rfl ?_
      have hk := h.1
      replace h := h.2
      refine gg_400 X hk m_68 dX3_feast_8 (fun z7 hv => ?_)
      replace h := h z7 hv; clear hv hk
      obtain ⟨a8, rfl, hk, h⟩ := h
      refine g_callV_i X (As := []) (st := [.int y5]) (n := 0) (c_Jx4a65c_size_8abf5 hst h) rfl (by decide) hk (wE_6 G w6 a8) m_157 m_158 m_159 m_18 m_160 (by decide +kernel) (by decide +kernel) rfl rfl (by simp [cat_int, rf_cat]) ⟨(by decide +kernel), (by decide +kernel)⟩ dX3_feast_11 (fun v10 w9 h => ?_)
      clear hk
      refine g_widen (c2 := (0)) (s2 := (0)) (by decide +kernel) (by decide +kernel) ?_
      refine g_icmp_ge X (tgt := 67) dX3_feast_14 (by decide) (fun hc => ?_) (fun hc => ?_)
      · replace h := h.1 hc; clear hc
        refine g_iload_n X dX3_feast_67 rfl 1 rfl ?_
        obtain ⟨J11, hjJ11, h⟩ := h
        have jp11 : J11 → Gw l G L0 p e rm_X3_feast s m args below meth c 6 (0) (0) (vx_MQ below (gQi G L0 Q) (gXC G L0 QX) args s rm_X3_feast.cells rm_X3_feast.slots (GA L0)) w9 75 [] [] := by
          intro hJ
          have h := hjJ11 hJ
          clear hJ
          exact g_throw X (cls := "java/lang/IllegalStateException") (text := "there are no shares, or somebody has a loan") (ik := 28) (is := 234) htab (by decide +kernel) m_161 m_23 (by decide +kernel) at_ISE_g at_ISE_b at_ISE_o dX3_feast_75 dX3_feast_78 (Or.inl ⟨dX3_feast_79, dX3_feast_81, dX3_feast_84⟩) (by decide) (by decide +kernel) (by decide +kernel) (by decide +kernel) (by decide +kernel) (by decide +kernel) h
        refine g_if_le X (tgt := 75) dX3_feast_68 (by decide) (fun hc => ?_) (fun hc => ?_)
        · replace h := h.1 hc; clear hc
          exact g_sub [] [] rfl (jp11  h)
        · replace h := h.2 hc; clear hc
          refine g_iload_n X dX3_feast_71 rfl 2 rfl ?_
          refine g_if_eq X (tgt := 85) dX3_feast_72 (by decide) (fun hc => ?_) (fun hc => ?_)
          · replace h := h.1 hc; clear hc
            refine g_aload_n X dX3_feast_85 rfl 0 rfl ?_
            have hk := h.1
            replace h := h.2
            refine gg_402 X hk m_70 dX3_feast_86 (fun v12 hv => ?_)
            replace h := h v12 hv; clear hv hk
            refine g_iload_n X dX3_feast_89 rfl 1 rfl ?_
            refine g_idiv X dX3_feast_90 h.1 (fun v13 hv => ?_)
            replace h := h.2 v13 hv; clear hv
            refine g_istore_n X [(3, .inl v13), (0, .inr (some a0)), (1, .inl y3), (2, .inl y4)] dX3_feast_91 rfl (by decide) rfl ?_
            refine g_iconst X (v := (0 : Int32)) dX3_feast_92 (by decide) ?_
            refine g_istore X [(4, .inl (0 : Int32)), (3, .inl v13), (0, .inr (some a0)), (1, .inl y3), (2, .inl y4)] dX3_feast_93 (by decide) rfl ?_
            obtain ⟨Inv15, ⟨n0, hi⟩, hsn14⟩ := h
            have lp15 : ∀ (n14 : Nat), ∀ (y16 : Int32) (w17 : Wd), Inv15 n14 y16 w17 → Gw l G L0 p e rm_X3_feast s m args below meth c 6 (0) (0) (vx_MQ below (gQi G L0 Q) (gXC G L0 QX) args s rm_X3_feast.cells rm_X3_feast.slots (GA L0)) w17 95 [(0, .inr (some a0)), (3, .inl v13), (4, .inl y16)] [] := by
              intro n14
              induction n14 using Nat.strongRecOn with
              | ind n14 ihn14 =>
                intro y16 w17 hI
                have h := hsn14 n14 y16 w17 hI
                clear hI
                refine g_iload X dX3_feast_95 2 rfl ?_
                refine g_aload_n X dX3_feast_97 rfl 0 rfl ?_
                have hk := h.1
                replace h := h.2
                refine gg_400 X hk m_68 dX3_feast_98 (fun z18 hv => ?_)
                replace h := h z18 hv; clear hv hk
                obtain ⟨a19, rfl, hk, h⟩ := h
                refine g_callV_i X (As := []) (st := [.int y16]) (n := 0) (c_Jx4a65c_size_8abf5 hst h) rfl (by decide) hk (wE_6 G w17 a19) m_157 m_158 m_159 m_18 m_160 (by decide +kernel) (by decide +kernel) rfl rfl (by simp [cat_int, rf_cat]) ⟨(by decide +kernel), (by decide +kernel)⟩ dX3_feast_101 (fun v21 w20 h => ?_)
                clear hk
                refine g_widen (c2 := (0)) (s2 := (0)) (by decide +kernel) (by decide +kernel) ?_
                refine g_icmp_ge X (tgt := 161) dX3_feast_104 (by decide) (fun hc => ?_) (fun hc => ?_)
                · replace h := h.1 hc; clear hc
                  refine g_iload_n X dX3_feast_161 rfl 1 rfl ?_
                  exact g_iretX X hr (by decide +kernel) (by decide +kernel) dX3_feast_162 h
                · replace h := h.2 hc; clear hc
                  refine g_aload_n X dX3_feast_107 rfl 0 rfl ?_
                  have hk := h.1
                  replace h := h.2
                  refine gg_400 X hk m_68 dX3_feast_108 (fun z22 hv => ?_)
                  replace h := h z22 hv; clear hv hk
                  refine g_iload X dX3_feast_111 2 rfl ?_
                  obtain ⟨a23, rfl, hk, h⟩ := h
                  refine g_callV_q X (As := [.int y16]) (st := []) (n := 1) (c_Jx4a65c_get_915e3 hst h) rfl (by decide) hk (wE_6 G w20 a23) m_315 m_316 m_317 m_18 m_318 (by decide +kernel) (by decide +kernel) rfl rfl (Nat.zero_le _) ⟨(by decide +kernel), (by decide +kernel)⟩ dX3_feast_113 (fun z25 w24 h => ?_)
                  clear hk
                  refine g_widen (c2 := (0)) (s2 := (0)) (by decide +kernel) (by decide +kernel) ?_
                  refine g_castS X (C := "SusuRing$Person") (T := TX1) (N := 13) (ci := 2) rfl (by decide) (fun a => ⟨_, wE_2 G w24 a⟩) h.1 m_177 dX3_feast_116 ?_
                  replace h := h.2
                  refine g_astore X [(5, .inr z25), (0, .inr (some a0)), (3, .inl v13), (4, .inl y16)] dX3_feast_119 (by decide) rfl ?_
                  refine g_aload_n X dX3_feast_121 rfl 1 rfl ?_
                  refine g_dup X dX3_feast_122 rf_cat ?_
                  have hk := h.1
                  replace h := h.2
                  refine gg_402 X hk m_70 dX3_feast_123 (fun v27 hv => ?_)
                  replace h := h v27 hv; clear hv hk
                  refine g_iload_n X dX3_feast_126 rfl 2 rfl ?_
                  refine g_aload X dX3_feast_127 0 rfl ?_
                  obtain ⟨a28, rfl, hk, h⟩ := h
                  refine gg_205 X hk m_194 dX3_feast_129 (fun v29 hv => ?_)
                  replace h := h v29 hv; clear hv hk
                  refine g_imul X dX3_feast_132 (fun v30 hv => ?_)
                  replace h := h v30 hv; clear hv
                  refine g_isub X dX3_feast_133 (fun v31 hv => ?_)
                  replace h := h v31 hv; clear hv
                  have hk := h.1
                  replace h := h.2
                  refine gp_402 X hk m_70 dX3_feast_134 (fun w32 hv => ?_)
                  replace h := h w32 hv; clear hv hk
                  refine g_aload X dX3_feast_137 0 rfl ?_
                  refine g_iload_n X dX3_feast_139 rfl 2 rfl ?_
                  refine g_aload X dX3_feast_140 0 rfl ?_
                  have hk := h.1
                  replace h := h.2
                  refine gg_205 X hk m_194 dX3_feast_142 (fun v33 hv => ?_)
                  replace h := h v33 hv; clear hv hk
                  refine g_imul X dX3_feast_145 (fun v34 hv => ?_)
                  replace h := h v34 hv; clear hv
                  have hk := h.1
                  replace h := h.2
                  refine g_callV_v X (As := [.int v34]) (st := []) (n := 1) (c_X1_getOut hst h) rfl (by decide) hk (wE_2 G w32 a28) m_707 m_638 m_639 m_29 m_640 (by decide +kernel) (by decide +kernel) rfl rfl (Nat.zero_le _) ⟨(by decide +kernel), (by decide +kernel)⟩ dX3_feast_146 (fun w35 h => ?_)
                  clear hk
                  refine g_widen (c2 := (0)) (s2 := (0)) (by decide +kernel) (by decide +kernel) ?_
                  refine g_aload X dX3_feast_149 0 rfl ?_
                  refine g_iconst X (v := (0 : Int32)) dX3_feast_151 (by decide) ?_
                  have hk := h.1
                  replace h := h.2
                  refine gp_205 X hk m_194 dX3_feast_152 (fun w36 hv => ?_)
                  replace h := h w36 hv; clear hv hk
                  refine g_iinc X dX3_feast_155 3 rfl (d := (1 : Int32)) (by decide) (by decide) (fun v37 hv => ?_)
                  replace h := h v37 hv; clear hv
                  refine g_sub [0, 1, 2, 3] [(4, .inl v37), (5, .inr (some a28)), (0, .inr (some a0)), (3, .inl v13)] rfl ?_
                  refine g_goto X (tgt := 95) dX3_feast_158 (by decide) ?_
                  obtain ⟨n, hn, hI⟩ := h
                  exact g_sub [2, 3, 0] [(0, .inr (some a0)), (3, .inl v13), (4, .inl v37)] rfl (ihn14 n hn v37 w36 hI)
            exact g_sub [2, 1, 0] [(0, .inr (some a0)), (3, .inl v13), (4, .inl (0 : Int32))] rfl (lp15 n0 (0 : Int32) w9 hi)
          · replace h := h.2 hc; clear hc
            exact g_sub [] [] rfl (jp11  h)
      · replace h := h.2 hc; clear hc
        refine g_iload_n X dX3_feast_17 rfl 1 rfl ?_
        refine g_aload_n X dX3_feast_18 rfl 0 rfl ?_
        have hk := h.1
        replace h := h.2
        refine gg_400 X hk m_68 dX3_feast_19 (fun z38 hv => ?_)
        replace h := h z38 hv; clear hv hk
        refine g_iload_n X dX3_feast_22 rfl 3 rfl ?_
        obtain ⟨a39, rfl, hk, h⟩ := h
        refine g_callV_q X (As := [.int y5]) (st := [.int y3]) (n := 1) (c_Jx4a65c_get_915e3 hst h) rfl (by decide) hk (wE_6 G w9 a39) m_315 m_316 m_317 m_18 m_318 (by decide +kernel) (by decide +kernel) rfl rfl (by simp [cat_int, rf_cat]) ⟨(by decide +kernel), (by decide +kernel)⟩ dX3_feast_23 (fun z41 w40 h => ?_)
        clear hk
        refine g_widen (c2 := (0)) (s2 := (0)) (by decide +kernel) (by decide +kernel) ?_
        refine g_castS X (C := "SusuRing$Person") (T := TX1) (N := 13) (ci := 2) rfl (by decide) (fun a => ⟨_, wE_2 G w40 a⟩) h.1 m_177 dX3_feast_26 ?_
        replace h := h.2
        obtain ⟨a43, rfl, hk, h⟩ := h
        refine gg_205 X hk m_194 dX3_feast_29 (fun v44 hv => ?_)
        replace h := h v44 hv; clear hv hk
        refine g_iadd X dX3_feast_32 (fun v45 hv => ?_)
        replace h := h v45 hv; clear hv
        refine g_istore_n X [(1, .inl v45), (0, .inr (some a0)), (2, .inl y4), (3, .inl y5)] dX3_feast_33 rfl (by decide) rfl ?_
        refine g_iload_n X dX3_feast_34 rfl 2 rfl ?_
        obtain ⟨J46, hjJ46, h⟩ := h
        have jp46 : ∀ (y47 : Int32) (w48 : Wd), J46 y47 w48 → Gw l G L0 p e rm_X3_feast s m args below meth c 6 (0) (0) (vx_MQ below (gQi G L0 Q) (gXC G L0 QX) args s rm_X3_feast.cells rm_X3_feast.slots (GA L0)) w48 60 [(0, .inr (some a0)), (1, .inl v45), (3, .inl y5)] [.int y47] := by
          intro y47 w48 hJ
          have h := hjJ46 y47 w48 hJ
          clear hJ
          refine g_istore_n X [(2, .inl y47), (0, .inr (some a0)), (1, .inl v45), (3, .inl y5)] dX3_feast_60 rfl (by decide) rfl ?_
          refine g_iinc X dX3_feast_61 3 rfl (d := (1 : Int32)) (by decide) (by decide) (fun v49 hv => ?_)
          replace h := h v49 hv; clear hv
          refine g_sub [0, 1, 2, 3] [(3, .inl v49), (2, .inl y47), (0, .inr (some a0)), (1, .inl v45)] rfl ?_
          refine g_goto X (tgt := 6) dX3_feast_64 (by decide) ?_
          obtain ⟨n, hn, hI⟩ := h
          exact g_sub [2, 3, 1, 0] [(0, .inr (some a0)), (1, .inl v45), (2, .inl y47), (3, .inl v49)] rfl (ihn1 n hn v45 y47 v49 w48 hI)
        obtain ⟨J50, hjJ50, h⟩ := h
        have jp50 : ∀  (w51 : Wd), J50 w51 → Gw l G L0 p e rm_X3_feast s m args below meth c 6 (0) (0) (vx_MQ below (gQi G L0 Q) (gXC G L0 QX) args s rm_X3_feast.cells rm_X3_feast.slots (GA L0)) w51 55 [(0, .inr (some a0)), (1, .inl v45), (3, .inl y5)] [] := by
          intro w51 hJ
          have h := hjJ50 w51 hJ
          clear hJ
          refine g_iconst X (v := (1 : Int32)) dX3_feast_55 (by decide) ?_
          refine g_goto X (tgt := 60) dX3_feast_56 (by decide) ?_
          exact g_sub [0, 1, 2] [(0, .inr (some a0)), (1, .inl v45), (3, .inl y5)] rfl (jp46 (1 : Int32) w51 h)
        refine g_if_ne X (tgt := 55) dX3_feast_35 (by decide) (fun hc => ?_) (fun hc => ?_)
        · replace h := h.1 hc; clear hc
          exact g_sub [1, 0, 3] [(0, .inr (some a0)), (1, .inl v45), (3, .inl y5)] rfl (jp50 w40 h)
        · replace h := h.2 hc; clear hc
          refine g_aload_n X dX3_feast_38 rfl 1 rfl ?_
          have hk := h.1
          replace h := h.2
          refine gg_400 X hk m_68 dX3_feast_39 (fun z52 hv => ?_)
          replace h := h z52 hv; clear hv hk
          refine g_iload_n X dX3_feast_42 rfl 3 rfl ?_
          obtain ⟨a53, rfl, hk, h⟩ := h
          refine g_callV_q X (As := [.int y5]) (st := []) (n := 1) (c_Jx4a65c_get_915e3 hst h) rfl (by decide) hk (wE_6 G w40 a53) m_315 m_316 m_317 m_18 m_318 (by decide +kernel) (by decide +kernel) rfl rfl (Nat.zero_le _) ⟨(by decide +kernel), (by decide +kernel)⟩ dX3_feast_43 (fun z55 w54 h => ?_)
          clear hk
          refine g_widen (c2 := (0)) (s2 := (0)) (by decide +kernel) (by decide +kernel) ?_
          refine g_castS X (C := "SusuRing$Person") (T := TX1) (N := 13) (ci := 2) rfl (by decide) (fun a => ⟨_, wE_2 G w54 a⟩) h.1 m_177 dX3_feast_46 ?_
          replace h := h.2
          obtain ⟨a57, rfl, hk, h⟩ := h
          refine g_callV_i X (As := []) (st := []) (n := 0) (c_X1_hasLoan hst h) rfl (by decide) hk (wE_2 G w54 a57) m_376 m_377 m_378 m_29 m_379 (by decide +kernel) (by decide +kernel) rfl rfl (Nat.zero_le _) ⟨(by decide +kernel), (by decide +kernel)⟩ dX3_feast_49 (fun v59 w58 h => ?_)
          clear hk
          refine g_widen (c2 := (0)) (s2 := (0)) (by decide +kernel) (by decide +kernel) ?_
          refine g_if_eq X (tgt := 59) dX3_feast_52 (by decide) (fun hc => ?_) (fun hc => ?_)
          · replace h := h.1 hc; clear hc
            refine g_iconst X (v := (0 : Int32)) dX3_feast_59 (by decide) ?_
            exact g_sub [1, 0, 3] [(0, .inr (some a0)), (1, .inl v45), (3, .inl y5)] rfl (jp46 (0 : Int32) w58 h)
          · replace h := h.2 hc; clear hc
            exact g_sub [1, 0, 3] [(0, .inr (some a0)), (1, .inl v45), (3, .inl y5)] rfl (jp50 w58 h)
  exact g_sub [3, 2, 1, 0] [(0, .inr (some a0)), (1, .inl (0 : Int32)), (2, .inl (0 : Int32)), (3, .inl (0 : Int32))] rfl (lp2 n0 (0 : Int32) (0 : Int32) (0 : Int32) w hi)

abbrev rm_X3_note : Room := { frames := 7, cells := 3, slots := 18, locals := 185 }
def wp_X3_note (a0 : Nat) (x1 : Int32) (x2 : Int32) (x3 : Int32) (w : Wd) (Q : Int32 → Wd → Prop) (QX : String → Wd → Prop) : Prop :=
  ∃ J1 : Prop, (J1 →
  QX "java/lang/IndexOutOfBoundsException" w) ∧
  (x1 < 0 → J1) ∧ (¬ x1 < 0 → (x1 < (3 : Int32) → w.K a0 = 4 ∧
  wp_X3_personAt a0 x2 w (fun z3 w2 => 
  wp_X3_checkRange x3 (-10000 : Int32) (10000 : Int32) w2 (fun w4 => 
  ∃ a5, z3 = some a5 ∧ w4.K a5 = 2 ∧
  ∀ z6 : Option Nat, z6 = w4.R 203 a5 →
  ∃ a7, z6 = some a7 ∧ w4.K a7 = 11 ∧
  ∃ j8 : Nat, x1 = nI j8 ∧ j8 < w4.N a7 ∧ w4.N a7 < 2 ^ 31 ∧
  ∀ v9 : Int32, v9 = w4.A a7 j8 →
  ∀ v10 : Int32, v10 = v9 + x3 →
  w4.K a7 = 11 ∧
  ∃ j11 : Nat, x1 = nI j11 ∧ j11 < w4.N a7 ∧ w4.N a7 < 2 ^ 31 ∧
  ∀ w12 : Wd, w12 = w4.setA a7 j11 v10 →
  w12.K a5 = 2 ∧
  ∀ z13 : Option Nat, z13 = w12.R 203 a5 →
  ∃ a14, z13 = some a14 ∧ w12.K a14 = 11 ∧
  ∃ j15 : Nat, x1 = nI j15 ∧ j15 < w12.N a14 ∧ w12.N a14 < 2 ^ 31 ∧
  ∀ v16 : Int32, v16 = w12.A a14 j15 →
  Q v16 w12) QX) QX) ∧ (¬ x1 < (3 : Int32) → J1))
set_option maxHeartbeats 4000000 in
set_option maxRecDepth 100000 in
theorem c_X3_note {l : Launch} {G : GT} {L0 : Nat} (hst : l.stackTraces = false) {a0 : Nat} {x1 : Int32} {x2 : Int32} {x3 : Int32} {w : Wd} {Q : Int32 → Wd → Prop} {QX : String → Wd → Prop} (h : wp_X3_note a0 x1 x2 x3 w Q QX) : GXi l G L0 yX3_note cX3_note 5 (some .int) rm_X3_note [.ref a0, .int x1, .int x2, .int x3] w Q QX := by
  refine g_enterX hst (by decide +kernel) [.inr (some a0), .inl x1, .inl x2, .inl x3] rfl (show 4 ≤ 5 by decide) ?_
  intro p e s m args below meth c X hr hnm htab
  replace X : GC l G L0 p s m args meth c cX3_note 5 "SusuRing" := X
  refine g_iload_n X dX3_note_0 rfl 1 rfl ?_
  obtain ⟨J1, hjJ1, h⟩ := h
  have jp1 : J1 → Gw l G L0 p e rm_X3_note s m args below meth c 5 (0) (0) (vx_MQ below (gQi G L0 Q) (gXC G L0 QX) args s rm_X3_note.cells rm_X3_note.slots (GA L0)) w 9 [] [] := by
    intro hJ
    have h := hjJ1 hJ
    clear hJ
    exact g_throw X (cls := "java/lang/IndexOutOfBoundsException") (text := "there is no such book") (ik := 239) (is := 241) htab (by decide +kernel) m_299 m_30 (by decide +kernel) at_IOB_g at_IOB_b at_IOB_o dX3_note_9 dX3_note_12 (Or.inl ⟨dX3_note_13, dX3_note_15, dX3_note_18⟩) (by decide) (by decide +kernel) (by decide +kernel) (by decide +kernel) (by decide +kernel) (by decide +kernel) h
  refine g_if_lt X (tgt := 9) dX3_note_1 (by decide) (fun hc => ?_) (fun hc => ?_)
  · replace h := h.1 hc; clear hc
    exact g_sub [] [] rfl (jp1  h)
  · replace h := h.2 hc; clear hc
    refine g_iload_n X dX3_note_4 rfl 1 rfl ?_
    refine g_iconst X (v := (3 : Int32)) dX3_note_5 (by decide) ?_
    refine g_icmp_lt X (tgt := 19) dX3_note_6 (by decide) (fun hc => ?_) (fun hc => ?_)
    · replace h := h.1 hc; clear hc
      refine g_aload_n X dX3_note_19 rfl 0 rfl ?_
      refine g_iload_n X dX3_note_20 rfl 2 rfl ?_
      have hk := h.1
      replace h := h.2
      refine g_callXV_q X htab (As := [.int x2]) (st := []) (n := 1) (c_X3_personAt hst h) rfl (by decide) hk (wE_4 G w a0) m_295 m_297 m_4 m_15 m_298 (by decide +kernel) (by decide +kernel) rfl rfl (Nat.zero_le _) ⟨(by decide +kernel), (by decide +kernel)⟩ dX3_note_21 (by decide +kernel) (by decide +kernel) (fun E w1 hE => hE) (fun z3 w2 h => ?_)
      clear hk
      refine g_widen (c2 := (1)) (s2 := (6)) (by decide +kernel) (by decide +kernel) ?_
      refine g_astore X [(4, .inr z3), (0, .inr (some a0)), (1, .inl x1), (2, .inl x2), (3, .inl x3)] dX3_note_24 (by decide) rfl ?_
      refine g_iload_n X dX3_note_26 rfl 4 rfl ?_
      refine g_sipush X (v := (-10000 : Int32)) dX3_note_27 (by decide) ?_
      refine g_sipush X (v := (10000 : Int32)) dX3_note_30 (by decide) ?_
      refine g_callXS_v X htab (As := [.int x3, .int (-10000 : Int32), .int (10000 : Int32)]) (st := []) (n := 3) (c_X3_checkRange hst h) m_85 m_86 m_15 m_87 (by decide +kernel) (by decide +kernel) rfl rfl (Nat.zero_le _) ⟨(by decide +kernel), (by decide +kernel)⟩ dX3_note_33 (by decide +kernel) (by decide +kernel) (fun E w1 hE => hE) (fun w4 h => ?_)
      refine g_widen (c2 := (2)) (s2 := (12)) (by decide +kernel) (by decide +kernel) ?_
      refine g_aload X dX3_note_36 0 rfl ?_
      obtain ⟨a5, rfl, hk, h⟩ := h
      refine gg_203 X hk m_189 dX3_note_38 (fun z6 hv => ?_)
      replace h := h z6 hv; clear hv hk
      refine g_iload_n X dX3_note_41 rfl 2 rfl ?_
      refine g_dup2 X dX3_note_42 rfl rf_cat ?_
      obtain ⟨a7, rfl, hk, h⟩ := h
      obtain ⟨j8, hi, hj, hN, h⟩ := h
      refine g_iald X hk hi hj hN dX3_note_43 (fun v9 hv => ?_)
      replace h := h v9 hv; clear hv hk hi hj hN
      refine g_iload_n X dX3_note_44 rfl 4 rfl ?_
      refine g_iadd X dX3_note_45 (fun v10 hv => ?_)
      replace h := h v10 hv; clear hv
      have hk := h.1
      replace h := h.2
      obtain ⟨j11, hi, hj, hN, h⟩ := h
      refine g_iast X hk hi hj hN dX3_note_46 (fun w12 hv => ?_)
      replace h := h w12 hv; clear hv hk hi hj hN
      refine g_aload X dX3_note_47 0 rfl ?_
      have hk := h.1
      replace h := h.2
      refine gg_203 X hk m_189 dX3_note_49 (fun z13 hv => ?_)
      replace h := h z13 hv; clear hv hk
      refine g_iload_n X dX3_note_52 rfl 2 rfl ?_
      obtain ⟨a14, rfl, hk, h⟩ := h
      obtain ⟨j15, hi, hj, hN, h⟩ := h
      refine g_iald X hk hi hj hN dX3_note_53 (fun v16 hv => ?_)
      replace h := h v16 hv; clear hv hk hi hj hN
      exact g_iretX X hr (by decide +kernel) (by decide +kernel) dX3_note_54 h
    · replace h := h.2 hc; clear hc
      exact g_sub [] [] rfl (jp1  h)

abbrev rm_X3_audit : Room := { frames := 6, cells := 1, slots := 6, locals := 164 }
def wp_X3_audit (a0 : Nat) (x1 : Int32) (w : Wd) (Q : Int32 → Wd → Prop) (QX : String → Wd → Prop) : Prop :=
  ∃ J1 : Prop, (J1 →
  QX "java/lang/IndexOutOfBoundsException" w) ∧
  (x1 < 0 → J1) ∧ (¬ x1 < 0 → (x1 < (3 : Int32) → ∃ Inv3 : Nat → Int32 → Wd → Prop, (∃ n : Nat, Inv3 n (0 : Int32) w) ∧ ∀ (n2 : Nat) (y4 : Int32) (w5 : Wd), Inv3 n2 y4 w5 →
  w5.K a0 = 4 ∧
  ∀ z6 : Option Nat, z6 = w5.R 400 a0 →
  ∃ a7, z6 = some a7 ∧ w5.K a7 = 6 ∧
  wp_Jx4a65c_size_8abf5 a7 w5 (fun v9 w8 => 
  (v9 ≤ y4 → Q (-1 : Int32) w8) ∧ (¬ v9 ≤ y4 → w8.K a0 = 4 ∧
  ∀ z10 : Option Nat, z10 = w8.R 400 a0 →
  ∃ a11, z10 = some a11 ∧ w8.K a11 = 6 ∧
  wp_Jx4a65c_get_915e3 a11 y4 w8 (fun z13 w12 => 
  (∀ y14, z13 = some y14 → w12.K y14 = 2) ∧
  ∃ a15, z13 = some a15 ∧ w12.K a15 = 2 ∧
  ∀ z16 : Option Nat, z16 = w12.R 203 a15 →
  ∃ a17, z16 = some a17 ∧ w12.K a17 = 11 ∧
  ∃ j18 : Nat, x1 = nI j18 ∧ j18 < w12.N a17 ∧ w12.N a17 < 2 ^ 31 ∧
  ∀ v19 : Int32, v19 = w12.A a17 j18 →
  w12.K a15 = 2 ∧
  ∀ v20 : Int32, v20 = w12.I 211 a15 →
  (v19 = v20 → ∀ v21 : Int32, v21 = y4 + (1 : Int32) →
  ∃ n : Nat, n < n2 ∧ Inv3 n v21 w12) ∧ (¬ v19 = v20 → w12.K a15 = 2 ∧
  ∀ v22 : Int32, v22 = w12.I 200 a15 →
  Q v22 w12))))) ∧ (¬ x1 < (3 : Int32) → J1))
set_option maxHeartbeats 4000000 in
set_option maxRecDepth 100000 in
theorem c_X3_audit {l : Launch} {G : GT} {L0 : Nat} (hst : l.stackTraces = false) {a0 : Nat} {x1 : Int32} {w : Wd} {Q : Int32 → Wd → Prop} {QX : String → Wd → Prop} (h : wp_X3_audit a0 x1 w Q QX) : GXi l G L0 yX3_audit cX3_audit 4 (some .int) rm_X3_audit [.ref a0, .int x1] w Q QX := by
  refine g_enterX hst (by decide +kernel) [.inr (some a0), .inl x1] rfl (show 2 ≤ 4 by decide) ?_
  intro p e s m args below meth c X hr hnm htab
  replace X : GC l G L0 p s m args meth c cX3_audit 4 "SusuRing" := X
  refine g_iload_n X dX3_audit_0 rfl 1 rfl ?_
  obtain ⟨J1, hjJ1, h⟩ := h
  have jp1 : J1 → Gw l G L0 p e rm_X3_audit s m args below meth c 4 (0) (0) (vx_MQ below (gQi G L0 Q) (gXC G L0 QX) args s rm_X3_audit.cells rm_X3_audit.slots (GA L0)) w 9 [] [] := by
    intro hJ
    have h := hjJ1 hJ
    clear hJ
    exact g_throw X (cls := "java/lang/IndexOutOfBoundsException") (text := "there is no such book") (ik := 239) (is := 241) htab (by decide +kernel) m_299 m_30 (by decide +kernel) at_IOB_g at_IOB_b at_IOB_o dX3_audit_9 dX3_audit_12 (Or.inl ⟨dX3_audit_13, dX3_audit_15, dX3_audit_18⟩) (by decide) (by decide +kernel) (by decide +kernel) (by decide +kernel) (by decide +kernel) (by decide +kernel) h
  refine g_if_lt X (tgt := 9) dX3_audit_1 (by decide) (fun hc => ?_) (fun hc => ?_)
  · replace h := h.1 hc; clear hc
    exact g_sub [] [] rfl (jp1  h)
  · replace h := h.2 hc; clear hc
    refine g_iload_n X dX3_audit_4 rfl 1 rfl ?_
    refine g_iconst X (v := (3 : Int32)) dX3_audit_5 (by decide) ?_
    refine g_icmp_lt X (tgt := 19) dX3_audit_6 (by decide) (fun hc => ?_) (fun hc => ?_)
    · replace h := h.1 hc; clear hc
      refine g_iconst X (v := (0 : Int32)) dX3_audit_19 (by decide) ?_
      refine g_istore_n X [(2, .inl (0 : Int32)), (0, .inr (some a0)), (1, .inl x1)] dX3_audit_20 rfl (by decide) rfl ?_
      obtain ⟨Inv3, ⟨n0, hi⟩, hsn2⟩ := h
      have lp3 : ∀ (n2 : Nat), ∀ (y4 : Int32) (w5 : Wd), Inv3 n2 y4 w5 → Gw l G L0 p e rm_X3_audit s m args below meth c 4 (0) (0) (vx_MQ below (gQi G L0 Q) (gXC G L0 QX) args s rm_X3_audit.cells rm_X3_audit.slots (GA L0)) w5 21 [(0, .inr (some a0)), (1, .inl x1), (2, .inl y4)] [] := by
        intro n2
        induction n2 using Nat.strongRecOn with
        | ind n2 ihn2 =>
          intro y4 w5 hI
          have h := hsn2 n2 y4 w5 hI
          clear hI
          refine g_iload_n X dX3_audit_21 rfl 2 rfl ?_
          refine g_aload_n X dX3_audit_22 rfl 0 rfl ?_
          have hk := h.1
          replace h := h.2
          refine gg_400 X hk m_68 dX3_audit_23 (fun z6 hv => ?_)
          replace h := h z6 hv; clear hv hk
          obtain ⟨a7, rfl, hk, h⟩ := h
          refine g_callV_i X (As := []) (st := [.int y4]) (n := 0) (c_Jx4a65c_size_8abf5 hst h) rfl (by decide) hk (wE_6 G w5 a7) m_157 m_158 m_159 m_18 m_160 (by decide +kernel) (by decide +kernel) rfl rfl (by simp [cat_int, rf_cat]) ⟨(by decide +kernel), (by decide +kernel)⟩ dX3_audit_26 (fun v9 w8 h => ?_)
          clear hk
          refine g_widen (c2 := (0)) (s2 := (0)) (by decide +kernel) (by decide +kernel) ?_
          refine g_icmp_ge X (tgt := 68) dX3_audit_29 (by decide) (fun hc => ?_) (fun hc => ?_)
          · replace h := h.1 hc; clear hc
            refine g_iconst X (v := (-1 : Int32)) dX3_audit_68 (by decide) ?_
            exact g_iretX X hr (by decide +kernel) (by decide +kernel) dX3_audit_69 h
          · replace h := h.2 hc; clear hc
            refine g_aload_n X dX3_audit_32 rfl 0 rfl ?_
            have hk := h.1
            replace h := h.2
            refine gg_400 X hk m_68 dX3_audit_33 (fun z10 hv => ?_)
            replace h := h z10 hv; clear hv hk
            refine g_iload_n X dX3_audit_36 rfl 2 rfl ?_
            obtain ⟨a11, rfl, hk, h⟩ := h
            refine g_callV_q X (As := [.int y4]) (st := []) (n := 1) (c_Jx4a65c_get_915e3 hst h) rfl (by decide) hk (wE_6 G w8 a11) m_315 m_316 m_317 m_18 m_318 (by decide +kernel) (by decide +kernel) rfl rfl (Nat.zero_le _) ⟨(by decide +kernel), (by decide +kernel)⟩ dX3_audit_37 (fun z13 w12 h => ?_)
            clear hk
            refine g_widen (c2 := (0)) (s2 := (0)) (by decide +kernel) (by decide +kernel) ?_
            refine g_castS X (C := "SusuRing$Person") (T := TX1) (N := 13) (ci := 2) rfl (by decide) (fun a => ⟨_, wE_2 G w12 a⟩) h.1 m_177 dX3_audit_40 ?_
            replace h := h.2
            refine g_astore_n X [(3, .inr z13), (0, .inr (some a0)), (1, .inl x1), (2, .inl y4)] dX3_audit_43 rfl (by decide) rfl ?_
            refine g_aload_n X dX3_audit_44 rfl 0 rfl ?_
            obtain ⟨a15, rfl, hk, h⟩ := h
            refine gg_203 X hk m_189 dX3_audit_45 (fun z16 hv => ?_)
            replace h := h z16 hv; clear hv hk
            refine g_iload_n X dX3_audit_48 rfl 2 rfl ?_
            obtain ⟨a17, rfl, hk, h⟩ := h
            obtain ⟨j18, hi, hj, hN, h⟩ := h
            refine g_iald X hk hi hj hN dX3_audit_49 (fun v19 hv => ?_)
            replace h := h v19 hv; clear hv hk hi hj hN
            refine g_aload_n X dX3_audit_50 rfl 0 rfl ?_
            have hk := h.1
            replace h := h.2
            refine gg_211 X hk m_205 dX3_audit_51 (fun v20 hv => ?_)
            replace h := h v20 hv; clear hv hk
            refine g_icmp_eq X (tgt := 62) dX3_audit_54 (by decide) (fun hc => ?_) (fun hc => ?_)
            · replace h := h.1 hc; clear hc
              refine g_iinc X dX3_audit_62 3 rfl (d := (1 : Int32)) (by decide) (by decide) (fun v21 hv => ?_)
              replace h := h v21 hv; clear hv
              refine g_sub [0, 1, 2, 3] [(2, .inl v21), (3, .inr (some a15)), (0, .inr (some a0)), (1, .inl x1)] rfl ?_
              refine g_goto X (tgt := 21) dX3_audit_65 (by decide) ?_
              obtain ⟨n, hn, hI⟩ := h
              exact g_sub [2, 3, 0] [(0, .inr (some a0)), (1, .inl x1), (2, .inl v21)] rfl (ihn2 n hn v21 w12 hI)
            · replace h := h.2 hc; clear hc
              refine g_aload_n X dX3_audit_57 rfl 0 rfl ?_
              have hk := h.1
              replace h := h.2
              refine gg_200 X hk m_184 dX3_audit_58 (fun v22 hv => ?_)
              replace h := h v22 hv; clear hv hk
              exact g_iretX X hr (by decide +kernel) (by decide +kernel) dX3_audit_61 h
      exact g_sub [1, 2, 0] [(0, .inr (some a0)), (1, .inl x1), (2, .inl (0 : Int32))] rfl (lp3 n0 (0 : Int32) w hi)
    · replace h := h.2 hc; clear hc
      exact g_sub [] [] rfl (jp1  h)

abbrev rm_X3_houseSize : Room := { frames := 4, cells := 0, slots := 0, locals := 164 }
def wp_X3_houseSize (a0 : Nat) (r1 : Option Nat) (w : Wd) (Q : Int32 → Wd → Prop) : Prop :=
  ∃ Inv2 : Nat → Int32 → Int32 → Wd → Prop, (∃ n : Nat, Inv2 n (0 : Int32) (0 : Int32) w) ∧ ∀ (n1 : Nat) (y3 : Int32) (y4 : Int32) (w5 : Wd), Inv2 n1 y3 y4 w5 →
  w5.K a0 = 4 ∧
  ∀ z6 : Option Nat, z6 = w5.R 400 a0 →
  ∃ a7, z6 = some a7 ∧ w5.K a7 = 6 ∧
  wp_Jx4a65c_size_8abf5 a7 w5 (fun v9 w8 => 
  (v9 ≤ y4 → Q y3 w8) ∧ (¬ v9 ≤ y4 → w8.K a0 = 4 ∧
  ∀ z10 : Option Nat, z10 = w8.R 400 a0 →
  ∃ a11, z10 = some a11 ∧ w8.K a11 = 6 ∧
  wp_Jx4a65c_get_915e3 a11 y4 w8 (fun z13 w12 => 
  (∀ y14, z13 = some y14 → w12.K y14 = 2) ∧
  ∃ a15, z13 = some a15 ∧ w12.K a15 = 2 ∧
  ∀ v16 : Int32, v16 = w12.I 212 a15 →
  ∃ J17 : Int32 → Wd → Prop, (∀ (y18 : Int32) (w19 : Wd), J17 y18 w19 →
  ∀ v20 : Int32, v20 = y4 + (1 : Int32) →
  ∃ n : Nat, n < n1 ∧ Inv2 n y18 v20 w19) ∧
  (¬ v16 = 0 → J17 y3 w12) ∧ (v16 = 0 → w12.K a15 = 2 ∧
  wp_X1_isOfHouse a15 r1 w12 (fun v22 w21 => 
  (v22 = 0 → J17 y3 w21) ∧ (¬ v22 = 0 → ∀ v23 : Int32, v23 = y3 + (1 : Int32) →
  J17 v23 w21))))))
set_option maxHeartbeats 4000000 in
set_option maxRecDepth 100000 in
theorem c_X3_houseSize {l : Launch} {G : GT} {L0 : Nat} (hst : l.stackTraces = false) {a0 : Nat} {r1 : Option Nat} {w : Wd} {Q : Int32 → Wd → Prop} (h : wp_X3_houseSize a0 r1 w Q) : GMi l G L0 yX3_houseSize cX3_houseSize 5 (some .int) rm_X3_houseSize [.ref a0, va_rf r1] w Q := by
  refine g_enter hst (by decide +kernel) [.inr (some a0), .inr r1] rfl (show 2 ≤ 5 by decide) ?_
  intro p e s m args below meth c X hr hnm
  replace X : GC l G L0 p s m args meth c cX3_houseSize 5 "SusuRing" := X
  refine g_iconst X (v := (0 : Int32)) dX3_houseSize_0 (by decide) ?_
  refine g_istore_n X [(2, .inl (0 : Int32)), (0, .inr (some a0)), (1, .inr r1)] dX3_houseSize_1 rfl (by decide) rfl ?_
  refine g_iconst X (v := (0 : Int32)) dX3_houseSize_2 (by decide) ?_
  refine g_istore_n X [(3, .inl (0 : Int32)), (2, .inl (0 : Int32)), (0, .inr (some a0)), (1, .inr r1)] dX3_houseSize_3 rfl (by decide) rfl ?_
  obtain ⟨Inv2, ⟨n0, hi⟩, hsn1⟩ := h
  have lp2 : ∀ (n1 : Nat), ∀ (y3 : Int32) (y4 : Int32) (w5 : Wd), Inv2 n1 y3 y4 w5 → Gw l G L0 p e rm_X3_houseSize s m args below meth c 5 (0) (0) (MQ below (gQi G L0 Q) args s rm_X3_houseSize.cells rm_X3_houseSize.slots (GA L0)) w5 4 [(0, .inr (some a0)), (1, .inr r1), (2, .inl y3), (3, .inl y4)] [] := by
    intro n1
    induction n1 using Nat.strongRecOn with
    | ind n1 ihn1 =>
      intro y3 y4 w5 hI
      have h := hsn1 n1 y3 y4 w5 hI
      clear hI
      refine g_iload_n X dX3_houseSize_4 rfl 3 rfl ?_
      refine g_aload_n X dX3_houseSize_5 rfl 0 rfl ?_
      have hk := h.1
      replace h := h.2
      refine gg_400 X hk m_68 dX3_houseSize_6 (fun z6 hv => ?_)
      replace h := h z6 hv; clear hv hk
      obtain ⟨a7, rfl, hk, h⟩ := h
      refine g_callV_i X (As := []) (st := [.int y4]) (n := 0) (c_Jx4a65c_size_8abf5 hst h) rfl (by decide) hk (wE_6 G w5 a7) m_157 m_158 m_159 m_18 m_160 (by decide +kernel) (by decide +kernel) rfl rfl (by simp [cat_int, rf_cat]) ⟨(by decide +kernel), (by decide +kernel)⟩ dX3_houseSize_9 (fun v9 w8 h => ?_)
      clear hk
      refine g_widen (c2 := (0)) (s2 := (0)) (by decide +kernel) (by decide +kernel) ?_
      refine g_icmp_ge X (tgt := 54) dX3_houseSize_12 (by decide) (fun hc => ?_) (fun hc => ?_)
      · replace h := h.1 hc; clear hc
        refine g_iload_n X dX3_houseSize_54 rfl 2 rfl ?_
        exact g_iret X hr (by decide +kernel) (by decide +kernel) dX3_houseSize_55 h
      · replace h := h.2 hc; clear hc
        refine g_aload_n X dX3_houseSize_15 rfl 0 rfl ?_
        have hk := h.1
        replace h := h.2
        refine gg_400 X hk m_68 dX3_houseSize_16 (fun z10 hv => ?_)
        replace h := h z10 hv; clear hv hk
        refine g_iload_n X dX3_houseSize_19 rfl 3 rfl ?_
        obtain ⟨a11, rfl, hk, h⟩ := h
        refine g_callV_q X (As := [.int y4]) (st := []) (n := 1) (c_Jx4a65c_get_915e3 hst h) rfl (by decide) hk (wE_6 G w8 a11) m_315 m_316 m_317 m_18 m_318 (by decide +kernel) (by decide +kernel) rfl rfl (Nat.zero_le _) ⟨(by decide +kernel), (by decide +kernel)⟩ dX3_houseSize_20 (fun z13 w12 h => ?_)
        clear hk
        refine g_widen (c2 := (0)) (s2 := (0)) (by decide +kernel) (by decide +kernel) ?_
        refine g_castS X (C := "SusuRing$Person") (T := TX1) (N := 13) (ci := 2) rfl (by decide) (fun a => ⟨_, wE_2 G w12 a⟩) h.1 m_177 dX3_houseSize_23 ?_
        replace h := h.2
        refine g_astore X [(4, .inr z13), (0, .inr (some a0)), (1, .inr r1), (2, .inl y3), (3, .inl y4)] dX3_houseSize_26 (by decide) rfl ?_
        refine g_aload X dX3_houseSize_28 0 rfl ?_
        obtain ⟨a15, rfl, hk, h⟩ := h
        refine gg_212 X hk m_207 dX3_houseSize_30 (fun v16 hv => ?_)
        replace h := h v16 hv; clear hv hk
        obtain ⟨J17, hjJ17, h⟩ := h
        have jp17 : ∀ (y18 : Int32) (w19 : Wd), J17 y18 w19 → Gw l G L0 p e rm_X3_houseSize s m args below meth c 5 (0) (0) (MQ below (gQi G L0 Q) args s rm_X3_houseSize.cells rm_X3_houseSize.slots (GA L0)) w19 48 [(0, .inr (some a0)), (1, .inr r1), (2, .inl y18), (3, .inl y4)] [] := by
          intro y18 w19 hJ
          have h := hjJ17 y18 w19 hJ
          clear hJ
          refine g_iinc X dX3_houseSize_48 3 rfl (d := (1 : Int32)) (by decide) (by decide) (fun v20 hv => ?_)
          replace h := h v20 hv; clear hv
          refine g_sub [0, 1, 2, 3] [(3, .inl v20), (0, .inr (some a0)), (1, .inr r1), (2, .inl y18)] rfl ?_
          refine g_goto X (tgt := 4) dX3_houseSize_51 (by decide) ?_
          obtain ⟨n, hn, hI⟩ := h
          exact g_sub [1, 2, 3, 0] [(0, .inr (some a0)), (1, .inr r1), (2, .inl y18), (3, .inl v20)] rfl (ihn1 n hn y18 v20 w19 hI)
        refine g_if_ne X (tgt := 48) dX3_houseSize_33 (by decide) (fun hc => ?_) (fun hc => ?_)
        · replace h := h.1 hc; clear hc
          exact g_sub [1, 2, 3, 4] [(0, .inr (some a0)), (1, .inr r1), (2, .inl y3), (3, .inl y4)] rfl (jp17 y3 w12 h)
        · replace h := h.2 hc; clear hc
          refine g_aload X dX3_houseSize_36 0 rfl ?_
          refine g_aload_n X dX3_houseSize_38 rfl 2 rfl ?_
          have hk := h.1
          replace h := h.2
          refine g_callV_i X (As := [va_rf r1]) (st := []) (n := 1) (c_X1_isOfHouse hst h) rfl (by decide) hk (wE_2 G w12 a15) m_418 m_419 m_420 m_29 m_421 (by decide +kernel) (by decide +kernel) rfl rfl (Nat.zero_le _) ⟨(by decide +kernel), (by decide +kernel)⟩ dX3_houseSize_39 (fun v22 w21 h => ?_)
          clear hk
          refine g_widen (c2 := (0)) (s2 := (0)) (by decide +kernel) (by decide +kernel) ?_
          refine g_if_eq X (tgt := 48) dX3_houseSize_42 (by decide) (fun hc => ?_) (fun hc => ?_)
          · replace h := h.1 hc; clear hc
            exact g_sub [1, 2, 3, 4] [(0, .inr (some a0)), (1, .inr r1), (2, .inl y3), (3, .inl y4)] rfl (jp17 y3 w21 h)
          · replace h := h.2 hc; clear hc
            refine g_iinc X dX3_houseSize_45 3 rfl (d := (1 : Int32)) (by decide) (by decide) (fun v23 hv => ?_)
            replace h := h v23 hv; clear hv
            refine g_sub [0, 1, 2, 3, 4] [(2, .inl v23), (4, .inr (some a15)), (0, .inr (some a0)), (1, .inr r1), (3, .inl y4)] rfl ?_
            exact g_sub [2, 3, 0, 4] [(0, .inr (some a0)), (1, .inr r1), (2, .inl v23), (3, .inl y4)] rfl (jp17 v23 w21 h)
  exact g_sub [2, 3, 1, 0] [(0, .inr (some a0)), (1, .inr r1), (2, .inl (0 : Int32)), (3, .inl (0 : Int32))] rfl (lp2 n0 (0 : Int32) (0 : Int32) w hi)

abbrev rm_X3_of : Room := { frames := 7, cells := 2, slots := 12, locals := 188 }
def wp_X3_of (a0 : Nat) (x1 : Int32) (x2 : Int32) (w : Wd) (Q : Int32 → Wd → Prop) (QX : String → Wd → Prop) : Prop :=
  w.K a0 = 4 ∧
  wp_X3_personAt a0 x1 w (fun z2 w1 => 
  wp_X3_checkRange x2 (0 : Int32) (6 : Int32) w1 (fun w3 => 
  (x2 = (0 : Int32) → ∃ a4, z2 = some a4 ∧ w3.K a4 = 2 ∧
  ∀ v5 : Int32, v5 = w3.I 204 a4 →
  Q v5 w3) ∧ (x2 = (1 : Int32) → ∃ a6, z2 = some a6 ∧ w3.K a6 = 2 ∧
  ∀ v7 : Int32, v7 = w3.I 205 a6 →
  Q v7 w3) ∧ (x2 = (2 : Int32) → ∃ a8, z2 = some a8 ∧ w3.K a8 = 2 ∧
  ∀ v9 : Int32, v9 = w3.I 206 a8 →
  Q v9 w3) ∧ (x2 = (3 : Int32) → ∃ a10, z2 = some a10 ∧ w3.K a10 = 2 ∧
  ∀ v11 : Int32, v11 = w3.I 210 a10 →
  Q v11 w3) ∧ (x2 = (4 : Int32) → ∃ a12, z2 = some a12 ∧ w3.K a12 = 2 ∧
  ∀ v13 : Int32, v13 = w3.I 211 a12 →
  Q v13 w3) ∧ (x2 = (5 : Int32) → ∃ a14, z2 = some a14 ∧ w3.K a14 = 2 ∧
  ∀ v15 : Int32, v15 = w3.I 212 a14 →
  ∃ J16 : Int32 → Prop, (∀ (y17 : Int32), J16 y17 →
  Q y17 w3) ∧
  (v15 = 0 → J16 (1 : Int32)) ∧ (¬ v15 = 0 → J16 (0 : Int32))) ∧ (x2.toInt < 0 ∨ 5 < x2.toInt → w3.K a0 = 4 ∧
  wp_X3_houseSize a0 z2 w3 (fun v19 w18 => 
  Q v19 w18))) QX) QX
set_option maxHeartbeats 4000000 in
set_option maxRecDepth 100000 in
theorem c_X3_of {l : Launch} {G : GT} {L0 : Nat} (hst : l.stackTraces = false) {a0 : Nat} {x1 : Int32} {x2 : Int32} {w : Wd} {Q : Int32 → Wd → Prop} {QX : String → Wd → Prop} (h : wp_X3_of a0 x1 x2 w Q QX) : GXi l G L0 yX3_of cX3_of 4 (some .int) rm_X3_of [.ref a0, .int x1, .int x2] w Q QX := by
  refine g_enterX hst (by decide +kernel) [.inr (some a0), .inl x1, .inl x2] rfl (show 3 ≤ 4 by decide) ?_
  intro p e s m args below meth c X hr hnm htab
  replace X : GC l G L0 p s m args meth c cX3_of 4 "SusuRing" := X
  refine g_aload_n X dX3_of_0 rfl 0 rfl ?_
  refine g_iload_n X dX3_of_1 rfl 1 rfl ?_
  have hk := h.1
  replace h := h.2
  refine g_callXV_q X htab (As := [.int x1]) (st := []) (n := 1) (c_X3_personAt hst h) rfl (by decide) hk (wE_4 G w a0) m_295 m_297 m_4 m_15 m_298 (by decide +kernel) (by decide +kernel) rfl rfl (Nat.zero_le _) ⟨(by decide +kernel), (by decide +kernel)⟩ dX3_of_2 (by decide +kernel) (by decide +kernel) (fun E w1 hE => hE) (fun z2 w1 h => ?_)
  clear hk
  refine g_widen (c2 := (1)) (s2 := (6)) (by decide +kernel) (by decide +kernel) ?_
  refine g_astore_n X [(3, .inr z2), (0, .inr (some a0)), (1, .inl x1), (2, .inl x2)] dX3_of_5 rfl (by decide) rfl ?_
  refine g_iload_n X dX3_of_6 rfl 3 rfl ?_
  refine g_iconst X (v := (0 : Int32)) dX3_of_7 (by decide) ?_
  refine g_bipush X (v := (6 : Int32)) dX3_of_8 (by decide) ?_
  refine g_callXS_v X htab (As := [.int x2, .int (0 : Int32), .int (6 : Int32)]) (st := []) (n := 3) (c_X3_checkRange hst h) m_85 m_86 m_15 m_87 (by decide +kernel) (by decide +kernel) rfl rfl (Nat.zero_le _) ⟨(by decide +kernel), (by decide +kernel)⟩ dX3_of_10 (by decide +kernel) (by decide +kernel) (fun E w1 hE => hE) (fun w3 h => ?_)
  refine g_widen (c2 := (2)) (s2 := (12)) (by decide +kernel) (by decide +kernel) ?_
  refine g_iload_n X dX3_of_13 rfl 3 rfl ?_
  rcases sw_5 x2 with hc | hc | hc | hc | hc | hc | hc
  · replace h := h.1 hc
    refine g_tableEq X (tgt := 52) hc dX3_of_14 (by decide) (by decide) rfl (by decide) ?_
    clear hc
    refine g_aload_n X dX3_of_52 rfl 0 rfl ?_
    obtain ⟨a4, rfl, hk, h⟩ := h
    refine gg_204 X hk m_190 dX3_of_53 (fun v5 hv => ?_)
    replace h := h v5 hv; clear hv hk
    exact g_iretX X hr (by decide +kernel) (by decide +kernel) dX3_of_56 h
  · replace h := h.2.1 hc
    refine g_tableEq X (tgt := 57) hc dX3_of_14 (by decide) (by decide) rfl (by decide) ?_
    clear hc
    refine g_aload_n X dX3_of_57 rfl 0 rfl ?_
    obtain ⟨a6, rfl, hk, h⟩ := h
    refine gg_205 X hk m_194 dX3_of_58 (fun v7 hv => ?_)
    replace h := h v7 hv; clear hv hk
    exact g_iretX X hr (by decide +kernel) (by decide +kernel) dX3_of_61 h
  · replace h := h.2.2.1 hc
    refine g_tableEq X (tgt := 62) hc dX3_of_14 (by decide) (by decide) rfl (by decide) ?_
    clear hc
    refine g_aload_n X dX3_of_62 rfl 0 rfl ?_
    obtain ⟨a8, rfl, hk, h⟩ := h
    refine gg_206 X hk m_196 dX3_of_63 (fun v9 hv => ?_)
    replace h := h v9 hv; clear hv hk
    exact g_iretX X hr (by decide +kernel) (by decide +kernel) dX3_of_66 h
  · replace h := h.2.2.2.1 hc
    refine g_tableEq X (tgt := 67) hc dX3_of_14 (by decide) (by decide) rfl (by decide) ?_
    clear hc
    refine g_aload_n X dX3_of_67 rfl 0 rfl ?_
    obtain ⟨a10, rfl, hk, h⟩ := h
    refine gg_210 X hk m_203 dX3_of_68 (fun v11 hv => ?_)
    replace h := h v11 hv; clear hv hk
    exact g_iretX X hr (by decide +kernel) (by decide +kernel) dX3_of_71 h
  · replace h := h.2.2.2.2.1 hc
    refine g_tableEq X (tgt := 72) hc dX3_of_14 (by decide) (by decide) rfl (by decide) ?_
    clear hc
    refine g_aload_n X dX3_of_72 rfl 0 rfl ?_
    obtain ⟨a12, rfl, hk, h⟩ := h
    refine gg_211 X hk m_205 dX3_of_73 (fun v13 hv => ?_)
    replace h := h v13 hv; clear hv hk
    exact g_iretX X hr (by decide +kernel) (by decide +kernel) dX3_of_76 h
  · replace h := h.2.2.2.2.2.1 hc
    refine g_tableEq X (tgt := 77) hc dX3_of_14 (by decide) (by decide) rfl (by decide) ?_
    clear hc
    refine g_aload_n X dX3_of_77 rfl 0 rfl ?_
    obtain ⟨a14, rfl, hk, h⟩ := h
    refine gg_212 X hk m_207 dX3_of_78 (fun v15 hv => ?_)
    replace h := h v15 hv; clear hv hk
    obtain ⟨J16, hjJ16, h⟩ := h
    have jp16 : ∀ (y17 : Int32), J16 y17 → Gw l G L0 p e rm_X3_of s m args below meth c 4 (2) (12) (vx_MQ below (gQi G L0 Q) (gXC G L0 QX) args s rm_X3_of.cells rm_X3_of.slots (GA L0)) w3 89 [] [.int y17] := by
      intro y17 hJ
      have h := hjJ16 y17 hJ
      clear hJ
      exact g_iretX X hr (by decide +kernel) (by decide +kernel) dX3_of_89 h
    refine g_if_eq X (tgt := 88) dX3_of_81 (by decide) (fun hc => ?_) (fun hc => ?_)
    · replace h := h.1 hc; clear hc
      refine g_iconst X (v := (1 : Int32)) dX3_of_88 (by decide) ?_
      exact g_sub [] [] rfl (jp16 (1 : Int32) h)
    · replace h := h.2 hc; clear hc
      refine g_iconst X (v := (0 : Int32)) dX3_of_84 (by decide) ?_
      refine g_goto X (tgt := 89) dX3_of_85 (by decide) ?_
      exact g_sub [] [] rfl (jp16 (0 : Int32) h)
  · replace h := h.2.2.2.2.2.2 hc
    refine g_tableOut X (tgt := 90) dX3_of_14 hc (by decide) ?_
    clear hc
    refine g_aload_n X dX3_of_90 rfl 1 rfl ?_
    refine g_aload_n X dX3_of_91 rfl 0 rfl ?_
    have hk := h.1
    replace h := h.2
    refine g_callV_i X (As := [va_rf z2]) (st := []) (n := 1) (c_X3_houseSize hst h) rfl (by decide) hk (wE_4 G w3 a0) m_414 m_416 m_8 m_15 m_417 (by decide +kernel) (by decide +kernel) rfl rfl (Nat.zero_le _) ⟨(by decide +kernel), (by decide +kernel)⟩ dX3_of_92 (fun v19 w18 h => ?_)
    clear hk
    refine g_widen (c2 := (2)) (s2 := (12)) (by decide +kernel) (by decide +kernel) ?_
    exact g_iretX X hr (by decide +kernel) (by decide +kernel) dX3_of_95 h

abbrev rm_X3_member : Room := { frames := 7, cells := 3, slots := 18, locals := 208 }
def wp_X3_member (a0 : Nat) (x1 : Int32) (x2 : Int32) (x3 : Int32) (w : Wd) (Q : Int32 → Wd → Prop) (QX : String → Wd → Prop) : Prop :=
  w.K a0 = 4 ∧
  wp_X3_circleAt a0 x1 w (fun z2 w1 => 
  w1.K a0 = 4 ∧
  wp_X3_personAt a0 x2 w1 (fun z4 w3 => 
  wp_X3_checkRange x3 (0 : Int32) (3 : Int32) w3 (fun w5 => 
  ∃ a6, z2 = some a6 ∧ w5.K a6 = 1 ∧
  wp_X0_placeOf a6 z4 w5 (fun z8 w7 => 
  (¬ z8 = none → (x3 = (0 : Int32) → ∃ a9, z8 = some a9 ∧ w7.K a9 = 3 ∧
  ∀ v10 : Int32, v10 = w7.I 301 a9 →
  Q v10 w7) ∧ (x3 = (1 : Int32) → ∃ a11, z8 = some a11 ∧ w7.K a11 = 3 ∧
  ∀ v12 : Int32, v12 = w7.I 305 a11 →
  ∃ J13 : Int32 → Prop, (∀ (y14 : Int32), J13 y14 →
  Q y14 w7) ∧
  (v12 = 0 → J13 (0 : Int32)) ∧ (¬ v12 = 0 → J13 (1 : Int32))) ∧ (x3 = (2 : Int32) → ∃ a15, z8 = some a15 ∧ w7.K a15 = 3 ∧
  ∀ v16 : Int32, v16 = w7.I 304 a15 →
  Q v16 w7) ∧ (x3.toInt < 0 ∨ 2 < x3.toInt → w7.K a6 = 1 ∧
  wp_X0_indexOf a6 z4 w7 (fun v18 w17 => 
  Q v18 w17))) ∧ (z8 = none → Q (-1 : Int32) w7))) QX) QX) QX
set_option maxHeartbeats 4000000 in
set_option maxRecDepth 100000 in
theorem c_X3_member {l : Launch} {G : GT} {L0 : Nat} (hst : l.stackTraces = false) {a0 : Nat} {x1 : Int32} {x2 : Int32} {x3 : Int32} {w : Wd} {Q : Int32 → Wd → Prop} {QX : String → Wd → Prop} (h : wp_X3_member a0 x1 x2 x3 w Q QX) : GXi l G L0 yX3_member cX3_member 7 (some .int) rm_X3_member [.ref a0, .int x1, .int x2, .int x3] w Q QX := by
  refine g_enterX hst (by decide +kernel) [.inr (some a0), .inl x1, .inl x2, .inl x3] rfl (show 4 ≤ 7 by decide) ?_
  intro p e s m args below meth c X hr hnm htab
  replace X : GC l G L0 p s m args meth c cX3_member 7 "SusuRing" := X
  refine g_aload_n X dX3_member_0 rfl 0 rfl ?_
  refine g_iload_n X dX3_member_1 rfl 1 rfl ?_
  have hk := h.1
  replace h := h.2
  refine g_callXV_q X htab (As := [.int x1]) (st := []) (n := 1) (c_X3_circleAt hst h) rfl (by decide) hk (wE_4 G w a0) m_426 m_428 m_9 m_15 m_429 (by decide +kernel) (by decide +kernel) rfl rfl (Nat.zero_le _) ⟨(by decide +kernel), (by decide +kernel)⟩ dX3_member_2 (by decide +kernel) (by decide +kernel) (fun E w1 hE => hE) (fun z2 w1 h => ?_)
  clear hk
  refine g_widen (c2 := (1)) (s2 := (6)) (by decide +kernel) (by decide +kernel) ?_
  refine g_astore X [(4, .inr z2), (0, .inr (some a0)), (1, .inl x1), (2, .inl x2), (3, .inl x3)] dX3_member_5 (by decide) rfl ?_
  refine g_aload_n X dX3_member_7 rfl 1 rfl ?_
  refine g_iload_n X dX3_member_8 rfl 3 rfl ?_
  have hk := h.1
  replace h := h.2
  refine g_callXV_q X htab (As := [.int x2]) (st := []) (n := 1) (c_X3_personAt hst h) rfl (by decide) hk (wE_4 G w1 a0) m_295 m_297 m_4 m_15 m_298 (by decide +kernel) (by decide +kernel) rfl rfl (Nat.zero_le _) ⟨(by decide +kernel), (by decide +kernel)⟩ dX3_member_9 (by decide +kernel) (by decide +kernel) (fun E w1 hE => hE) (fun z4 w3 h => ?_)
  clear hk
  refine g_widen (c2 := (2)) (s2 := (12)) (by decide +kernel) (by decide +kernel) ?_
  refine g_astore X [(5, .inr z4), (4, .inr z2), (0, .inr (some a0)), (1, .inl x1), (2, .inl x2), (3, .inl x3)] dX3_member_12 (by decide) rfl ?_
  refine g_iload_n X dX3_member_14 rfl 5 rfl ?_
  refine g_iconst X (v := (0 : Int32)) dX3_member_15 (by decide) ?_
  refine g_iconst X (v := (3 : Int32)) dX3_member_16 (by decide) ?_
  refine g_callXS_v X htab (As := [.int x3, .int (0 : Int32), .int (3 : Int32)]) (st := []) (n := 3) (c_X3_checkRange hst h) m_85 m_86 m_15 m_87 (by decide +kernel) (by decide +kernel) rfl rfl (Nat.zero_le _) ⟨(by decide +kernel), (by decide +kernel)⟩ dX3_member_17 (by decide +kernel) (by decide +kernel) (fun E w1 hE => hE) (fun w5 h => ?_)
  refine g_widen (c2 := (3)) (s2 := (18)) (by decide +kernel) (by decide +kernel) ?_
  refine g_aload X dX3_member_20 1 rfl ?_
  refine g_aload X dX3_member_22 0 rfl ?_
  obtain ⟨a6, rfl, hk, h⟩ := h
  refine g_callV_q X (As := [va_rf z4]) (st := []) (n := 1) (c_X0_placeOf hst h) rfl (by decide) hk (wE_1 G w5 a6) m_431 m_432 m_433 m_24 m_434 (by decide +kernel) (by decide +kernel) rfl rfl (Nat.zero_le _) ⟨(by decide +kernel), (by decide +kernel)⟩ dX3_member_24 (fun z8 w7 h => ?_)
  clear hk
  refine g_widen (c2 := (3)) (s2 := (18)) (by decide +kernel) (by decide +kernel) ?_
  refine g_astore X [(6, .inr z8), (5, .inr z4), (4, .inr (some a6)), (0, .inr (some a0)), (1, .inl x1), (2, .inl x2), (3, .inl x3)] dX3_member_27 (by decide) rfl ?_
  refine g_aload X dX3_member_29 0 rfl ?_
  refine g_ifnonnull X (tgt := 36) dX3_member_31 (by decide) (fun hc => ?_) (fun hc => ?_)
  · replace h := h.1 hc; clear hc
    refine g_iload_n X dX3_member_36 rfl 6 rfl ?_
    rcases sw_2 x3 with hc | hc | hc | hc
    · replace h := h.1 hc
      refine g_tableEq X (tgt := 64) hc dX3_member_37 (by decide) (by decide) rfl (by decide) ?_
      clear hc
      refine g_aload X dX3_member_64 0 rfl ?_
      obtain ⟨a9, rfl, hk, h⟩ := h
      refine gg_301 X hk m_547 dX3_member_66 (fun v10 hv => ?_)
      replace h := h v10 hv; clear hv hk
      exact g_iretX X hr (by decide +kernel) (by decide +kernel) dX3_member_69 h
    · replace h := h.2.1 hc
      refine g_tableEq X (tgt := 70) hc dX3_member_37 (by decide) (by decide) rfl (by decide) ?_
      clear hc
      refine g_aload X dX3_member_70 0 rfl ?_
      obtain ⟨a11, rfl, hk, h⟩ := h
      refine gg_305 X hk m_555 dX3_member_72 (fun v12 hv => ?_)
      replace h := h v12 hv; clear hv hk
      obtain ⟨J13, hjJ13, h⟩ := h
      have jp13 : ∀ (y14 : Int32), J13 y14 → Gw l G L0 p e rm_X3_member s m args below meth c 7 (3) (18) (vx_MQ below (gQi G L0 Q) (gXC G L0 QX) args s rm_X3_member.cells rm_X3_member.slots (GA L0)) w7 83 [] [.int y14] := by
        intro y14 hJ
        have h := hjJ13 y14 hJ
        clear hJ
        exact g_iretX X hr (by decide +kernel) (by decide +kernel) dX3_member_83 h
      refine g_if_eq X (tgt := 82) dX3_member_75 (by decide) (fun hc => ?_) (fun hc => ?_)
      · replace h := h.1 hc; clear hc
        refine g_iconst X (v := (0 : Int32)) dX3_member_82 (by decide) ?_
        exact g_sub [] [] rfl (jp13 (0 : Int32) h)
      · replace h := h.2 hc; clear hc
        refine g_iconst X (v := (1 : Int32)) dX3_member_78 (by decide) ?_
        refine g_goto X (tgt := 83) dX3_member_79 (by decide) ?_
        exact g_sub [] [] rfl (jp13 (1 : Int32) h)
    · replace h := h.2.2.1 hc
      refine g_tableEq X (tgt := 84) hc dX3_member_37 (by decide) (by decide) rfl (by decide) ?_
      clear hc
      refine g_aload X dX3_member_84 0 rfl ?_
      obtain ⟨a15, rfl, hk, h⟩ := h
      refine gg_304 X hk m_552 dX3_member_86 (fun v16 hv => ?_)
      replace h := h v16 hv; clear hv hk
      exact g_iretX X hr (by decide +kernel) (by decide +kernel) dX3_member_89 h
    · replace h := h.2.2.2 hc
      refine g_tableOut X (tgt := 90) dX3_member_37 hc (by decide) ?_
      clear hc
      refine g_aload X dX3_member_90 2 rfl ?_
      refine g_aload X dX3_member_92 1 rfl ?_
      have hk := h.1
      replace h := h.2
      refine g_callV_i X (As := [va_rf z4]) (st := []) (n := 1) (c_X0_indexOf hst h) rfl (by decide) hk (wE_1 G w7 a6) m_442 m_436 m_437 m_24 m_438 (by decide +kernel) (by decide +kernel) rfl rfl (Nat.zero_le _) ⟨(by decide +kernel), (by decide +kernel)⟩ dX3_member_94 (fun v18 w17 h => ?_)
      clear hk
      refine g_widen (c2 := (3)) (s2 := (18)) (by decide +kernel) (by decide +kernel) ?_
      exact g_iretX X hr (by decide +kernel) (by decide +kernel) dX3_member_97 h
  · replace h := h.2 hc; clear hc
    refine g_iconst X (v := (-1 : Int32)) dX3_member_34 (by decide) ?_
    exact g_iretX X hr (by decide +kernel) (by decide +kernel) dX3_member_35 h

abbrev rm_X3_ofCircle : Room := { frames := 7, cells := 2, slots := 12, locals := 207 }
def wp_X3_ofCircle (a0 : Nat) (x1 : Int32) (x2 : Int32) (w : Wd) (Q : Int32 → Wd → Prop) (QX : String → Wd → Prop) : Prop :=
  w.K a0 = 4 ∧
  wp_X3_circleAt a0 x1 w (fun z2 w1 => 
  wp_X3_checkRange x2 (0 : Int32) (4 : Int32) w1 (fun w3 => 
  (x2 = (0 : Int32) → ∃ a4, z2 = some a4 ∧ w3.K a4 = 1 ∧
  ∀ v5 : Int32, v5 = w3.I 105 a4 →
  Q v5 w3) ∧ (x2 = (1 : Int32) → ∃ a6, z2 = some a6 ∧ w3.K a6 = 1 ∧
  ∀ z7 : Option Nat, z7 = w3.R 102 a6 →
  ∃ a8, z7 = some a8 ∧ w3.K a8 = 6 ∧
  wp_Jx4a65c_size_8abf5 a8 w3 (fun v10 w9 => 
  Q v10 w9)) ∧ (x2 = (2 : Int32) → ∃ a11, z2 = some a11 ∧ w3.K a11 = 1 ∧
  ∀ v12 : Int32, v12 = w3.I 106 a11 →
  Q v12 w3) ∧ (x2 = (3 : Int32) → ∃ a13, z2 = some a13 ∧ w3.K a13 = 1 ∧
  ∀ v14 : Int32, v14 = w3.I 107 a13 →
  Q v14 w3) ∧ (x2.toInt < 0 ∨ 3 < x2.toInt → ∃ a15, z2 = some a15 ∧ w3.K a15 = 1 ∧
  ∀ v16 : Int32, v16 = w3.I 104 a15 →
  ∃ J17 : Int32 → Wd → Prop, (∀ (y18 : Int32) (w19 : Wd), J17 y18 w19 →
  Q y18 w19) ∧
  (v16 = 0 → J17 (-1 : Int32) w3) ∧ (¬ v16 = 0 → w3.K a15 = 1 ∧
  wp_X0_upNext a15 w3 (fun z21 w20 => 
  wp_X3_numberAt z21 w20 (fun v23 w22 => 
  J17 v23 w22))))) QX) QX
set_option maxHeartbeats 4000000 in
set_option maxRecDepth 100000 in
theorem c_X3_ofCircle {l : Launch} {G : GT} {L0 : Nat} (hst : l.stackTraces = false) {a0 : Nat} {x1 : Int32} {x2 : Int32} {w : Wd} {Q : Int32 → Wd → Prop} {QX : String → Wd → Prop} (h : wp_X3_ofCircle a0 x1 x2 w Q QX) : GXi l G L0 yX3_ofCircle cX3_ofCircle 4 (some .int) rm_X3_ofCircle [.ref a0, .int x1, .int x2] w Q QX := by
  refine g_enterX hst (by decide +kernel) [.inr (some a0), .inl x1, .inl x2] rfl (show 3 ≤ 4 by decide) ?_
  intro p e s m args below meth c X hr hnm htab
  replace X : GC l G L0 p s m args meth c cX3_ofCircle 4 "SusuRing" := X
  refine g_aload_n X dX3_ofCircle_0 rfl 0 rfl ?_
  refine g_iload_n X dX3_ofCircle_1 rfl 1 rfl ?_
  have hk := h.1
  replace h := h.2
  refine g_callXV_q X htab (As := [.int x1]) (st := []) (n := 1) (c_X3_circleAt hst h) rfl (by decide) hk (wE_4 G w a0) m_426 m_428 m_9 m_15 m_429 (by decide +kernel) (by decide +kernel) rfl rfl (Nat.zero_le _) ⟨(by decide +kernel), (by decide +kernel)⟩ dX3_ofCircle_2 (by decide +kernel) (by decide +kernel) (fun E w1 hE => hE) (fun z2 w1 h => ?_)
  clear hk
  refine g_widen (c2 := (1)) (s2 := (6)) (by decide +kernel) (by decide +kernel) ?_
  refine g_astore_n X [(3, .inr z2), (0, .inr (some a0)), (1, .inl x1), (2, .inl x2)] dX3_ofCircle_5 rfl (by decide) rfl ?_
  refine g_iload_n X dX3_ofCircle_6 rfl 3 rfl ?_
  refine g_iconst X (v := (0 : Int32)) dX3_ofCircle_7 (by decide) ?_
  refine g_iconst X (v := (4 : Int32)) dX3_ofCircle_8 (by decide) ?_
  refine g_callXS_v X htab (As := [.int x2, .int (0 : Int32), .int (4 : Int32)]) (st := []) (n := 3) (c_X3_checkRange hst h) m_85 m_86 m_15 m_87 (by decide +kernel) (by decide +kernel) rfl rfl (Nat.zero_le _) ⟨(by decide +kernel), (by decide +kernel)⟩ dX3_ofCircle_9 (by decide +kernel) (by decide +kernel) (fun E w1 hE => hE) (fun w3 h => ?_)
  refine g_widen (c2 := (2)) (s2 := (12)) (by decide +kernel) (by decide +kernel) ?_
  refine g_iload_n X dX3_ofCircle_12 rfl 3 rfl ?_
  rcases sw_3 x2 with hc | hc | hc | hc | hc
  · replace h := h.1 hc
    refine g_tableEq X (tgt := 44) hc dX3_ofCircle_13 (by decide) (by decide) rfl (by decide) ?_
    clear hc
    refine g_aload_n X dX3_ofCircle_44 rfl 0 rfl ?_
    obtain ⟨a4, rfl, hk, h⟩ := h
    refine gg_105 X hk m_350 dX3_ofCircle_45 (fun v5 hv => ?_)
    replace h := h v5 hv; clear hv hk
    exact g_iretX X hr (by decide +kernel) (by decide +kernel) dX3_ofCircle_48 h
  · replace h := h.2.1 hc
    refine g_tableEq X (tgt := 49) hc dX3_ofCircle_13 (by decide) (by decide) rfl (by decide) ?_
    clear hc
    refine g_aload_n X dX3_ofCircle_49 rfl 0 rfl ?_
    obtain ⟨a6, rfl, hk, h⟩ := h
    refine gg_102 X hk m_347 dX3_ofCircle_50 (fun z7 hv => ?_)
    replace h := h z7 hv; clear hv hk
    obtain ⟨a8, rfl, hk, h⟩ := h
    refine g_callV_i X (As := []) (st := []) (n := 0) (c_Jx4a65c_size_8abf5 hst h) rfl (by decide) hk (wE_6 G w3 a8) m_157 m_158 m_159 m_18 m_160 (by decide +kernel) (by decide +kernel) rfl rfl (Nat.zero_le _) ⟨(by decide +kernel), (by decide +kernel)⟩ dX3_ofCircle_53 (fun v10 w9 h => ?_)
    clear hk
    refine g_widen (c2 := (2)) (s2 := (12)) (by decide +kernel) (by decide +kernel) ?_
    exact g_iretX X hr (by decide +kernel) (by decide +kernel) dX3_ofCircle_56 h
  · replace h := h.2.2.1 hc
    refine g_tableEq X (tgt := 57) hc dX3_ofCircle_13 (by decide) (by decide) rfl (by decide) ?_
    clear hc
    refine g_aload_n X dX3_ofCircle_57 rfl 0 rfl ?_
    obtain ⟨a11, rfl, hk, h⟩ := h
    refine gg_106 X hk m_352 dX3_ofCircle_58 (fun v12 hv => ?_)
    replace h := h v12 hv; clear hv hk
    exact g_iretX X hr (by decide +kernel) (by decide +kernel) dX3_ofCircle_61 h
  · replace h := h.2.2.2.1 hc
    refine g_tableEq X (tgt := 62) hc dX3_ofCircle_13 (by decide) (by decide) rfl (by decide) ?_
    clear hc
    refine g_aload_n X dX3_ofCircle_62 rfl 0 rfl ?_
    obtain ⟨a13, rfl, hk, h⟩ := h
    refine gg_107 X hk m_354 dX3_ofCircle_63 (fun v14 hv => ?_)
    replace h := h v14 hv; clear hv hk
    exact g_iretX X hr (by decide +kernel) (by decide +kernel) dX3_ofCircle_66 h
  · replace h := h.2.2.2.2 hc
    refine g_tableOut X (tgt := 67) dX3_ofCircle_13 hc (by decide) ?_
    clear hc
    refine g_aload_n X dX3_ofCircle_67 rfl 0 rfl ?_
    obtain ⟨a15, rfl, hk, h⟩ := h
    refine gg_104 X hk m_349 dX3_ofCircle_68 (fun v16 hv => ?_)
    replace h := h v16 hv; clear hv hk
    obtain ⟨J17, hjJ17, h⟩ := h
    have jp17 : ∀ (y18 : Int32) (w19 : Wd), J17 y18 w19 → Gw l G L0 p e rm_X3_ofCircle s m args below meth c 4 (2) (12) (vx_MQ below (gQi G L0 Q) (gXC G L0 QX) args s rm_X3_ofCircle.cells rm_X3_ofCircle.slots (GA L0)) w19 85 [] [.int y18] := by
      intro y18 w19 hJ
      have h := hjJ17 y18 w19 hJ
      clear hJ
      exact g_iretX X hr (by decide +kernel) (by decide +kernel) dX3_ofCircle_85 h
    refine g_if_eq X (tgt := 84) dX3_ofCircle_71 (by decide) (fun hc => ?_) (fun hc => ?_)
    · replace h := h.1 hc; clear hc
      refine g_iconst X (v := (-1 : Int32)) dX3_ofCircle_84 (by decide) ?_
      exact g_sub [] [] rfl (jp17 (-1 : Int32) w3 h)
    · replace h := h.2 hc; clear hc
      refine g_aload_n X dX3_ofCircle_74 rfl 0 rfl ?_
      have hk := h.1
      replace h := h.2
      refine g_callV_q X (As := []) (st := []) (n := 0) (c_X0_upNext hst h) rfl (by decide) hk (wE_1 G w3 a15) m_447 m_448 m_449 m_24 m_450 (by decide +kernel) (by decide +kernel) rfl rfl (Nat.zero_le _) ⟨(by decide +kernel), (by decide +kernel)⟩ dX3_ofCircle_75 (fun z21 w20 h => ?_)
      clear hk
      refine g_widen (c2 := (2)) (s2 := (12)) (by decide +kernel) (by decide +kernel) ?_
      refine g_callS_i X (As := [va_rf z21]) (st := []) (n := 1) (c_X3_numberAt hst h) m_467 m_468 m_15 m_469 (by decide +kernel) (by decide +kernel) rfl rfl (Nat.zero_le _) ⟨(by decide +kernel), (by decide +kernel)⟩ dX3_ofCircle_78 (fun v23 w22 h => ?_)
      refine g_widen (c2 := (2)) (s2 := (12)) (by decide +kernel) (by decide +kernel) ?_
      refine g_goto X (tgt := 85) dX3_ofCircle_81 (by decide) ?_
      exact g_sub [] [] rfl (jp17 v23 w22 h)

abbrev rm_X3_cash : Room := { frames := 1, cells := 0, slots := 0, locals := 100 }
def wp_X3_cash (a0 : Nat) (w : Wd) (Q : Int32 → Wd → Prop) : Prop :=
  w.K a0 = 4 ∧
  ∀ v1 : Int32, v1 = w.I 402 a0 →
  Q v1 w
set_option maxHeartbeats 4000000 in
set_option maxRecDepth 100000 in
theorem c_X3_cash {l : Launch} {G : GT} {L0 : Nat} (hst : l.stackTraces = false) {a0 : Nat} {w : Wd} {Q : Int32 → Wd → Prop} (h : wp_X3_cash a0 w Q) : GMi l G L0 yX3_cash cX3_cash 1 (some .int) rm_X3_cash [.ref a0] w Q := by
  refine g_enter hst (by decide +kernel) [.inr (some a0)] rfl (show 1 ≤ 1 by decide) ?_
  intro p e s m args below meth c X hr hnm
  replace X : GC l G L0 p s m args meth c cX3_cash 1 "SusuRing" := X
  refine g_aload_n X dX3_cash_0 rfl 0 rfl ?_
  have hk := h.1
  replace h := h.2
  refine gg_402 X hk m_70 dX3_cash_1 (fun v1 hv => ?_)
  replace h := h v1 hv; clear hv hk
  exact g_iret X hr (by decide +kernel) (by decide +kernel) dX3_cash_4 h

abbrev rm_X3_coins : Room := { frames := 4, cells := 0, slots := 0, locals := 164 }
def wp_X3_coins (a0 : Nat) (w : Wd) (Q : Int32 → Wd → Prop) : Prop :=
  w.K a0 = 4 ∧
  ∀ v1 : Int32, v1 = w.I 403 a0 →
  w.K a0 = 4 ∧
  ∀ v2 : Int32, v2 = w.I 402 a0 →
  ∀ v3 : Int32, v3 = v1 - v2 →
  ∃ Inv5 : Nat → Int32 → Int32 → Wd → Prop, (∃ n : Nat, Inv5 n v3 (0 : Int32) w) ∧ ∀ (n4 : Nat) (y6 : Int32) (y7 : Int32) (w8 : Wd), Inv5 n4 y6 y7 w8 →
  w8.K a0 = 4 ∧
  ∀ z9 : Option Nat, z9 = w8.R 400 a0 →
  ∃ a10, z9 = some a10 ∧ w8.K a10 = 6 ∧
  wp_Jx4a65c_size_8abf5 a10 w8 (fun v12 w11 => 
  (v12 ≤ y7 → ∃ Inv14 : Nat → Int32 → Int32 → Wd → Prop, (∃ n : Nat, Inv14 n y6 (0 : Int32) w11) ∧ ∀ (n13 : Nat) (y15 : Int32) (y16 : Int32) (w17 : Wd), Inv14 n13 y15 y16 w17 →
  w17.K a0 = 4 ∧
  ∀ z18 : Option Nat, z18 = w17.R 401 a0 →
  ∃ a19, z18 = some a19 ∧ w17.K a19 = 6 ∧
  wp_Jx4a65c_size_8abf5 a19 w17 (fun v21 w20 => 
  (v21 ≤ y16 → Q y15 w20) ∧ (¬ v21 ≤ y16 → w20.K a0 = 4 ∧
  ∀ z22 : Option Nat, z22 = w20.R 401 a0 →
  ∃ a23, z22 = some a23 ∧ w20.K a23 = 6 ∧
  wp_Jx4a65c_get_915e3 a23 y16 w20 (fun z25 w24 => 
  (∀ y26, z25 = some y26 → w24.K y26 = 1) ∧
  ∃ a27, z25 = some a27 ∧ w24.K a27 = 1 ∧
  ∀ v28 : Int32, v28 = w24.I 105 a27 →
  ∀ v29 : Int32, v29 = y15 - v28 →
  ∀ v30 : Int32, v30 = y16 + (1 : Int32) →
  ∃ n : Nat, n < n13 ∧ Inv14 n v29 v30 w24)))) ∧ (¬ v12 ≤ y7 → w11.K a0 = 4 ∧
  ∀ z31 : Option Nat, z31 = w11.R 400 a0 →
  ∃ a32, z31 = some a32 ∧ w11.K a32 = 6 ∧
  wp_Jx4a65c_get_915e3 a32 y7 w11 (fun z34 w33 => 
  (∀ y35, z34 = some y35 → w33.K y35 = 2) ∧
  ∃ a36, z34 = some a36 ∧ w33.K a36 = 2 ∧
  ∀ v37 : Int32, v37 = w33.I 204 a36 →
  ∀ v38 : Int32, v38 = y6 - v37 →
  ∀ v39 : Int32, v39 = y7 + (1 : Int32) →
  ∃ n : Nat, n < n4 ∧ Inv5 n v38 v39 w33)))
set_option maxHeartbeats 4000000 in
set_option maxRecDepth 100000 in
theorem c_X3_coins {l : Launch} {G : GT} {L0 : Nat} (hst : l.stackTraces = false) {a0 : Nat} {w : Wd} {Q : Int32 → Wd → Prop} (h : wp_X3_coins a0 w Q) : GMi l G L0 yX3_coins cX3_coins 3 (some .int) rm_X3_coins [.ref a0] w Q := by
  refine g_enter hst (by decide +kernel) [.inr (some a0)] rfl (show 1 ≤ 3 by decide) ?_
  intro p e s m args below meth c X hr hnm
  replace X : GC l G L0 p s m args meth c cX3_coins 3 "SusuRing" := X
  refine g_aload_n X dX3_coins_0 rfl 0 rfl ?_
  have hk := h.1
  replace h := h.2
  refine gg_403 X hk m_71 dX3_coins_1 (fun v1 hv => ?_)
  replace h := h v1 hv; clear hv hk
  refine g_aload_n X dX3_coins_4 rfl 0 rfl ?_
  have hk := h.1
  replace h := h.2
  refine gg_402 X hk m_70 dX3_coins_5 (fun v2 hv => ?_)
  replace h := h v2 hv; clear hv hk
  refine g_isub X dX3_coins_8 (fun v3 hv => ?_)
  replace h := h v3 hv; clear hv
  refine g_istore_n X [(1, .inl v3), (0, .inr (some a0))] dX3_coins_9 rfl (by decide) rfl ?_
  refine g_iconst X (v := (0 : Int32)) dX3_coins_10 (by decide) ?_
  refine g_istore_n X [(2, .inl (0 : Int32)), (1, .inl v3), (0, .inr (some a0))] dX3_coins_11 rfl (by decide) rfl ?_
  obtain ⟨Inv5, ⟨n0, hi⟩, hsn4⟩ := h
  have lp5 : ∀ (n4 : Nat), ∀ (y6 : Int32) (y7 : Int32) (w8 : Wd), Inv5 n4 y6 y7 w8 → Gw l G L0 p e rm_X3_coins s m args below meth c 3 (0) (0) (MQ below (gQi G L0 Q) args s rm_X3_coins.cells rm_X3_coins.slots (GA L0)) w8 12 [(0, .inr (some a0)), (1, .inl y6), (2, .inl y7)] [] := by
    intro n4
    induction n4 using Nat.strongRecOn with
    | ind n4 ihn4 =>
      intro y6 y7 w8 hI
      have h := hsn4 n4 y6 y7 w8 hI
      clear hI
      refine g_iload_n X dX3_coins_12 rfl 2 rfl ?_
      refine g_aload_n X dX3_coins_13 rfl 0 rfl ?_
      have hk := h.1
      replace h := h.2
      refine gg_400 X hk m_68 dX3_coins_14 (fun z9 hv => ?_)
      replace h := h z9 hv; clear hv hk
      obtain ⟨a10, rfl, hk, h⟩ := h
      refine g_callV_i X (As := []) (st := [.int y7]) (n := 0) (c_Jx4a65c_size_8abf5 hst h) rfl (by decide) hk (wE_6 G w8 a10) m_157 m_158 m_159 m_18 m_160 (by decide +kernel) (by decide +kernel) rfl rfl (by simp [cat_int, rf_cat]) ⟨(by decide +kernel), (by decide +kernel)⟩ dX3_coins_17 (fun v12 w11 h => ?_)
      clear hk
      refine g_widen (c2 := (0)) (s2 := (0)) (by decide +kernel) (by decide +kernel) ?_
      refine g_icmp_ge X (tgt := 46) dX3_coins_20 (by decide) (fun hc => ?_) (fun hc => ?_)
      · replace h := h.1 hc; clear hc
        refine g_iconst X (v := (0 : Int32)) dX3_coins_46 (by decide) ?_
        refine g_istore_n X [(2, .inl (0 : Int32)), (0, .inr (some a0)), (1, .inl y6)] dX3_coins_47 rfl (by decide) rfl ?_
        obtain ⟨Inv14, ⟨n0, hi⟩, hsn13⟩ := h
        have lp14 : ∀ (n13 : Nat), ∀ (y15 : Int32) (y16 : Int32) (w17 : Wd), Inv14 n13 y15 y16 w17 → Gw l G L0 p e rm_X3_coins s m args below meth c 3 (0) (0) (MQ below (gQi G L0 Q) args s rm_X3_coins.cells rm_X3_coins.slots (GA L0)) w17 48 [(0, .inr (some a0)), (1, .inl y15), (2, .inl y16)] [] := by
          intro n13
          induction n13 using Nat.strongRecOn with
          | ind n13 ihn13 =>
            intro y15 y16 w17 hI
            have h := hsn13 n13 y15 y16 w17 hI
            clear hI
            refine g_iload_n X dX3_coins_48 rfl 2 rfl ?_
            refine g_aload_n X dX3_coins_49 rfl 0 rfl ?_
            have hk := h.1
            replace h := h.2
            refine gg_401 X hk m_69 dX3_coins_50 (fun z18 hv => ?_)
            replace h := h z18 hv; clear hv hk
            obtain ⟨a19, rfl, hk, h⟩ := h
            refine g_callV_i X (As := []) (st := [.int y16]) (n := 0) (c_Jx4a65c_size_8abf5 hst h) rfl (by decide) hk (wE_6 G w17 a19) m_157 m_158 m_159 m_18 m_160 (by decide +kernel) (by decide +kernel) rfl rfl (by simp [cat_int, rf_cat]) ⟨(by decide +kernel), (by decide +kernel)⟩ dX3_coins_53 (fun v21 w20 h => ?_)
            clear hk
            refine g_widen (c2 := (0)) (s2 := (0)) (by decide +kernel) (by decide +kernel) ?_
            refine g_icmp_ge X (tgt := 82) dX3_coins_56 (by decide) (fun hc => ?_) (fun hc => ?_)
            · replace h := h.1 hc; clear hc
              refine g_iload_n X dX3_coins_82 rfl 1 rfl ?_
              exact g_iret X hr (by decide +kernel) (by decide +kernel) dX3_coins_83 h
            · replace h := h.2 hc; clear hc
              refine g_iload_n X dX3_coins_59 rfl 1 rfl ?_
              refine g_aload_n X dX3_coins_60 rfl 0 rfl ?_
              have hk := h.1
              replace h := h.2
              refine gg_401 X hk m_69 dX3_coins_61 (fun z22 hv => ?_)
              replace h := h z22 hv; clear hv hk
              refine g_iload_n X dX3_coins_64 rfl 2 rfl ?_
              obtain ⟨a23, rfl, hk, h⟩ := h
              refine g_callV_q X (As := [.int y16]) (st := [.int y15]) (n := 1) (c_Jx4a65c_get_915e3 hst h) rfl (by decide) hk (wE_6 G w20 a23) m_315 m_316 m_317 m_18 m_318 (by decide +kernel) (by decide +kernel) rfl rfl (by simp [cat_int, rf_cat]) ⟨(by decide +kernel), (by decide +kernel)⟩ dX3_coins_65 (fun z25 w24 h => ?_)
              clear hk
              refine g_widen (c2 := (0)) (s2 := (0)) (by decide +kernel) (by decide +kernel) ?_
              refine g_castS X (C := "SusuRing$Circle") (T := TX0) (N := 8) (ci := 1) rfl (by decide) (fun a => ⟨_, wE_1 G w24 a⟩) h.1 m_336 dX3_coins_68 ?_
              replace h := h.2
              obtain ⟨a27, rfl, hk, h⟩ := h
              refine gg_105 X hk m_350 dX3_coins_71 (fun v28 hv => ?_)
              replace h := h v28 hv; clear hv hk
              refine g_isub X dX3_coins_74 (fun v29 hv => ?_)
              replace h := h v29 hv; clear hv
              refine g_istore_n X [(1, .inl v29), (0, .inr (some a0)), (2, .inl y16)] dX3_coins_75 rfl (by decide) rfl ?_
              refine g_iinc X dX3_coins_76 2 rfl (d := (1 : Int32)) (by decide) (by decide) (fun v30 hv => ?_)
              replace h := h v30 hv; clear hv
              refine g_sub [0, 1, 2] [(2, .inl v30), (1, .inl v29), (0, .inr (some a0))] rfl ?_
              refine g_goto X (tgt := 48) dX3_coins_79 (by decide) ?_
              obtain ⟨n, hn, hI⟩ := h
              exact g_sub [2, 1, 0] [(0, .inr (some a0)), (1, .inl v29), (2, .inl v30)] rfl (ihn13 n hn v29 v30 w24 hI)
        exact g_sub [1, 2, 0] [(0, .inr (some a0)), (1, .inl y6), (2, .inl (0 : Int32))] rfl (lp14 n0 y6 (0 : Int32) w11 hi)
      · replace h := h.2 hc; clear hc
        refine g_iload_n X dX3_coins_23 rfl 1 rfl ?_
        refine g_aload_n X dX3_coins_24 rfl 0 rfl ?_
        have hk := h.1
        replace h := h.2
        refine gg_400 X hk m_68 dX3_coins_25 (fun z31 hv => ?_)
        replace h := h z31 hv; clear hv hk
        refine g_iload_n X dX3_coins_28 rfl 2 rfl ?_
        obtain ⟨a32, rfl, hk, h⟩ := h
        refine g_callV_q X (As := [.int y7]) (st := [.int y6]) (n := 1) (c_Jx4a65c_get_915e3 hst h) rfl (by decide) hk (wE_6 G w11 a32) m_315 m_316 m_317 m_18 m_318 (by decide +kernel) (by decide +kernel) rfl rfl (by simp [cat_int, rf_cat]) ⟨(by decide +kernel), (by decide +kernel)⟩ dX3_coins_29 (fun z34 w33 h => ?_)
        clear hk
        refine g_widen (c2 := (0)) (s2 := (0)) (by decide +kernel) (by decide +kernel) ?_
        refine g_castS X (C := "SusuRing$Person") (T := TX1) (N := 13) (ci := 2) rfl (by decide) (fun a => ⟨_, wE_2 G w33 a⟩) h.1 m_177 dX3_coins_32 ?_
        replace h := h.2
        obtain ⟨a36, rfl, hk, h⟩ := h
        refine gg_204 X hk m_190 dX3_coins_35 (fun v37 hv => ?_)
        replace h := h v37 hv; clear hv hk
        refine g_isub X dX3_coins_38 (fun v38 hv => ?_)
        replace h := h v38 hv; clear hv
        refine g_istore_n X [(1, .inl v38), (0, .inr (some a0)), (2, .inl y7)] dX3_coins_39 rfl (by decide) rfl ?_
        refine g_iinc X dX3_coins_40 2 rfl (d := (1 : Int32)) (by decide) (by decide) (fun v39 hv => ?_)
        replace h := h v39 hv; clear hv
        refine g_sub [0, 1, 2] [(2, .inl v39), (1, .inl v38), (0, .inr (some a0))] rfl ?_
        refine g_goto X (tgt := 12) dX3_coins_43 (by decide) ?_
        obtain ⟨n, hn, hI⟩ := h
        exact g_sub [2, 1, 0] [(0, .inr (some a0)), (1, .inl v38), (2, .inl v39)] rfl (ihn4 n hn v38 v39 w33 hI)
  exact g_sub [2, 1, 0] [(0, .inr (some a0)), (1, .inl v3), (2, .inl (0 : Int32))] rfl (lp5 n0 v3 (0 : Int32) w hi)
