abbrev rm_X2_rank : Room := { frames := 1, cells := 0, slots := 0, locals := 100 }
def wp_X2_rank (a0 : Nat) (x1 : Int32) (w : Wd) (Q : Int32 → Wd → Prop) : Prop :=
  ∃ J1 : Int32 → Prop, (∀ (y2 : Int32), J1 y2 →
  Q y2 w) ∧
  (¬ x1 = (2 : Int32) → w.K a0 = 3 ∧
  ∀ v3 : Int32, v3 = w.I 303 a0 →
  J1 v3) ∧ (x1 = (2 : Int32) → w.K a0 = 3 ∧
  ∀ v4 : Int32, v4 = w.I 302 a0 →
  J1 v4)
set_option maxHeartbeats 4000000 in
set_option maxRecDepth 100000 in
theorem c_X2_rank {l : Launch} {G : GT} {L0 : Nat} (hst : l.stackTraces = false) {a0 : Nat} {x1 : Int32} {w : Wd} {Q : Int32 → Wd → Prop} (h : wp_X2_rank a0 x1 w Q) : GMi l G L0 yX2_rank cX2_rank 2 (some .int) rm_X2_rank [.ref a0, .int x1] w Q := by
  refine g_enter hst (by decide +kernel) [.inr (some a0), .inl x1] rfl (show 2 ≤ 2 by decide) ?_
  intro p e s m args below meth c X hr hnm
  replace X : GC l G L0 p s m args meth c cX2_rank 2 "SusuRing$Place" := X
  refine g_iload_n X dX2_rank_0 rfl 1 rfl ?_
  refine g_iconst X (v := (2 : Int32)) dX2_rank_1 (by decide) ?_
  obtain ⟨J1, hjJ1, h⟩ := h
  have jp1 : ∀ (y2 : Int32), J1 y2 → Gw l G L0 p e rm_X2_rank s m args below meth c 2 (0) (0) (MQ below (gQi G L0 Q) args s rm_X2_rank.cells rm_X2_rank.slots (GA L0)) w 16 [] [.int y2] := by
    intro y2 hJ
    have h := hjJ1 y2 hJ
    clear hJ
    exact g_iret X hr (by decide +kernel) (by decide +kernel) dX2_rank_16 h
  refine g_icmp_ne X (tgt := 12) dX2_rank_2 (by decide) (fun hc => ?_) (fun hc => ?_)
  · replace h := h.1 hc; clear hc
    refine g_aload_n X dX2_rank_12 rfl 0 rfl ?_
    have hk := h.1
    replace h := h.2
    refine gg_303 X hk m_550 dX2_rank_13 (fun v3 hv => ?_)
    replace h := h v3 hv; clear hv hk
    exact g_sub [] [] rfl (jp1 v3 h)
  · replace h := h.2 hc; clear hc
    refine g_aload_n X dX2_rank_5 rfl 0 rfl ?_
    have hk := h.1
    replace h := h.2
    refine gg_302 X hk m_549 dX2_rank_6 (fun v4 hv => ?_)
    replace h := h v4 hv; clear hv hk
    refine g_goto X (tgt := 16) dX2_rank_9 (by decide) ?_
    exact g_sub [] [] rfl (jp1 v4 h)

abbrev rm_X1_payIn : Room := { frames := 1, cells := 0, slots := 0, locals := 100 }
def wp_X1_payIn (a0 : Nat) (x1 : Int32) (w : Wd) (Q : Wd → Prop) : Prop :=
  w.K a0 = 2 ∧
  ∀ v1 : Int32, v1 = w.I 204 a0 →
  ∀ v2 : Int32, v2 = v1 - x1 →
  w.K a0 = 2 ∧
  ∀ w3 : Wd, w3 = w.setI 204 a0 v2 →
  w3.K a0 = 2 ∧
  ∀ v4 : Int32, v4 = w3.I 211 a0 →
  ∀ v5 : Int32, v5 = v4 + x1 →
  w3.K a0 = 2 ∧
  ∀ w6 : Wd, w6 = w3.setI 211 a0 v5 →
  Q w6
set_option maxHeartbeats 4000000 in
set_option maxRecDepth 100000 in
theorem c_X1_payIn {l : Launch} {G : GT} {L0 : Nat} (hst : l.stackTraces = false) {a0 : Nat} {x1 : Int32} {w : Wd} {Q : Wd → Prop} (h : wp_X1_payIn a0 x1 w Q) : GMv l G L0 yX1_payIn cX1_payIn 2 none rm_X1_payIn [.ref a0, .int x1] w Q := by
  refine g_enter hst (by decide +kernel) [.inr (some a0), .inl x1] rfl (show 2 ≤ 2 by decide) ?_
  intro p e s m args below meth c X hr hnm
  replace X : GC l G L0 p s m args meth c cX1_payIn 2 "SusuRing$Person" := X
  refine g_aload_n X dX1_payIn_0 rfl 0 rfl ?_
  refine g_dup X dX1_payIn_1 rf_cat ?_
  have hk := h.1
  replace h := h.2
  refine gg_204 X hk m_191 dX1_payIn_2 (fun v1 hv => ?_)
  replace h := h v1 hv; clear hv hk
  refine g_iload_n X dX1_payIn_5 rfl 1 rfl ?_
  refine g_isub X dX1_payIn_6 (fun v2 hv => ?_)
  replace h := h v2 hv; clear hv
  have hk := h.1
  replace h := h.2
  refine gp_204 X hk m_191 dX1_payIn_7 (fun w3 hv => ?_)
  replace h := h w3 hv; clear hv hk
  refine g_aload_n X dX1_payIn_10 rfl 0 rfl ?_
  refine g_dup X dX1_payIn_11 rf_cat ?_
  have hk := h.1
  replace h := h.2
  refine gg_211 X hk m_204 dX1_payIn_12 (fun v4 hv => ?_)
  replace h := h v4 hv; clear hv hk
  refine g_iload_n X dX1_payIn_15 rfl 1 rfl ?_
  refine g_iadd X dX1_payIn_16 (fun v5 hv => ?_)
  replace h := h v5 hv; clear hv
  have hk := h.1
  replace h := h.2
  refine gp_211 X hk m_204 dX1_payIn_17 (fun w6 hv => ?_)
  replace h := h w6 hv; clear hv hk
  exact g_vret X hr (by decide +kernel) (by decide +kernel) dX1_payIn_20 h

abbrev rm_X1_getOut : Room := { frames := 1, cells := 0, slots := 0, locals := 100 }
def wp_X1_getOut (a0 : Nat) (x1 : Int32) (w : Wd) (Q : Wd → Prop) : Prop :=
  w.K a0 = 2 ∧
  ∀ v1 : Int32, v1 = w.I 204 a0 →
  ∀ v2 : Int32, v2 = v1 + x1 →
  w.K a0 = 2 ∧
  ∀ w3 : Wd, w3 = w.setI 204 a0 v2 →
  w3.K a0 = 2 ∧
  ∀ v4 : Int32, v4 = w3.I 211 a0 →
  ∀ v5 : Int32, v5 = v4 - x1 →
  w3.K a0 = 2 ∧
  ∀ w6 : Wd, w6 = w3.setI 211 a0 v5 →
  Q w6
set_option maxHeartbeats 4000000 in
set_option maxRecDepth 100000 in
theorem c_X1_getOut {l : Launch} {G : GT} {L0 : Nat} (hst : l.stackTraces = false) {a0 : Nat} {x1 : Int32} {w : Wd} {Q : Wd → Prop} (h : wp_X1_getOut a0 x1 w Q) : GMv l G L0 yX1_getOut cX1_getOut 2 none rm_X1_getOut [.ref a0, .int x1] w Q := by
  refine g_enter hst (by decide +kernel) [.inr (some a0), .inl x1] rfl (show 2 ≤ 2 by decide) ?_
  intro p e s m args below meth c X hr hnm
  replace X : GC l G L0 p s m args meth c cX1_getOut 2 "SusuRing$Person" := X
  refine g_aload_n X dX1_getOut_0 rfl 0 rfl ?_
  refine g_dup X dX1_getOut_1 rf_cat ?_
  have hk := h.1
  replace h := h.2
  refine gg_204 X hk m_191 dX1_getOut_2 (fun v1 hv => ?_)
  replace h := h v1 hv; clear hv hk
  refine g_iload_n X dX1_getOut_5 rfl 1 rfl ?_
  refine g_iadd X dX1_getOut_6 (fun v2 hv => ?_)
  replace h := h v2 hv; clear hv
  have hk := h.1
  replace h := h.2
  refine gp_204 X hk m_191 dX1_getOut_7 (fun w3 hv => ?_)
  replace h := h w3 hv; clear hv hk
  refine g_aload_n X dX1_getOut_10 rfl 0 rfl ?_
  refine g_dup X dX1_getOut_11 rf_cat ?_
  have hk := h.1
  replace h := h.2
  refine gg_211 X hk m_204 dX1_getOut_12 (fun v4 hv => ?_)
  replace h := h v4 hv; clear hv hk
  refine g_iload_n X dX1_getOut_15 rfl 1 rfl ?_
  refine g_isub X dX1_getOut_16 (fun v5 hv => ?_)
  replace h := h v5 hv; clear hv
  have hk := h.1
  replace h := h.2
  refine gp_211 X hk m_204 dX1_getOut_17 (fun w6 hv => ?_)
  replace h := h w6 hv; clear hv hk
  exact g_vret X hr (by decide +kernel) (by decide +kernel) dX1_getOut_20 h

abbrev rm_X1_init : Room := { frames := 1, cells := 1, slots := 64, locals := 100 }
def wp_X1_init (a0 : Nat) (x1 : Int32) (x2 : Int32) (x3 : Int32) (w : Wd) (Q : Wd → Prop) : Prop :=
  w.K a0 = 2 ∧
  ∀ w1 : Wd, w1 = w.setI 200 a0 x1 →
  w1.K a0 = 2 ∧
  ∀ w2 : Wd, w2 = w1.setI 201 a0 x2 →
  w2.K a0 = 2 ∧
  ∀ w3 : Wd, w3 = w2.setI 202 a0 x3 →
  ∀ q4 : Nat, w3.K q4 = 0 → ∀ w5 : Wd, w5 = w3.newA 11 q4 3 →
  w5.K a0 = 2 ∧
  ∀ w6 : Wd, w6 = w5.setR 203 a0 (some q4) →
  Q w6
set_option maxHeartbeats 4000000 in
set_option maxRecDepth 100000 in
theorem c_X1_init {l : Launch} {G : GT} {L0 : Nat} (hst : l.stackTraces = false) {a0 : Nat} {x1 : Int32} {x2 : Int32} {x3 : Int32} {w : Wd} {Q : Wd → Prop} (h : wp_X1_init a0 x1 x2 x3 w Q) : GMv l G L0 yX1_init cX1_init 4 none rm_X1_init [.ref a0, .int x1, .int x2, .int x3] w Q := by
  refine g_enter hst (by decide +kernel) [.inr (some a0), .inl x1, .inl x2, .inl x3] rfl (show 4 ≤ 4 by decide) ?_
  intro p e s m args below meth c X hr hnm
  replace X : GC l G L0 p s m args meth c cX1_init 4 "SusuRing$Person" := X
  refine g_aload_n X dX1_init_0 rfl 0 rfl ?_
  refine g_objInit X m_182 m_40 m_41 (by decide) (by decide +kernel) dX1_init_1 ?_
  refine g_aload_n X dX1_init_4 rfl 0 rfl ?_
  refine g_iload_n X dX1_init_5 rfl 1 rfl ?_
  have hk := h.1
  replace h := h.2
  refine gp_200 X hk hnm rfl m_183 dX1_init_6 (fun w1 hv => ?_)
  replace h := h w1 hv; clear hv hk
  refine g_aload_n X dX1_init_9 rfl 0 rfl ?_
  refine g_iload_n X dX1_init_10 rfl 2 rfl ?_
  have hk := h.1
  replace h := h.2
  refine gp_201 X hk hnm rfl m_185 dX1_init_11 (fun w2 hv => ?_)
  replace h := h w2 hv; clear hv hk
  refine g_aload_n X dX1_init_14 rfl 0 rfl ?_
  refine g_iload_n X dX1_init_15 rfl 3 rfl ?_
  have hk := h.1
  replace h := h.2
  refine gp_202 X hk hnm rfl m_187 dX1_init_16 (fun w3 hv => ?_)
  replace h := h w3 hv; clear hv hk
  refine g_aload_n X dX1_init_19 rfl 0 rfl ?_
  refine g_iconst X (v := (3 : Int32)) dX1_init_20 (by decide) ?_
  have hi : (3 : Int32) = nI 3 := by decide
  have hn : 3 ≤ 64 := by decide
  refine gnewA_11 X m_235 hi (by omega) (by have e1 : rm_X1_init.cells = 1 := rfl; omega) (by have e2 : rm_X1_init.slots = 64 := rfl; omega) dX1_init_21 (fun q4 h1 w5 hv => ?_)
  replace h := h q4 h1 w5 hv; clear hv h1 hi
  refine g_widen (c2 := (1)) (s2 := (64)) (by omega) (by omega) ?_
  clear hn
  have hk := h.1
  replace h := h.2
  refine gp_203 X hk hnm rfl m_188 dX1_init_23 (fun w6 hv => ?_)
  replace h := h w6 hv; clear hv hk
  exact g_vret X hr (by decide +kernel) (by decide +kernel) dX1_init_26 h

abbrev rm_X1_hasShare : Room := { frames := 1, cells := 0, slots := 0, locals := 100 }
def wp_X1_hasShare (a0 : Nat) (w : Wd) (Q : Int32 → Wd → Prop) : Prop :=
  w.K a0 = 2 ∧
  ∀ v1 : Int32, v1 = w.I 212 a0 →
  ∃ J2 : Int32 → Prop, (∀ (y3 : Int32), J2 y3 →
  (y3 = 0 ∨ y3 = 1) ∧ Q y3 w) ∧
  ∃ J4 : Prop, (J4 →
  J2 (0 : Int32)) ∧
  (¬ v1 = 0 → J4) ∧ (v1 = 0 → w.K a0 = 2 ∧
  ∀ v5 : Int32, v5 = w.I 205 a0 →
  (v5 ≤ 0 → J4) ∧ (¬ v5 ≤ 0 → J2 (1 : Int32)))
set_option maxHeartbeats 4000000 in
set_option maxRecDepth 100000 in
theorem c_X1_hasShare {l : Launch} {G : GT} {L0 : Nat} (hst : l.stackTraces = false) {a0 : Nat} {w : Wd} {Q : Int32 → Wd → Prop} (h : wp_X1_hasShare a0 w Q) : GMi l G L0 yX1_hasShare cX1_hasShare 1 (some .boolean) rm_X1_hasShare [.ref a0] w Q := by
  refine g_enter hst (by decide +kernel) [.inr (some a0)] rfl (show 1 ≤ 1 by decide) ?_
  intro p e s m args below meth c X hr hnm
  replace X : GC l G L0 p s m args meth c cX1_hasShare 1 "SusuRing$Person" := X
  refine g_aload_n X dX1_hasShare_0 rfl 0 rfl ?_
  have hk := h.1
  replace h := h.2
  refine gg_212 X hk m_206 dX1_hasShare_1 (fun v1 hv => ?_)
  replace h := h v1 hv; clear hv hk
  obtain ⟨J2, hjJ2, h⟩ := h
  have jp2 : ∀ (y3 : Int32), J2 y3 → Gw l G L0 p e rm_X1_hasShare s m args below meth c 1 (0) (0) (MQ below (gQi G L0 Q) args s rm_X1_hasShare.cells rm_X1_hasShare.slots (GA L0)) w 19 [] [.int y3] := by
    intro y3 hJ
    have h := hjJ2 y3 hJ
    clear hJ
    exact g_zret X hr (by decide +kernel) (by decide +kernel) dX1_hasShare_19 h.1 h.2
  obtain ⟨J4, hjJ4, h⟩ := h
  have jp4 : J4 → Gw l G L0 p e rm_X1_hasShare s m args below meth c 1 (0) (0) (MQ below (gQi G L0 Q) args s rm_X1_hasShare.cells rm_X1_hasShare.slots (GA L0)) w 18 [] [] := by
    intro hJ
    have h := hjJ4 hJ
    clear hJ
    refine g_iconst X (v := (0 : Int32)) dX1_hasShare_18 (by decide) ?_
    exact g_sub [] [] rfl (jp2 (0 : Int32) h)
  refine g_if_ne X (tgt := 18) dX1_hasShare_4 (by decide) (fun hc => ?_) (fun hc => ?_)
  · replace h := h.1 hc; clear hc
    exact g_sub [] [] rfl (jp4  h)
  · replace h := h.2 hc; clear hc
    refine g_aload_n X dX1_hasShare_7 rfl 0 rfl ?_
    have hk := h.1
    replace h := h.2
    refine gg_205 X hk m_193 dX1_hasShare_8 (fun v5 hv => ?_)
    replace h := h v5 hv; clear hv hk
    refine g_if_le X (tgt := 18) dX1_hasShare_11 (by decide) (fun hc => ?_) (fun hc => ?_)
    · replace h := h.1 hc; clear hc
      exact g_sub [] [] rfl (jp4  h)
    · replace h := h.2 hc; clear hc
      refine g_iconst X (v := (1 : Int32)) dX1_hasShare_14 (by decide) ?_
      refine g_goto X (tgt := 19) dX1_hasShare_15 (by decide) ?_
      exact g_sub [] [] rfl (jp2 (1 : Int32) h)

abbrev rm_X1_hasLoan : Room := { frames := 1, cells := 0, slots := 0, locals := 100 }
def wp_X1_hasLoan (a0 : Nat) (w : Wd) (Q : Int32 → Wd → Prop) : Prop :=
  w.K a0 = 2 ∧
  ∀ v1 : Int32, v1 = w.I 206 a0 →
  ∃ J2 : Int32 → Prop, (∀ (y3 : Int32), J2 y3 →
  (y3 = 0 ∨ y3 = 1) ∧ Q y3 w) ∧
  (v1 ≤ 0 → J2 (0 : Int32)) ∧ (¬ v1 ≤ 0 → J2 (1 : Int32))
set_option maxHeartbeats 4000000 in
set_option maxRecDepth 100000 in
theorem c_X1_hasLoan {l : Launch} {G : GT} {L0 : Nat} (hst : l.stackTraces = false) {a0 : Nat} {w : Wd} {Q : Int32 → Wd → Prop} (h : wp_X1_hasLoan a0 w Q) : GMi l G L0 yX1_hasLoan cX1_hasLoan 1 (some .boolean) rm_X1_hasLoan [.ref a0] w Q := by
  refine g_enter hst (by decide +kernel) [.inr (some a0)] rfl (show 1 ≤ 1 by decide) ?_
  intro p e s m args below meth c X hr hnm
  replace X : GC l G L0 p s m args meth c cX1_hasLoan 1 "SusuRing$Person" := X
  refine g_aload_n X dX1_hasLoan_0 rfl 0 rfl ?_
  have hk := h.1
  replace h := h.2
  refine gg_206 X hk m_195 dX1_hasLoan_1 (fun v1 hv => ?_)
  replace h := h v1 hv; clear hv hk
  obtain ⟨J2, hjJ2, h⟩ := h
  have jp2 : ∀ (y3 : Int32), J2 y3 → Gw l G L0 p e rm_X1_hasLoan s m args below meth c 1 (0) (0) (MQ below (gQi G L0 Q) args s rm_X1_hasLoan.cells rm_X1_hasLoan.slots (GA L0)) w 12 [] [.int y3] := by
    intro y3 hJ
    have h := hjJ2 y3 hJ
    clear hJ
    exact g_zret X hr (by decide +kernel) (by decide +kernel) dX1_hasLoan_12 h.1 h.2
  refine g_if_le X (tgt := 11) dX1_hasLoan_4 (by decide) (fun hc => ?_) (fun hc => ?_)
  · replace h := h.1 hc; clear hc
    refine g_iconst X (v := (0 : Int32)) dX1_hasLoan_11 (by decide) ?_
    exact g_sub [] [] rfl (jp2 (0 : Int32) h)
  · replace h := h.2 hc; clear hc
    refine g_iconst X (v := (1 : Int32)) dX1_hasLoan_7 (by decide) ?_
    refine g_goto X (tgt := 12) dX1_hasLoan_8 (by decide) ?_
    exact g_sub [] [] rfl (jp2 (1 : Int32) h)

abbrev rm_X1_isOfHouse : Room := { frames := 1, cells := 0, slots := 0, locals := 100 }
def wp_X1_isOfHouse (a0 : Nat) (r1 : Option Nat) (w : Wd) (Q : Int32 → Wd → Prop) : Prop :=
  w.K a0 = 2 ∧
  ∀ v1 : Int32, v1 = w.I 202 a0 →
  ∃ a2, r1 = some a2 ∧ w.K a2 = 2 ∧
  ∀ v3 : Int32, v3 = w.I 202 a2 →
  ∃ Inv5 : Nat → Int32 → Int32 → Int32 → Int32 → Prop, (∃ n : Nat, Inv5 n v1 v3 (0 : Int32) (0 : Int32)) ∧ ∀ (n4 : Nat) (y6 : Int32) (y7 : Int32) (y8 : Int32) (y9 : Int32), Inv5 n4 y6 y7 y8 y9 →
  ((5 : Int32) ≤ y9 → ∃ J10 : Int32 → Prop, (∀ (y11 : Int32), J10 y11 →
  (y11 = 0 ∨ y11 = 1) ∧ Q y11 w) ∧
  ((1 : Int32) < y8 → J10 (0 : Int32)) ∧ (¬ (1 : Int32) < y8 → J10 (1 : Int32))) ∧ (¬ (5 : Int32) ≤ y9 → ¬ (10 : Int32) = 0 ∧ ∀ v12 : Int32, v12 = y6 - y6 / (10 : Int32) * (10 : Int32) →
  ¬ (10 : Int32) = 0 ∧ ∀ v13 : Int32, v13 = y7 - y7 / (10 : Int32) * (10 : Int32) →
  ∃ J14 : Int32 → Prop, (∀ (y15 : Int32), J14 y15 →
  ¬ (10 : Int32) = 0 ∧ ∀ v16 : Int32, v16 = y6 / (10 : Int32) →
  ¬ (10 : Int32) = 0 ∧ ∀ v17 : Int32, v17 = y7 / (10 : Int32) →
  ∀ v18 : Int32, v18 = y9 + (1 : Int32) →
  ∃ n : Nat, n < n4 ∧ Inv5 n v16 v17 y15 v18) ∧
  (v12 = v13 → J14 y8) ∧ (¬ v12 = v13 → ∀ v19 : Int32, v19 = y8 + (1 : Int32) →
  J14 v19))
set_option maxHeartbeats 4000000 in
set_option maxRecDepth 100000 in
theorem c_X1_isOfHouse {l : Launch} {G : GT} {L0 : Nat} (hst : l.stackTraces = false) {a0 : Nat} {r1 : Option Nat} {w : Wd} {Q : Int32 → Wd → Prop} (h : wp_X1_isOfHouse a0 r1 w Q) : GMi l G L0 yX1_isOfHouse cX1_isOfHouse 6 (some .boolean) rm_X1_isOfHouse [.ref a0, va_rf r1] w Q := by
  refine g_enter hst (by decide +kernel) [.inr (some a0), .inr r1] rfl (show 2 ≤ 6 by decide) ?_
  intro p e s m args below meth c X hr hnm
  replace X : GC l G L0 p s m args meth c cX1_isOfHouse 6 "SusuRing$Person" := X
  refine g_aload_n X dX1_isOfHouse_0 rfl 0 rfl ?_
  have hk := h.1
  replace h := h.2
  refine gg_202 X hk m_187 dX1_isOfHouse_1 (fun v1 hv => ?_)
  replace h := h v1 hv; clear hv hk
  refine g_istore_n X [(2, .inl v1), (0, .inr (some a0)), (1, .inr r1)] dX1_isOfHouse_4 rfl (by decide) rfl ?_
  refine g_aload_n X dX1_isOfHouse_5 rfl 2 rfl ?_
  obtain ⟨a2, rfl, hk, h⟩ := h
  refine gg_202 X hk m_187 dX1_isOfHouse_6 (fun v3 hv => ?_)
  replace h := h v3 hv; clear hv hk
  refine g_istore_n X [(3, .inl v3), (2, .inl v1), (0, .inr (some a0)), (1, .inr (some a2))] dX1_isOfHouse_9 rfl (by decide) rfl ?_
  refine g_iconst X (v := (0 : Int32)) dX1_isOfHouse_10 (by decide) ?_
  refine g_istore X [(4, .inl (0 : Int32)), (3, .inl v3), (2, .inl v1), (0, .inr (some a0)), (1, .inr (some a2))] dX1_isOfHouse_11 (by decide) rfl ?_
  refine g_iconst X (v := (0 : Int32)) dX1_isOfHouse_13 (by decide) ?_
  refine g_istore X [(5, .inl (0 : Int32)), (4, .inl (0 : Int32)), (3, .inl v3), (2, .inl v1), (0, .inr (some a0)), (1, .inr (some a2))] dX1_isOfHouse_14 (by decide) rfl ?_
  obtain ⟨Inv5, ⟨n0, hi⟩, hsn4⟩ := h
  have lp5 : ∀ (n4 : Nat), ∀ (y6 : Int32) (y7 : Int32) (y8 : Int32) (y9 : Int32), Inv5 n4 y6 y7 y8 y9 → Gw l G L0 p e rm_X1_isOfHouse s m args below meth c 6 (0) (0) (MQ below (gQi G L0 Q) args s rm_X1_isOfHouse.cells rm_X1_isOfHouse.slots (GA L0)) w 16 [(2, .inl y6), (3, .inl y7), (4, .inl y8), (5, .inl y9)] [] := by
    intro n4
    induction n4 using Nat.strongRecOn with
    | ind n4 ihn4 =>
      intro y6 y7 y8 y9 hI
      have h := hsn4 n4 y6 y7 y8 y9 hI
      clear hI
      refine g_iload X dX1_isOfHouse_16 3 rfl ?_
      refine g_iconst X (v := (5 : Int32)) dX1_isOfHouse_18 (by decide) ?_
      refine g_icmp_ge X (tgt := 52) dX1_isOfHouse_19 (by decide) (fun hc => ?_) (fun hc => ?_)
      · replace h := h.1 hc; clear hc
        refine g_iload X dX1_isOfHouse_52 2 rfl ?_
        refine g_iconst X (v := (1 : Int32)) dX1_isOfHouse_54 (by decide) ?_
        obtain ⟨J10, hjJ10, h⟩ := h
        have jp10 : ∀ (y11 : Int32), J10 y11 → Gw l G L0 p e rm_X1_isOfHouse s m args below meth c 6 (0) (0) (MQ below (gQi G L0 Q) args s rm_X1_isOfHouse.cells rm_X1_isOfHouse.slots (GA L0)) w 63 [] [.int y11] := by
          intro y11 hJ
          have h := hjJ10 y11 hJ
          clear hJ
          exact g_zret X hr (by decide +kernel) (by decide +kernel) dX1_isOfHouse_63 h.1 h.2
        refine g_icmp_gt X (tgt := 62) dX1_isOfHouse_55 (by decide) (fun hc => ?_) (fun hc => ?_)
        · replace h := h.1 hc; clear hc
          refine g_iconst X (v := (0 : Int32)) dX1_isOfHouse_62 (by decide) ?_
          exact g_sub [] [] rfl (jp10 (0 : Int32) h)
        · replace h := h.2 hc; clear hc
          refine g_iconst X (v := (1 : Int32)) dX1_isOfHouse_58 (by decide) ?_
          refine g_goto X (tgt := 63) dX1_isOfHouse_59 (by decide) ?_
          exact g_sub [] [] rfl (jp10 (1 : Int32) h)
      · replace h := h.2 hc; clear hc
        refine g_iload_n X dX1_isOfHouse_22 rfl 0 rfl ?_
        refine g_bipush X (v := (10 : Int32)) dX1_isOfHouse_23 (by decide) ?_
        refine g_irem X dX1_isOfHouse_25 h.1 (fun v12 hv => ?_)
        replace h := h.2 v12 hv; clear hv
        refine g_iload_n X dX1_isOfHouse_26 rfl 1 rfl ?_
        refine g_bipush X (v := (10 : Int32)) dX1_isOfHouse_27 (by decide) ?_
        refine g_irem X dX1_isOfHouse_29 h.1 (fun v13 hv => ?_)
        replace h := h.2 v13 hv; clear hv
        obtain ⟨J14, hjJ14, h⟩ := h
        have jp14 : ∀ (y15 : Int32), J14 y15 → Gw l G L0 p e rm_X1_isOfHouse s m args below meth c 6 (0) (0) (MQ below (gQi G L0 Q) args s rm_X1_isOfHouse.cells rm_X1_isOfHouse.slots (GA L0)) w 36 [(2, .inl y6), (3, .inl y7), (4, .inl y15), (5, .inl y9)] [] := by
          intro y15 hJ
          have h := hjJ14 y15 hJ
          clear hJ
          refine g_iload_n X dX1_isOfHouse_36 rfl 0 rfl ?_
          refine g_bipush X (v := (10 : Int32)) dX1_isOfHouse_37 (by decide) ?_
          refine g_idiv X dX1_isOfHouse_39 h.1 (fun v16 hv => ?_)
          replace h := h.2 v16 hv; clear hv
          refine g_istore_n X [(2, .inl v16), (3, .inl y7), (4, .inl y15), (5, .inl y9)] dX1_isOfHouse_40 rfl (by decide) rfl ?_
          refine g_iload_n X dX1_isOfHouse_41 rfl 1 rfl ?_
          refine g_bipush X (v := (10 : Int32)) dX1_isOfHouse_42 (by decide) ?_
          refine g_idiv X dX1_isOfHouse_44 h.1 (fun v17 hv => ?_)
          replace h := h.2 v17 hv; clear hv
          refine g_istore_n X [(3, .inl v17), (2, .inl v16), (4, .inl y15), (5, .inl y9)] dX1_isOfHouse_45 rfl (by decide) rfl ?_
          refine g_iinc X dX1_isOfHouse_46 3 rfl (d := (1 : Int32)) (by decide) (by decide) (fun v18 hv => ?_)
          replace h := h v18 hv; clear hv
          refine g_sub [0, 1, 2, 3] [(5, .inl v18), (3, .inl v17), (2, .inl v16), (4, .inl y15)] rfl ?_
          refine g_goto X (tgt := 16) dX1_isOfHouse_49 (by decide) ?_
          obtain ⟨n, hn, hI⟩ := h
          exact g_sub [2, 1, 3, 0] [(2, .inl v16), (3, .inl v17), (4, .inl y15), (5, .inl v18)] rfl (ihn4 n hn v16 v17 y15 v18 hI)
        refine g_icmp_eq X (tgt := 36) dX1_isOfHouse_30 (by decide) (fun hc => ?_) (fun hc => ?_)
        · replace h := h.1 hc; clear hc
          exact g_sub [0, 1, 2, 3] [(2, .inl y6), (3, .inl y7), (4, .inl y8), (5, .inl y9)] rfl (jp14 y8 h)
        · replace h := h.2 hc; clear hc
          refine g_iinc X dX1_isOfHouse_33 2 rfl (d := (1 : Int32)) (by decide) (by decide) (fun v19 hv => ?_)
          replace h := h v19 hv; clear hv
          refine g_sub [0, 1, 2, 3] [(4, .inl v19), (2, .inl y6), (3, .inl y7), (5, .inl y9)] rfl ?_
          exact g_sub [1, 2, 0, 3] [(2, .inl y6), (3, .inl y7), (4, .inl v19), (5, .inl y9)] rfl (jp14 v19 h)
  exact g_sub [3, 2, 1, 0] [(2, .inl v1), (3, .inl v3), (4, .inl (0 : Int32)), (5, .inl (0 : Int32))] rfl (lp5 n0 v1 v3 (0 : Int32) (0 : Int32) hi)

abbrev rm_X1_takeLoan : Room := { frames := 2, cells := 0, slots := 0, locals := 121 }
def wp_X1_takeLoan (a0 : Nat) (x1 : Int32) (r2 : Option Nat) (r3 : Option Nat) (w : Wd) (Q : Wd → Prop) : Prop :=
  w.K a0 = 2 ∧
  ∀ w1 : Wd, w1 = w.setI 206 a0 x1 →
  w1.K a0 = 2 ∧
  ∀ w2 : Wd, w2 = w1.setI 207 a0 (0 : Int32) →
  w2.K a0 = 2 ∧
  ∀ w3 : Wd, w3 = w2.setR 208 a0 r2 →
  w3.K a0 = 2 ∧
  ∀ w4 : Wd, w4 = w3.setR 209 a0 r3 →
  w4.K a0 = 2 ∧
  wp_X1_getOut a0 x1 w4 (fun w5 => 
  Q w5)
set_option maxHeartbeats 4000000 in
set_option maxRecDepth 100000 in
theorem c_X1_takeLoan {l : Launch} {G : GT} {L0 : Nat} (hst : l.stackTraces = false) {a0 : Nat} {x1 : Int32} {r2 : Option Nat} {r3 : Option Nat} {w : Wd} {Q : Wd → Prop} (h : wp_X1_takeLoan a0 x1 r2 r3 w Q) : GMv l G L0 yX1_takeLoan cX1_takeLoan 4 none rm_X1_takeLoan [.ref a0, .int x1, va_rf r2, va_rf r3] w Q := by
  refine g_enter hst (by decide +kernel) [.inr (some a0), .inl x1, .inr r2, .inr r3] rfl (show 4 ≤ 4 by decide) ?_
  intro p e s m args below meth c X hr hnm
  replace X : GC l G L0 p s m args meth c cX1_takeLoan 4 "SusuRing$Person" := X
  refine g_aload_n X dX1_takeLoan_0 rfl 0 rfl ?_
  refine g_iload_n X dX1_takeLoan_1 rfl 1 rfl ?_
  have hk := h.1
  replace h := h.2
  refine gp_206 X hk m_195 dX1_takeLoan_2 (fun w1 hv => ?_)
  replace h := h w1 hv; clear hv hk
  refine g_aload_n X dX1_takeLoan_5 rfl 0 rfl ?_
  refine g_iconst X (v := (0 : Int32)) dX1_takeLoan_6 (by decide) ?_
  have hk := h.1
  replace h := h.2
  refine gp_207 X hk m_197 dX1_takeLoan_7 (fun w2 hv => ?_)
  replace h := h w2 hv; clear hv hk
  refine g_aload_n X dX1_takeLoan_10 rfl 0 rfl ?_
  refine g_aload_n X dX1_takeLoan_11 rfl 2 rfl ?_
  have hk := h.1
  replace h := h.2
  refine gp_208 X hk m_199 dX1_takeLoan_12 (fun w3 hv => ?_)
  replace h := h w3 hv; clear hv hk
  refine g_aload_n X dX1_takeLoan_15 rfl 0 rfl ?_
  refine g_aload_n X dX1_takeLoan_16 rfl 3 rfl ?_
  have hk := h.1
  replace h := h.2
  refine gp_209 X hk m_201 dX1_takeLoan_17 (fun w4 hv => ?_)
  replace h := h w4 hv; clear hv hk
  refine g_aload_n X dX1_takeLoan_20 rfl 0 rfl ?_
  refine g_iload_n X dX1_takeLoan_21 rfl 1 rfl ?_
  have hk := h.1
  replace h := h.2
  refine g_callV_v X (As := [.int x1]) (st := []) (n := 1) (c_X1_getOut hst h) rfl (by decide) hk (wE_2 G w4 a0) m_690 m_638 m_639 m_29 m_640 (by decide +kernel) (by decide +kernel) rfl rfl (Nat.zero_le _) ⟨(by decide +kernel), (by decide +kernel)⟩ dX1_takeLoan_22 (fun w5 h => ?_)
  clear hk
  refine g_widen (c2 := (0)) (s2 := (0)) (by decide +kernel) (by decide +kernel) ?_
  exact g_vret X hr (by decide +kernel) (by decide +kernel) dX1_takeLoan_25 h

abbrev rm_X1_ageLoan : Room := { frames := 1, cells := 0, slots := 0, locals := 100 }
def wp_X1_ageLoan (a0 : Nat) (w : Wd) (Q : Wd → Prop) : Prop :=
  w.K a0 = 2 ∧
  ∀ v1 : Int32, v1 = w.I 206 a0 →
  w.K a0 = 2 ∧
  ∀ v2 : Int32, v2 = w.I 206 a0 →
  ∀ v3 : Int32, v3 = v2 + (19 : Int32) →
  ¬ (20 : Int32) = 0 ∧ ∀ v4 : Int32, v4 = v3 / (20 : Int32) →
  ∀ v5 : Int32, v5 = v1 + v4 →
  w.K a0 = 2 ∧
  ∀ w6 : Wd, w6 = w.setI 206 a0 v5 →
  w6.K a0 = 2 ∧
  ∀ v7 : Int32, v7 = w6.I 207 a0 →
  ∀ v8 : Int32, v8 = v7 + (1 : Int32) →
  w6.K a0 = 2 ∧
  ∀ w9 : Wd, w9 = w6.setI 207 a0 v8 →
  Q w9
set_option maxHeartbeats 4000000 in
set_option maxRecDepth 100000 in
theorem c_X1_ageLoan {l : Launch} {G : GT} {L0 : Nat} (hst : l.stackTraces = false) {a0 : Nat} {w : Wd} {Q : Wd → Prop} (h : wp_X1_ageLoan a0 w Q) : GMv l G L0 yX1_ageLoan cX1_ageLoan 1 none rm_X1_ageLoan [.ref a0] w Q := by
  refine g_enter hst (by decide +kernel) [.inr (some a0)] rfl (show 1 ≤ 1 by decide) ?_
  intro p e s m args below meth c X hr hnm
  replace X : GC l G L0 p s m args meth c cX1_ageLoan 1 "SusuRing$Person" := X
  refine g_aload_n X dX1_ageLoan_0 rfl 0 rfl ?_
  refine g_dup X dX1_ageLoan_1 rf_cat ?_
  have hk := h.1
  replace h := h.2
  refine gg_206 X hk m_195 dX1_ageLoan_2 (fun v1 hv => ?_)
  replace h := h v1 hv; clear hv hk
  refine g_aload_n X dX1_ageLoan_5 rfl 0 rfl ?_
  have hk := h.1
  replace h := h.2
  refine gg_206 X hk m_195 dX1_ageLoan_6 (fun v2 hv => ?_)
  replace h := h v2 hv; clear hv hk
  refine g_bipush X (v := (19 : Int32)) dX1_ageLoan_9 (by decide) ?_
  refine g_iadd X dX1_ageLoan_11 (fun v3 hv => ?_)
  replace h := h v3 hv; clear hv
  refine g_bipush X (v := (20 : Int32)) dX1_ageLoan_12 (by decide) ?_
  refine g_idiv X dX1_ageLoan_14 h.1 (fun v4 hv => ?_)
  replace h := h.2 v4 hv; clear hv
  refine g_iadd X dX1_ageLoan_15 (fun v5 hv => ?_)
  replace h := h v5 hv; clear hv
  have hk := h.1
  replace h := h.2
  refine gp_206 X hk m_195 dX1_ageLoan_16 (fun w6 hv => ?_)
  replace h := h w6 hv; clear hv hk
  refine g_aload_n X dX1_ageLoan_19 rfl 0 rfl ?_
  refine g_dup X dX1_ageLoan_20 rf_cat ?_
  have hk := h.1
  replace h := h.2
  refine gg_207 X hk m_197 dX1_ageLoan_21 (fun v7 hv => ?_)
  replace h := h v7 hv; clear hv hk
  refine g_iconst X (v := (1 : Int32)) dX1_ageLoan_24 (by decide) ?_
  refine g_iadd X dX1_ageLoan_25 (fun v8 hv => ?_)
  replace h := h v8 hv; clear hv
  have hk := h.1
  replace h := h.2
  refine gp_207 X hk m_197 dX1_ageLoan_26 (fun w9 hv => ?_)
  replace h := h w9 hv; clear hv hk
  exact g_vret X hr (by decide +kernel) (by decide +kernel) dX1_ageLoan_29 h

abbrev rm_X1_bequeath : Room := { frames := 2, cells := 0, slots := 0, locals := 120 }
def wp_X1_bequeath (a0 : Nat) (r1 : Option Nat) (w : Wd) (Q : Wd → Prop) : Prop :=
  ∃ a1, r1 = some a1 ∧ w.K a1 = 2 ∧
  ∀ v2 : Int32, v2 = w.I 204 a1 →
  w.K a0 = 2 ∧
  ∀ v3 : Int32, v3 = w.I 204 a0 →
  ∀ v4 : Int32, v4 = v2 + v3 →
  w.K a1 = 2 ∧
  ∀ w5 : Wd, w5 = w.setI 204 a1 v4 →
  w5.K a1 = 2 ∧
  ∀ v6 : Int32, v6 = w5.I 205 a1 →
  w5.K a0 = 2 ∧
  ∀ v7 : Int32, v7 = w5.I 205 a0 →
  ∀ v8 : Int32, v8 = v6 + v7 →
  w5.K a1 = 2 ∧
  ∀ w9 : Wd, w9 = w5.setI 205 a1 v8 →
  w9.K a1 = 2 ∧
  wp_X1_hasLoan a1 w9 (fun v11 w10 => 
  ∃ J12 : Wd → Prop, (∀  (w13 : Wd), J12 w13 →
  w13.K a1 = 2 ∧
  ∀ v14 : Int32, v14 = w13.I 206 a1 →
  w13.K a0 = 2 ∧
  ∀ v15 : Int32, v15 = w13.I 206 a0 →
  ∀ v16 : Int32, v16 = v14 + v15 →
  w13.K a1 = 2 ∧
  ∀ w17 : Wd, w17 = w13.setI 206 a1 v16 →
  w17.K a0 = 2 ∧
  ∀ w18 : Wd, w18 = w17.setI 204 a0 (0 : Int32) →
  w18.K a0 = 2 ∧
  ∀ w19 : Wd, w19 = w18.setI 205 a0 (0 : Int32) →
  w19.K a0 = 2 ∧
  ∀ w20 : Wd, w20 = w19.setI 206 a0 (0 : Int32) →
  w20.K a0 = 2 ∧
  ((1 : Int32) = 0 ∨ (1 : Int32) = 1) ∧
  ∀ w21 : Wd, w21 = w20.setI 212 a0 (1 : Int32) →
  Q w21) ∧
  (¬ v11 = 0 → J12 w10) ∧ (v11 = 0 → w10.K a0 = 2 ∧
  ∀ v22 : Int32, v22 = w10.I 207 a0 →
  w10.K a1 = 2 ∧
  ∀ w23 : Wd, w23 = w10.setI 207 a1 v22 →
  w23.K a0 = 2 ∧
  ∀ z24 : Option Nat, z24 = w23.R 208 a0 →
  w23.K a1 = 2 ∧
  ∀ w25 : Wd, w25 = w23.setR 208 a1 z24 →
  w25.K a0 = 2 ∧
  ∀ z26 : Option Nat, z26 = w25.R 209 a0 →
  w25.K a1 = 2 ∧
  ∀ w27 : Wd, w27 = w25.setR 209 a1 z26 →
  J12 w27))
set_option maxHeartbeats 4000000 in
set_option maxRecDepth 100000 in
theorem c_X1_bequeath {l : Launch} {G : GT} {L0 : Nat} (hst : l.stackTraces = false) {a0 : Nat} {r1 : Option Nat} {w : Wd} {Q : Wd → Prop} (h : wp_X1_bequeath a0 r1 w Q) : GMv l G L0 yX1_bequeath cX1_bequeath 2 none rm_X1_bequeath [.ref a0, va_rf r1] w Q := by
  refine g_enter hst (by decide +kernel) [.inr (some a0), .inr r1] rfl (show 2 ≤ 2 by decide) ?_
  intro p e s m args below meth c X hr hnm
  replace X : GC l G L0 p s m args meth c cX1_bequeath 2 "SusuRing$Person" := X
  refine g_aload_n X dX1_bequeath_0 rfl 1 rfl ?_
  refine g_dup X dX1_bequeath_1 rf_cat ?_
  obtain ⟨a1, rfl, hk, h⟩ := h
  refine gg_204 X hk m_191 dX1_bequeath_2 (fun v2 hv => ?_)
  replace h := h v2 hv; clear hv hk
  refine g_aload_n X dX1_bequeath_5 rfl 0 rfl ?_
  have hk := h.1
  replace h := h.2
  refine gg_204 X hk m_191 dX1_bequeath_6 (fun v3 hv => ?_)
  replace h := h v3 hv; clear hv hk
  refine g_iadd X dX1_bequeath_9 (fun v4 hv => ?_)
  replace h := h v4 hv; clear hv
  have hk := h.1
  replace h := h.2
  refine gp_204 X hk m_191 dX1_bequeath_10 (fun w5 hv => ?_)
  replace h := h w5 hv; clear hv hk
  refine g_aload_n X dX1_bequeath_13 rfl 1 rfl ?_
  refine g_dup X dX1_bequeath_14 rf_cat ?_
  have hk := h.1
  replace h := h.2
  refine gg_205 X hk m_193 dX1_bequeath_15 (fun v6 hv => ?_)
  replace h := h v6 hv; clear hv hk
  refine g_aload_n X dX1_bequeath_18 rfl 0 rfl ?_
  have hk := h.1
  replace h := h.2
  refine gg_205 X hk m_193 dX1_bequeath_19 (fun v7 hv => ?_)
  replace h := h v7 hv; clear hv hk
  refine g_iadd X dX1_bequeath_22 (fun v8 hv => ?_)
  replace h := h v8 hv; clear hv
  have hk := h.1
  replace h := h.2
  refine gp_205 X hk m_193 dX1_bequeath_23 (fun w9 hv => ?_)
  replace h := h w9 hv; clear hv hk
  refine g_aload_n X dX1_bequeath_26 rfl 1 rfl ?_
  have hk := h.1
  replace h := h.2
  refine g_callV_i X (As := []) (st := []) (n := 0) (c_X1_hasLoan hst h) rfl (by decide) hk (wE_2 G w9 a1) m_499 m_377 m_378 m_29 m_379 (by decide +kernel) (by decide +kernel) rfl rfl (Nat.zero_le _) ⟨(by decide +kernel), (by decide +kernel)⟩ dX1_bequeath_27 (fun v11 w10 h => ?_)
  clear hk
  refine g_widen (c2 := (0)) (s2 := (0)) (by decide +kernel) (by decide +kernel) ?_
  obtain ⟨J12, hjJ12, h⟩ := h
  have jp12 : ∀  (w13 : Wd), J12 w13 → Gw l G L0 p e rm_X1_bequeath s m args below meth c 2 (0) (0) (MQ below (gQv G L0 Q) args s rm_X1_bequeath.cells rm_X1_bequeath.slots (GA L0)) w13 57 [(0, .inr (some a0)), (1, .inr (some a1))] [] := by
    intro w13 hJ
    have h := hjJ12 w13 hJ
    clear hJ
    refine g_aload_n X dX1_bequeath_57 rfl 1 rfl ?_
    refine g_dup X dX1_bequeath_58 rf_cat ?_
    have hk := h.1
    replace h := h.2
    refine gg_206 X hk m_195 dX1_bequeath_59 (fun v14 hv => ?_)
    replace h := h v14 hv; clear hv hk
    refine g_aload_n X dX1_bequeath_62 rfl 0 rfl ?_
    have hk := h.1
    replace h := h.2
    refine gg_206 X hk m_195 dX1_bequeath_63 (fun v15 hv => ?_)
    replace h := h v15 hv; clear hv hk
    refine g_iadd X dX1_bequeath_66 (fun v16 hv => ?_)
    replace h := h v16 hv; clear hv
    have hk := h.1
    replace h := h.2
    refine gp_206 X hk m_195 dX1_bequeath_67 (fun w17 hv => ?_)
    replace h := h w17 hv; clear hv hk
    refine g_aload_n X dX1_bequeath_70 rfl 0 rfl ?_
    refine g_iconst X (v := (0 : Int32)) dX1_bequeath_71 (by decide) ?_
    have hk := h.1
    replace h := h.2
    refine gp_204 X hk m_191 dX1_bequeath_72 (fun w18 hv => ?_)
    replace h := h w18 hv; clear hv hk
    refine g_aload_n X dX1_bequeath_75 rfl 0 rfl ?_
    refine g_iconst X (v := (0 : Int32)) dX1_bequeath_76 (by decide) ?_
    have hk := h.1
    replace h := h.2
    refine gp_205 X hk m_193 dX1_bequeath_77 (fun w19 hv => ?_)
    replace h := h w19 hv; clear hv hk
    refine g_aload_n X dX1_bequeath_80 rfl 0 rfl ?_
    refine g_iconst X (v := (0 : Int32)) dX1_bequeath_81 (by decide) ?_
    have hk := h.1
    replace h := h.2
    refine gp_206 X hk m_195 dX1_bequeath_82 (fun w20 hv => ?_)
    replace h := h w20 hv; clear hv hk
    refine g_aload_n X dX1_bequeath_85 rfl 0 rfl ?_
    refine g_iconst X (v := (1 : Int32)) dX1_bequeath_86 (by decide) ?_
    have hk := h.1
    replace h := h.2
    have hz := h.1
    replace h := h.2
    refine gp_212 X hk hz m_206 dX1_bequeath_87 (fun w21 hv => ?_)
    replace h := h w21 hv; clear hv hk
    exact g_vret X hr (by decide +kernel) (by decide +kernel) dX1_bequeath_90 h
  refine g_if_ne X (tgt := 57) dX1_bequeath_30 (by decide) (fun hc => ?_) (fun hc => ?_)
  · replace h := h.1 hc; clear hc
    exact g_sub [0, 1] [(0, .inr (some a0)), (1, .inr (some a1))] rfl (jp12 w10 h)
  · replace h := h.2 hc; clear hc
    refine g_aload_n X dX1_bequeath_33 rfl 1 rfl ?_
    refine g_aload_n X dX1_bequeath_34 rfl 0 rfl ?_
    have hk := h.1
    replace h := h.2
    refine gg_207 X hk m_197 dX1_bequeath_35 (fun v22 hv => ?_)
    replace h := h v22 hv; clear hv hk
    have hk := h.1
    replace h := h.2
    refine gp_207 X hk m_197 dX1_bequeath_38 (fun w23 hv => ?_)
    replace h := h w23 hv; clear hv hk
    refine g_aload_n X dX1_bequeath_41 rfl 1 rfl ?_
    refine g_aload_n X dX1_bequeath_42 rfl 0 rfl ?_
    have hk := h.1
    replace h := h.2
    refine gg_208 X hk m_199 dX1_bequeath_43 (fun z24 hv => ?_)
    replace h := h z24 hv; clear hv hk
    have hk := h.1
    replace h := h.2
    refine gp_208 X hk m_199 dX1_bequeath_46 (fun w25 hv => ?_)
    replace h := h w25 hv; clear hv hk
    refine g_aload_n X dX1_bequeath_49 rfl 1 rfl ?_
    refine g_aload_n X dX1_bequeath_50 rfl 0 rfl ?_
    have hk := h.1
    replace h := h.2
    refine gg_209 X hk m_201 dX1_bequeath_51 (fun z26 hv => ?_)
    replace h := h z26 hv; clear hv hk
    have hk := h.1
    replace h := h.2
    refine gp_209 X hk m_201 dX1_bequeath_54 (fun w27 hv => ?_)
    replace h := h w27 hv; clear hv hk
    exact g_sub [0, 1] [(0, .inr (some a0)), (1, .inr (some a1))] rfl (jp12 w27 h)

abbrev rm_X2_init : Room := { frames := 1, cells := 0, slots := 0, locals := 100 }
def wp_X2_init (a0 : Nat) (r1 : Option Nat) (w : Wd) (Q : Wd → Prop) : Prop :=
  w.K a0 = 3 ∧
  ∀ w1 : Wd, w1 = w.setR 300 a0 r1 →
  Q w1
set_option maxHeartbeats 4000000 in
set_option maxRecDepth 100000 in
theorem c_X2_init {l : Launch} {G : GT} {L0 : Nat} (hst : l.stackTraces = false) {a0 : Nat} {r1 : Option Nat} {w : Wd} {Q : Wd → Prop} (h : wp_X2_init a0 r1 w Q) : GMv l G L0 yX2_init cX2_init 2 none rm_X2_init [.ref a0, va_rf r1] w Q := by
  refine g_enter hst (by decide +kernel) [.inr (some a0), .inr r1] rfl (show 2 ≤ 2 by decide) ?_
  intro p e s m args below meth c X hr hnm
  replace X : GC l G L0 p s m args meth c cX2_init 2 "SusuRing$Place" := X
  refine g_aload_n X dX2_init_0 rfl 0 rfl ?_
  refine g_objInit X m_543 m_40 m_41 (by decide) (by decide +kernel) dX2_init_1 ?_
  refine g_aload_n X dX2_init_4 rfl 0 rfl ?_
  refine g_aload_n X dX2_init_5 rfl 1 rfl ?_
  have hk := h.1
  replace h := h.2
  refine gp_300 X hk m_544 dX2_init_6 (fun w1 hv => ?_)
  replace h := h w1 hv; clear hv hk
  exact g_vret X hr (by decide +kernel) (by decide +kernel) dX2_init_9 h

abbrev rm_X2_changeNeed : Room := { frames := 1, cells := 0, slots := 0, locals := 100 }
def wp_X2_changeNeed (a0 : Nat) (x1 : Int32) (w : Wd) (Q : Int32 → Wd → Prop) : Prop :=
  w.K a0 = 3 ∧
  ∀ v1 : Int32, v1 = w.I 302 a0 →
  w.K a0 = 3 ∧
  ∀ w2 : Wd, w2 = w.setI 302 a0 x1 →
  Q v1 w2
set_option maxHeartbeats 4000000 in
set_option maxRecDepth 100000 in
theorem c_X2_changeNeed {l : Launch} {G : GT} {L0 : Nat} (hst : l.stackTraces = false) {a0 : Nat} {x1 : Int32} {w : Wd} {Q : Int32 → Wd → Prop} (h : wp_X2_changeNeed a0 x1 w Q) : GMi l G L0 yX2_changeNeed cX2_changeNeed 3 (some .int) rm_X2_changeNeed [.ref a0, .int x1] w Q := by
  refine g_enter hst (by decide +kernel) [.inr (some a0), .inl x1] rfl (show 2 ≤ 3 by decide) ?_
  intro p e s m args below meth c X hr hnm
  replace X : GC l G L0 p s m args meth c cX2_changeNeed 3 "SusuRing$Place" := X
  refine g_aload_n X dX2_changeNeed_0 rfl 0 rfl ?_
  have hk := h.1
  replace h := h.2
  refine gg_302 X hk m_549 dX2_changeNeed_1 (fun v1 hv => ?_)
  replace h := h v1 hv; clear hv hk
  refine g_istore_n X [(2, .inl v1), (0, .inr (some a0)), (1, .inl x1)] dX2_changeNeed_4 rfl (by decide) rfl ?_
  refine g_aload_n X dX2_changeNeed_5 rfl 1 rfl ?_
  refine g_iload_n X dX2_changeNeed_6 rfl 2 rfl ?_
  have hk := h.1
  replace h := h.2
  refine gp_302 X hk m_549 dX2_changeNeed_7 (fun w2 hv => ?_)
  replace h := h w2 hv; clear hv hk
  refine g_iload_n X dX2_changeNeed_10 rfl 0 rfl ?_
  exact g_iret X hr (by decide +kernel) (by decide +kernel) dX2_changeNeed_11 h

abbrev rm_X2_changeBid : Room := { frames := 1, cells := 0, slots := 0, locals := 100 }
def wp_X2_changeBid (a0 : Nat) (x1 : Int32) (w : Wd) (Q : Int32 → Wd → Prop) : Prop :=
  w.K a0 = 3 ∧
  ∀ v1 : Int32, v1 = w.I 303 a0 →
  w.K a0 = 3 ∧
  ∀ w2 : Wd, w2 = w.setI 303 a0 x1 →
  Q v1 w2
set_option maxHeartbeats 4000000 in
set_option maxRecDepth 100000 in
theorem c_X2_changeBid {l : Launch} {G : GT} {L0 : Nat} (hst : l.stackTraces = false) {a0 : Nat} {x1 : Int32} {w : Wd} {Q : Int32 → Wd → Prop} (h : wp_X2_changeBid a0 x1 w Q) : GMi l G L0 yX2_changeBid cX2_changeBid 3 (some .int) rm_X2_changeBid [.ref a0, .int x1] w Q := by
  refine g_enter hst (by decide +kernel) [.inr (some a0), .inl x1] rfl (show 2 ≤ 3 by decide) ?_
  intro p e s m args below meth c X hr hnm
  replace X : GC l G L0 p s m args meth c cX2_changeBid 3 "SusuRing$Place" := X
  refine g_aload_n X dX2_changeBid_0 rfl 0 rfl ?_
  have hk := h.1
  replace h := h.2
  refine gg_303 X hk m_550 dX2_changeBid_1 (fun v1 hv => ?_)
  replace h := h v1 hv; clear hv hk
  refine g_istore_n X [(2, .inl v1), (0, .inr (some a0)), (1, .inl x1)] dX2_changeBid_4 rfl (by decide) rfl ?_
  refine g_aload_n X dX2_changeBid_5 rfl 1 rfl ?_
  refine g_iload_n X dX2_changeBid_6 rfl 2 rfl ?_
  have hk := h.1
  replace h := h.2
  refine gp_303 X hk m_550 dX2_changeBid_7 (fun w2 hv => ?_)
  replace h := h w2 hv; clear hv hk
  refine g_iload_n X dX2_changeBid_10 rfl 0 rfl ?_
  exact g_iret X hr (by decide +kernel) (by decide +kernel) dX2_changeBid_11 h
