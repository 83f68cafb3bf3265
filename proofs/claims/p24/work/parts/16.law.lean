abbrev rm_L_law : Room := room_1
def wpc_1709 (L : Nat) (xs : Nat → Int32) (q1 : Nat) (y29 : Int32) (w31 : Wd) : Prop :=
  ∃ J32 : Int32 → Wd → Prop, (∀ (y33 : Int32) (w34 : Wd), J32 y33 w34 →
  ∃ J35 : Int32 → Wd → Prop, (∀ (y36 : Int32) (w37 : Wd), J35 y36 w37 →
  y36 = 1) ∧
  ∃ J38 : Wd → Prop, (∀  (w39 : Wd), J38 w39 →
  J35 (0 : Int32) w39) ∧
  (y33 = 0 → J38 w34) ∧ (¬ y33 = 0 → w34.K q1 = 4 ∧
  wp_X3_note q1 (1 : Int32) (2 : Int32) (-3 : Int32) w34 (fun v41 w40 => 
  w40.K q1 = 4 ∧
  wp_X3_of q1 (2 : Int32) (4 : Int32) w40 (fun v43 w42 => 
  ∀ v44 : Int32, v44 = v43 - (3 : Int32) →
  (¬ v41 = v44 → J38 w42) ∧ (v41 = v44 → w42.K q1 = 4 ∧
  wp_X3_audit q1 (1 : Int32) w42 (fun v46 w45 => 
  (¬ v46 = (2 : Int32) → J38 w45) ∧ (v46 = (2 : Int32) → J35 (1 : Int32) w45)) (fun _ _ => False))) (fun _ _ => False)) (fun _ _ => False))) ∧
  ∃ J47 : Wd → Prop, (∀  (w48 : Wd), J47 w48 →
  J32 (0 : Int32) w48) ∧
  (y29 = 0 → J47 w31) ∧ (¬ y29 = 0 → w31.K q1 = 4 ∧
  wp_X3_audit q1 (1 : Int32) w31 (fun v50 w49 => 
  (¬ v50 = (-1 : Int32) → J47 w49) ∧ (v50 = (-1 : Int32) → w49.K q1 = 4 ∧
  wp_X3_note q1 (1 : Int32) (5 : Int32) (1 : Int32) w49 (fun v52 w51 => 
  w51.K q1 = 4 ∧
  wp_X3_of q1 (5 : Int32) (4 : Int32) w51 (fun v54 w53 => 
  ∀ v55 : Int32, v55 = v54 + (1 : Int32) →
  (¬ v52 = v55 → J47 w53) ∧ (v52 = v55 → w53.K q1 = 4 ∧
  wp_X3_audit q1 (1 : Int32) w53 (fun v57 w56 => 
  (¬ v57 = (5 : Int32) → J47 w56) ∧ (v57 = (5 : Int32) → J32 (1 : Int32) w56)) (fun _ _ => False))) (fun _ _ => False)) (fun _ _ => False))) (fun _ _ => False))
set_option maxHeartbeats 8000000 in
set_option maxRecDepth 100000 in
theorem q_1709 {p : Program} {e : Env} {s : State} {m : MethodId} {below : List Frame} {meth : Method} {c : Code} {l : Launch} {G : GT} {L0 b L : Nat} {xs : Nat → Int32} (hst : l.stackTraces = false) (hL0 : L0 = s.heap.size) (X : GC l G L0 p s m #[Value.ref b] meth c code 16 "SusuRingLaw") (hr : meth.sig.returnType = ret) (hX : va_X b L xs s s.heap) (hb : b < s.heap.size) (hbA : ¬ GA L0 b) (hLL : L < 2 ^ 31) {q1 : Nat} {n27 : Nat} {y29 : Int32} {y30 : Int32} {w31 : Wd} (hnbn27 : n27 ≤ 51) (h : wpc_1709 L xs q1 y29 w31) : Gw l G L0 p e rm_L_law s m #[Value.ref b] below meth c 16 (47450 + (51 - n27) * 9 + 0) (702409 + (51 - n27) * 54 + 0) (lw_Z below #[Value.ref b] s) w31 1709 [(1, .inr (some q1)), (3, .inl y29), (4, .inl y30)] [] := by
  refine g_iload_n X dL_law_1709 rfl 1 rfl ?_
  obtain ⟨J32, hjJ32, h⟩ := h
  have jp32 : ∀ (y33 : Int32) (w34 : Wd), J32 y33 w34 → Gw l G L0 p e rm_L_law s m #[Value.ref b] below meth c 16 (47450 + (51 - n27) * 9 + 7) (702409 + (51 - n27) * 54 + 42) (lw_Z below #[Value.ref b] s) w34 1754 [(1, .inr (some q1))] [.int y33] := by
    intro y33 w34 hJ
    have h := hjJ32 y33 w34 hJ
    clear hJ
    refine g_istore_n X [(3, .inl y33), (1, .inr (some q1))] dL_law_1754 rfl (by decide) rfl ?_
    refine g_iload_n X dL_law_1755 rfl 0 rfl ?_
    obtain ⟨J35, hjJ35, h⟩ := h
    have jp35 : ∀ (y36 : Int32) (w37 : Wd), J35 y36 w37 → Gw l G L0 p e rm_L_law s m #[Value.ref b] below meth c 16 (47450 + (51 - n27) * 9 + 13) (702409 + (51 - n27) * 54 + 78) (lw_Z below #[Value.ref b] s) w37 1792 [] [.int y36] := by
      intro y36 w37 hJ
      have h := hjJ35 y36 w37 hJ
      clear hJ
      exact g_lawret X hL0 hr (by have e1 : rm_L_law.cells = 1097659 := rfl; have e2 : rm_L_law.slots = 5808648 := rfl; omega) (by have e1 : rm_L_law.cells = 1097659 := rfl; have e2 : rm_L_law.slots = 5808648 := rfl; omega) dL_law_1792 h
    obtain ⟨J38, hjJ38, h⟩ := h
    have jp38 : ∀  (w39 : Wd), J38 w39 → Gw l G L0 p e rm_L_law s m #[Value.ref b] below meth c 16 (47450 + (51 - n27) * 9 + 13) (702409 + (51 - n27) * 54 + 78) (lw_Z below #[Value.ref b] s) w39 1791 [] [] := by
      intro w39 hJ
      have h := hjJ38 w39 hJ
      clear hJ
      refine g_iconst X (v := (0 : Int32)) dL_law_1791 (by decide) ?_
      exact g_sub [] [] rfl (jp35 (0 : Int32) w39 h)
    refine g_if_eq X (tgt := 1791) dL_law_1756 (by decide) (fun hc => ?_) (fun hc => ?_)
    · replace h := h.1 hc; clear hc
      refine g_widen (c2 := (47450 + (51 - n27) * 9 + 13)) (s2 := (702409 + (51 - n27) * 54 + 78)) (by omega) (by omega) ?_
      exact g_sub [] [] rfl (jp38 w34 h)
    · replace h := h.2 hc; clear hc
      refine g_aload_n X dL_law_1759 rfl 1 rfl ?_
      refine g_iconst X (v := (1 : Int32)) dL_law_1760 (by decide) ?_
      refine g_iconst X (v := (2 : Int32)) dL_law_1761 (by decide) ?_
      refine g_bipush X (v := (-3 : Int32)) dL_law_1762 (by decide) ?_
      have hk := h.1
      replace h := h.2
      refine g_callFV_i X (As := [.int (1 : Int32), .int (2 : Int32), .int (-3 : Int32)]) (st := []) (n := 3) (c_X3_note hst h) rfl (by decide) hk (wE_4 G w34 q1) m_401 m_402 m_403 m_15 m_404 (by decide +kernel) (by decide +kernel) rfl rfl (Nat.zero_le _) ⟨(by have e1 : rm_L_law.cells = 1097659 := rfl; have e2 : rm_L_law.slots = 5808648 := rfl; have e3 : rm_X3_note.cells = 3 := rfl; have e4 : rm_X3_note.slots = 18 := rfl; omega), (by have e1 : rm_L_law.cells = 1097659 := rfl; have e2 : rm_L_law.slots = 5808648 := rfl; have e3 : rm_X3_note.cells = 3 := rfl; have e4 : rm_X3_note.slots = 18 := rfl; omega)⟩ dL_law_1764 (fun v41 w40 h => ?_)
      clear hk
      refine g_widen (c2 := (47450 + (51 - n27) * 9 + 10)) (s2 := (702409 + (51 - n27) * 54 + 60)) (by have e1 : rm_X3_note.cells = 3 := rfl; omega) (by have e1 : rm_X3_note.slots = 18 := rfl; omega) ?_
      refine g_aload_n X dL_law_1767 rfl 1 rfl ?_
      refine g_iconst X (v := (2 : Int32)) dL_law_1768 (by decide) ?_
      refine g_iconst X (v := (4 : Int32)) dL_law_1769 (by decide) ?_
      have hk := h.1
      replace h := h.2
      refine g_callFV_i X (As := [.int (2 : Int32), .int (4 : Int32)]) (st := [.int v41]) (n := 2) (c_X3_of hst h) rfl (by decide) hk (wE_4 G w40 q1) m_410 m_411 m_412 m_15 m_413 (by decide +kernel) (by decide +kernel) rfl rfl (by simp [cat_int, rf_cat]) ⟨(by have e1 : rm_L_law.cells = 1097659 := rfl; have e2 : rm_L_law.slots = 5808648 := rfl; have e3 : rm_X3_of.cells = 2 := rfl; have e4 : rm_X3_of.slots = 12 := rfl; omega), (by have e1 : rm_L_law.cells = 1097659 := rfl; have e2 : rm_L_law.slots = 5808648 := rfl; have e3 : rm_X3_of.cells = 2 := rfl; have e4 : rm_X3_of.slots = 12 := rfl; omega)⟩ dL_law_1770 (fun v43 w42 h => ?_)
      clear hk
      refine g_widen (c2 := (47450 + (51 - n27) * 9 + 12)) (s2 := (702409 + (51 - n27) * 54 + 72)) (by have e1 : rm_X3_of.cells = 2 := rfl; omega) (by have e1 : rm_X3_of.slots = 12 := rfl; omega) ?_
      refine g_iconst X (v := (3 : Int32)) dL_law_1773 (by decide) ?_
      refine g_isub X dL_law_1774 (fun v44 hv => ?_)
      replace h := h v44 hv; clear hv
      refine g_icmp_ne X (tgt := 1791) dL_law_1775 (by decide) (fun hc => ?_) (fun hc => ?_)
      · replace h := h.1 hc; clear hc
        refine g_widen (c2 := (47450 + (51 - n27) * 9 + 13)) (s2 := (702409 + (51 - n27) * 54 + 78)) (by omega) (by omega) ?_
        exact g_sub [] [] rfl (jp38 w42 h)
      · replace h := h.2 hc; clear hc
        refine g_aload_n X dL_law_1778 rfl 1 rfl ?_
        refine g_iconst X (v := (1 : Int32)) dL_law_1779 (by decide) ?_
        have hk := h.1
        replace h := h.2
        refine g_callFV_i X (As := [.int (1 : Int32)]) (st := []) (n := 1) (c_X3_audit hst h) rfl (by decide) hk (wE_4 G w42 q1) m_406 m_407 m_408 m_15 m_409 (by decide +kernel) (by decide +kernel) rfl rfl (Nat.zero_le _) ⟨(by have e1 : rm_L_law.cells = 1097659 := rfl; have e2 : rm_L_law.slots = 5808648 := rfl; have e3 : rm_X3_audit.cells = 1 := rfl; have e4 : rm_X3_audit.slots = 6 := rfl; omega), (by have e1 : rm_L_law.cells = 1097659 := rfl; have e2 : rm_L_law.slots = 5808648 := rfl; have e3 : rm_X3_audit.cells = 1 := rfl; have e4 : rm_X3_audit.slots = 6 := rfl; omega)⟩ dL_law_1780 (fun v46 w45 h => ?_)
        clear hk
        refine g_widen (c2 := (47450 + (51 - n27) * 9 + 13)) (s2 := (702409 + (51 - n27) * 54 + 78)) (by have e1 : rm_X3_audit.cells = 1 := rfl; omega) (by have e1 : rm_X3_audit.slots = 6 := rfl; omega) ?_
        refine g_iconst X (v := (2 : Int32)) dL_law_1783 (by decide) ?_
        refine g_icmp_ne X (tgt := 1791) dL_law_1784 (by decide) (fun hc => ?_) (fun hc => ?_)
        · replace h := h.1 hc; clear hc
          exact g_sub [] [] rfl (jp38 w45 h)
        · replace h := h.2 hc; clear hc
          refine g_iconst X (v := (1 : Int32)) dL_law_1787 (by decide) ?_
          refine g_goto X (tgt := 1792) dL_law_1788 (by decide) ?_
          exact g_sub [] [] rfl (jp35 (1 : Int32) w45 h)
  obtain ⟨J47, hjJ47, h⟩ := h
  have jp47 : ∀  (w48 : Wd), J47 w48 → Gw l G L0 p e rm_L_law s m #[Value.ref b] below meth c 16 (47450 + (51 - n27) * 9 + 7) (702409 + (51 - n27) * 54 + 42) (lw_Z below #[Value.ref b] s) w48 1753 [(1, .inr (some q1))] [] := by
    intro w48 hJ
    have h := hjJ47 w48 hJ
    clear hJ
    refine g_iconst X (v := (0 : Int32)) dL_law_1753 (by decide) ?_
    exact g_sub [0] [(1, .inr (some q1))] rfl (jp32 (0 : Int32) w48 h)
  refine g_if_eq X (tgt := 1753) dL_law_1710 (by decide) (fun hc => ?_) (fun hc => ?_)
  · replace h := h.1 hc; clear hc
    refine g_widen (c2 := (47450 + (51 - n27) * 9 + 7)) (s2 := (702409 + (51 - n27) * 54 + 42)) (by omega) (by omega) ?_
    exact g_sub [0] [(1, .inr (some q1))] rfl (jp47 w31 h)
  · replace h := h.2 hc; clear hc
    refine g_aload_n X dL_law_1713 rfl 0 rfl ?_
    refine g_iconst X (v := (1 : Int32)) dL_law_1714 (by decide) ?_
    have hk := h.1
    replace h := h.2
    refine g_callFV_i X (As := [.int (1 : Int32)]) (st := []) (n := 1) (c_X3_audit hst h) rfl (by decide) hk (wE_4 G w31 q1) m_406 m_407 m_408 m_15 m_409 (by decide +kernel) (by decide +kernel) rfl rfl (Nat.zero_le _) ⟨(by have e1 : rm_L_law.cells = 1097659 := rfl; have e2 : rm_L_law.slots = 5808648 := rfl; have e3 : rm_X3_audit.cells = 1 := rfl; have e4 : rm_X3_audit.slots = 6 := rfl; omega), (by have e1 : rm_L_law.cells = 1097659 := rfl; have e2 : rm_L_law.slots = 5808648 := rfl; have e3 : rm_X3_audit.cells = 1 := rfl; have e4 : rm_X3_audit.slots = 6 := rfl; omega)⟩ dL_law_1715 (fun v50 w49 h => ?_)
    clear hk
    refine g_widen (c2 := (47450 + (51 - n27) * 9 + 1)) (s2 := (702409 + (51 - n27) * 54 + 6)) (by have e1 : rm_X3_audit.cells = 1 := rfl; omega) (by have e1 : rm_X3_audit.slots = 6 := rfl; omega) ?_
    refine g_iconst X (v := (-1 : Int32)) dL_law_1718 (by decide) ?_
    refine g_icmp_ne X (tgt := 1753) dL_law_1719 (by decide) (fun hc => ?_) (fun hc => ?_)
    · replace h := h.1 hc; clear hc
      refine g_widen (c2 := (47450 + (51 - n27) * 9 + 7)) (s2 := (702409 + (51 - n27) * 54 + 42)) (by omega) (by omega) ?_
      exact g_sub [0] [(1, .inr (some q1))] rfl (jp47 w49 h)
    · replace h := h.2 hc; clear hc
      refine g_aload_n X dL_law_1722 rfl 0 rfl ?_
      refine g_iconst X (v := (1 : Int32)) dL_law_1723 (by decide) ?_
      refine g_iconst X (v := (5 : Int32)) dL_law_1724 (by decide) ?_
      refine g_iconst X (v := (1 : Int32)) dL_law_1725 (by decide) ?_
      have hk := h.1
      replace h := h.2
      refine g_callFV_i X (As := [.int (1 : Int32), .int (5 : Int32), .int (1 : Int32)]) (st := []) (n := 3) (c_X3_note hst h) rfl (by decide) hk (wE_4 G w49 q1) m_401 m_402 m_403 m_15 m_404 (by decide +kernel) (by decide +kernel) rfl rfl (Nat.zero_le _) ⟨(by have e1 : rm_L_law.cells = 1097659 := rfl; have e2 : rm_L_law.slots = 5808648 := rfl; have e3 : rm_X3_note.cells = 3 := rfl; have e4 : rm_X3_note.slots = 18 := rfl; omega), (by have e1 : rm_L_law.cells = 1097659 := rfl; have e2 : rm_L_law.slots = 5808648 := rfl; have e3 : rm_X3_note.cells = 3 := rfl; have e4 : rm_X3_note.slots = 18 := rfl; omega)⟩ dL_law_1726 (fun v52 w51 h => ?_)
      clear hk
      refine g_widen (c2 := (47450 + (51 - n27) * 9 + 4)) (s2 := (702409 + (51 - n27) * 54 + 24)) (by have e1 : rm_X3_note.cells = 3 := rfl; omega) (by have e1 : rm_X3_note.slots = 18 := rfl; omega) ?_
      refine g_aload_n X dL_law_1729 rfl 0 rfl ?_
      refine g_iconst X (v := (5 : Int32)) dL_law_1730 (by decide) ?_
      refine g_iconst X (v := (4 : Int32)) dL_law_1731 (by decide) ?_
      have hk := h.1
      replace h := h.2
      refine g_callFV_i X (As := [.int (5 : Int32), .int (4 : Int32)]) (st := [.int v52]) (n := 2) (c_X3_of hst h) rfl (by decide) hk (wE_4 G w51 q1) m_410 m_411 m_412 m_15 m_413 (by decide +kernel) (by decide +kernel) rfl rfl (by simp [cat_int, rf_cat]) ⟨(by have e1 : rm_L_law.cells = 1097659 := rfl; have e2 : rm_L_law.slots = 5808648 := rfl; have e3 : rm_X3_of.cells = 2 := rfl; have e4 : rm_X3_of.slots = 12 := rfl; omega), (by have e1 : rm_L_law.cells = 1097659 := rfl; have e2 : rm_L_law.slots = 5808648 := rfl; have e3 : rm_X3_of.cells = 2 := rfl; have e4 : rm_X3_of.slots = 12 := rfl; omega)⟩ dL_law_1732 (fun v54 w53 h => ?_)
      clear hk
      refine g_widen (c2 := (47450 + (51 - n27) * 9 + 6)) (s2 := (702409 + (51 - n27) * 54 + 36)) (by have e1 : rm_X3_of.cells = 2 := rfl; omega) (by have e1 : rm_X3_of.slots = 12 := rfl; omega) ?_
      refine g_iconst X (v := (1 : Int32)) dL_law_1735 (by decide) ?_
      refine g_iadd X dL_law_1736 (fun v55 hv => ?_)
      replace h := h v55 hv; clear hv
      refine g_icmp_ne X (tgt := 1753) dL_law_1737 (by decide) (fun hc => ?_) (fun hc => ?_)
      · replace h := h.1 hc; clear hc
        refine g_widen (c2 := (47450 + (51 - n27) * 9 + 7)) (s2 := (702409 + (51 - n27) * 54 + 42)) (by omega) (by omega) ?_
        exact g_sub [0] [(1, .inr (some q1))] rfl (jp47 w53 h)
      · replace h := h.2 hc; clear hc
        refine g_aload_n X dL_law_1740 rfl 0 rfl ?_
        refine g_iconst X (v := (1 : Int32)) dL_law_1741 (by decide) ?_
        have hk := h.1
        replace h := h.2
        refine g_callFV_i X (As := [.int (1 : Int32)]) (st := []) (n := 1) (c_X3_audit hst h) rfl (by decide) hk (wE_4 G w53 q1) m_406 m_407 m_408 m_15 m_409 (by decide +kernel) (by decide +kernel) rfl rfl (Nat.zero_le _) ⟨(by have e1 : rm_L_law.cells = 1097659 := rfl; have e2 : rm_L_law.slots = 5808648 := rfl; have e3 : rm_X3_audit.cells = 1 := rfl; have e4 : rm_X3_audit.slots = 6 := rfl; omega), (by have e1 : rm_L_law.cells = 1097659 := rfl; have e2 : rm_L_law.slots = 5808648 := rfl; have e3 : rm_X3_audit.cells = 1 := rfl; have e4 : rm_X3_audit.slots = 6 := rfl; omega)⟩ dL_law_1742 (fun v57 w56 h => ?_)
        clear hk
        refine g_widen (c2 := (47450 + (51 - n27) * 9 + 7)) (s2 := (702409 + (51 - n27) * 54 + 42)) (by have e1 : rm_X3_audit.cells = 1 := rfl; omega) (by have e1 : rm_X3_audit.slots = 6 := rfl; omega) ?_
        refine g_iconst X (v := (5 : Int32)) dL_law_1745 (by decide) ?_
        refine g_icmp_ne X (tgt := 1753) dL_law_1746 (by decide) (fun hc => ?_) (fun hc => ?_)
        · replace h := h.1 hc; clear hc
          exact g_sub [0] [(1, .inr (some q1))] rfl (jp47 w56 h)
        · replace h := h.2 hc; clear hc
          refine g_iconst X (v := (1 : Int32)) dL_law_1749 (by decide) ?_
          refine g_goto X (tgt := 1754) dL_law_1750 (by decide) ?_
          exact g_sub [0] [(1, .inr (some q1))] rfl (jp32 (1 : Int32) w56 h)

def wpc_1649 (L : Nat) (xs : Nat → Int32) (q1 : Nat) (y23 : Int32) (w25 : Wd) : Prop :=
  ∃ Inv28 : Nat → Int32 → Int32 → Wd → Prop, (∃ n : Nat, n ≤ 51 ∧ Inv28 n y23 (0 : Int32) w25) ∧ ∀ (n27 : Nat) (y29 : Int32) (y30 : Int32) (w31 : Wd), Inv28 n27 y29 y30 w31 →
  ((7 : Int32) ≤ y30 → wpc_1709 L xs q1 y29 w31) ∧ (¬ (7 : Int32) ≤ y30 → ∃ J58 : Int32 → Wd → Prop, (∀ (y59 : Int32) (w60 : Wd), J58 y59 w60 →
  ∀ v61 : Int32, v61 = y30 + (1 : Int32) →
  ∃ n : Nat, n < n27 ∧ Inv28 n y59 v61 w60) ∧
  ∃ J62 : Wd → Prop, (∀  (w63 : Wd), J62 w63 →
  J58 (0 : Int32) w63) ∧
  (y29 = 0 → J62 w31) ∧ (¬ y29 = 0 → w31.K q1 = 4 ∧
  wp_X3_of q1 y30 (0 : Int32) w31 (fun v65 w64 => 
  (v65 < 0 → J62 w64) ∧ (¬ v65 < 0 → w64.K q1 = 4 ∧
  wp_X3_of q1 y30 (4 : Int32) w64 (fun v67 w66 => 
  w66.K q1 = 4 ∧
  wp_X3_note q1 (1 : Int32) y30 v67 w66 (fun v69 w68 => 
  w68.K q1 = 4 ∧
  wp_X3_of q1 y30 (4 : Int32) w68 (fun v71 w70 => 
  (¬ v69 = v71 → J62 w70) ∧ (v69 = v71 → J58 (1 : Int32) w70)) (fun _ _ => False)) (fun _ _ => False)) (fun _ _ => False))) (fun _ _ => False)))
set_option maxHeartbeats 8000000 in
set_option maxRecDepth 100000 in
theorem q_1649 {p : Program} {e : Env} {s : State} {m : MethodId} {below : List Frame} {meth : Method} {c : Code} {l : Launch} {G : GT} {L0 b L : Nat} {xs : Nat → Int32} (hst : l.stackTraces = false) (hL0 : L0 = s.heap.size) (X : GC l G L0 p s m #[Value.ref b] meth c code 16 "SusuRingLaw") (hr : meth.sig.returnType = ret) (hX : va_X b L xs s s.heap) (hb : b < s.heap.size) (hbA : ¬ GA L0 b) (hLL : L < 2 ^ 31) {q1 : Nat} {n21 : Nat} {y23 : Int32} {w25 : Wd} (hnbn21 : n21 ≤ 51) (h : wpc_1649 L xs q1 y23 w25) : Gw l G L0 p e rm_L_law s m #[Value.ref b] below meth c 16 (530 + (51 - n21) * 920 + 0) (12685 + (51 - n21) * 13524 + 0) (lw_Z below #[Value.ref b] s) w25 1649 [(1, .inr (some q1)), (3, .inl y23)] [] := by
  refine g_iconst X (v := (0 : Int32)) dL_law_1649 (by decide) ?_
  refine g_istore X [(4, .inl (0 : Int32)), (1, .inr (some q1)), (3, .inl y23)] dL_law_1650 (by decide) rfl ?_
  refine g_widen (c2 := (47450)) (s2 := (702409)) (by omega) (by omega) ?_
  obtain ⟨Inv28, ⟨n0, hn0, hi⟩, hsn27⟩ := h
  have lp28 : ∀ (n27 : Nat), n27 ≤ 51 → ∀ (y29 : Int32) (y30 : Int32) (w31 : Wd), Inv28 n27 y29 y30 w31 → Gw l G L0 p e rm_L_law s m #[Value.ref b] below meth c 16 (47450 + (51 - n27) * 9 + 0) (702409 + (51 - n27) * 54 + 0) (lw_Z below #[Value.ref b] s) w31 1652 [(1, .inr (some q1)), (3, .inl y29), (4, .inl y30)] [] := by
    intro n27
    induction n27 using Nat.strongRecOn with
    | ind n27 ihn27 =>
      intro hnbn27 y29 y30 w31 hI
      have h := hsn27 n27 y29 y30 w31 hI
      clear hI
      refine g_iload X dL_law_1652 2 rfl ?_
      refine g_bipush X (v := (7 : Int32)) dL_law_1654 (by decide) ?_
      refine g_icmp_ge X (tgt := 1709) dL_law_1656 (by decide) (fun hc => ?_) (fun hc => ?_)
      · replace h := h.1 hc; clear hc
        exact q_1709 hst hL0 X hr hX hb hbA hLL hnbn27 h
      · replace h := h.2 hc; clear hc
        refine g_iload_n X dL_law_1659 rfl 1 rfl ?_
        obtain ⟨J58, hjJ58, h⟩ := h
        have jp58 : ∀ (y59 : Int32) (w60 : Wd), J58 y59 w60 → Gw l G L0 p e rm_L_law s m #[Value.ref b] below meth c 16 (47450 + (51 - n27) * 9 + 9) (702409 + (51 - n27) * 54 + 54) (lw_Z below #[Value.ref b] s) w60 1702 [(1, .inr (some q1)), (4, .inl y30)] [.int y59] := by
          intro y59 w60 hJ
          have h := hjJ58 y59 w60 hJ
          clear hJ
          refine g_istore_n X [(3, .inl y59), (1, .inr (some q1)), (4, .inl y30)] dL_law_1702 rfl (by decide) rfl ?_
          refine g_iinc X dL_law_1703 2 rfl (d := (1 : Int32)) (by decide) (by decide) (fun v61 hv => ?_)
          replace h := h v61 hv; clear hv
          refine g_sub [0, 1, 2] [(4, .inl v61), (3, .inl y59), (1, .inr (some q1))] rfl ?_
          refine g_goto X (tgt := 1652) dL_law_1706 (by decide) ?_
          obtain ⟨n, hn, hI⟩ := h
          refine g_widen (c2 := (47450 + (51 - n) * 9 + 0)) (s2 := (702409 + (51 - n) * 54 + 0)) (by omega) (by omega) ?_
          exact g_sub [2, 1, 0] [(1, .inr (some q1)), (3, .inl y59), (4, .inl v61)] rfl (ihn27 n hn (by omega) y59 v61 w60 hI)
        obtain ⟨J62, hjJ62, h⟩ := h
        have jp62 : ∀  (w63 : Wd), J62 w63 → Gw l G L0 p e rm_L_law s m #[Value.ref b] below meth c 16 (47450 + (51 - n27) * 9 + 9) (702409 + (51 - n27) * 54 + 54) (lw_Z below #[Value.ref b] s) w63 1701 [(1, .inr (some q1)), (4, .inl y30)] [] := by
          intro w63 hJ
          have h := hjJ62 w63 hJ
          clear hJ
          refine g_iconst X (v := (0 : Int32)) dL_law_1701 (by decide) ?_
          exact g_sub [0, 1] [(1, .inr (some q1)), (4, .inl y30)] rfl (jp58 (0 : Int32) w63 h)
        refine g_if_eq X (tgt := 1701) dL_law_1660 (by decide) (fun hc => ?_) (fun hc => ?_)
        · replace h := h.1 hc; clear hc
          refine g_widen (c2 := (47450 + (51 - n27) * 9 + 9)) (s2 := (702409 + (51 - n27) * 54 + 54)) (by omega) (by omega) ?_
          exact g_sub [0, 2] [(1, .inr (some q1)), (4, .inl y30)] rfl (jp62 w31 h)
        · replace h := h.2 hc; clear hc
          refine g_aload_n X dL_law_1663 rfl 0 rfl ?_
          refine g_iload X dL_law_1664 2 rfl ?_
          refine g_iconst X (v := (0 : Int32)) dL_law_1666 (by decide) ?_
          have hk := h.1
          replace h := h.2
          refine g_callFV_i X (As := [.int y30, .int (0 : Int32)]) (st := []) (n := 2) (c_X3_of hst h) rfl (by decide) hk (wE_4 G w31 q1) m_410 m_411 m_412 m_15 m_413 (by decide +kernel) (by decide +kernel) rfl rfl (Nat.zero_le _) ⟨(by have e1 : rm_L_law.cells = 1097659 := rfl; have e2 : rm_L_law.slots = 5808648 := rfl; have e3 : rm_X3_of.cells = 2 := rfl; have e4 : rm_X3_of.slots = 12 := rfl; omega), (by have e1 : rm_L_law.cells = 1097659 := rfl; have e2 : rm_L_law.slots = 5808648 := rfl; have e3 : rm_X3_of.cells = 2 := rfl; have e4 : rm_X3_of.slots = 12 := rfl; omega)⟩ dL_law_1667 (fun v65 w64 h => ?_)
          clear hk
          refine g_widen (c2 := (47450 + (51 - n27) * 9 + 2)) (s2 := (702409 + (51 - n27) * 54 + 12)) (by have e1 : rm_X3_of.cells = 2 := rfl; omega) (by have e1 : rm_X3_of.slots = 12 := rfl; omega) ?_
          refine g_if_lt X (tgt := 1701) dL_law_1670 (by decide) (fun hc => ?_) (fun hc => ?_)
          · replace h := h.1 hc; clear hc
            refine g_widen (c2 := (47450 + (51 - n27) * 9 + 9)) (s2 := (702409 + (51 - n27) * 54 + 54)) (by omega) (by omega) ?_
            exact g_sub [0, 2] [(1, .inr (some q1)), (4, .inl y30)] rfl (jp62 w64 h)
          · replace h := h.2 hc; clear hc
            refine g_aload_n X dL_law_1673 rfl 0 rfl ?_
            refine g_iconst X (v := (1 : Int32)) dL_law_1674 (by decide) ?_
            refine g_iload X dL_law_1675 2 rfl ?_
            refine g_aload_n X dL_law_1677 rfl 0 rfl ?_
            refine g_iload X dL_law_1678 2 rfl ?_
            refine g_iconst X (v := (4 : Int32)) dL_law_1680 (by decide) ?_
            have hk := h.1
            replace h := h.2
            refine g_callFV_i X (As := [.int y30, .int (4 : Int32)]) (st := [.int y30, .int (1 : Int32), va_rf (some q1)]) (n := 2) (c_X3_of hst h) rfl (by decide) hk (wE_4 G w64 q1) m_410 m_411 m_412 m_15 m_413 (by decide +kernel) (by decide +kernel) rfl rfl (by simp [cat_int, rf_cat]) ⟨(by have e1 : rm_L_law.cells = 1097659 := rfl; have e2 : rm_L_law.slots = 5808648 := rfl; have e3 : rm_X3_of.cells = 2 := rfl; have e4 : rm_X3_of.slots = 12 := rfl; omega), (by have e1 : rm_L_law.cells = 1097659 := rfl; have e2 : rm_L_law.slots = 5808648 := rfl; have e3 : rm_X3_of.cells = 2 := rfl; have e4 : rm_X3_of.slots = 12 := rfl; omega)⟩ dL_law_1681 (fun v67 w66 h => ?_)
            clear hk
            refine g_widen (c2 := (47450 + (51 - n27) * 9 + 4)) (s2 := (702409 + (51 - n27) * 54 + 24)) (by have e1 : rm_X3_of.cells = 2 := rfl; omega) (by have e1 : rm_X3_of.slots = 12 := rfl; omega) ?_
            have hk := h.1
            replace h := h.2
            refine g_callFV_i X (As := [.int (1 : Int32), .int y30, .int v67]) (st := []) (n := 3) (c_X3_note hst h) rfl (by decide) hk (wE_4 G w66 q1) m_401 m_402 m_403 m_15 m_404 (by decide +kernel) (by decide +kernel) rfl rfl (Nat.zero_le _) ⟨(by have e1 : rm_L_law.cells = 1097659 := rfl; have e2 : rm_L_law.slots = 5808648 := rfl; have e3 : rm_X3_note.cells = 3 := rfl; have e4 : rm_X3_note.slots = 18 := rfl; omega), (by have e1 : rm_L_law.cells = 1097659 := rfl; have e2 : rm_L_law.slots = 5808648 := rfl; have e3 : rm_X3_note.cells = 3 := rfl; have e4 : rm_X3_note.slots = 18 := rfl; omega)⟩ dL_law_1684 (fun v69 w68 h => ?_)
            clear hk
            refine g_widen (c2 := (47450 + (51 - n27) * 9 + 7)) (s2 := (702409 + (51 - n27) * 54 + 42)) (by have e1 : rm_X3_note.cells = 3 := rfl; omega) (by have e1 : rm_X3_note.slots = 18 := rfl; omega) ?_
            refine g_aload_n X dL_law_1687 rfl 0 rfl ?_
            refine g_iload X dL_law_1688 2 rfl ?_
            refine g_iconst X (v := (4 : Int32)) dL_law_1690 (by decide) ?_
            have hk := h.1
            replace h := h.2
            refine g_callFV_i X (As := [.int y30, .int (4 : Int32)]) (st := [.int v69]) (n := 2) (c_X3_of hst h) rfl (by decide) hk (wE_4 G w68 q1) m_410 m_411 m_412 m_15 m_413 (by decide +kernel) (by decide +kernel) rfl rfl (by simp [cat_int, rf_cat]) ⟨(by have e1 : rm_L_law.cells = 1097659 := rfl; have e2 : rm_L_law.slots = 5808648 := rfl; have e3 : rm_X3_of.cells = 2 := rfl; have e4 : rm_X3_of.slots = 12 := rfl; omega), (by have e1 : rm_L_law.cells = 1097659 := rfl; have e2 : rm_L_law.slots = 5808648 := rfl; have e3 : rm_X3_of.cells = 2 := rfl; have e4 : rm_X3_of.slots = 12 := rfl; omega)⟩ dL_law_1691 (fun v71 w70 h => ?_)
            clear hk
            refine g_widen (c2 := (47450 + (51 - n27) * 9 + 9)) (s2 := (702409 + (51 - n27) * 54 + 54)) (by have e1 : rm_X3_of.cells = 2 := rfl; omega) (by have e1 : rm_X3_of.slots = 12 := rfl; omega) ?_
            refine g_icmp_ne X (tgt := 1701) dL_law_1694 (by decide) (fun hc => ?_) (fun hc => ?_)
            · replace h := h.1 hc; clear hc
              exact g_sub [0, 2] [(1, .inr (some q1)), (4, .inl y30)] rfl (jp62 w70 h)
            · replace h := h.2 hc; clear hc
              refine g_iconst X (v := (1 : Int32)) dL_law_1697 (by decide) ?_
              refine g_goto X (tgt := 1702) dL_law_1698 (by decide) ?_
              exact g_sub [0, 2] [(1, .inr (some q1)), (4, .inl y30)] rfl (jp58 (1 : Int32) w70 h)
  refine g_widen (c2 := (47450 + (51 - n0) * 9 + 0)) (s2 := (702409 + (51 - n0) * 54 + 0)) (by omega) (by omega) ?_
  exact g_sub [1, 2, 0] [(1, .inr (some q1)), (3, .inl y23), (4, .inl (0 : Int32))] rfl (lp28 n0 hn0 y23 (0 : Int32) w25 hi)

def wpc_1583 (L : Nat) (xs : Nat → Int32) (q1 : Nat) (q4 : Nat) (n21 : Nat) (Inv22 : Nat → Int32 → Int32 → Wd → Prop) (y24 : Int32) (v79 : Int32) (y94 : Int32) (w95 : Wd) : Prop :=
  ∃ J96 : Int32 → Wd → Prop, (∀ (y97 : Int32) (w98 : Wd), J96 y97 w98 →
  ∀ v99 : Int32, v99 = y24 + (1 : Int32) →
  ∃ n : Nat, n < n21 ∧ Inv22 n y97 v99 w98) ∧
  ∃ J100 : Wd → Prop, (∀  (w101 : Wd), J100 w101 →
  J96 (0 : Int32) w101) ∧
  (y94 = 0 → J100 w95) ∧ (¬ y94 = 0 → w95.K q1 = 4 ∧
  wp_X3_coins q1 w95 (fun v103 w102 => 
  (¬ v103 = 0 → J100 w102) ∧ (v103 = 0 → wp_L_isWell (some q1) (0 : Int32) w102 (fun v105 w104 => 
  (v105 = 0 → J100 w104) ∧ (¬ v105 = 0 → wp_L_isWell (some q1) (1 : Int32) w104 (fun v107 w106 => 
  (v107 = 0 → J100 w106) ∧ (¬ v107 = 0 → w106.K q1 = 4 ∧
  wp_X3_of q1 v79 (6 : Int32) w106 (fun v109 w108 => 
  wp_L_house (some q1) (some q4) v79 (6 : Int32) w108 (fun v111 w110 => 
  (¬ v109 = v111 → J100 w110) ∧ (v109 = v111 → w110.K q1 = 4 ∧
  wp_X3_cash q1 w110 (fun v113 w112 => 
  (v113 < 0 → J100 w112) ∧ (¬ v113 < 0 → J96 (1 : Int32) w112))))) (fun _ _ => False))))))))
set_option maxHeartbeats 8000000 in
set_option maxRecDepth 100000 in
theorem q_1583 {p : Program} {e : Env} {s : State} {m : MethodId} {below : List Frame} {meth : Method} {c : Code} {l : Launch} {G : GT} {L0 b L : Nat} {xs : Nat → Int32} (hst : l.stackTraces = false) (hL0 : L0 = s.heap.size) (X : GC l G L0 p s m #[Value.ref b] meth c code 16 "SusuRingLaw") (hr : meth.sig.returnType = ret) (hX : va_X b L xs s s.heap) (hb : b < s.heap.size) (hbA : ¬ GA L0 b) (hLL : L < 2 ^ 31) {q1 : Nat} {q4 : Nat} {n21 : Nat} {Inv22 : Nat → Int32 → Int32 → Wd → Prop} {y24 : Int32} {v79 : Int32} {y94 : Int32} {w95 : Wd} (hnbn21 : n21 ≤ 51) (ihn21 : ∀ (mn21 : Nat), mn21 < n21 → mn21 ≤ 51 → ∀ (y23 : Int32) (y24 : Int32) (w25 : Wd), Inv22 mn21 y23 y24 w25 → Gw l G L0 p e rm_L_law s m #[Value.ref b] below meth c 16 (530 + (51 - mn21) * 920 + 0) (12685 + (51 - mn21) * 13524 + 0) (lw_Z below #[Value.ref b] s) w25 156 [(0, .inr (some b)), (1, .inr (some q1)), (2, .inr (some q4)), (3, .inl y23), (4, .inl y24)] []) (h : wpc_1583 L xs q1 q4 n21 Inv22 y24 v79 y94 w95) : Gw l G L0 p e rm_L_law s m #[Value.ref b] below meth c 16 (530 + (51 - n21) * 920 + 358) (12685 + (51 - n21) * 13524 + 10152) (lw_Z below #[Value.ref b] s) w95 1583 [(0, .inr (some b)), (1, .inr (some q1)), (2, .inr (some q4)), (3, .inl y94), (4, .inl y24), (6, .inl v79)] [] := by
  refine g_iload_n X dL_law_1583 rfl 3 rfl ?_
  obtain ⟨J96, hjJ96, h⟩ := h
  have jp96 : ∀ (y97 : Int32) (w98 : Wd), J96 y97 w98 → Gw l G L0 p e rm_L_law s m #[Value.ref b] below meth c 16 (530 + (51 - n21) * 920 + 920) (12685 + (51 - n21) * 13524 + 13524) (lw_Z below #[Value.ref b] s) w98 1642 [(0, .inr (some b)), (1, .inr (some q1)), (2, .inr (some q4)), (4, .inl y24)] [.int y97] := by
    intro y97 w98 hJ
    have h := hjJ96 y97 w98 hJ
    clear hJ
    refine g_istore_n X [(3, .inl y97), (0, .inr (some b)), (1, .inr (some q1)), (2, .inr (some q4)), (4, .inl y24)] dL_law_1642 rfl (by decide) rfl ?_
    refine g_iinc X dL_law_1643 4 rfl (d := (1 : Int32)) (by decide) (by decide) (fun v99 hv => ?_)
    replace h := h v99 hv; clear hv
    refine g_sub [0, 1, 2, 3, 4] [(4, .inl v99), (3, .inl y97), (0, .inr (some b)), (1, .inr (some q1)), (2, .inr (some q4))] rfl ?_
    refine g_goto X (tgt := 156) dL_law_1646 (by decide) ?_
    obtain ⟨n, hn, hI⟩ := h
    refine g_widen (c2 := (530 + (51 - n) * 920 + 0)) (s2 := (12685 + (51 - n) * 13524 + 0)) (by omega) (by omega) ?_
    exact g_sub [2, 3, 4, 1, 0] [(0, .inr (some b)), (1, .inr (some q1)), (2, .inr (some q4)), (3, .inl y97), (4, .inl v99)] rfl (ihn21 n hn (by omega) y97 v99 w98 hI)
  obtain ⟨J100, hjJ100, h⟩ := h
  have jp100 : ∀  (w101 : Wd), J100 w101 → Gw l G L0 p e rm_L_law s m #[Value.ref b] below meth c 16 (530 + (51 - n21) * 920 + 920) (12685 + (51 - n21) * 13524 + 13524) (lw_Z below #[Value.ref b] s) w101 1641 [(0, .inr (some b)), (1, .inr (some q1)), (2, .inr (some q4)), (4, .inl y24)] [] := by
    intro w101 hJ
    have h := hjJ100 w101 hJ
    clear hJ
    refine g_iconst X (v := (0 : Int32)) dL_law_1641 (by decide) ?_
    exact g_sub [0, 1, 2, 3] [(0, .inr (some b)), (1, .inr (some q1)), (2, .inr (some q4)), (4, .inl y24)] rfl (jp96 (0 : Int32) w101 h)
  refine g_if_eq X (tgt := 1641) dL_law_1584 (by decide) (fun hc => ?_) (fun hc => ?_)
  · replace h := h.1 hc; clear hc
    refine g_widen (c2 := (530 + (51 - n21) * 920 + 920)) (s2 := (12685 + (51 - n21) * 13524 + 13524)) (by omega) (by omega) ?_
    exact g_sub [0, 1, 2, 4] [(0, .inr (some b)), (1, .inr (some q1)), (2, .inr (some q4)), (4, .inl y24)] rfl (jp100 w95 h)
  · replace h := h.2 hc; clear hc
    refine g_aload_n X dL_law_1587 rfl 1 rfl ?_
    have hk := h.1
    replace h := h.2
    refine g_callV_i X (As := []) (st := []) (n := 0) (c_X3_coins hst h) rfl (by decide) hk (wE_4 G w95 q1) m_474 m_475 m_476 m_15 m_477 (by decide +kernel) (by decide +kernel) rfl rfl (Nat.zero_le _) ⟨(by have e1 : rm_L_law.cells = 1097659 := rfl; have e2 : rm_L_law.slots = 5808648 := rfl; have e3 : rm_X3_coins.cells = 0 := rfl; have e4 : rm_X3_coins.slots = 0 := rfl; omega), (by have e1 : rm_L_law.cells = 1097659 := rfl; have e2 : rm_L_law.slots = 5808648 := rfl; have e3 : rm_X3_coins.cells = 0 := rfl; have e4 : rm_X3_coins.slots = 0 := rfl; omega)⟩ dL_law_1588 (fun v103 w102 h => ?_)
    clear hk
    refine g_widen (c2 := (530 + (51 - n21) * 920 + 358)) (s2 := (12685 + (51 - n21) * 13524 + 10152)) (by have e1 : rm_X3_coins.cells = 0 := rfl; omega) (by have e1 : rm_X3_coins.slots = 0 := rfl; omega) ?_
    refine g_if_ne X (tgt := 1641) dL_law_1591 (by decide) (fun hc => ?_) (fun hc => ?_)
    · replace h := h.1 hc; clear hc
      refine g_widen (c2 := (530 + (51 - n21) * 920 + 920)) (s2 := (12685 + (51 - n21) * 13524 + 13524)) (by omega) (by omega) ?_
      exact g_sub [0, 1, 2, 4] [(0, .inr (some b)), (1, .inr (some q1)), (2, .inr (some q4)), (4, .inl y24)] rfl (jp100 w102 h)
    · replace h := h.2 hc; clear hc
      refine g_aload_n X dL_law_1594 rfl 1 rfl ?_
      refine g_iconst X (v := (0 : Int32)) dL_law_1595 (by decide) ?_
      refine g_callS_i X (As := [va_rf (some q1), .int (0 : Int32)]) (st := []) (n := 2) (c_L_isWell hst h) m_711 m_712 m_14 m_713 (by decide +kernel) (by decide +kernel) rfl rfl (Nat.zero_le _) ⟨(by have e1 : rm_L_law.cells = 1097659 := rfl; have e2 : rm_L_law.slots = 5808648 := rfl; have e3 : rm_L_isWell.cells = 246 := rfl; have e4 : rm_L_isWell.slots = 1476 := rfl; omega), (by have e1 : rm_L_law.cells = 1097659 := rfl; have e2 : rm_L_law.slots = 5808648 := rfl; have e3 : rm_L_isWell.cells = 246 := rfl; have e4 : rm_L_isWell.slots = 1476 := rfl; omega)⟩ dL_law_1596 (fun v105 w104 h => ?_)
      refine g_widen (c2 := (530 + (51 - n21) * 920 + 604)) (s2 := (12685 + (51 - n21) * 13524 + 11628)) (by have e1 : rm_L_isWell.cells = 246 := rfl; omega) (by have e1 : rm_L_isWell.slots = 1476 := rfl; omega) ?_
      refine g_if_eq X (tgt := 1641) dL_law_1599 (by decide) (fun hc => ?_) (fun hc => ?_)
      · replace h := h.1 hc; clear hc
        refine g_widen (c2 := (530 + (51 - n21) * 920 + 920)) (s2 := (12685 + (51 - n21) * 13524 + 13524)) (by omega) (by omega) ?_
        exact g_sub [0, 1, 2, 4] [(0, .inr (some b)), (1, .inr (some q1)), (2, .inr (some q4)), (4, .inl y24)] rfl (jp100 w104 h)
      · replace h := h.2 hc; clear hc
        refine g_aload_n X dL_law_1602 rfl 1 rfl ?_
        refine g_iconst X (v := (1 : Int32)) dL_law_1603 (by decide) ?_
        refine g_callS_i X (As := [va_rf (some q1), .int (1 : Int32)]) (st := []) (n := 2) (c_L_isWell hst h) m_711 m_712 m_14 m_713 (by decide +kernel) (by decide +kernel) rfl rfl (Nat.zero_le _) ⟨(by have e1 : rm_L_law.cells = 1097659 := rfl; have e2 : rm_L_law.slots = 5808648 := rfl; have e3 : rm_L_isWell.cells = 246 := rfl; have e4 : rm_L_isWell.slots = 1476 := rfl; omega), (by have e1 : rm_L_law.cells = 1097659 := rfl; have e2 : rm_L_law.slots = 5808648 := rfl; have e3 : rm_L_isWell.cells = 246 := rfl; have e4 : rm_L_isWell.slots = 1476 := rfl; omega)⟩ dL_law_1604 (fun v107 w106 h => ?_)
        refine g_widen (c2 := (530 + (51 - n21) * 920 + 850)) (s2 := (12685 + (51 - n21) * 13524 + 13104)) (by have e1 : rm_L_isWell.cells = 246 := rfl; omega) (by have e1 : rm_L_isWell.slots = 1476 := rfl; omega) ?_
        refine g_if_eq X (tgt := 1641) dL_law_1607 (by decide) (fun hc => ?_) (fun hc => ?_)
        · replace h := h.1 hc; clear hc
          refine g_widen (c2 := (530 + (51 - n21) * 920 + 920)) (s2 := (12685 + (51 - n21) * 13524 + 13524)) (by omega) (by omega) ?_
          exact g_sub [0, 1, 2, 4] [(0, .inr (some b)), (1, .inr (some q1)), (2, .inr (some q4)), (4, .inl y24)] rfl (jp100 w106 h)
        · replace h := h.2 hc; clear hc
          refine g_aload_n X dL_law_1610 rfl 1 rfl ?_
          refine g_iload X dL_law_1611 5 rfl ?_
          refine g_bipush X (v := (6 : Int32)) dL_law_1613 (by decide) ?_
          have hk := h.1
          replace h := h.2
          refine g_callFV_i X (As := [.int v79, .int (6 : Int32)]) (st := []) (n := 2) (c_X3_of hst h) rfl (by decide) hk (wE_4 G w106 q1) m_410 m_411 m_412 m_15 m_413 (by decide +kernel) (by decide +kernel) rfl rfl (Nat.zero_le _) ⟨(by have e1 : rm_L_law.cells = 1097659 := rfl; have e2 : rm_L_law.slots = 5808648 := rfl; have e3 : rm_X3_of.cells = 2 := rfl; have e4 : rm_X3_of.slots = 12 := rfl; omega), (by have e1 : rm_L_law.cells = 1097659 := rfl; have e2 : rm_L_law.slots = 5808648 := rfl; have e3 : rm_X3_of.cells = 2 := rfl; have e4 : rm_X3_of.slots = 12 := rfl; omega)⟩ dL_law_1615 (fun v109 w108 h => ?_)
          clear hk
          refine g_widen (c2 := (530 + (51 - n21) * 920 + 852)) (s2 := (12685 + (51 - n21) * 13524 + 13116)) (by have e1 : rm_X3_of.cells = 2 := rfl; omega) (by have e1 : rm_X3_of.slots = 12 := rfl; omega) ?_
          refine g_aload_n X dL_law_1618 rfl 1 rfl ?_
          refine g_aload_n X dL_law_1619 rfl 2 rfl ?_
          refine g_iload X dL_law_1620 5 rfl ?_
          refine g_bipush X (v := (6 : Int32)) dL_law_1622 (by decide) ?_
          refine g_callS_i X (As := [va_rf (some q1), va_rf (some q4), .int v79, .int (6 : Int32)]) (st := [.int v109]) (n := 4) (c_L_house hst h) m_708 m_709 m_14 m_710 (by decide +kernel) (by decide +kernel) rfl rfl (by simp [cat_int, rf_cat]) ⟨(by have e1 : rm_L_law.cells = 1097659 := rfl; have e2 : rm_L_law.slots = 5808648 := rfl; have e3 : rm_L_house.cells = 68 := rfl; have e4 : rm_L_house.slots = 408 := rfl; omega), (by have e1 : rm_L_law.cells = 1097659 := rfl; have e2 : rm_L_law.slots = 5808648 := rfl; have e3 : rm_L_house.cells = 68 := rfl; have e4 : rm_L_house.slots = 408 := rfl; omega)⟩ dL_law_1624 (fun v111 w110 h => ?_)
          refine g_widen (c2 := (530 + (51 - n21) * 920 + 920)) (s2 := (12685 + (51 - n21) * 13524 + 13524)) (by have e1 : rm_L_house.cells = 68 := rfl; omega) (by have e1 : rm_L_house.slots = 408 := rfl; omega) ?_
          refine g_icmp_ne X (tgt := 1641) dL_law_1627 (by decide) (fun hc => ?_) (fun hc => ?_)
          · replace h := h.1 hc; clear hc
            exact g_sub [0, 1, 2, 4] [(0, .inr (some b)), (1, .inr (some q1)), (2, .inr (some q4)), (4, .inl y24)] rfl (jp100 w110 h)
          · replace h := h.2 hc; clear hc
            refine g_aload_n X dL_law_1630 rfl 1 rfl ?_
            have hk := h.1
            replace h := h.2
            refine g_callV_i X (As := []) (st := []) (n := 0) (c_X3_cash hst h) rfl (by decide) hk (wE_4 G w110 q1) m_470 m_471 m_472 m_15 m_473 (by decide +kernel) (by decide +kernel) rfl rfl (Nat.zero_le _) ⟨(by have e1 : rm_L_law.cells = 1097659 := rfl; have e2 : rm_L_law.slots = 5808648 := rfl; have e3 : rm_X3_cash.cells = 0 := rfl; have e4 : rm_X3_cash.slots = 0 := rfl; omega), (by have e1 : rm_L_law.cells = 1097659 := rfl; have e2 : rm_L_law.slots = 5808648 := rfl; have e3 : rm_X3_cash.cells = 0 := rfl; have e4 : rm_X3_cash.slots = 0 := rfl; omega)⟩ dL_law_1631 (fun v113 w112 h => ?_)
            clear hk
            refine g_widen (c2 := (530 + (51 - n21) * 920 + 920)) (s2 := (12685 + (51 - n21) * 13524 + 13524)) (by have e1 : rm_X3_cash.cells = 0 := rfl; omega) (by have e1 : rm_X3_cash.slots = 0 := rfl; omega) ?_
            refine g_if_lt X (tgt := 1641) dL_law_1634 (by decide) (fun hc => ?_) (fun hc => ?_)
            · replace h := h.1 hc; clear hc
              exact g_sub [0, 1, 2, 4] [(0, .inr (some b)), (1, .inr (some q1)), (2, .inr (some q4)), (4, .inl y24)] rfl (jp100 w112 h)
            · replace h := h.2 hc; clear hc
              refine g_iconst X (v := (1 : Int32)) dL_law_1637 (by decide) ?_
              refine g_goto X (tgt := 1642) dL_law_1638 (by decide) ?_
              exact g_sub [0, 1, 2, 4] [(0, .inr (some b)), (1, .inr (some q1)), (2, .inr (some q4)), (4, .inl y24)] rfl (jp96 (1 : Int32) w112 h)

def wpc_1425 (L : Nat) (xs : Nat → Int32) (q1 : Nat) (v79 : Int32) (v87 : Int32) (v90 : Int32) (w91 : Wd) (v92 : Int32) (J93 : Int32 → Wd → Prop) : Prop :=
  w91.K q1 = 4 ∧
  wp_X3_of q1 v79 (5 : Int32) w91 (fun v115 w114 => 
  ∃ J116 : Int32 → Wd → Prop, (∀ (y117 : Int32) (w118 : Wd), J116 y117 w118 →
  w118.K q1 = 4 ∧
  wp_X3_of q1 v87 (0 : Int32) w118 (fun v120 w119 => 
  ∀ v121 : Int32, v121 = v90 + v120 →
  w119.K q1 = 4 ∧
  wp_X3_of q1 v79 (2 : Int32) w119 (fun v123 w122 => 
  w122.K q1 = 4 ∧
  wp_X3_of q1 v87 (2 : Int32) w122 (fun v125 w124 => 
  ∀ v126 : Int32, v126 = v123 + v125 →
  wp_L_isDie (some q1) v79 v87 w124 (fun v128 w127 => 
  ∃ J129 : Int32 → Wd → Prop, (∀ (y130 : Int32) (w131 : Wd), J129 y130 w131 →
  J93 y130 w131) ∧
  ∃ J132 : Wd → Prop, (∀  (w133 : Wd), J132 w133 →
  J129 (0 : Int32) w133) ∧
  (¬ v128 = y117 → J132 w127) ∧ (v128 = y117 → ∃ J134 : Wd → Prop, (∀  (w135 : Wd), J134 w135 →
  J129 (1 : Int32) w135) ∧
  (y117 = 0 → J134 w127) ∧ (¬ y117 = 0 → w127.K q1 = 4 ∧
  wp_X3_of q1 v87 (0 : Int32) w127 (fun v137 w136 => 
  (¬ v137 = v121 → J132 w136) ∧ (v137 = v121 → w136.K q1 = 4 ∧
  wp_X3_of q1 v79 (0 : Int32) w136 (fun v139 w138 => 
  (¬ v139 = 0 → J132 w138) ∧ (v139 = 0 → w138.K q1 = 4 ∧
  wp_X3_of q1 v87 (2 : Int32) w138 (fun v141 w140 => 
  (¬ v141 = v126 → J132 w140) ∧ (v141 = v126 → w140.K q1 = 4 ∧
  wp_X3_of q1 v79 (5 : Int32) w140 (fun v143 w142 => 
  (¬ v143 = 0 → J132 w142) ∧ (v143 = 0 → w142.K q1 = 4 ∧
  wp_X3_of q1 v79 (4 : Int32) w142 (fun v145 w144 => 
  (¬ v145 = v92 → J132 w144) ∧ (v145 = v92 → J134 w144)) (fun _ _ => False))) (fun _ _ => False))) (fun _ _ => False))) (fun _ _ => False))) (fun _ _ => False))))) (fun _ _ => False)) (fun _ _ => False)) (fun _ _ => False)) ∧
  ∃ J146 : Wd → Prop, (∀  (w147 : Wd), J146 w147 →
  J116 (0 : Int32) w147) ∧
  (¬ v115 = (1 : Int32) → J146 w114) ∧ (v115 = (1 : Int32) → w114.K q1 = 4 ∧
  wp_X3_of q1 v87 (5 : Int32) w114 (fun v149 w148 => 
  (¬ v149 = (1 : Int32) → J146 w148) ∧ (v149 = (1 : Int32) → w148.K q1 = 4 ∧
  wp_X3_of q1 v79 (1 : Int32) w148 (fun v151 w150 => 
  w150.K q1 = 4 ∧
  wp_X3_of q1 v87 (1 : Int32) w150 (fun v153 w152 => 
  ∀ v154 : Int32, v154 = v151 + v153 →
  ((100 : Int32) < v154 → J146 w152) ∧ (¬ (100 : Int32) < v154 → J116 (1 : Int32) w152)) (fun _ _ => False)) (fun _ _ => False))) (fun _ _ => False))) (fun _ _ => False)
set_option maxHeartbeats 8000000 in
set_option maxRecDepth 100000 in
theorem q_1425 {p : Program} {e : Env} {s : State} {m : MethodId} {below : List Frame} {meth : Method} {c : Code} {l : Launch} {G : GT} {L0 b L : Nat} {xs : Nat → Int32} (hst : l.stackTraces = false) (hL0 : L0 = s.heap.size) (X : GC l G L0 p s m #[Value.ref b] meth c code 16 "SusuRingLaw") (hr : meth.sig.returnType = ret) (hX : va_X b L xs s s.heap) (hb : b < s.heap.size) (hbA : ¬ GA L0 b) (hLL : L < 2 ^ 31) {q1 : Nat} {q4 : Nat} {n21 : Nat} {y23 : Int32} {y24 : Int32} {v75 : Int32} {v79 : Int32} {v83 : Int32} {v87 : Int32} {v88 : Int32} {v90 : Int32} {w91 : Wd} {v92 : Int32} {J93 : Int32 → Wd → Prop} (hnbn21 : n21 ≤ 51) (jp93 : ∀ (y94 : Int32) (w95 : Wd), J93 y94 w95 → Gw l G L0 p e rm_L_law s m #[Value.ref b] below meth c 16 (530 + (51 - n21) * 920 + 358) (12685 + (51 - n21) * 13524 + 10152) (lw_Z below #[Value.ref b] s) w95 1583 [(0, .inr (some b)), (1, .inr (some q1)), (2, .inr (some q4)), (3, .inl y94), (4, .inl y24), (6, .inl v79)] []) (h : wpc_1425 L xs q1 v79 v87 v90 w91 v92 J93) : Gw l G L0 p e rm_L_law s m #[Value.ref b] below meth c 16 (530 + (51 - n21) * 920 + 4) (12685 + (51 - n21) * 13524 + 24) (lw_Z below #[Value.ref b] s) w91 1425 [(11, .inl v92), (10, .inl v90), (9, .inl v88), (8, .inl v87), (7, .inl v83), (6, .inl v79), (5, .inl v75), (0, .inr (some b)), (1, .inr (some q1)), (2, .inr (some q4)), (3, .inl y23), (4, .inl y24)] [] := by
  refine g_aload_n X dL_law_1425 rfl 8 rfl ?_
  refine g_iload X dL_law_1426 5 rfl ?_
  refine g_iconst X (v := (5 : Int32)) dL_law_1428 (by decide) ?_
  have hk := h.1
  replace h := h.2
  refine g_callFV_i X (As := [.int v79, .int (5 : Int32)]) (st := []) (n := 2) (c_X3_of hst h) rfl (by decide) hk (wE_4 G w91 q1) m_410 m_411 m_412 m_15 m_413 (by decide +kernel) (by decide +kernel) rfl rfl (Nat.zero_le _) ⟨(by have e1 : rm_L_law.cells = 1097659 := rfl; have e2 : rm_L_law.slots = 5808648 := rfl; have e3 : rm_X3_of.cells = 2 := rfl; have e4 : rm_X3_of.slots = 12 := rfl; omega), (by have e1 : rm_L_law.cells = 1097659 := rfl; have e2 : rm_L_law.slots = 5808648 := rfl; have e3 : rm_X3_of.cells = 2 := rfl; have e4 : rm_X3_of.slots = 12 := rfl; omega)⟩ dL_law_1429 (fun v115 w114 h => ?_)
  clear hk
  refine g_widen (c2 := (530 + (51 - n21) * 920 + 6)) (s2 := (12685 + (51 - n21) * 13524 + 36)) (by have e1 : rm_X3_of.cells = 2 := rfl; omega) (by have e1 : rm_X3_of.slots = 12 := rfl; omega) ?_
  refine g_iconst X (v := (1 : Int32)) dL_law_1432 (by decide) ?_
  obtain ⟨J116, hjJ116, h⟩ := h
  have jp116 : ∀ (y117 : Int32) (w118 : Wd), J116 y117 w118 → Gw l G L0 p e rm_L_law s m #[Value.ref b] below meth c 16 (530 + (51 - n21) * 920 + 12) (12685 + (51 - n21) * 13524 + 72) (lw_Z below #[Value.ref b] s) w118 1472 [(0, .inr (some b)), (1, .inr (some q1)), (2, .inr (some q4)), (4, .inl y24), (6, .inl v79), (8, .inl v87), (10, .inl v90), (11, .inl v92)] [.int y117] := by
    intro y117 w118 hJ
    have h := hjJ116 y117 w118 hJ
    clear hJ
    refine g_istore X [(12, .inl y117), (0, .inr (some b)), (1, .inr (some q1)), (2, .inr (some q4)), (4, .inl y24), (6, .inl v79), (8, .inl v87), (10, .inl v90), (11, .inl v92)] dL_law_1472 (by decide) rfl ?_
    refine g_iload X dL_law_1474 7 rfl ?_
    refine g_aload_n X dL_law_1476 rfl 2 rfl ?_
    refine g_iload X dL_law_1477 6 rfl ?_
    refine g_iconst X (v := (0 : Int32)) dL_law_1479 (by decide) ?_
    have hk := h.1
    replace h := h.2
    refine g_callFV_i X (As := [.int v87, .int (0 : Int32)]) (st := [.int v90]) (n := 2) (c_X3_of hst h) rfl (by decide) hk (wE_4 G w118 q1) m_410 m_411 m_412 m_15 m_413 (by decide +kernel) (by decide +kernel) rfl rfl (by simp [cat_int, rf_cat]) ⟨(by have e1 : rm_L_law.cells = 1097659 := rfl; have e2 : rm_L_law.slots = 5808648 := rfl; have e3 : rm_X3_of.cells = 2 := rfl; have e4 : rm_X3_of.slots = 12 := rfl; omega), (by have e1 : rm_L_law.cells = 1097659 := rfl; have e2 : rm_L_law.slots = 5808648 := rfl; have e3 : rm_X3_of.cells = 2 := rfl; have e4 : rm_X3_of.slots = 12 := rfl; omega)⟩ dL_law_1480 (fun v120 w119 h => ?_)
    clear hk
    refine g_widen (c2 := (530 + (51 - n21) * 920 + 14)) (s2 := (12685 + (51 - n21) * 13524 + 84)) (by have e1 : rm_X3_of.cells = 2 := rfl; omega) (by have e1 : rm_X3_of.slots = 12 := rfl; omega) ?_
    refine g_iadd X dL_law_1483 (fun v121 hv => ?_)
    replace h := h v121 hv; clear hv
    refine g_istore X [(13, .inl v121), (12, .inl y117), (0, .inr (some b)), (1, .inr (some q1)), (2, .inr (some q4)), (4, .inl y24), (6, .inl v79), (8, .inl v87), (10, .inl v90), (11, .inl v92)] dL_law_1484 (by decide) rfl ?_
    refine g_aload_n X dL_law_1486 rfl 3 rfl ?_
    refine g_iload X dL_law_1487 6 rfl ?_
    refine g_iconst X (v := (2 : Int32)) dL_law_1489 (by decide) ?_
    have hk := h.1
    replace h := h.2
    refine g_callFV_i X (As := [.int v79, .int (2 : Int32)]) (st := []) (n := 2) (c_X3_of hst h) rfl (by decide) hk (wE_4 G w119 q1) m_410 m_411 m_412 m_15 m_413 (by decide +kernel) (by decide +kernel) rfl rfl (Nat.zero_le _) ⟨(by have e1 : rm_L_law.cells = 1097659 := rfl; have e2 : rm_L_law.slots = 5808648 := rfl; have e3 : rm_X3_of.cells = 2 := rfl; have e4 : rm_X3_of.slots = 12 := rfl; omega), (by have e1 : rm_L_law.cells = 1097659 := rfl; have e2 : rm_L_law.slots = 5808648 := rfl; have e3 : rm_X3_of.cells = 2 := rfl; have e4 : rm_X3_of.slots = 12 := rfl; omega)⟩ dL_law_1490 (fun v123 w122 h => ?_)
    clear hk
    refine g_widen (c2 := (530 + (51 - n21) * 920 + 16)) (s2 := (12685 + (51 - n21) * 13524 + 96)) (by have e1 : rm_X3_of.cells = 2 := rfl; omega) (by have e1 : rm_X3_of.slots = 12 := rfl; omega) ?_
    refine g_aload_n X dL_law_1493 rfl 3 rfl ?_
    refine g_iload X dL_law_1494 7 rfl ?_
    refine g_iconst X (v := (2 : Int32)) dL_law_1496 (by decide) ?_
    have hk := h.1
    replace h := h.2
    refine g_callFV_i X (As := [.int v87, .int (2 : Int32)]) (st := [.int v123]) (n := 2) (c_X3_of hst h) rfl (by decide) hk (wE_4 G w122 q1) m_410 m_411 m_412 m_15 m_413 (by decide +kernel) (by decide +kernel) rfl rfl (by simp [cat_int, rf_cat]) ⟨(by have e1 : rm_L_law.cells = 1097659 := rfl; have e2 : rm_L_law.slots = 5808648 := rfl; have e3 : rm_X3_of.cells = 2 := rfl; have e4 : rm_X3_of.slots = 12 := rfl; omega), (by have e1 : rm_L_law.cells = 1097659 := rfl; have e2 : rm_L_law.slots = 5808648 := rfl; have e3 : rm_X3_of.cells = 2 := rfl; have e4 : rm_X3_of.slots = 12 := rfl; omega)⟩ dL_law_1497 (fun v125 w124 h => ?_)
    clear hk
    refine g_widen (c2 := (530 + (51 - n21) * 920 + 18)) (s2 := (12685 + (51 - n21) * 13524 + 108)) (by have e1 : rm_X3_of.cells = 2 := rfl; omega) (by have e1 : rm_X3_of.slots = 12 := rfl; omega) ?_
    refine g_iadd X dL_law_1500 (fun v126 hv => ?_)
    replace h := h v126 hv; clear hv
    refine g_istore X [(14, .inl v126), (13, .inl v121), (12, .inl y117), (0, .inr (some b)), (1, .inr (some q1)), (2, .inr (some q4)), (4, .inl y24), (6, .inl v79), (8, .inl v87), (10, .inl v90), (11, .inl v92)] dL_law_1501 (by decide) rfl ?_
    refine g_aload_n X dL_law_1503 rfl 4 rfl ?_
    refine g_iload X dL_law_1504 7 rfl ?_
    refine g_iload X dL_law_1506 8 rfl ?_
    refine g_callH_i X (As := [va_rf (some q1), .int v79, .int v87]) (st := []) (n := 3) (c_L_isDie hst h) m_486 m_487 m_14 m_488 (by decide +kernel) (by decide +kernel) (by decide +kernel) rfl rfl (Nat.zero_le _) ⟨(by have e1 : rm_L_law.cells = 1097659 := rfl; have e2 : rm_L_law.slots = 5808648 := rfl; have e3 : rm_L_isDie.cells = 4 := rfl; have e4 : rm_L_isDie.slots = 24 := rfl; omega), (by have e1 : rm_L_law.cells = 1097659 := rfl; have e2 : rm_L_law.slots = 5808648 := rfl; have e3 : rm_L_isDie.cells = 4 := rfl; have e4 : rm_L_isDie.slots = 24 := rfl; omega)⟩ dL_law_1508 (fun v128 w127 h => ?_)
    refine g_widen (c2 := (530 + (51 - n21) * 920 + 22)) (s2 := (12685 + (51 - n21) * 13524 + 132)) (by have e1 : rm_L_isDie.cells = 4 := rfl; omega) (by have e1 : rm_L_isDie.slots = 24 := rfl; omega) ?_
    refine g_iload X dL_law_1511 2 rfl ?_
    obtain ⟨J129, hjJ129, h⟩ := h
    have jp129 : ∀ (y130 : Int32) (w131 : Wd), J129 y130 w131 → Gw l G L0 p e rm_L_law s m #[Value.ref b] below meth c 16 (530 + (51 - n21) * 920 + 32) (12685 + (51 - n21) * 13524 + 192) (lw_Z below #[Value.ref b] s) w131 1582 [(0, .inr (some b)), (1, .inr (some q1)), (2, .inr (some q4)), (4, .inl y24), (6, .inl v79)] [.int y130] := by
      intro y130 w131 hJ
      have h := hjJ129 y130 w131 hJ
      clear hJ
      refine g_istore_n X [(3, .inl y130), (0, .inr (some b)), (1, .inr (some q1)), (2, .inr (some q4)), (4, .inl y24), (6, .inl v79)] dL_law_1582 rfl (by decide) rfl ?_
      refine g_widen (c2 := (530 + (51 - n21) * 920 + 358)) (s2 := (12685 + (51 - n21) * 13524 + 10152)) (by omega) (by omega) ?_
      exact g_sub [1, 2, 3, 0, 4, 5] [(0, .inr (some b)), (1, .inr (some q1)), (2, .inr (some q4)), (3, .inl y130), (4, .inl y24), (6, .inl v79)] rfl (jp93 y130 w131 h)
    obtain ⟨J132, hjJ132, h⟩ := h
    have jp132 : ∀  (w133 : Wd), J132 w133 → Gw l G L0 p e rm_L_law s m #[Value.ref b] below meth c 16 (530 + (51 - n21) * 920 + 32) (12685 + (51 - n21) * 13524 + 192) (lw_Z below #[Value.ref b] s) w133 1581 [(0, .inr (some b)), (1, .inr (some q1)), (2, .inr (some q4)), (4, .inl y24), (6, .inl v79)] [] := by
      intro w133 hJ
      have h := hjJ132 w133 hJ
      clear hJ
      refine g_iconst X (v := (0 : Int32)) dL_law_1581 (by decide) ?_
      exact g_sub [0, 1, 2, 3, 4] [(0, .inr (some b)), (1, .inr (some q1)), (2, .inr (some q4)), (4, .inl y24), (6, .inl v79)] rfl (jp129 (0 : Int32) w133 h)
    refine g_icmp_ne X (tgt := 1581) dL_law_1513 (by decide) (fun hc => ?_) (fun hc => ?_)
    · replace h := h.1 hc; clear hc
      refine g_widen (c2 := (530 + (51 - n21) * 920 + 32)) (s2 := (12685 + (51 - n21) * 13524 + 192)) (by omega) (by omega) ?_
      exact g_sub [3, 4, 5, 6, 7] [(0, .inr (some b)), (1, .inr (some q1)), (2, .inr (some q4)), (4, .inl y24), (6, .inl v79)] rfl (jp132 w127 h)
    · replace h := h.2 hc; clear hc
      refine g_iload X dL_law_1516 2 rfl ?_
      obtain ⟨J134, hjJ134, h⟩ := h
      have jp134 : ∀  (w135 : Wd), J134 w135 → Gw l G L0 p e rm_L_law s m #[Value.ref b] below meth c 16 (530 + (51 - n21) * 920 + 32) (12685 + (51 - n21) * 13524 + 192) (lw_Z below #[Value.ref b] s) w135 1577 [(0, .inr (some b)), (1, .inr (some q1)), (2, .inr (some q4)), (4, .inl y24), (6, .inl v79)] [] := by
        intro w135 hJ
        have h := hjJ134 w135 hJ
        clear hJ
        refine g_iconst X (v := (1 : Int32)) dL_law_1577 (by decide) ?_
        refine g_goto X (tgt := 1582) dL_law_1578 (by decide) ?_
        exact g_sub [0, 1, 2, 3, 4] [(0, .inr (some b)), (1, .inr (some q1)), (2, .inr (some q4)), (4, .inl y24), (6, .inl v79)] rfl (jp129 (1 : Int32) w135 h)
      refine g_if_eq X (tgt := 1577) dL_law_1518 (by decide) (fun hc => ?_) (fun hc => ?_)
      · replace h := h.1 hc; clear hc
        refine g_widen (c2 := (530 + (51 - n21) * 920 + 32)) (s2 := (12685 + (51 - n21) * 13524 + 192)) (by omega) (by omega) ?_
        exact g_sub [3, 4, 5, 6, 7] [(0, .inr (some b)), (1, .inr (some q1)), (2, .inr (some q4)), (4, .inl y24), (6, .inl v79)] rfl (jp134 w127 h)
      · replace h := h.2 hc; clear hc
        refine g_aload_n X dL_law_1521 rfl 4 rfl ?_
        refine g_iload X dL_law_1522 8 rfl ?_
        refine g_iconst X (v := (0 : Int32)) dL_law_1524 (by decide) ?_
        have hk := h.1
        replace h := h.2
        refine g_callFV_i X (As := [.int v87, .int (0 : Int32)]) (st := []) (n := 2) (c_X3_of hst h) rfl (by decide) hk (wE_4 G w127 q1) m_410 m_411 m_412 m_15 m_413 (by decide +kernel) (by decide +kernel) rfl rfl (Nat.zero_le _) ⟨(by have e1 : rm_L_law.cells = 1097659 := rfl; have e2 : rm_L_law.slots = 5808648 := rfl; have e3 : rm_X3_of.cells = 2 := rfl; have e4 : rm_X3_of.slots = 12 := rfl; omega), (by have e1 : rm_L_law.cells = 1097659 := rfl; have e2 : rm_L_law.slots = 5808648 := rfl; have e3 : rm_X3_of.cells = 2 := rfl; have e4 : rm_X3_of.slots = 12 := rfl; omega)⟩ dL_law_1525 (fun v137 w136 h => ?_)
        clear hk
        refine g_widen (c2 := (530 + (51 - n21) * 920 + 24)) (s2 := (12685 + (51 - n21) * 13524 + 144)) (by have e1 : rm_X3_of.cells = 2 := rfl; omega) (by have e1 : rm_X3_of.slots = 12 := rfl; omega) ?_
        refine g_iload X dL_law_1528 1 rfl ?_
        refine g_icmp_ne X (tgt := 1581) dL_law_1530 (by decide) (fun hc => ?_) (fun hc => ?_)
        · replace h := h.1 hc; clear hc
          refine g_widen (c2 := (530 + (51 - n21) * 920 + 32)) (s2 := (12685 + (51 - n21) * 13524 + 192)) (by omega) (by omega) ?_
          exact g_sub [3, 4, 5, 6, 7] [(0, .inr (some b)), (1, .inr (some q1)), (2, .inr (some q4)), (4, .inl y24), (6, .inl v79)] rfl (jp132 w136 h)
        · replace h := h.2 hc; clear hc
          refine g_aload_n X dL_law_1533 rfl 4 rfl ?_
          refine g_iload X dL_law_1534 7 rfl ?_
          refine g_iconst X (v := (0 : Int32)) dL_law_1536 (by decide) ?_
          have hk := h.1
          replace h := h.2
          refine g_callFV_i X (As := [.int v79, .int (0 : Int32)]) (st := []) (n := 2) (c_X3_of hst h) rfl (by decide) hk (wE_4 G w136 q1) m_410 m_411 m_412 m_15 m_413 (by decide +kernel) (by decide +kernel) rfl rfl (Nat.zero_le _) ⟨(by have e1 : rm_L_law.cells = 1097659 := rfl; have e2 : rm_L_law.slots = 5808648 := rfl; have e3 : rm_X3_of.cells = 2 := rfl; have e4 : rm_X3_of.slots = 12 := rfl; omega), (by have e1 : rm_L_law.cells = 1097659 := rfl; have e2 : rm_L_law.slots = 5808648 := rfl; have e3 : rm_X3_of.cells = 2 := rfl; have e4 : rm_X3_of.slots = 12 := rfl; omega)⟩ dL_law_1537 (fun v139 w138 h => ?_)
          clear hk
          refine g_widen (c2 := (530 + (51 - n21) * 920 + 26)) (s2 := (12685 + (51 - n21) * 13524 + 156)) (by have e1 : rm_X3_of.cells = 2 := rfl; omega) (by have e1 : rm_X3_of.slots = 12 := rfl; omega) ?_
          refine g_if_ne X (tgt := 1581) dL_law_1540 (by decide) (fun hc => ?_) (fun hc => ?_)
          · replace h := h.1 hc; clear hc
            refine g_widen (c2 := (530 + (51 - n21) * 920 + 32)) (s2 := (12685 + (51 - n21) * 13524 + 192)) (by omega) (by omega) ?_
            exact g_sub [3, 4, 5, 6, 7] [(0, .inr (some b)), (1, .inr (some q1)), (2, .inr (some q4)), (4, .inl y24), (6, .inl v79)] rfl (jp132 w138 h)
          · replace h := h.2 hc; clear hc
            refine g_aload_n X dL_law_1543 rfl 4 rfl ?_
            refine g_iload X dL_law_1544 8 rfl ?_
            refine g_iconst X (v := (2 : Int32)) dL_law_1546 (by decide) ?_
            have hk := h.1
            replace h := h.2
            refine g_callFV_i X (As := [.int v87, .int (2 : Int32)]) (st := []) (n := 2) (c_X3_of hst h) rfl (by decide) hk (wE_4 G w138 q1) m_410 m_411 m_412 m_15 m_413 (by decide +kernel) (by decide +kernel) rfl rfl (Nat.zero_le _) ⟨(by have e1 : rm_L_law.cells = 1097659 := rfl; have e2 : rm_L_law.slots = 5808648 := rfl; have e3 : rm_X3_of.cells = 2 := rfl; have e4 : rm_X3_of.slots = 12 := rfl; omega), (by have e1 : rm_L_law.cells = 1097659 := rfl; have e2 : rm_L_law.slots = 5808648 := rfl; have e3 : rm_X3_of.cells = 2 := rfl; have e4 : rm_X3_of.slots = 12 := rfl; omega)⟩ dL_law_1547 (fun v141 w140 h => ?_)
            clear hk
            refine g_widen (c2 := (530 + (51 - n21) * 920 + 28)) (s2 := (12685 + (51 - n21) * 13524 + 168)) (by have e1 : rm_X3_of.cells = 2 := rfl; omega) (by have e1 : rm_X3_of.slots = 12 := rfl; omega) ?_
            refine g_iload X dL_law_1550 0 rfl ?_
            refine g_icmp_ne X (tgt := 1581) dL_law_1552 (by decide) (fun hc => ?_) (fun hc => ?_)
            · replace h := h.1 hc; clear hc
              refine g_widen (c2 := (530 + (51 - n21) * 920 + 32)) (s2 := (12685 + (51 - n21) * 13524 + 192)) (by omega) (by omega) ?_
              exact g_sub [3, 4, 5, 6, 7] [(0, .inr (some b)), (1, .inr (some q1)), (2, .inr (some q4)), (4, .inl y24), (6, .inl v79)] rfl (jp132 w140 h)
            · replace h := h.2 hc; clear hc
              refine g_aload_n X dL_law_1555 rfl 4 rfl ?_
              refine g_iload X dL_law_1556 7 rfl ?_
              refine g_iconst X (v := (5 : Int32)) dL_law_1558 (by decide) ?_
              have hk := h.1
              replace h := h.2
              refine g_callFV_i X (As := [.int v79, .int (5 : Int32)]) (st := []) (n := 2) (c_X3_of hst h) rfl (by decide) hk (wE_4 G w140 q1) m_410 m_411 m_412 m_15 m_413 (by decide +kernel) (by decide +kernel) rfl rfl (Nat.zero_le _) ⟨(by have e1 : rm_L_law.cells = 1097659 := rfl; have e2 : rm_L_law.slots = 5808648 := rfl; have e3 : rm_X3_of.cells = 2 := rfl; have e4 : rm_X3_of.slots = 12 := rfl; omega), (by have e1 : rm_L_law.cells = 1097659 := rfl; have e2 : rm_L_law.slots = 5808648 := rfl; have e3 : rm_X3_of.cells = 2 := rfl; have e4 : rm_X3_of.slots = 12 := rfl; omega)⟩ dL_law_1559 (fun v143 w142 h => ?_)
              clear hk
              refine g_widen (c2 := (530 + (51 - n21) * 920 + 30)) (s2 := (12685 + (51 - n21) * 13524 + 180)) (by have e1 : rm_X3_of.cells = 2 := rfl; omega) (by have e1 : rm_X3_of.slots = 12 := rfl; omega) ?_
              refine g_if_ne X (tgt := 1581) dL_law_1562 (by decide) (fun hc => ?_) (fun hc => ?_)
              · replace h := h.1 hc; clear hc
                refine g_widen (c2 := (530 + (51 - n21) * 920 + 32)) (s2 := (12685 + (51 - n21) * 13524 + 192)) (by omega) (by omega) ?_
                exact g_sub [3, 4, 5, 6, 7] [(0, .inr (some b)), (1, .inr (some q1)), (2, .inr (some q4)), (4, .inl y24), (6, .inl v79)] rfl (jp132 w142 h)
              · replace h := h.2 hc; clear hc
                refine g_aload_n X dL_law_1565 rfl 4 rfl ?_
                refine g_iload X dL_law_1566 7 rfl ?_
                refine g_iconst X (v := (4 : Int32)) dL_law_1568 (by decide) ?_
                have hk := h.1
                replace h := h.2
                refine g_callFV_i X (As := [.int v79, .int (4 : Int32)]) (st := []) (n := 2) (c_X3_of hst h) rfl (by decide) hk (wE_4 G w142 q1) m_410 m_411 m_412 m_15 m_413 (by decide +kernel) (by decide +kernel) rfl rfl (Nat.zero_le _) ⟨(by have e1 : rm_L_law.cells = 1097659 := rfl; have e2 : rm_L_law.slots = 5808648 := rfl; have e3 : rm_X3_of.cells = 2 := rfl; have e4 : rm_X3_of.slots = 12 := rfl; omega), (by have e1 : rm_L_law.cells = 1097659 := rfl; have e2 : rm_L_law.slots = 5808648 := rfl; have e3 : rm_X3_of.cells = 2 := rfl; have e4 : rm_X3_of.slots = 12 := rfl; omega)⟩ dL_law_1569 (fun v145 w144 h => ?_)
                clear hk
                refine g_widen (c2 := (530 + (51 - n21) * 920 + 32)) (s2 := (12685 + (51 - n21) * 13524 + 192)) (by have e1 : rm_X3_of.cells = 2 := rfl; omega) (by have e1 : rm_X3_of.slots = 12 := rfl; omega) ?_
                refine g_iload X dL_law_1572 10 rfl ?_
                refine g_icmp_ne X (tgt := 1581) dL_law_1574 (by decide) (fun hc => ?_) (fun hc => ?_)
                · replace h := h.1 hc; clear hc
                  exact g_sub [3, 4, 5, 6, 7] [(0, .inr (some b)), (1, .inr (some q1)), (2, .inr (some q4)), (4, .inl y24), (6, .inl v79)] rfl (jp132 w144 h)
                · replace h := h.2 hc; clear hc
                  exact g_sub [3, 4, 5, 6, 7] [(0, .inr (some b)), (1, .inr (some q1)), (2, .inr (some q4)), (4, .inl y24), (6, .inl v79)] rfl (jp134 w144 h)
  obtain ⟨J146, hjJ146, h⟩ := h
  have jp146 : ∀  (w147 : Wd), J146 w147 → Gw l G L0 p e rm_L_law s m #[Value.ref b] below meth c 16 (530 + (51 - n21) * 920 + 12) (12685 + (51 - n21) * 13524 + 72) (lw_Z below #[Value.ref b] s) w147 1471 [(0, .inr (some b)), (1, .inr (some q1)), (2, .inr (some q4)), (4, .inl y24), (6, .inl v79), (8, .inl v87), (10, .inl v90), (11, .inl v92)] [] := by
    intro w147 hJ
    have h := hjJ146 w147 hJ
    clear hJ
    refine g_iconst X (v := (0 : Int32)) dL_law_1471 (by decide) ?_
    exact g_sub [0, 1, 2, 3, 4, 5, 6, 7] [(0, .inr (some b)), (1, .inr (some q1)), (2, .inr (some q4)), (4, .inl y24), (6, .inl v79), (8, .inl v87), (10, .inl v90), (11, .inl v92)] rfl (jp116 (0 : Int32) w147 h)
  refine g_icmp_ne X (tgt := 1471) dL_law_1433 (by decide) (fun hc => ?_) (fun hc => ?_)
  · replace h := h.1 hc; clear hc
    refine g_widen (c2 := (530 + (51 - n21) * 920 + 12)) (s2 := (12685 + (51 - n21) * 13524 + 72)) (by omega) (by omega) ?_
    exact g_sub [7, 8, 9, 11, 5, 3, 1, 0] [(0, .inr (some b)), (1, .inr (some q1)), (2, .inr (some q4)), (4, .inl y24), (6, .inl v79), (8, .inl v87), (10, .inl v90), (11, .inl v92)] rfl (jp146 w114 h)
  · replace h := h.2 hc; clear hc
    refine g_aload_n X dL_law_1436 rfl 8 rfl ?_
    refine g_iload X dL_law_1437 3 rfl ?_
    refine g_iconst X (v := (5 : Int32)) dL_law_1439 (by decide) ?_
    have hk := h.1
    replace h := h.2
    refine g_callFV_i X (As := [.int v87, .int (5 : Int32)]) (st := []) (n := 2) (c_X3_of hst h) rfl (by decide) hk (wE_4 G w114 q1) m_410 m_411 m_412 m_15 m_413 (by decide +kernel) (by decide +kernel) rfl rfl (Nat.zero_le _) ⟨(by have e1 : rm_L_law.cells = 1097659 := rfl; have e2 : rm_L_law.slots = 5808648 := rfl; have e3 : rm_X3_of.cells = 2 := rfl; have e4 : rm_X3_of.slots = 12 := rfl; omega), (by have e1 : rm_L_law.cells = 1097659 := rfl; have e2 : rm_L_law.slots = 5808648 := rfl; have e3 : rm_X3_of.cells = 2 := rfl; have e4 : rm_X3_of.slots = 12 := rfl; omega)⟩ dL_law_1440 (fun v149 w148 h => ?_)
    clear hk
    refine g_widen (c2 := (530 + (51 - n21) * 920 + 8)) (s2 := (12685 + (51 - n21) * 13524 + 48)) (by have e1 : rm_X3_of.cells = 2 := rfl; omega) (by have e1 : rm_X3_of.slots = 12 := rfl; omega) ?_
    refine g_iconst X (v := (1 : Int32)) dL_law_1443 (by decide) ?_
    refine g_icmp_ne X (tgt := 1471) dL_law_1444 (by decide) (fun hc => ?_) (fun hc => ?_)
    · replace h := h.1 hc; clear hc
      refine g_widen (c2 := (530 + (51 - n21) * 920 + 12)) (s2 := (12685 + (51 - n21) * 13524 + 72)) (by omega) (by omega) ?_
      exact g_sub [7, 8, 9, 11, 5, 3, 1, 0] [(0, .inr (some b)), (1, .inr (some q1)), (2, .inr (some q4)), (4, .inl y24), (6, .inl v79), (8, .inl v87), (10, .inl v90), (11, .inl v92)] rfl (jp146 w148 h)
    · replace h := h.2 hc; clear hc
      refine g_aload_n X dL_law_1447 rfl 8 rfl ?_
      refine g_iload X dL_law_1448 5 rfl ?_
      refine g_iconst X (v := (1 : Int32)) dL_law_1450 (by decide) ?_
      have hk := h.1
      replace h := h.2
      refine g_callFV_i X (As := [.int v79, .int (1 : Int32)]) (st := []) (n := 2) (c_X3_of hst h) rfl (by decide) hk (wE_4 G w148 q1) m_410 m_411 m_412 m_15 m_413 (by decide +kernel) (by decide +kernel) rfl rfl (Nat.zero_le _) ⟨(by have e1 : rm_L_law.cells = 1097659 := rfl; have e2 : rm_L_law.slots = 5808648 := rfl; have e3 : rm_X3_of.cells = 2 := rfl; have e4 : rm_X3_of.slots = 12 := rfl; omega), (by have e1 : rm_L_law.cells = 1097659 := rfl; have e2 : rm_L_law.slots = 5808648 := rfl; have e3 : rm_X3_of.cells = 2 := rfl; have e4 : rm_X3_of.slots = 12 := rfl; omega)⟩ dL_law_1451 (fun v151 w150 h => ?_)
      clear hk
      refine g_widen (c2 := (530 + (51 - n21) * 920 + 10)) (s2 := (12685 + (51 - n21) * 13524 + 60)) (by have e1 : rm_X3_of.cells = 2 := rfl; omega) (by have e1 : rm_X3_of.slots = 12 := rfl; omega) ?_
      refine g_aload_n X dL_law_1454 rfl 8 rfl ?_
      refine g_iload X dL_law_1455 3 rfl ?_
      refine g_iconst X (v := (1 : Int32)) dL_law_1457 (by decide) ?_
      have hk := h.1
      replace h := h.2
      refine g_callFV_i X (As := [.int v87, .int (1 : Int32)]) (st := [.int v151]) (n := 2) (c_X3_of hst h) rfl (by decide) hk (wE_4 G w150 q1) m_410 m_411 m_412 m_15 m_413 (by decide +kernel) (by decide +kernel) rfl rfl (by simp [cat_int, rf_cat]) ⟨(by have e1 : rm_L_law.cells = 1097659 := rfl; have e2 : rm_L_law.slots = 5808648 := rfl; have e3 : rm_X3_of.cells = 2 := rfl; have e4 : rm_X3_of.slots = 12 := rfl; omega), (by have e1 : rm_L_law.cells = 1097659 := rfl; have e2 : rm_L_law.slots = 5808648 := rfl; have e3 : rm_X3_of.cells = 2 := rfl; have e4 : rm_X3_of.slots = 12 := rfl; omega)⟩ dL_law_1458 (fun v153 w152 h => ?_)
      clear hk
      refine g_widen (c2 := (530 + (51 - n21) * 920 + 12)) (s2 := (12685 + (51 - n21) * 13524 + 72)) (by have e1 : rm_X3_of.cells = 2 := rfl; omega) (by have e1 : rm_X3_of.slots = 12 := rfl; omega) ?_
      refine g_iadd X dL_law_1461 (fun v154 hv => ?_)
      replace h := h v154 hv; clear hv
      refine g_bipush X (v := (100 : Int32)) dL_law_1462 (by decide) ?_
      refine g_icmp_gt X (tgt := 1471) dL_law_1464 (by decide) (fun hc => ?_) (fun hc => ?_)
      · replace h := h.1 hc; clear hc
        exact g_sub [7, 8, 9, 11, 5, 3, 1, 0] [(0, .inr (some b)), (1, .inr (some q1)), (2, .inr (some q4)), (4, .inl y24), (6, .inl v79), (8, .inl v87), (10, .inl v90), (11, .inl v92)] rfl (jp146 w152 h)
      · replace h := h.2 hc; clear hc
        refine g_iconst X (v := (1 : Int32)) dL_law_1467 (by decide) ?_
        refine g_goto X (tgt := 1472) dL_law_1468 (by decide) ?_
        exact g_sub [7, 8, 9, 11, 5, 3, 1, 0] [(0, .inr (some b)), (1, .inr (some q1)), (2, .inr (some q4)), (4, .inl y24), (6, .inl v79), (8, .inl v87), (10, .inl v90), (11, .inl v92)] rfl (jp116 (1 : Int32) w152 h)

def wpc_1367 (L : Nat) (xs : Nat → Int32) (q1 : Nat) (v79 : Int32) (v87 : Int32) (w91 : Wd) (J93 : Int32 → Wd → Prop) : Prop :=
  wp_L_feasts (some q1) w91 (fun v156 w155 => 
  ∃ J157 : Int32 → Wd → Prop, (∀ (y158 : Int32) (w159 : Wd), J157 y158 w159 →
  J93 y158 w159) ∧
  ∃ J160 : Wd → Prop, (∀  (w161 : Wd), J160 w161 →
  J157 (1 : Int32) w161) ∧
  (v156 < 0 → J160 w155) ∧ (¬ v156 < 0 → w155.K q1 = 4 ∧
  wp_X3_of q1 v79 (1 : Int32) w155 (fun v163 w162 => 
  ∃ J164 : Wd → Prop, (∀  (w165 : Wd), J164 w165 →
  J157 (0 : Int32) w165) ∧
  (¬ v163 = 0 → J164 w162) ∧ (v163 = 0 → w162.K q1 = 4 ∧
  wp_X3_of q1 v87 (1 : Int32) w162 (fun v167 w166 => 
  (¬ v167 = 0 → J164 w166) ∧ (v167 = 0 → w166.K q1 = 4 ∧
  wp_X3_of q1 v79 (2 : Int32) w166 (fun v169 w168 => 
  (¬ v169 = 0 → J164 w168) ∧ (v169 = 0 → J160 w168)) (fun _ _ => False))) (fun _ _ => False))) (fun _ _ => False)))
set_option maxHeartbeats 8000000 in
set_option maxRecDepth 100000 in
theorem q_1367 {p : Program} {e : Env} {s : State} {m : MethodId} {below : List Frame} {meth : Method} {c : Code} {l : Launch} {G : GT} {L0 b L : Nat} {xs : Nat → Int32} (hst : l.stackTraces = false) (hL0 : L0 = s.heap.size) (X : GC l G L0 p s m #[Value.ref b] meth c code 16 "SusuRingLaw") (hr : meth.sig.returnType = ret) (hX : va_X b L xs s s.heap) (hb : b < s.heap.size) (hbA : ¬ GA L0 b) (hLL : L < 2 ^ 31) {q1 : Nat} {q4 : Nat} {n21 : Nat} {y23 : Int32} {y24 : Int32} {v75 : Int32} {v79 : Int32} {v83 : Int32} {v87 : Int32} {v88 : Int32} {v90 : Int32} {w91 : Wd} {v92 : Int32} {J93 : Int32 → Wd → Prop} (hnbn21 : n21 ≤ 51) (jp93 : ∀ (y94 : Int32) (w95 : Wd), J93 y94 w95 → Gw l G L0 p e rm_L_law s m #[Value.ref b] below meth c 16 (530 + (51 - n21) * 920 + 358) (12685 + (51 - n21) * 13524 + 10152) (lw_Z below #[Value.ref b] s) w95 1583 [(0, .inr (some b)), (1, .inr (some q1)), (2, .inr (some q4)), (3, .inl y94), (4, .inl y24), (6, .inl v79)] []) (h : wpc_1367 L xs q1 v79 v87 w91 J93) : Gw l G L0 p e rm_L_law s m #[Value.ref b] below meth c 16 (530 + (51 - n21) * 920 + 4) (12685 + (51 - n21) * 13524 + 24) (lw_Z below #[Value.ref b] s) w91 1367 [(11, .inl v92), (10, .inl v90), (9, .inl v88), (8, .inl v87), (7, .inl v83), (6, .inl v79), (5, .inl v75), (0, .inr (some b)), (1, .inr (some q1)), (2, .inr (some q4)), (3, .inl y23), (4, .inl y24)] [] := by
  refine g_aload_n X dL_law_1367 rfl 8 rfl ?_
  refine g_callH_i X (As := [va_rf (some q1)]) (st := []) (n := 1) (c_L_feasts hst h) m_699 m_700 m_14 m_701 (by decide +kernel) (by decide +kernel) (by decide +kernel) rfl rfl (Nat.zero_le _) ⟨(by have e1 : rm_L_law.cells = 1097659 := rfl; have e2 : rm_L_law.slots = 5808648 := rfl; have e3 : rm_L_feasts.cells = 1 := rfl; have e4 : rm_L_feasts.slots = 6 := rfl; omega), (by have e1 : rm_L_law.cells = 1097659 := rfl; have e2 : rm_L_law.slots = 5808648 := rfl; have e3 : rm_L_feasts.cells = 1 := rfl; have e4 : rm_L_feasts.slots = 6 := rfl; omega)⟩ dL_law_1368 (fun v156 w155 h => ?_)
  refine g_widen (c2 := (530 + (51 - n21) * 920 + 5)) (s2 := (12685 + (51 - n21) * 13524 + 30)) (by have e1 : rm_L_feasts.cells = 1 := rfl; omega) (by have e1 : rm_L_feasts.slots = 6 := rfl; omega) ?_
  refine g_istore X [(12, .inl v156), (11, .inl v92), (10, .inl v90), (9, .inl v88), (8, .inl v87), (7, .inl v83), (6, .inl v79), (5, .inl v75), (0, .inr (some b)), (1, .inr (some q1)), (2, .inr (some q4)), (3, .inl y23), (4, .inl y24)] dL_law_1371 (by decide) rfl ?_
  refine g_iload X dL_law_1373 0 rfl ?_
  obtain ⟨J157, hjJ157, h⟩ := h
  have jp157 : ∀ (y158 : Int32) (w159 : Wd), J157 y158 w159 → Gw l G L0 p e rm_L_law s m #[Value.ref b] below meth c 16 (530 + (51 - n21) * 920 + 11) (12685 + (51 - n21) * 13524 + 66) (lw_Z below #[Value.ref b] s) w159 1413 [(0, .inr (some b)), (1, .inr (some q1)), (2, .inr (some q4)), (4, .inl y24), (6, .inl v79)] [.int y158] := by
    intro y158 w159 hJ
    have h := hjJ157 y158 w159 hJ
    clear hJ
    refine g_istore_n X [(3, .inl y158), (0, .inr (some b)), (1, .inr (some q1)), (2, .inr (some q4)), (4, .inl y24), (6, .inl v79)] dL_law_1413 rfl (by decide) rfl ?_
    refine g_goto X (tgt := 1583) dL_law_1414 (by decide) ?_
    refine g_widen (c2 := (530 + (51 - n21) * 920 + 358)) (s2 := (12685 + (51 - n21) * 13524 + 10152)) (by omega) (by omega) ?_
    exact g_sub [1, 2, 3, 0, 4, 5] [(0, .inr (some b)), (1, .inr (some q1)), (2, .inr (some q4)), (3, .inl y158), (4, .inl y24), (6, .inl v79)] rfl (jp93 y158 w159 h)
  obtain ⟨J160, hjJ160, h⟩ := h
  have jp160 : ∀  (w161 : Wd), J160 w161 → Gw l G L0 p e rm_L_law s m #[Value.ref b] below meth c 16 (530 + (51 - n21) * 920 + 11) (12685 + (51 - n21) * 13524 + 66) (lw_Z below #[Value.ref b] s) w161 1408 [(0, .inr (some b)), (1, .inr (some q1)), (2, .inr (some q4)), (4, .inl y24), (6, .inl v79)] [] := by
    intro w161 hJ
    have h := hjJ160 w161 hJ
    clear hJ
    refine g_iconst X (v := (1 : Int32)) dL_law_1408 (by decide) ?_
    refine g_goto X (tgt := 1413) dL_law_1409 (by decide) ?_
    exact g_sub [0, 1, 2, 3, 4] [(0, .inr (some b)), (1, .inr (some q1)), (2, .inr (some q4)), (4, .inl y24), (6, .inl v79)] rfl (jp157 (1 : Int32) w161 h)
  refine g_if_lt X (tgt := 1408) dL_law_1375 (by decide) (fun hc => ?_) (fun hc => ?_)
  · replace h := h.1 hc; clear hc
    refine g_widen (c2 := (530 + (51 - n21) * 920 + 11)) (s2 := (12685 + (51 - n21) * 13524 + 66)) (by omega) (by omega) ?_
    exact g_sub [8, 9, 10, 12, 6] [(0, .inr (some b)), (1, .inr (some q1)), (2, .inr (some q4)), (4, .inl y24), (6, .inl v79)] rfl (jp160 w155 h)
  · replace h := h.2 hc; clear hc
    refine g_aload_n X dL_law_1378 rfl 9 rfl ?_
    refine g_iload X dL_law_1379 6 rfl ?_
    refine g_iconst X (v := (1 : Int32)) dL_law_1381 (by decide) ?_
    have hk := h.1
    replace h := h.2
    refine g_callFV_i X (As := [.int v79, .int (1 : Int32)]) (st := []) (n := 2) (c_X3_of hst h) rfl (by decide) hk (wE_4 G w155 q1) m_410 m_411 m_412 m_15 m_413 (by decide +kernel) (by decide +kernel) rfl rfl (Nat.zero_le _) ⟨(by have e1 : rm_L_law.cells = 1097659 := rfl; have e2 : rm_L_law.slots = 5808648 := rfl; have e3 : rm_X3_of.cells = 2 := rfl; have e4 : rm_X3_of.slots = 12 := rfl; omega), (by have e1 : rm_L_law.cells = 1097659 := rfl; have e2 : rm_L_law.slots = 5808648 := rfl; have e3 : rm_X3_of.cells = 2 := rfl; have e4 : rm_X3_of.slots = 12 := rfl; omega)⟩ dL_law_1382 (fun v163 w162 h => ?_)
    clear hk
    refine g_widen (c2 := (530 + (51 - n21) * 920 + 7)) (s2 := (12685 + (51 - n21) * 13524 + 42)) (by have e1 : rm_X3_of.cells = 2 := rfl; omega) (by have e1 : rm_X3_of.slots = 12 := rfl; omega) ?_
    obtain ⟨J164, hjJ164, h⟩ := h
    have jp164 : ∀  (w165 : Wd), J164 w165 → Gw l G L0 p e rm_L_law s m #[Value.ref b] below meth c 16 (530 + (51 - n21) * 920 + 11) (12685 + (51 - n21) * 13524 + 66) (lw_Z below #[Value.ref b] s) w165 1412 [(0, .inr (some b)), (1, .inr (some q1)), (2, .inr (some q4)), (4, .inl y24), (6, .inl v79)] [] := by
      intro w165 hJ
      have h := hjJ164 w165 hJ
      clear hJ
      refine g_iconst X (v := (0 : Int32)) dL_law_1412 (by decide) ?_
      exact g_sub [0, 1, 2, 3, 4] [(0, .inr (some b)), (1, .inr (some q1)), (2, .inr (some q4)), (4, .inl y24), (6, .inl v79)] rfl (jp157 (0 : Int32) w165 h)
    refine g_if_ne X (tgt := 1412) dL_law_1385 (by decide) (fun hc => ?_) (fun hc => ?_)
    · replace h := h.1 hc; clear hc
      refine g_widen (c2 := (530 + (51 - n21) * 920 + 11)) (s2 := (12685 + (51 - n21) * 13524 + 66)) (by omega) (by omega) ?_
      exact g_sub [8, 9, 10, 12, 6] [(0, .inr (some b)), (1, .inr (some q1)), (2, .inr (some q4)), (4, .inl y24), (6, .inl v79)] rfl (jp164 w162 h)
    · replace h := h.2 hc; clear hc
      refine g_aload_n X dL_law_1388 rfl 9 rfl ?_
      refine g_iload X dL_law_1389 4 rfl ?_
      refine g_iconst X (v := (1 : Int32)) dL_law_1391 (by decide) ?_
      have hk := h.1
      replace h := h.2
      refine g_callFV_i X (As := [.int v87, .int (1 : Int32)]) (st := []) (n := 2) (c_X3_of hst h) rfl (by decide) hk (wE_4 G w162 q1) m_410 m_411 m_412 m_15 m_413 (by decide +kernel) (by decide +kernel) rfl rfl (Nat.zero_le _) ⟨(by have e1 : rm_L_law.cells = 1097659 := rfl; have e2 : rm_L_law.slots = 5808648 := rfl; have e3 : rm_X3_of.cells = 2 := rfl; have e4 : rm_X3_of.slots = 12 := rfl; omega), (by have e1 : rm_L_law.cells = 1097659 := rfl; have e2 : rm_L_law.slots = 5808648 := rfl; have e3 : rm_X3_of.cells = 2 := rfl; have e4 : rm_X3_of.slots = 12 := rfl; omega)⟩ dL_law_1392 (fun v167 w166 h => ?_)
      clear hk
      refine g_widen (c2 := (530 + (51 - n21) * 920 + 9)) (s2 := (12685 + (51 - n21) * 13524 + 54)) (by have e1 : rm_X3_of.cells = 2 := rfl; omega) (by have e1 : rm_X3_of.slots = 12 := rfl; omega) ?_
      refine g_if_ne X (tgt := 1412) dL_law_1395 (by decide) (fun hc => ?_) (fun hc => ?_)
      · replace h := h.1 hc; clear hc
        refine g_widen (c2 := (530 + (51 - n21) * 920 + 11)) (s2 := (12685 + (51 - n21) * 13524 + 66)) (by omega) (by omega) ?_
        exact g_sub [8, 9, 10, 12, 6] [(0, .inr (some b)), (1, .inr (some q1)), (2, .inr (some q4)), (4, .inl y24), (6, .inl v79)] rfl (jp164 w166 h)
      · replace h := h.2 hc; clear hc
        refine g_aload_n X dL_law_1398 rfl 9 rfl ?_
        refine g_iload X dL_law_1399 6 rfl ?_
        refine g_iconst X (v := (2 : Int32)) dL_law_1401 (by decide) ?_
        have hk := h.1
        replace h := h.2
        refine g_callFV_i X (As := [.int v79, .int (2 : Int32)]) (st := []) (n := 2) (c_X3_of hst h) rfl (by decide) hk (wE_4 G w166 q1) m_410 m_411 m_412 m_15 m_413 (by decide +kernel) (by decide +kernel) rfl rfl (Nat.zero_le _) ⟨(by have e1 : rm_L_law.cells = 1097659 := rfl; have e2 : rm_L_law.slots = 5808648 := rfl; have e3 : rm_X3_of.cells = 2 := rfl; have e4 : rm_X3_of.slots = 12 := rfl; omega), (by have e1 : rm_L_law.cells = 1097659 := rfl; have e2 : rm_L_law.slots = 5808648 := rfl; have e3 : rm_X3_of.cells = 2 := rfl; have e4 : rm_X3_of.slots = 12 := rfl; omega)⟩ dL_law_1402 (fun v169 w168 h => ?_)
        clear hk
        refine g_widen (c2 := (530 + (51 - n21) * 920 + 11)) (s2 := (12685 + (51 - n21) * 13524 + 66)) (by have e1 : rm_X3_of.cells = 2 := rfl; omega) (by have e1 : rm_X3_of.slots = 12 := rfl; omega) ?_
        refine g_if_ne X (tgt := 1412) dL_law_1405 (by decide) (fun hc => ?_) (fun hc => ?_)
        · replace h := h.1 hc; clear hc
          exact g_sub [8, 9, 10, 12, 6] [(0, .inr (some b)), (1, .inr (some q1)), (2, .inr (some q4)), (4, .inl y24), (6, .inl v79)] rfl (jp164 w168 h)
        · replace h := h.2 hc; clear hc
          exact g_sub [8, 9, 10, 12, 6] [(0, .inr (some b)), (1, .inr (some q1)), (2, .inr (some q4)), (4, .inl y24), (6, .inl v79)] rfl (jp160 w168 h)

def wpc_1259 (L : Nat) (xs : Nat → Int32) (q1 : Nat) (v79 : Int32) (v83 : Int32) (w91 : Wd) (J93 : Int32 → Wd → Prop) : Prop :=
  w91.K q1 = 4 ∧
  wp_X3_of q1 v79 (2 : Int32) w91 (fun v171 w170 => 
  ∃ J172 : Option Nat → Int32 → Prop, (∀ (q173 : Option Nat) (y174 : Int32), J172 q173 y174 →
  ∃ a175, q173 = some a175 ∧ w170.K a175 = 4 ∧
  wp_X3_month a175 y174 w170 (fun v177 w176 => 
  ∃ J178 : Int32 → Wd → Prop, (∀ (y179 : Int32) (w180 : Wd), J178 y179 w180 →
  J93 y179 w180) ∧
  ∃ J181 : Wd → Prop, (∀  (w182 : Wd), J181 w182 →
  J178 (0 : Int32) w182) ∧
  (v177 < 0 → J181 w176) ∧ (¬ v177 < 0 → w176.K q1 = 4 ∧
  wp_X3_of q1 v79 (2 : Int32) w176 (fun v184 w183 => 
  ∃ J185 : Int32 → Int32 → Prop, (∀ (y186 : Int32) (y187 : Int32), J185 y186 y187 →
  ∃ J188 : Wd → Prop, (∀  (w189 : Wd), J188 w189 →
  J178 (1 : Int32) w189) ∧
  (y186 = y187 → J188 w183) ∧ (¬ y186 = y187 → (v177 ≤ 0 → J181 w183) ∧ (¬ v177 ≤ 0 → w183.K q1 = 4 ∧
  wp_X3_of q1 v79 (2 : Int32) w183 (fun v191 w190 => 
  (¬ v191 = 0 → J181 w190) ∧ (v191 = 0 → w190.K q1 = 4 ∧
  wp_X3_of q1 v79 (3 : Int32) w190 (fun v193 w192 => 
  (¬ v193 = 0 → J181 w192) ∧ (v193 = 0 → J188 w192)) (fun _ _ => False))) (fun _ _ => False)))) ∧
  (v83 ≤ (700 : Int32) → ∀ v194 : Int32, v194 = v171 + (19 : Int32) →
  ¬ (20 : Int32) = 0 ∧ ∀ v195 : Int32, v195 = v194 / (20 : Int32) →
  ∀ v196 : Int32, v196 = v171 + v195 →
  J185 v184 v196) ∧ (¬ v83 ≤ (700 : Int32) → J185 v184 v171)) (fun _ _ => False)))) ∧
  (v83 ≤ (700 : Int32) → J172 (some q1) (0 : Int32)) ∧ (¬ v83 ≤ (700 : Int32) → J172 (some q1) (1 : Int32))) (fun _ _ => False)
set_option maxHeartbeats 8000000 in
set_option maxRecDepth 100000 in
theorem q_1259 {p : Program} {e : Env} {s : State} {m : MethodId} {below : List Frame} {meth : Method} {c : Code} {l : Launch} {G : GT} {L0 b L : Nat} {xs : Nat → Int32} (hst : l.stackTraces = false) (hL0 : L0 = s.heap.size) (X : GC l G L0 p s m #[Value.ref b] meth c code 16 "SusuRingLaw") (hr : meth.sig.returnType = ret) (hX : va_X b L xs s s.heap) (hb : b < s.heap.size) (hbA : ¬ GA L0 b) (hLL : L < 2 ^ 31) {q1 : Nat} {q4 : Nat} {n21 : Nat} {y23 : Int32} {y24 : Int32} {v75 : Int32} {v79 : Int32} {v83 : Int32} {v87 : Int32} {v88 : Int32} {v90 : Int32} {w91 : Wd} {v92 : Int32} {J93 : Int32 → Wd → Prop} (hnbn21 : n21 ≤ 51) (jp93 : ∀ (y94 : Int32) (w95 : Wd), J93 y94 w95 → Gw l G L0 p e rm_L_law s m #[Value.ref b] below meth c 16 (530 + (51 - n21) * 920 + 358) (12685 + (51 - n21) * 13524 + 10152) (lw_Z below #[Value.ref b] s) w95 1583 [(0, .inr (some b)), (1, .inr (some q1)), (2, .inr (some q4)), (3, .inl y94), (4, .inl y24), (6, .inl v79)] []) (h : wpc_1259 L xs q1 v79 v83 w91 J93) : Gw l G L0 p e rm_L_law s m #[Value.ref b] below meth c 16 (530 + (51 - n21) * 920 + 4) (12685 + (51 - n21) * 13524 + 24) (lw_Z below #[Value.ref b] s) w91 1259 [(11, .inl v92), (10, .inl v90), (9, .inl v88), (8, .inl v87), (7, .inl v83), (6, .inl v79), (5, .inl v75), (0, .inr (some b)), (1, .inr (some q1)), (2, .inr (some q4)), (3, .inl y23), (4, .inl y24)] [] := by
  refine g_aload_n X dL_law_1259 rfl 8 rfl ?_
  refine g_iload X dL_law_1260 5 rfl ?_
  refine g_iconst X (v := (2 : Int32)) dL_law_1262 (by decide) ?_
  have hk := h.1
  replace h := h.2
  refine g_callFV_i X (As := [.int v79, .int (2 : Int32)]) (st := []) (n := 2) (c_X3_of hst h) rfl (by decide) hk (wE_4 G w91 q1) m_410 m_411 m_412 m_15 m_413 (by decide +kernel) (by decide +kernel) rfl rfl (Nat.zero_le _) ⟨(by have e1 : rm_L_law.cells = 1097659 := rfl; have e2 : rm_L_law.slots = 5808648 := rfl; have e3 : rm_X3_of.cells = 2 := rfl; have e4 : rm_X3_of.slots = 12 := rfl; omega), (by have e1 : rm_L_law.cells = 1097659 := rfl; have e2 : rm_L_law.slots = 5808648 := rfl; have e3 : rm_X3_of.cells = 2 := rfl; have e4 : rm_X3_of.slots = 12 := rfl; omega)⟩ dL_law_1263 (fun v171 w170 h => ?_)
  clear hk
  refine g_widen (c2 := (530 + (51 - n21) * 920 + 6)) (s2 := (12685 + (51 - n21) * 13524 + 36)) (by have e1 : rm_X3_of.cells = 2 := rfl; omega) (by have e1 : rm_X3_of.slots = 12 := rfl; omega) ?_
  refine g_istore X [(12, .inl v171), (11, .inl v92), (10, .inl v90), (9, .inl v88), (8, .inl v87), (7, .inl v83), (6, .inl v79), (5, .inl v75), (0, .inr (some b)), (1, .inr (some q1)), (2, .inr (some q4)), (3, .inl y23), (4, .inl y24)] dL_law_1266 (by decide) rfl ?_
  refine g_aload_n X dL_law_1268 rfl 9 rfl ?_
  refine g_iload X dL_law_1269 5 rfl ?_
  refine g_sipush X (v := (700 : Int32)) dL_law_1271 (by decide) ?_
  obtain ⟨J172, hjJ172, h⟩ := h
  have jp172 : ∀ (q173 : Option Nat) (y174 : Int32), J172 q173 y174 → Gw l G L0 p e rm_L_law s m #[Value.ref b] below meth c 16 (530 + (51 - n21) * 920 + 6) (12685 + (51 - n21) * 13524 + 36) (lw_Z below #[Value.ref b] s) w170 1282 [(0, .inr (some b)), (1, .inr (some q1)), (2, .inr (some q4)), (4, .inl y24), (6, .inl v79), (7, .inl v83), (12, .inl v171)] [.int y174, va_rf q173] := by
    intro q173 y174 hJ
    have h := hjJ172 q173 y174 hJ
    clear hJ
    obtain ⟨a175, rfl, hk, h⟩ := h
    refine g_callV_i X (As := [.int y174]) (st := []) (n := 1) (c_X3_month hst h) rfl (by decide) hk (wE_4 G w170 a175) m_372 m_373 m_374 m_15 m_375 (by decide +kernel) (by decide +kernel) rfl rfl (Nat.zero_le _) ⟨(by have e1 : rm_L_law.cells = 1097659 := rfl; have e2 : rm_L_law.slots = 5808648 := rfl; have e3 : rm_X3_month.cells = 0 := rfl; have e4 : rm_X3_month.slots = 0 := rfl; omega), (by have e1 : rm_L_law.cells = 1097659 := rfl; have e2 : rm_L_law.slots = 5808648 := rfl; have e3 : rm_X3_month.cells = 0 := rfl; have e4 : rm_X3_month.slots = 0 := rfl; omega)⟩ dL_law_1282 (fun v177 w176 h => ?_)
    clear hk
    refine g_widen (c2 := (530 + (51 - n21) * 920 + 6)) (s2 := (12685 + (51 - n21) * 13524 + 36)) (by have e1 : rm_X3_month.cells = 0 := rfl; omega) (by have e1 : rm_X3_month.slots = 0 := rfl; omega) ?_
    refine g_istore X [(13, .inl v177), (0, .inr (some b)), (1, .inr (some q1)), (2, .inr (some q4)), (4, .inl y24), (6, .inl v79), (7, .inl v83), (12, .inl v171)] dL_law_1285 (by decide) rfl ?_
    refine g_iload X dL_law_1287 0 rfl ?_
    obtain ⟨J178, hjJ178, h⟩ := h
    have jp178 : ∀ (y179 : Int32) (w180 : Wd), J178 y179 w180 → Gw l G L0 p e rm_L_law s m #[Value.ref b] below meth c 16 (530 + (51 - n21) * 920 + 12) (12685 + (51 - n21) * 13524 + 72) (lw_Z below #[Value.ref b] s) w180 1356 [(0, .inr (some b)), (1, .inr (some q1)), (2, .inr (some q4)), (4, .inl y24), (6, .inl v79)] [.int y179] := by
      intro y179 w180 hJ
      have h := hjJ178 y179 w180 hJ
      clear hJ
      refine g_istore_n X [(3, .inl y179), (0, .inr (some b)), (1, .inr (some q1)), (2, .inr (some q4)), (4, .inl y24), (6, .inl v79)] dL_law_1356 rfl (by decide) rfl ?_
      refine g_goto X (tgt := 1583) dL_law_1357 (by decide) ?_
      refine g_widen (c2 := (530 + (51 - n21) * 920 + 358)) (s2 := (12685 + (51 - n21) * 13524 + 10152)) (by omega) (by omega) ?_
      exact g_sub [1, 2, 3, 0, 4, 5] [(0, .inr (some b)), (1, .inr (some q1)), (2, .inr (some q4)), (3, .inl y179), (4, .inl y24), (6, .inl v79)] rfl (jp93 y179 w180 h)
    obtain ⟨J181, hjJ181, h⟩ := h
    have jp181 : ∀  (w182 : Wd), J181 w182 → Gw l G L0 p e rm_L_law s m #[Value.ref b] below meth c 16 (530 + (51 - n21) * 920 + 12) (12685 + (51 - n21) * 13524 + 72) (lw_Z below #[Value.ref b] s) w182 1355 [(0, .inr (some b)), (1, .inr (some q1)), (2, .inr (some q4)), (4, .inl y24), (6, .inl v79)] [] := by
      intro w182 hJ
      have h := hjJ181 w182 hJ
      clear hJ
      refine g_iconst X (v := (0 : Int32)) dL_law_1355 (by decide) ?_
      exact g_sub [0, 1, 2, 3, 4] [(0, .inr (some b)), (1, .inr (some q1)), (2, .inr (some q4)), (4, .inl y24), (6, .inl v79)] rfl (jp178 (0 : Int32) w182 h)
    refine g_if_lt X (tgt := 1355) dL_law_1289 (by decide) (fun hc => ?_) (fun hc => ?_)
    · replace h := h.1 hc; clear hc
      refine g_widen (c2 := (530 + (51 - n21) * 920 + 12)) (s2 := (12685 + (51 - n21) * 13524 + 72)) (by omega) (by omega) ?_
      exact g_sub [1, 2, 3, 4, 5] [(0, .inr (some b)), (1, .inr (some q1)), (2, .inr (some q4)), (4, .inl y24), (6, .inl v79)] rfl (jp181 w176 h)
    · replace h := h.2 hc; clear hc
      refine g_aload_n X dL_law_1292 rfl 2 rfl ?_
      refine g_iload X dL_law_1293 5 rfl ?_
      refine g_iconst X (v := (2 : Int32)) dL_law_1295 (by decide) ?_
      have hk := h.1
      replace h := h.2
      refine g_callFV_i X (As := [.int v79, .int (2 : Int32)]) (st := []) (n := 2) (c_X3_of hst h) rfl (by decide) hk (wE_4 G w176 q1) m_410 m_411 m_412 m_15 m_413 (by decide +kernel) (by decide +kernel) rfl rfl (Nat.zero_le _) ⟨(by have e1 : rm_L_law.cells = 1097659 := rfl; have e2 : rm_L_law.slots = 5808648 := rfl; have e3 : rm_X3_of.cells = 2 := rfl; have e4 : rm_X3_of.slots = 12 := rfl; omega), (by have e1 : rm_L_law.cells = 1097659 := rfl; have e2 : rm_L_law.slots = 5808648 := rfl; have e3 : rm_X3_of.cells = 2 := rfl; have e4 : rm_X3_of.slots = 12 := rfl; omega)⟩ dL_law_1296 (fun v184 w183 h => ?_)
      clear hk
      refine g_widen (c2 := (530 + (51 - n21) * 920 + 8)) (s2 := (12685 + (51 - n21) * 13524 + 48)) (by have e1 : rm_X3_of.cells = 2 := rfl; omega) (by have e1 : rm_X3_of.slots = 12 := rfl; omega) ?_
      refine g_iload X dL_law_1299 6 rfl ?_
      refine g_sipush X (v := (700 : Int32)) dL_law_1301 (by decide) ?_
      obtain ⟨J185, hjJ185, h⟩ := h
      have jp185 : ∀ (y186 : Int32) (y187 : Int32), J185 y186 y187 → Gw l G L0 p e rm_L_law s m #[Value.ref b] below meth c 16 (530 + (51 - n21) * 920 + 8) (12685 + (51 - n21) * 13524 + 48) (lw_Z below #[Value.ref b] s) w183 1323 [(0, .inr (some b)), (1, .inr (some q1)), (2, .inr (some q4)), (4, .inl y24), (6, .inl v79), (13, .inl v177)] [.int y187, .int y186] := by
        intro y186 y187 hJ
        have h := hjJ185 y186 y187 hJ
        clear hJ
        obtain ⟨J188, hjJ188, h⟩ := h
        have jp188 : ∀  (w189 : Wd), J188 w189 → Gw l G L0 p e rm_L_law s m #[Value.ref b] below meth c 16 (530 + (51 - n21) * 920 + 12) (12685 + (51 - n21) * 13524 + 72) (lw_Z below #[Value.ref b] s) w189 1351 [(0, .inr (some b)), (1, .inr (some q1)), (2, .inr (some q4)), (4, .inl y24), (6, .inl v79)] [] := by
          intro w189 hJ
          have h := hjJ188 w189 hJ
          clear hJ
          refine g_iconst X (v := (1 : Int32)) dL_law_1351 (by decide) ?_
          refine g_goto X (tgt := 1356) dL_law_1352 (by decide) ?_
          exact g_sub [0, 1, 2, 3, 4] [(0, .inr (some b)), (1, .inr (some q1)), (2, .inr (some q4)), (4, .inl y24), (6, .inl v79)] rfl (jp178 (1 : Int32) w189 h)
        refine g_icmp_eq X (tgt := 1351) dL_law_1323 (by decide) (fun hc => ?_) (fun hc => ?_)
        · replace h := h.1 hc; clear hc
          refine g_widen (c2 := (530 + (51 - n21) * 920 + 12)) (s2 := (12685 + (51 - n21) * 13524 + 72)) (by omega) (by omega) ?_
          exact g_sub [0, 1, 2, 3, 4] [(0, .inr (some b)), (1, .inr (some q1)), (2, .inr (some q4)), (4, .inl y24), (6, .inl v79)] rfl (jp188 w183 h)
        · replace h := h.2 hc; clear hc
          refine g_iload X dL_law_1326 5 rfl ?_
          refine g_if_le X (tgt := 1355) dL_law_1328 (by decide) (fun hc => ?_) (fun hc => ?_)
          · replace h := h.1 hc; clear hc
            refine g_widen (c2 := (530 + (51 - n21) * 920 + 12)) (s2 := (12685 + (51 - n21) * 13524 + 72)) (by omega) (by omega) ?_
            exact g_sub [0, 1, 2, 3, 4] [(0, .inr (some b)), (1, .inr (some q1)), (2, .inr (some q4)), (4, .inl y24), (6, .inl v79)] rfl (jp181 w183 h)
          · replace h := h.2 hc; clear hc
            refine g_aload_n X dL_law_1331 rfl 1 rfl ?_
            refine g_iload X dL_law_1332 4 rfl ?_
            refine g_iconst X (v := (2 : Int32)) dL_law_1334 (by decide) ?_
            have hk := h.1
            replace h := h.2
            refine g_callFV_i X (As := [.int v79, .int (2 : Int32)]) (st := []) (n := 2) (c_X3_of hst h) rfl (by decide) hk (wE_4 G w183 q1) m_410 m_411 m_412 m_15 m_413 (by decide +kernel) (by decide +kernel) rfl rfl (Nat.zero_le _) ⟨(by have e1 : rm_L_law.cells = 1097659 := rfl; have e2 : rm_L_law.slots = 5808648 := rfl; have e3 : rm_X3_of.cells = 2 := rfl; have e4 : rm_X3_of.slots = 12 := rfl; omega), (by have e1 : rm_L_law.cells = 1097659 := rfl; have e2 : rm_L_law.slots = 5808648 := rfl; have e3 : rm_X3_of.cells = 2 := rfl; have e4 : rm_X3_of.slots = 12 := rfl; omega)⟩ dL_law_1335 (fun v191 w190 h => ?_)
            clear hk
            refine g_widen (c2 := (530 + (51 - n21) * 920 + 10)) (s2 := (12685 + (51 - n21) * 13524 + 60)) (by have e1 : rm_X3_of.cells = 2 := rfl; omega) (by have e1 : rm_X3_of.slots = 12 := rfl; omega) ?_
            refine g_if_ne X (tgt := 1355) dL_law_1338 (by decide) (fun hc => ?_) (fun hc => ?_)
            · replace h := h.1 hc; clear hc
              refine g_widen (c2 := (530 + (51 - n21) * 920 + 12)) (s2 := (12685 + (51 - n21) * 13524 + 72)) (by omega) (by omega) ?_
              exact g_sub [0, 1, 2, 3, 4] [(0, .inr (some b)), (1, .inr (some q1)), (2, .inr (some q4)), (4, .inl y24), (6, .inl v79)] rfl (jp181 w190 h)
            · replace h := h.2 hc; clear hc
              refine g_aload_n X dL_law_1341 rfl 1 rfl ?_
              refine g_iload X dL_law_1342 4 rfl ?_
              refine g_iconst X (v := (3 : Int32)) dL_law_1344 (by decide) ?_
              have hk := h.1
              replace h := h.2
              refine g_callFV_i X (As := [.int v79, .int (3 : Int32)]) (st := []) (n := 2) (c_X3_of hst h) rfl (by decide) hk (wE_4 G w190 q1) m_410 m_411 m_412 m_15 m_413 (by decide +kernel) (by decide +kernel) rfl rfl (Nat.zero_le _) ⟨(by have e1 : rm_L_law.cells = 1097659 := rfl; have e2 : rm_L_law.slots = 5808648 := rfl; have e3 : rm_X3_of.cells = 2 := rfl; have e4 : rm_X3_of.slots = 12 := rfl; omega), (by have e1 : rm_L_law.cells = 1097659 := rfl; have e2 : rm_L_law.slots = 5808648 := rfl; have e3 : rm_X3_of.cells = 2 := rfl; have e4 : rm_X3_of.slots = 12 := rfl; omega)⟩ dL_law_1345 (fun v193 w192 h => ?_)
              clear hk
              refine g_widen (c2 := (530 + (51 - n21) * 920 + 12)) (s2 := (12685 + (51 - n21) * 13524 + 72)) (by have e1 : rm_X3_of.cells = 2 := rfl; omega) (by have e1 : rm_X3_of.slots = 12 := rfl; omega) ?_
              refine g_if_ne X (tgt := 1355) dL_law_1348 (by decide) (fun hc => ?_) (fun hc => ?_)
              · replace h := h.1 hc; clear hc
                exact g_sub [0, 1, 2, 3, 4] [(0, .inr (some b)), (1, .inr (some q1)), (2, .inr (some q4)), (4, .inl y24), (6, .inl v79)] rfl (jp181 w192 h)
              · replace h := h.2 hc; clear hc
                exact g_sub [0, 1, 2, 3, 4] [(0, .inr (some b)), (1, .inr (some q1)), (2, .inr (some q4)), (4, .inl y24), (6, .inl v79)] rfl (jp188 w192 h)
      refine g_icmp_le X (tgt := 1312) dL_law_1304 (by decide) (fun hc => ?_) (fun hc => ?_)
      · replace h := h.1 hc; clear hc
        refine g_iload X dL_law_1312 7 rfl ?_
        refine g_iload X dL_law_1314 7 rfl ?_
        refine g_bipush X (v := (19 : Int32)) dL_law_1316 (by decide) ?_
        refine g_iadd X dL_law_1318 (fun v194 hv => ?_)
        replace h := h v194 hv; clear hv
        refine g_bipush X (v := (20 : Int32)) dL_law_1319 (by decide) ?_
        refine g_idiv X dL_law_1321 h.1 (fun v195 hv => ?_)
        replace h := h.2 v195 hv; clear hv
        refine g_iadd X dL_law_1322 (fun v196 hv => ?_)
        replace h := h v196 hv; clear hv
        exact g_sub [1, 2, 3, 4, 5, 0] [(0, .inr (some b)), (1, .inr (some q1)), (2, .inr (some q4)), (4, .inl y24), (6, .inl v79), (13, .inl v177)] rfl (jp185 v184 v196 h)
      · replace h := h.2 hc; clear hc
        refine g_iload X dL_law_1307 7 rfl ?_
        refine g_goto X (tgt := 1323) dL_law_1309 (by decide) ?_
        exact g_sub [1, 2, 3, 4, 5, 0] [(0, .inr (some b)), (1, .inr (some q1)), (2, .inr (some q4)), (4, .inl y24), (6, .inl v79), (13, .inl v177)] rfl (jp185 v184 v171 h)
  refine g_icmp_le X (tgt := 1281) dL_law_1274 (by decide) (fun hc => ?_) (fun hc => ?_)
  · replace h := h.1 hc; clear hc
    refine g_iconst X (v := (0 : Int32)) dL_law_1281 (by decide) ?_
    exact g_sub [8, 9, 10, 12, 6, 5, 0] [(0, .inr (some b)), (1, .inr (some q1)), (2, .inr (some q4)), (4, .inl y24), (6, .inl v79), (7, .inl v83), (12, .inl v171)] rfl (jp172 (some q1) (0 : Int32) h)
  · replace h := h.2 hc; clear hc
    refine g_iconst X (v := (1 : Int32)) dL_law_1277 (by decide) ?_
    refine g_goto X (tgt := 1282) dL_law_1278 (by decide) ?_
    exact g_sub [8, 9, 10, 12, 6, 5, 0] [(0, .inr (some b)), (1, .inr (some q1)), (2, .inr (some q4)), (4, .inl y24), (6, .inl v79), (7, .inl v83), (12, .inl v171)] rfl (jp172 (some q1) (1 : Int32) h)

def wpc_1130 (L : Nat) (xs : Nat → Int32) (q1 : Nat) (v79 : Int32) (v83 : Int32) (v90 : Int32) (w91 : Wd) (v92 : Int32) (J93 : Int32 → Wd → Prop) : Prop :=
  w91.K q1 = 4 ∧
  wp_X3_of q1 v79 (2 : Int32) w91 (fun v198 w197 => 
  ∀ v199 : Int32, v199 = v83 + (1 : Int32) →
  ∃ J200 : Int32 → Prop, (∀ (y201 : Int32), J200 y201 →
  ∃ J202 : Int32 → Prop, (∀ (y203 : Int32), J202 y203 →
  ∀ v204 : Int32, v204 = v83 + (1 : Int32) →
  wp_L_isRepay (some q1) v79 v204 w197 (fun v206 w205 => 
  ∃ J207 : Int32 → Wd → Prop, (∀ (y208 : Int32) (w209 : Wd), J207 y208 w209 →
  J93 y208 w209) ∧
  ∃ J210 : Wd → Prop, (∀  (w211 : Wd), J210 w211 →
  J207 (0 : Int32) w211) ∧
  (¬ v206 = y203 → J210 w205) ∧ (v206 = y203 → w205.K q1 = 4 ∧
  wp_X3_of q1 v79 (2 : Int32) w205 (fun v213 w212 => 
  ∃ J214 : Int32 → Int32 → Prop, (∀ (y215 : Int32) (y216 : Int32), J214 y215 y216 →
  (¬ y215 = y216 → J210 w212) ∧ (y215 = y216 → w212.K q1 = 4 ∧
  wp_X3_of q1 v79 (4 : Int32) w212 (fun v218 w217 => 
  ∃ J219 : Int32 → Int32 → Prop, (∀ (y220 : Int32) (y221 : Int32), J219 y220 y221 →
  (¬ y220 = y221 → J210 w217) ∧ (y220 = y221 → J207 (1 : Int32) w217)) ∧
  (y203 = 0 → J219 v218 v92) ∧ (¬ y203 = 0 → ∀ v222 : Int32, v222 = v92 + y201 →
  J219 v218 v222)) (fun _ _ => False))) ∧
  (y203 = 0 → J214 v213 v198) ∧ (¬ y203 = 0 → ∀ v223 : Int32, v223 = v198 - y201 →
  J214 v213 v223)) (fun _ _ => False)))) ∧
  ∃ J224 : Prop, (J224 →
  J202 (0 : Int32)) ∧
  (v198 ≤ 0 → J224) ∧ (¬ v198 ≤ 0 → (v90 < y201 → J224) ∧ (¬ v90 < y201 → J202 (1 : Int32)))) ∧
  (v199 ≤ v198 → ∀ v225 : Int32, v225 = v83 + (1 : Int32) →
  J200 v225) ∧ (¬ v199 ≤ v198 → J200 v198)) (fun _ _ => False)
set_option maxHeartbeats 8000000 in
set_option maxRecDepth 100000 in
theorem q_1130 {p : Program} {e : Env} {s : State} {m : MethodId} {below : List Frame} {meth : Method} {c : Code} {l : Launch} {G : GT} {L0 b L : Nat} {xs : Nat → Int32} (hst : l.stackTraces = false) (hL0 : L0 = s.heap.size) (X : GC l G L0 p s m #[Value.ref b] meth c code 16 "SusuRingLaw") (hr : meth.sig.returnType = ret) (hX : va_X b L xs s s.heap) (hb : b < s.heap.size) (hbA : ¬ GA L0 b) (hLL : L < 2 ^ 31) {q1 : Nat} {q4 : Nat} {n21 : Nat} {y23 : Int32} {y24 : Int32} {v75 : Int32} {v79 : Int32} {v83 : Int32} {v87 : Int32} {v88 : Int32} {v90 : Int32} {w91 : Wd} {v92 : Int32} {J93 : Int32 → Wd → Prop} (hnbn21 : n21 ≤ 51) (jp93 : ∀ (y94 : Int32) (w95 : Wd), J93 y94 w95 → Gw l G L0 p e rm_L_law s m #[Value.ref b] below meth c 16 (530 + (51 - n21) * 920 + 358) (12685 + (51 - n21) * 13524 + 10152) (lw_Z below #[Value.ref b] s) w95 1583 [(0, .inr (some b)), (1, .inr (some q1)), (2, .inr (some q4)), (3, .inl y94), (4, .inl y24), (6, .inl v79)] []) (h : wpc_1130 L xs q1 v79 v83 v90 w91 v92 J93) : Gw l G L0 p e rm_L_law s m #[Value.ref b] below meth c 16 (530 + (51 - n21) * 920 + 4) (12685 + (51 - n21) * 13524 + 24) (lw_Z below #[Value.ref b] s) w91 1130 [(11, .inl v92), (10, .inl v90), (9, .inl v88), (8, .inl v87), (7, .inl v83), (6, .inl v79), (5, .inl v75), (0, .inr (some b)), (1, .inr (some q1)), (2, .inr (some q4)), (3, .inl y23), (4, .inl y24)] [] := by
  refine g_aload_n X dL_law_1130 rfl 8 rfl ?_
  refine g_iload X dL_law_1131 5 rfl ?_
  refine g_iconst X (v := (2 : Int32)) dL_law_1133 (by decide) ?_
  have hk := h.1
  replace h := h.2
  refine g_callFV_i X (As := [.int v79, .int (2 : Int32)]) (st := []) (n := 2) (c_X3_of hst h) rfl (by decide) hk (wE_4 G w91 q1) m_410 m_411 m_412 m_15 m_413 (by decide +kernel) (by decide +kernel) rfl rfl (Nat.zero_le _) ⟨(by have e1 : rm_L_law.cells = 1097659 := rfl; have e2 : rm_L_law.slots = 5808648 := rfl; have e3 : rm_X3_of.cells = 2 := rfl; have e4 : rm_X3_of.slots = 12 := rfl; omega), (by have e1 : rm_L_law.cells = 1097659 := rfl; have e2 : rm_L_law.slots = 5808648 := rfl; have e3 : rm_X3_of.cells = 2 := rfl; have e4 : rm_X3_of.slots = 12 := rfl; omega)⟩ dL_law_1134 (fun v198 w197 h => ?_)
  clear hk
  refine g_widen (c2 := (530 + (51 - n21) * 920 + 6)) (s2 := (12685 + (51 - n21) * 13524 + 36)) (by have e1 : rm_X3_of.cells = 2 := rfl; omega) (by have e1 : rm_X3_of.slots = 12 := rfl; omega) ?_
  refine g_istore X [(12, .inl v198), (11, .inl v92), (10, .inl v90), (9, .inl v88), (8, .inl v87), (7, .inl v83), (6, .inl v79), (5, .inl v75), (0, .inr (some b)), (1, .inr (some q1)), (2, .inr (some q4)), (3, .inl y23), (4, .inl y24)] dL_law_1137 (by decide) rfl ?_
  refine g_iload X dL_law_1139 5 rfl ?_
  refine g_iconst X (v := (1 : Int32)) dL_law_1141 (by decide) ?_
  refine g_iadd X dL_law_1142 (fun v199 hv => ?_)
  replace h := h v199 hv; clear hv
  refine g_iload X dL_law_1143 0 rfl ?_
  obtain ⟨J200, hjJ200, h⟩ := h
  have jp200 : ∀ (y201 : Int32), J200 y201 → Gw l G L0 p e rm_L_law s m #[Value.ref b] below meth c 16 (530 + (51 - n21) * 920 + 6) (12685 + (51 - n21) * 13524 + 36) (lw_Z below #[Value.ref b] s) w197 1157 [(0, .inr (some b)), (1, .inr (some q1)), (2, .inr (some q4)), (4, .inl y24), (6, .inl v79), (7, .inl v83), (10, .inl v90), (11, .inl v92), (12, .inl v198)] [.int y201] := by
    intro y201 hJ
    have h := hjJ200 y201 hJ
    clear hJ
    refine g_istore X [(13, .inl y201), (0, .inr (some b)), (1, .inr (some q1)), (2, .inr (some q4)), (4, .inl y24), (6, .inl v79), (7, .inl v83), (10, .inl v90), (11, .inl v92), (12, .inl v198)] dL_law_1157 (by decide) rfl ?_
    refine g_iload X dL_law_1159 9 rfl ?_
    obtain ⟨J202, hjJ202, h⟩ := h
    have jp202 : ∀ (y203 : Int32), J202 y203 → Gw l G L0 p e rm_L_law s m #[Value.ref b] below meth c 16 (530 + (51 - n21) * 920 + 6) (12685 + (51 - n21) * 13524 + 36) (lw_Z below #[Value.ref b] s) w197 1176 [(0, .inr (some b)), (1, .inr (some q1)), (2, .inr (some q4)), (4, .inl y24), (6, .inl v79), (7, .inl v83), (11, .inl v92), (12, .inl v198), (13, .inl y201)] [.int y203] := by
      intro y203 hJ
      have h := hjJ202 y203 hJ
      clear hJ
      refine g_istore X [(14, .inl y203), (0, .inr (some b)), (1, .inr (some q1)), (2, .inr (some q4)), (4, .inl y24), (6, .inl v79), (7, .inl v83), (11, .inl v92), (12, .inl v198), (13, .inl y201)] dL_law_1176 (by decide) rfl ?_
      refine g_aload_n X dL_law_1178 rfl 2 rfl ?_
      refine g_iload X dL_law_1179 5 rfl ?_
      refine g_iload X dL_law_1181 6 rfl ?_
      refine g_iconst X (v := (1 : Int32)) dL_law_1183 (by decide) ?_
      refine g_iadd X dL_law_1184 (fun v204 hv => ?_)
      replace h := h v204 hv; clear hv
      refine g_callH_i X (As := [va_rf (some q1), .int v79, .int v204]) (st := []) (n := 3) (c_L_isRepay hst h) m_691 m_692 m_14 m_693 (by decide +kernel) (by decide +kernel) (by decide +kernel) rfl rfl (Nat.zero_le _) ⟨(by have e1 : rm_L_law.cells = 1097659 := rfl; have e2 : rm_L_law.slots = 5808648 := rfl; have e3 : rm_L_isRepay.cells = 3 := rfl; have e4 : rm_L_isRepay.slots = 18 := rfl; omega), (by have e1 : rm_L_law.cells = 1097659 := rfl; have e2 : rm_L_law.slots = 5808648 := rfl; have e3 : rm_L_isRepay.cells = 3 := rfl; have e4 : rm_L_isRepay.slots = 18 := rfl; omega)⟩ dL_law_1185 (fun v206 w205 h => ?_)
      refine g_widen (c2 := (530 + (51 - n21) * 920 + 9)) (s2 := (12685 + (51 - n21) * 13524 + 54)) (by have e1 : rm_L_isRepay.cells = 3 := rfl; omega) (by have e1 : rm_L_isRepay.slots = 18 := rfl; omega) ?_
      refine g_iload X dL_law_1188 0 rfl ?_
      obtain ⟨J207, hjJ207, h⟩ := h
      have jp207 : ∀ (y208 : Int32) (w209 : Wd), J207 y208 w209 → Gw l G L0 p e rm_L_law s m #[Value.ref b] below meth c 16 (530 + (51 - n21) * 920 + 13) (12685 + (51 - n21) * 13524 + 78) (lw_Z below #[Value.ref b] s) w209 1248 [(0, .inr (some b)), (1, .inr (some q1)), (2, .inr (some q4)), (4, .inl y24), (6, .inl v79)] [.int y208] := by
        intro y208 w209 hJ
        have h := hjJ207 y208 w209 hJ
        clear hJ
        refine g_istore_n X [(3, .inl y208), (0, .inr (some b)), (1, .inr (some q1)), (2, .inr (some q4)), (4, .inl y24), (6, .inl v79)] dL_law_1248 rfl (by decide) rfl ?_
        refine g_goto X (tgt := 1583) dL_law_1249 (by decide) ?_
        refine g_widen (c2 := (530 + (51 - n21) * 920 + 358)) (s2 := (12685 + (51 - n21) * 13524 + 10152)) (by omega) (by omega) ?_
        exact g_sub [1, 2, 3, 0, 4, 5] [(0, .inr (some b)), (1, .inr (some q1)), (2, .inr (some q4)), (3, .inl y208), (4, .inl y24), (6, .inl v79)] rfl (jp93 y208 w209 h)
      obtain ⟨J210, hjJ210, h⟩ := h
      have jp210 : ∀  (w211 : Wd), J210 w211 → Gw l G L0 p e rm_L_law s m #[Value.ref b] below meth c 16 (530 + (51 - n21) * 920 + 13) (12685 + (51 - n21) * 13524 + 78) (lw_Z below #[Value.ref b] s) w211 1247 [(0, .inr (some b)), (1, .inr (some q1)), (2, .inr (some q4)), (4, .inl y24), (6, .inl v79)] [] := by
        intro w211 hJ
        have h := hjJ210 w211 hJ
        clear hJ
        refine g_iconst X (v := (0 : Int32)) dL_law_1247 (by decide) ?_
        exact g_sub [0, 1, 2, 3, 4] [(0, .inr (some b)), (1, .inr (some q1)), (2, .inr (some q4)), (4, .inl y24), (6, .inl v79)] rfl (jp207 (0 : Int32) w211 h)
      refine g_icmp_ne X (tgt := 1247) dL_law_1190 (by decide) (fun hc => ?_) (fun hc => ?_)
      · replace h := h.1 hc; clear hc
        refine g_widen (c2 := (530 + (51 - n21) * 920 + 13)) (s2 := (12685 + (51 - n21) * 13524 + 78)) (by omega) (by omega) ?_
        exact g_sub [1, 2, 3, 4, 5] [(0, .inr (some b)), (1, .inr (some q1)), (2, .inr (some q4)), (4, .inl y24), (6, .inl v79)] rfl (jp210 w205 h)
      · replace h := h.2 hc; clear hc
        refine g_aload_n X dL_law_1193 rfl 2 rfl ?_
        refine g_iload X dL_law_1194 5 rfl ?_
        refine g_iconst X (v := (2 : Int32)) dL_law_1196 (by decide) ?_
        have hk := h.1
        replace h := h.2
        refine g_callFV_i X (As := [.int v79, .int (2 : Int32)]) (st := []) (n := 2) (c_X3_of hst h) rfl (by decide) hk (wE_4 G w205 q1) m_410 m_411 m_412 m_15 m_413 (by decide +kernel) (by decide +kernel) rfl rfl (Nat.zero_le _) ⟨(by have e1 : rm_L_law.cells = 1097659 := rfl; have e2 : rm_L_law.slots = 5808648 := rfl; have e3 : rm_X3_of.cells = 2 := rfl; have e4 : rm_X3_of.slots = 12 := rfl; omega), (by have e1 : rm_L_law.cells = 1097659 := rfl; have e2 : rm_L_law.slots = 5808648 := rfl; have e3 : rm_X3_of.cells = 2 := rfl; have e4 : rm_X3_of.slots = 12 := rfl; omega)⟩ dL_law_1197 (fun v213 w212 h => ?_)
        clear hk
        refine g_widen (c2 := (530 + (51 - n21) * 920 + 11)) (s2 := (12685 + (51 - n21) * 13524 + 66)) (by have e1 : rm_X3_of.cells = 2 := rfl; omega) (by have e1 : rm_X3_of.slots = 12 := rfl; omega) ?_
        refine g_iload X dL_law_1200 0 rfl ?_
        obtain ⟨J214, hjJ214, h⟩ := h
        have jp214 : ∀ (y215 : Int32) (y216 : Int32), J214 y215 y216 → Gw l G L0 p e rm_L_law s m #[Value.ref b] below meth c 16 (530 + (51 - n21) * 920 + 11) (12685 + (51 - n21) * 13524 + 66) (lw_Z below #[Value.ref b] s) w212 1215 [(0, .inr (some b)), (1, .inr (some q1)), (2, .inr (some q4)), (4, .inl y24), (6, .inl v79), (11, .inl v92), (13, .inl y201), (14, .inl y203)] [.int y216, .int y215] := by
          intro y215 y216 hJ
          have h := hjJ214 y215 y216 hJ
          clear hJ
          refine g_icmp_ne X (tgt := 1247) dL_law_1215 (by decide) (fun hc => ?_) (fun hc => ?_)
          · replace h := h.1 hc; clear hc
            refine g_widen (c2 := (530 + (51 - n21) * 920 + 13)) (s2 := (12685 + (51 - n21) * 13524 + 78)) (by omega) (by omega) ?_
            exact g_sub [0, 1, 2, 3, 4] [(0, .inr (some b)), (1, .inr (some q1)), (2, .inr (some q4)), (4, .inl y24), (6, .inl v79)] rfl (jp210 w212 h)
          · replace h := h.2 hc; clear hc
            refine g_aload_n X dL_law_1218 rfl 1 rfl ?_
            refine g_iload X dL_law_1219 4 rfl ?_
            refine g_iconst X (v := (4 : Int32)) dL_law_1221 (by decide) ?_
            have hk := h.1
            replace h := h.2
            refine g_callFV_i X (As := [.int v79, .int (4 : Int32)]) (st := []) (n := 2) (c_X3_of hst h) rfl (by decide) hk (wE_4 G w212 q1) m_410 m_411 m_412 m_15 m_413 (by decide +kernel) (by decide +kernel) rfl rfl (Nat.zero_le _) ⟨(by have e1 : rm_L_law.cells = 1097659 := rfl; have e2 : rm_L_law.slots = 5808648 := rfl; have e3 : rm_X3_of.cells = 2 := rfl; have e4 : rm_X3_of.slots = 12 := rfl; omega), (by have e1 : rm_L_law.cells = 1097659 := rfl; have e2 : rm_L_law.slots = 5808648 := rfl; have e3 : rm_X3_of.cells = 2 := rfl; have e4 : rm_X3_of.slots = 12 := rfl; omega)⟩ dL_law_1222 (fun v218 w217 h => ?_)
            clear hk
            refine g_widen (c2 := (530 + (51 - n21) * 920 + 13)) (s2 := (12685 + (51 - n21) * 13524 + 78)) (by have e1 : rm_X3_of.cells = 2 := rfl; omega) (by have e1 : rm_X3_of.slots = 12 := rfl; omega) ?_
            refine g_iload X dL_law_1225 7 rfl ?_
            obtain ⟨J219, hjJ219, h⟩ := h
            have jp219 : ∀ (y220 : Int32) (y221 : Int32), J219 y220 y221 → Gw l G L0 p e rm_L_law s m #[Value.ref b] below meth c 16 (530 + (51 - n21) * 920 + 13) (12685 + (51 - n21) * 13524 + 78) (lw_Z below #[Value.ref b] s) w217 1240 [(0, .inr (some b)), (1, .inr (some q1)), (2, .inr (some q4)), (4, .inl y24), (6, .inl v79)] [.int y221, .int y220] := by
              intro y220 y221 hJ
              have h := hjJ219 y220 y221 hJ
              clear hJ
              refine g_icmp_ne X (tgt := 1247) dL_law_1240 (by decide) (fun hc => ?_) (fun hc => ?_)
              · replace h := h.1 hc; clear hc
                exact g_sub [0, 1, 2, 3, 4] [(0, .inr (some b)), (1, .inr (some q1)), (2, .inr (some q4)), (4, .inl y24), (6, .inl v79)] rfl (jp210 w217 h)
              · replace h := h.2 hc; clear hc
                refine g_iconst X (v := (1 : Int32)) dL_law_1243 (by decide) ?_
                refine g_goto X (tgt := 1248) dL_law_1244 (by decide) ?_
                exact g_sub [0, 1, 2, 3, 4] [(0, .inr (some b)), (1, .inr (some q1)), (2, .inr (some q4)), (4, .inl y24), (6, .inl v79)] rfl (jp207 (1 : Int32) w217 h)
            refine g_if_eq X (tgt := 1238) dL_law_1227 (by decide) (fun hc => ?_) (fun hc => ?_)
            · replace h := h.1 hc; clear hc
              refine g_iload X dL_law_1238 5 rfl ?_
              exact g_sub [0, 1, 2, 3, 4] [(0, .inr (some b)), (1, .inr (some q1)), (2, .inr (some q4)), (4, .inl y24), (6, .inl v79)] rfl (jp219 v218 v92 h)
            · replace h := h.2 hc; clear hc
              refine g_iload X dL_law_1230 5 rfl ?_
              refine g_iload X dL_law_1232 6 rfl ?_
              refine g_iadd X dL_law_1234 (fun v222 hv => ?_)
              replace h := h v222 hv; clear hv
              refine g_goto X (tgt := 1240) dL_law_1235 (by decide) ?_
              exact g_sub [0, 1, 2, 3, 4] [(0, .inr (some b)), (1, .inr (some q1)), (2, .inr (some q4)), (4, .inl y24), (6, .inl v79)] rfl (jp219 v218 v222 h)
        refine g_if_eq X (tgt := 1213) dL_law_1202 (by decide) (fun hc => ?_) (fun hc => ?_)
        · replace h := h.1 hc; clear hc
          refine g_iload X dL_law_1213 8 rfl ?_
          exact g_sub [1, 2, 3, 4, 5, 7, 9, 0] [(0, .inr (some b)), (1, .inr (some q1)), (2, .inr (some q4)), (4, .inl y24), (6, .inl v79), (11, .inl v92), (13, .inl y201), (14, .inl y203)] rfl (jp214 v213 v198 h)
        · replace h := h.2 hc; clear hc
          refine g_iload X dL_law_1205 8 rfl ?_
          refine g_iload X dL_law_1207 9 rfl ?_
          refine g_isub X dL_law_1209 (fun v223 hv => ?_)
          replace h := h v223 hv; clear hv
          refine g_goto X (tgt := 1215) dL_law_1210 (by decide) ?_
          exact g_sub [1, 2, 3, 4, 5, 7, 9, 0] [(0, .inr (some b)), (1, .inr (some q1)), (2, .inr (some q4)), (4, .inl y24), (6, .inl v79), (11, .inl v92), (13, .inl y201), (14, .inl y203)] rfl (jp214 v213 v223 h)
    obtain ⟨J224, hjJ224, h⟩ := h
    have jp224 : J224 → Gw l G L0 p e rm_L_law s m #[Value.ref b] below meth c 16 (530 + (51 - n21) * 920 + 6) (12685 + (51 - n21) * 13524 + 36) (lw_Z below #[Value.ref b] s) w197 1175 [(0, .inr (some b)), (1, .inr (some q1)), (2, .inr (some q4)), (4, .inl y24), (6, .inl v79), (7, .inl v83), (11, .inl v92), (12, .inl v198), (13, .inl y201)] [] := by
      intro hJ
      have h := hjJ224 hJ
      clear hJ
      refine g_iconst X (v := (0 : Int32)) dL_law_1175 (by decide) ?_
      exact g_sub [0, 1, 2, 3, 4, 5, 6, 7, 8] [(0, .inr (some b)), (1, .inr (some q1)), (2, .inr (some q4)), (4, .inl y24), (6, .inl v79), (7, .inl v83), (11, .inl v92), (12, .inl v198), (13, .inl y201)] rfl (jp202 (0 : Int32) h)
    refine g_if_le X (tgt := 1175) dL_law_1161 (by decide) (fun hc => ?_) (fun hc => ?_)
    · replace h := h.1 hc; clear hc
      exact g_sub [1, 2, 3, 4, 5, 6, 8, 9, 0] [(0, .inr (some b)), (1, .inr (some q1)), (2, .inr (some q4)), (4, .inl y24), (6, .inl v79), (7, .inl v83), (11, .inl v92), (12, .inl v198), (13, .inl y201)] rfl (jp224  h)
    · replace h := h.2 hc; clear hc
      refine g_iload X dL_law_1164 7 rfl ?_
      refine g_iload X dL_law_1166 0 rfl ?_
      refine g_icmp_lt X (tgt := 1175) dL_law_1168 (by decide) (fun hc => ?_) (fun hc => ?_)
      · replace h := h.1 hc; clear hc
        exact g_sub [1, 2, 3, 4, 5, 6, 8, 9, 0] [(0, .inr (some b)), (1, .inr (some q1)), (2, .inr (some q4)), (4, .inl y24), (6, .inl v79), (7, .inl v83), (11, .inl v92), (12, .inl v198), (13, .inl y201)] rfl (jp224  h)
      · replace h := h.2 hc; clear hc
        refine g_iconst X (v := (1 : Int32)) dL_law_1171 (by decide) ?_
        refine g_goto X (tgt := 1176) dL_law_1172 (by decide) ?_
        exact g_sub [1, 2, 3, 4, 5, 6, 8, 9, 0] [(0, .inr (some b)), (1, .inr (some q1)), (2, .inr (some q4)), (4, .inl y24), (6, .inl v79), (7, .inl v83), (11, .inl v92), (12, .inl v198), (13, .inl y201)] rfl (jp202 (1 : Int32) h)
  refine g_icmp_le X (tgt := 1153) dL_law_1145 (by decide) (fun hc => ?_) (fun hc => ?_)
  · replace h := h.1 hc; clear hc
    refine g_iload X dL_law_1153 5 rfl ?_
    refine g_iconst X (v := (1 : Int32)) dL_law_1155 (by decide) ?_
    refine g_iadd X dL_law_1156 (fun v225 hv => ?_)
    replace h := h v225 hv; clear hv
    exact g_sub [8, 9, 10, 12, 6, 5, 2, 1, 0] [(0, .inr (some b)), (1, .inr (some q1)), (2, .inr (some q4)), (4, .inl y24), (6, .inl v79), (7, .inl v83), (10, .inl v90), (11, .inl v92), (12, .inl v198)] rfl (jp200 v225 h)
  · replace h := h.2 hc; clear hc
    refine g_iload X dL_law_1148 0 rfl ?_
    refine g_goto X (tgt := 1157) dL_law_1150 (by decide) ?_
    exact g_sub [8, 9, 10, 12, 6, 5, 2, 1, 0] [(0, .inr (some b)), (1, .inr (some q1)), (2, .inr (some q4)), (4, .inl y24), (6, .inl v79), (7, .inl v83), (10, .inl v90), (11, .inl v92), (12, .inl v198)] rfl (jp200 v198 h)

def wpc_884 (L : Nat) (xs : Nat → Int32) (q1 : Nat) (q4 : Nat) (v79 : Int32) (v83 : Int32) (v87 : Int32) (w91 : Wd) (v92 : Int32) (J93 : Int32 → Wd → Prop) : Prop :=
  ∀ v226 : Int32, v226 = v87 + (1 : Int32) →
  ∀ v227 : Int32, v227 = v79 + (7 : Int32) →
  ∀ v228 : Int32, v228 = v227 - v87 →
  ¬ (7 : Int32) = 0 ∧ ∀ v229 : Int32, v229 = v228 - v228 / (7 : Int32) * (7 : Int32) →
  ¬ (2 : Int32) = 0 ∧ ∀ v230 : Int32, v230 = v229 - v229 / (2 : Int32) * (2 : Int32) →
  ∀ v231 : Int32, v231 = v226 + v230 →
  ¬ (7 : Int32) = 0 ∧ ∀ v232 : Int32, v232 = v231 - v231 / (7 : Int32) * (7 : Int32) →
  ¬ (120 : Int32) = 0 ∧ ∀ v233 : Int32, v233 = v83 - v83 / (120 : Int32) * (120 : Int32) →
  ∀ v234 : Int32, v234 = (1 : Int32) + v233 →
  w91.K q1 = 4 ∧
  wp_X3_cash q1 w91 (fun v236 w235 => 
  ∃ J237 : Int32 → Wd → Prop, (∀ (y238 : Int32) (w239 : Wd), J237 y238 w239 →
  ∃ J240 : Int32 → Wd → Prop, (∀ (y241 : Int32) (w242 : Wd), J240 y241 w242 →
  ∃ J243 : Int32 → Wd → Prop, (∀ (y244 : Int32) (w245 : Wd), J243 y244 w245 →
  J93 y244 w245) ∧
  ∃ J246 : Wd → Prop, (∀  (w247 : Wd), J246 w247 →
  J243 (1 : Int32) w247) ∧
  (v232 = v79 → J246 w242) ∧ (¬ v232 = v79 → (v232 = v87 → J246 w242) ∧ (¬ v232 = v87 → wp_L_isBorrow (some q1) v79 v234 v87 v232 w242 (fun v249 w248 => 
  ∃ J250 : Wd → Prop, (∀  (w251 : Wd), J250 w251 →
  J243 (0 : Int32) w251) ∧
  (¬ v249 = y241 → J250 w248) ∧ (v249 = y241 → w248.K q1 = 4 ∧
  wp_X3_cash q1 w248 (fun v253 w252 => 
  ∃ J254 : Int32 → Int32 → Prop, (∀ (y255 : Int32) (y256 : Int32), J254 y255 y256 →
  (¬ y255 = y256 → J250 w252) ∧ (y255 = y256 → w252.K q1 = 4 ∧
  wp_X3_of q1 v79 (4 : Int32) w252 (fun v258 w257 => 
  ∃ J259 : Int32 → Int32 → Prop, (∀ (y260 : Int32) (y261 : Int32), J259 y260 y261 →
  (¬ y260 = y261 → J250 w257) ∧ (y260 = y261 → J246 w257)) ∧
  (y241 = 0 → J259 v258 v92) ∧ (¬ y241 = 0 → ∀ v262 : Int32, v262 = v92 - v234 →
  J259 v258 v262)) (fun _ _ => False))) ∧
  (y241 = 0 → J254 v253 v236) ∧ (¬ y241 = 0 → ∀ v263 : Int32, v263 = v236 - v234 →
  J254 v253 v263))))))) ∧
  ∃ J264 : Wd → Prop, (∀  (w265 : Wd), J264 w265 →
  J240 (0 : Int32) w265) ∧
  (y238 = 0 → J264 w239) ∧ (¬ y238 = 0 → w239.K q1 = 4 ∧
  wp_X3_of q1 v79 (3 : Int32) w239 (fun v267 w266 => 
  ∀ v268 : Int32, v268 = (1 : Int32) + v267 →
  ∀ v269 : Int32, v269 = (50 : Int32) * v268 →
  (v269 < v234 → J264 w266) ∧ (¬ v269 < v234 → wp_L_house (some q1) (some q4) v79 (2 : Int32) w266 (fun v271 w270 => 
  ∀ v272 : Int32, v272 = v271 + v234 →
  ((500 : Int32) < v272 → J264 w270) ∧ (¬ (500 : Int32) < v272 → (v236 < v234 → J264 w270) ∧ (¬ v236 < v234 → J240 (1 : Int32) w270))))) (fun _ _ => False))) ∧
  ∃ J273 : Wd → Prop, (∀  (w274 : Wd), J273 w274 →
  J237 (0 : Int32) w274) ∧
  (v232 = v79 → J273 w235) ∧ (¬ v232 = v79 → (v232 = v87 → J273 w235) ∧ (¬ v232 = v87 → w235.K q1 = 4 ∧
  wp_X3_of q1 v79 (1 : Int32) w235 (fun v276 w275 => 
  (v276 ≤ 0 → J273 w275) ∧ (¬ v276 ≤ 0 → w275.K q1 = 4 ∧
  wp_X3_of q1 v87 (1 : Int32) w275 (fun v278 w277 => 
  (v278 ≤ 0 → J273 w277) ∧ (¬ v278 ≤ 0 → w277.K q1 = 4 ∧
  wp_X3_of q1 v232 (1 : Int32) w277 (fun v280 w279 => 
  (v280 ≤ 0 → J273 w279) ∧ (¬ v280 ≤ 0 → w279.K q1 = 4 ∧
  wp_X3_of q1 v79 (2 : Int32) w279 (fun v282 w281 => 
  (¬ v282 = 0 → J273 w281) ∧ (v282 = 0 → J237 (1 : Int32) w281)) (fun _ _ => False))) (fun _ _ => False))) (fun _ _ => False))) (fun _ _ => False))))
set_option maxHeartbeats 8000000 in
set_option maxRecDepth 100000 in
theorem q_884 {p : Program} {e : Env} {s : State} {m : MethodId} {below : List Frame} {meth : Method} {c : Code} {l : Launch} {G : GT} {L0 b L : Nat} {xs : Nat → Int32} (hst : l.stackTraces = false) (hL0 : L0 = s.heap.size) (X : GC l G L0 p s m #[Value.ref b] meth c code 16 "SusuRingLaw") (hr : meth.sig.returnType = ret) (hX : va_X b L xs s s.heap) (hb : b < s.heap.size) (hbA : ¬ GA L0 b) (hLL : L < 2 ^ 31) {q1 : Nat} {q4 : Nat} {n21 : Nat} {y23 : Int32} {y24 : Int32} {v75 : Int32} {v79 : Int32} {v83 : Int32} {v87 : Int32} {v88 : Int32} {v90 : Int32} {w91 : Wd} {v92 : Int32} {J93 : Int32 → Wd → Prop} (hnbn21 : n21 ≤ 51) (jp93 : ∀ (y94 : Int32) (w95 : Wd), J93 y94 w95 → Gw l G L0 p e rm_L_law s m #[Value.ref b] below meth c 16 (530 + (51 - n21) * 920 + 358) (12685 + (51 - n21) * 13524 + 10152) (lw_Z below #[Value.ref b] s) w95 1583 [(0, .inr (some b)), (1, .inr (some q1)), (2, .inr (some q4)), (3, .inl y94), (4, .inl y24), (6, .inl v79)] []) (h : wpc_884 L xs q1 q4 v79 v83 v87 w91 v92 J93) : Gw l G L0 p e rm_L_law s m #[Value.ref b] below meth c 16 (530 + (51 - n21) * 920 + 4) (12685 + (51 - n21) * 13524 + 24) (lw_Z below #[Value.ref b] s) w91 884 [(11, .inl v92), (10, .inl v90), (9, .inl v88), (8, .inl v87), (7, .inl v83), (6, .inl v79), (5, .inl v75), (0, .inr (some b)), (1, .inr (some q1)), (2, .inr (some q4)), (3, .inl y23), (4, .inl y24)] [] := by
  refine g_iload X dL_law_884 3 rfl ?_
  refine g_iconst X (v := (1 : Int32)) dL_law_886 (by decide) ?_
  refine g_iadd X dL_law_887 (fun v226 hv => ?_)
  replace h := h v226 hv; clear hv
  refine g_iload X dL_law_888 5 rfl ?_
  refine g_bipush X (v := (7 : Int32)) dL_law_890 (by decide) ?_
  refine g_iadd X dL_law_892 (fun v227 hv => ?_)
  replace h := h v227 hv; clear hv
  refine g_iload X dL_law_893 3 rfl ?_
  refine g_isub X dL_law_895 (fun v228 hv => ?_)
  replace h := h v228 hv; clear hv
  refine g_bipush X (v := (7 : Int32)) dL_law_896 (by decide) ?_
  refine g_irem X dL_law_898 h.1 (fun v229 hv => ?_)
  replace h := h.2 v229 hv; clear hv
  refine g_iconst X (v := (2 : Int32)) dL_law_899 (by decide) ?_
  refine g_irem X dL_law_900 h.1 (fun v230 hv => ?_)
  replace h := h.2 v230 hv; clear hv
  refine g_iadd X dL_law_901 (fun v231 hv => ?_)
  replace h := h v231 hv; clear hv
  refine g_bipush X (v := (7 : Int32)) dL_law_902 (by decide) ?_
  refine g_irem X dL_law_904 h.1 (fun v232 hv => ?_)
  replace h := h.2 v232 hv; clear hv
  refine g_istore X [(12, .inl v232), (11, .inl v92), (10, .inl v90), (9, .inl v88), (8, .inl v87), (7, .inl v83), (6, .inl v79), (5, .inl v75), (0, .inr (some b)), (1, .inr (some q1)), (2, .inr (some q4)), (3, .inl y23), (4, .inl y24)] dL_law_905 (by decide) rfl ?_
  refine g_iconst X (v := (1 : Int32)) dL_law_907 (by decide) ?_
  refine g_iload X dL_law_908 5 rfl ?_
  refine g_bipush X (v := (120 : Int32)) dL_law_910 (by decide) ?_
  refine g_irem X dL_law_912 h.1 (fun v233 hv => ?_)
  replace h := h.2 v233 hv; clear hv
  refine g_iadd X dL_law_913 (fun v234 hv => ?_)
  replace h := h v234 hv; clear hv
  refine g_istore X [(13, .inl v234), (12, .inl v232), (11, .inl v92), (10, .inl v90), (9, .inl v88), (8, .inl v87), (7, .inl v83), (6, .inl v79), (5, .inl v75), (0, .inr (some b)), (1, .inr (some q1)), (2, .inr (some q4)), (3, .inl y23), (4, .inl y24)] dL_law_914 (by decide) rfl ?_
  refine g_aload_n X dL_law_916 rfl 10 rfl ?_
  have hk := h.1
  replace h := h.2
  refine g_callV_i X (As := []) (st := []) (n := 0) (c_X3_cash hst h) rfl (by decide) hk (wE_4 G w91 q1) m_470 m_471 m_472 m_15 m_473 (by decide +kernel) (by decide +kernel) rfl rfl (Nat.zero_le _) ⟨(by have e1 : rm_L_law.cells = 1097659 := rfl; have e2 : rm_L_law.slots = 5808648 := rfl; have e3 : rm_X3_cash.cells = 0 := rfl; have e4 : rm_X3_cash.slots = 0 := rfl; omega), (by have e1 : rm_L_law.cells = 1097659 := rfl; have e2 : rm_L_law.slots = 5808648 := rfl; have e3 : rm_X3_cash.cells = 0 := rfl; have e4 : rm_X3_cash.slots = 0 := rfl; omega)⟩ dL_law_917 (fun v236 w235 h => ?_)
  clear hk
  refine g_widen (c2 := (530 + (51 - n21) * 920 + 4)) (s2 := (12685 + (51 - n21) * 13524 + 24)) (by have e1 : rm_X3_cash.cells = 0 := rfl; omega) (by have e1 : rm_X3_cash.slots = 0 := rfl; omega) ?_
  refine g_istore X [(14, .inl v236), (13, .inl v234), (12, .inl v232), (11, .inl v92), (10, .inl v90), (9, .inl v88), (8, .inl v87), (7, .inl v83), (6, .inl v79), (5, .inl v75), (0, .inr (some b)), (1, .inr (some q1)), (2, .inr (some q4)), (3, .inl y23), (4, .inl y24)] dL_law_920 (by decide) rfl ?_
  refine g_iload X dL_law_922 2 rfl ?_
  refine g_iload X dL_law_924 8 rfl ?_
  obtain ⟨J237, hjJ237, h⟩ := h
  have jp237 : ∀ (y238 : Int32) (w239 : Wd), J237 y238 w239 → Gw l G L0 p e rm_L_law s m #[Value.ref b] below meth c 16 (530 + (51 - n21) * 920 + 12) (12685 + (51 - n21) * 13524 + 72) (lw_Z below #[Value.ref b] s) w239 981 [(0, .inr (some b)), (1, .inr (some q1)), (2, .inr (some q4)), (4, .inl y24), (6, .inl v79), (8, .inl v87), (11, .inl v92), (12, .inl v232), (13, .inl v234), (14, .inl v236)] [.int y238] := by
    intro y238 w239 hJ
    have h := hjJ237 y238 w239 hJ
    clear hJ
    refine g_istore X [(15, .inl y238), (0, .inr (some b)), (1, .inr (some q1)), (2, .inr (some q4)), (4, .inl y24), (6, .inl v79), (8, .inl v87), (11, .inl v92), (12, .inl v232), (13, .inl v234), (14, .inl v236)] dL_law_981 (by decide) rfl ?_
    refine g_iload X dL_law_983 0 rfl ?_
    obtain ⟨J240, hjJ240, h⟩ := h
    have jp240 : ∀ (y241 : Int32) (w242 : Wd), J240 y241 w242 → Gw l G L0 p e rm_L_law s m #[Value.ref b] below meth c 16 (530 + (51 - n21) * 920 + 82) (12685 + (51 - n21) * 13524 + 492) (lw_Z below #[Value.ref b] s) w242 1034 [(0, .inr (some b)), (1, .inr (some q1)), (2, .inr (some q4)), (4, .inl y24), (6, .inl v79), (8, .inl v87), (11, .inl v92), (12, .inl v232), (13, .inl v234), (14, .inl v236)] [.int y241] := by
      intro y241 w242 hJ
      have h := hjJ240 y241 w242 hJ
      clear hJ
      refine g_istore X [(15, .inl y241), (0, .inr (some b)), (1, .inr (some q1)), (2, .inr (some q4)), (4, .inl y24), (6, .inl v79), (8, .inl v87), (11, .inl v92), (12, .inl v232), (13, .inl v234), (14, .inl v236)] dL_law_1034 (by decide) rfl ?_
      refine g_iload X dL_law_1036 8 rfl ?_
      refine g_iload X dL_law_1038 5 rfl ?_
      obtain ⟨J243, hjJ243, h⟩ := h
      have jp243 : ∀ (y244 : Int32) (w245 : Wd), J243 y244 w245 → Gw l G L0 p e rm_L_law s m #[Value.ref b] below meth c 16 (530 + (51 - n21) * 920 + 91) (12685 + (51 - n21) * 13524 + 546) (lw_Z below #[Value.ref b] s) w245 1119 [(0, .inr (some b)), (1, .inr (some q1)), (2, .inr (some q4)), (4, .inl y24), (6, .inl v79)] [.int y244] := by
        intro y244 w245 hJ
        have h := hjJ243 y244 w245 hJ
        clear hJ
        refine g_istore_n X [(3, .inl y244), (0, .inr (some b)), (1, .inr (some q1)), (2, .inr (some q4)), (4, .inl y24), (6, .inl v79)] dL_law_1119 rfl (by decide) rfl ?_
        refine g_goto X (tgt := 1583) dL_law_1120 (by decide) ?_
        refine g_widen (c2 := (530 + (51 - n21) * 920 + 358)) (s2 := (12685 + (51 - n21) * 13524 + 10152)) (by omega) (by omega) ?_
        exact g_sub [1, 2, 3, 0, 4, 5] [(0, .inr (some b)), (1, .inr (some q1)), (2, .inr (some q4)), (3, .inl y244), (4, .inl y24), (6, .inl v79)] rfl (jp93 y244 w245 h)
      obtain ⟨J246, hjJ246, h⟩ := h
      have jp246 : ∀  (w247 : Wd), J246 w247 → Gw l G L0 p e rm_L_law s m #[Value.ref b] below meth c 16 (530 + (51 - n21) * 920 + 91) (12685 + (51 - n21) * 13524 + 546) (lw_Z below #[Value.ref b] s) w247 1114 [(0, .inr (some b)), (1, .inr (some q1)), (2, .inr (some q4)), (4, .inl y24), (6, .inl v79)] [] := by
        intro w247 hJ
        have h := hjJ246 w247 hJ
        clear hJ
        refine g_iconst X (v := (1 : Int32)) dL_law_1114 (by decide) ?_
        refine g_goto X (tgt := 1119) dL_law_1115 (by decide) ?_
        exact g_sub [0, 1, 2, 3, 4] [(0, .inr (some b)), (1, .inr (some q1)), (2, .inr (some q4)), (4, .inl y24), (6, .inl v79)] rfl (jp243 (1 : Int32) w247 h)
      refine g_icmp_eq X (tgt := 1114) dL_law_1040 (by decide) (fun hc => ?_) (fun hc => ?_)
      · replace h := h.1 hc; clear hc
        refine g_widen (c2 := (530 + (51 - n21) * 920 + 91)) (s2 := (12685 + (51 - n21) * 13524 + 546)) (by omega) (by omega) ?_
        exact g_sub [1, 2, 3, 4, 5] [(0, .inr (some b)), (1, .inr (some q1)), (2, .inr (some q4)), (4, .inl y24), (6, .inl v79)] rfl (jp246 w242 h)
      · replace h := h.2 hc; clear hc
        refine g_iload X dL_law_1043 8 rfl ?_
        refine g_iload X dL_law_1045 6 rfl ?_
        refine g_icmp_eq X (tgt := 1114) dL_law_1047 (by decide) (fun hc => ?_) (fun hc => ?_)
        · replace h := h.1 hc; clear hc
          refine g_widen (c2 := (530 + (51 - n21) * 920 + 91)) (s2 := (12685 + (51 - n21) * 13524 + 546)) (by omega) (by omega) ?_
          exact g_sub [1, 2, 3, 4, 5] [(0, .inr (some b)), (1, .inr (some q1)), (2, .inr (some q4)), (4, .inl y24), (6, .inl v79)] rfl (jp246 w242 h)
        · replace h := h.2 hc; clear hc
          refine g_aload_n X dL_law_1050 rfl 2 rfl ?_
          refine g_iload X dL_law_1051 5 rfl ?_
          refine g_iload X dL_law_1053 9 rfl ?_
          refine g_iload X dL_law_1055 6 rfl ?_
          refine g_iload X dL_law_1057 8 rfl ?_
          refine g_callH_i X (As := [va_rf (some q1), .int v79, .int v234, .int v87, .int v232]) (st := []) (n := 5) (c_L_isBorrow hst h) m_664 m_665 m_14 m_666 (by decide +kernel) (by decide +kernel) (by decide +kernel) rfl rfl (Nat.zero_le _) ⟨(by have e1 : rm_L_law.cells = 1097659 := rfl; have e2 : rm_L_law.slots = 5808648 := rfl; have e3 : rm_L_isBorrow.cells = 7 := rfl; have e4 : rm_L_isBorrow.slots = 42 := rfl; omega), (by have e1 : rm_L_law.cells = 1097659 := rfl; have e2 : rm_L_law.slots = 5808648 := rfl; have e3 : rm_L_isBorrow.cells = 7 := rfl; have e4 : rm_L_isBorrow.slots = 42 := rfl; omega)⟩ dL_law_1059 (fun v249 w248 h => ?_)
          refine g_widen (c2 := (530 + (51 - n21) * 920 + 89)) (s2 := (12685 + (51 - n21) * 13524 + 534)) (by have e1 : rm_L_isBorrow.cells = 7 := rfl; omega) (by have e1 : rm_L_isBorrow.slots = 42 := rfl; omega) ?_
          refine g_iload X dL_law_1062 0 rfl ?_
          obtain ⟨J250, hjJ250, h⟩ := h
          have jp250 : ∀  (w251 : Wd), J250 w251 → Gw l G L0 p e rm_L_law s m #[Value.ref b] below meth c 16 (530 + (51 - n21) * 920 + 91) (12685 + (51 - n21) * 13524 + 546) (lw_Z below #[Value.ref b] s) w251 1118 [(0, .inr (some b)), (1, .inr (some q1)), (2, .inr (some q4)), (4, .inl y24), (6, .inl v79)] [] := by
            intro w251 hJ
            have h := hjJ250 w251 hJ
            clear hJ
            refine g_iconst X (v := (0 : Int32)) dL_law_1118 (by decide) ?_
            exact g_sub [0, 1, 2, 3, 4] [(0, .inr (some b)), (1, .inr (some q1)), (2, .inr (some q4)), (4, .inl y24), (6, .inl v79)] rfl (jp243 (0 : Int32) w251 h)
          refine g_icmp_ne X (tgt := 1118) dL_law_1064 (by decide) (fun hc => ?_) (fun hc => ?_)
          · replace h := h.1 hc; clear hc
            refine g_widen (c2 := (530 + (51 - n21) * 920 + 91)) (s2 := (12685 + (51 - n21) * 13524 + 546)) (by omega) (by omega) ?_
            exact g_sub [1, 2, 3, 4, 5] [(0, .inr (some b)), (1, .inr (some q1)), (2, .inr (some q4)), (4, .inl y24), (6, .inl v79)] rfl (jp250 w248 h)
          · replace h := h.2 hc; clear hc
            refine g_aload_n X dL_law_1067 rfl 2 rfl ?_
            have hk := h.1
            replace h := h.2
            refine g_callV_i X (As := []) (st := []) (n := 0) (c_X3_cash hst h) rfl (by decide) hk (wE_4 G w248 q1) m_470 m_471 m_472 m_15 m_473 (by decide +kernel) (by decide +kernel) rfl rfl (Nat.zero_le _) ⟨(by have e1 : rm_L_law.cells = 1097659 := rfl; have e2 : rm_L_law.slots = 5808648 := rfl; have e3 : rm_X3_cash.cells = 0 := rfl; have e4 : rm_X3_cash.slots = 0 := rfl; omega), (by have e1 : rm_L_law.cells = 1097659 := rfl; have e2 : rm_L_law.slots = 5808648 := rfl; have e3 : rm_X3_cash.cells = 0 := rfl; have e4 : rm_X3_cash.slots = 0 := rfl; omega)⟩ dL_law_1068 (fun v253 w252 h => ?_)
            clear hk
            refine g_widen (c2 := (530 + (51 - n21) * 920 + 89)) (s2 := (12685 + (51 - n21) * 13524 + 534)) (by have e1 : rm_X3_cash.cells = 0 := rfl; omega) (by have e1 : rm_X3_cash.slots = 0 := rfl; omega) ?_
            refine g_iload X dL_law_1071 0 rfl ?_
            obtain ⟨J254, hjJ254, h⟩ := h
            have jp254 : ∀ (y255 : Int32) (y256 : Int32), J254 y255 y256 → Gw l G L0 p e rm_L_law s m #[Value.ref b] below meth c 16 (530 + (51 - n21) * 920 + 89) (12685 + (51 - n21) * 13524 + 534) (lw_Z below #[Value.ref b] s) w252 1086 [(0, .inr (some b)), (1, .inr (some q1)), (2, .inr (some q4)), (4, .inl y24), (6, .inl v79), (11, .inl v92), (13, .inl v234), (15, .inl y241)] [.int y256, .int y255] := by
              intro y255 y256 hJ
              have h := hjJ254 y255 y256 hJ
              clear hJ
              refine g_icmp_ne X (tgt := 1118) dL_law_1086 (by decide) (fun hc => ?_) (fun hc => ?_)
              · replace h := h.1 hc; clear hc
                refine g_widen (c2 := (530 + (51 - n21) * 920 + 91)) (s2 := (12685 + (51 - n21) * 13524 + 546)) (by omega) (by omega) ?_
                exact g_sub [0, 1, 2, 3, 4] [(0, .inr (some b)), (1, .inr (some q1)), (2, .inr (some q4)), (4, .inl y24), (6, .inl v79)] rfl (jp250 w252 h)
              · replace h := h.2 hc; clear hc
                refine g_aload_n X dL_law_1089 rfl 1 rfl ?_
                refine g_iload X dL_law_1090 4 rfl ?_
                refine g_iconst X (v := (4 : Int32)) dL_law_1092 (by decide) ?_
                have hk := h.1
                replace h := h.2
                refine g_callFV_i X (As := [.int v79, .int (4 : Int32)]) (st := []) (n := 2) (c_X3_of hst h) rfl (by decide) hk (wE_4 G w252 q1) m_410 m_411 m_412 m_15 m_413 (by decide +kernel) (by decide +kernel) rfl rfl (Nat.zero_le _) ⟨(by have e1 : rm_L_law.cells = 1097659 := rfl; have e2 : rm_L_law.slots = 5808648 := rfl; have e3 : rm_X3_of.cells = 2 := rfl; have e4 : rm_X3_of.slots = 12 := rfl; omega), (by have e1 : rm_L_law.cells = 1097659 := rfl; have e2 : rm_L_law.slots = 5808648 := rfl; have e3 : rm_X3_of.cells = 2 := rfl; have e4 : rm_X3_of.slots = 12 := rfl; omega)⟩ dL_law_1093 (fun v258 w257 h => ?_)
                clear hk
                refine g_widen (c2 := (530 + (51 - n21) * 920 + 91)) (s2 := (12685 + (51 - n21) * 13524 + 546)) (by have e1 : rm_X3_of.cells = 2 := rfl; omega) (by have e1 : rm_X3_of.slots = 12 := rfl; omega) ?_
                refine g_iload X dL_law_1096 7 rfl ?_
                obtain ⟨J259, hjJ259, h⟩ := h
                have jp259 : ∀ (y260 : Int32) (y261 : Int32), J259 y260 y261 → Gw l G L0 p e rm_L_law s m #[Value.ref b] below meth c 16 (530 + (51 - n21) * 920 + 91) (12685 + (51 - n21) * 13524 + 546) (lw_Z below #[Value.ref b] s) w257 1111 [(0, .inr (some b)), (1, .inr (some q1)), (2, .inr (some q4)), (4, .inl y24), (6, .inl v79)] [.int y261, .int y260] := by
                  intro y260 y261 hJ
                  have h := hjJ259 y260 y261 hJ
                  clear hJ
                  refine g_icmp_ne X (tgt := 1118) dL_law_1111 (by decide) (fun hc => ?_) (fun hc => ?_)
                  · replace h := h.1 hc; clear hc
                    exact g_sub [0, 1, 2, 3, 4] [(0, .inr (some b)), (1, .inr (some q1)), (2, .inr (some q4)), (4, .inl y24), (6, .inl v79)] rfl (jp250 w257 h)
                  · replace h := h.2 hc; clear hc
                    exact g_sub [0, 1, 2, 3, 4] [(0, .inr (some b)), (1, .inr (some q1)), (2, .inr (some q4)), (4, .inl y24), (6, .inl v79)] rfl (jp246 w257 h)
                refine g_if_eq X (tgt := 1109) dL_law_1098 (by decide) (fun hc => ?_) (fun hc => ?_)
                · replace h := h.1 hc; clear hc
                  refine g_iload X dL_law_1109 5 rfl ?_
                  exact g_sub [0, 1, 2, 3, 4] [(0, .inr (some b)), (1, .inr (some q1)), (2, .inr (some q4)), (4, .inl y24), (6, .inl v79)] rfl (jp259 v258 v92 h)
                · replace h := h.2 hc; clear hc
                  refine g_iload X dL_law_1101 5 rfl ?_
                  refine g_iload X dL_law_1103 6 rfl ?_
                  refine g_isub X dL_law_1105 (fun v262 hv => ?_)
                  replace h := h v262 hv; clear hv
                  refine g_goto X (tgt := 1111) dL_law_1106 (by decide) ?_
                  exact g_sub [0, 1, 2, 3, 4] [(0, .inr (some b)), (1, .inr (some q1)), (2, .inr (some q4)), (4, .inl y24), (6, .inl v79)] rfl (jp259 v258 v262 h)
            refine g_if_eq X (tgt := 1084) dL_law_1073 (by decide) (fun hc => ?_) (fun hc => ?_)
            · replace h := h.1 hc; clear hc
              refine g_iload X dL_law_1084 10 rfl ?_
              exact g_sub [1, 2, 3, 4, 5, 7, 9, 0] [(0, .inr (some b)), (1, .inr (some q1)), (2, .inr (some q4)), (4, .inl y24), (6, .inl v79), (11, .inl v92), (13, .inl v234), (15, .inl y241)] rfl (jp254 v253 v236 h)
            · replace h := h.2 hc; clear hc
              refine g_iload X dL_law_1076 10 rfl ?_
              refine g_iload X dL_law_1078 9 rfl ?_
              refine g_isub X dL_law_1080 (fun v263 hv => ?_)
              replace h := h v263 hv; clear hv
              refine g_goto X (tgt := 1086) dL_law_1081 (by decide) ?_
              exact g_sub [1, 2, 3, 4, 5, 7, 9, 0] [(0, .inr (some b)), (1, .inr (some q1)), (2, .inr (some q4)), (4, .inl y24), (6, .inl v79), (11, .inl v92), (13, .inl v234), (15, .inl y241)] rfl (jp254 v253 v263 h)
    obtain ⟨J264, hjJ264, h⟩ := h
    have jp264 : ∀  (w265 : Wd), J264 w265 → Gw l G L0 p e rm_L_law s m #[Value.ref b] below meth c 16 (530 + (51 - n21) * 920 + 82) (12685 + (51 - n21) * 13524 + 492) (lw_Z below #[Value.ref b] s) w265 1033 [(0, .inr (some b)), (1, .inr (some q1)), (2, .inr (some q4)), (4, .inl y24), (6, .inl v79), (8, .inl v87), (11, .inl v92), (12, .inl v232), (13, .inl v234), (14, .inl v236)] [] := by
      intro w265 hJ
      have h := hjJ264 w265 hJ
      clear hJ
      refine g_iconst X (v := (0 : Int32)) dL_law_1033 (by decide) ?_
      exact g_sub [0, 1, 2, 3, 4, 5, 6, 7, 8, 9] [(0, .inr (some b)), (1, .inr (some q1)), (2, .inr (some q4)), (4, .inl y24), (6, .inl v79), (8, .inl v87), (11, .inl v92), (12, .inl v232), (13, .inl v234), (14, .inl v236)] rfl (jp240 (0 : Int32) w265 h)
    refine g_if_eq X (tgt := 1033) dL_law_985 (by decide) (fun hc => ?_) (fun hc => ?_)
    · replace h := h.1 hc; clear hc
      refine g_widen (c2 := (530 + (51 - n21) * 920 + 82)) (s2 := (12685 + (51 - n21) * 13524 + 492)) (by omega) (by omega) ?_
      exact g_sub [1, 2, 3, 4, 5, 6, 7, 8, 9, 10] [(0, .inr (some b)), (1, .inr (some q1)), (2, .inr (some q4)), (4, .inl y24), (6, .inl v79), (8, .inl v87), (11, .inl v92), (12, .inl v232), (13, .inl v234), (14, .inl v236)] rfl (jp264 w239 h)
    · replace h := h.2 hc; clear hc
      refine g_iload X dL_law_988 9 rfl ?_
      refine g_bipush X (v := (50 : Int32)) dL_law_990 (by decide) ?_
      refine g_iconst X (v := (1 : Int32)) dL_law_992 (by decide) ?_
      refine g_aload_n X dL_law_993 rfl 2 rfl ?_
      refine g_iload X dL_law_994 5 rfl ?_
      refine g_iconst X (v := (3 : Int32)) dL_law_996 (by decide) ?_
      have hk := h.1
      replace h := h.2
      refine g_callFV_i X (As := [.int v79, .int (3 : Int32)]) (st := [.int (1 : Int32), .int (50 : Int32), .int v234]) (n := 2) (c_X3_of hst h) rfl (by decide) hk (wE_4 G w239 q1) m_410 m_411 m_412 m_15 m_413 (by decide +kernel) (by decide +kernel) rfl rfl (by simp [cat_int, rf_cat]) ⟨(by have e1 : rm_L_law.cells = 1097659 := rfl; have e2 : rm_L_law.slots = 5808648 := rfl; have e3 : rm_X3_of.cells = 2 := rfl; have e4 : rm_X3_of.slots = 12 := rfl; omega), (by have e1 : rm_L_law.cells = 1097659 := rfl; have e2 : rm_L_law.slots = 5808648 := rfl; have e3 : rm_X3_of.cells = 2 := rfl; have e4 : rm_X3_of.slots = 12 := rfl; omega)⟩ dL_law_997 (fun v267 w266 h => ?_)
      clear hk
      refine g_widen (c2 := (530 + (51 - n21) * 920 + 14)) (s2 := (12685 + (51 - n21) * 13524 + 84)) (by have e1 : rm_X3_of.cells = 2 := rfl; omega) (by have e1 : rm_X3_of.slots = 12 := rfl; omega) ?_
      refine g_iadd X dL_law_1000 (fun v268 hv => ?_)
      replace h := h v268 hv; clear hv
      refine g_imul X dL_law_1001 (fun v269 hv => ?_)
      replace h := h v269 hv; clear hv
      refine g_icmp_gt X (tgt := 1033) dL_law_1002 (by decide) (fun hc => ?_) (fun hc => ?_)
      · replace h := h.1 hc; clear hc
        refine g_widen (c2 := (530 + (51 - n21) * 920 + 82)) (s2 := (12685 + (51 - n21) * 13524 + 492)) (by omega) (by omega) ?_
        exact g_sub [1, 2, 3, 4, 5, 6, 7, 8, 9, 10] [(0, .inr (some b)), (1, .inr (some q1)), (2, .inr (some q4)), (4, .inl y24), (6, .inl v79), (8, .inl v87), (11, .inl v92), (12, .inl v232), (13, .inl v234), (14, .inl v236)] rfl (jp264 w266 h)
      · replace h := h.2 hc; clear hc
        refine g_aload_n X dL_law_1005 rfl 2 rfl ?_
        refine g_aload_n X dL_law_1006 rfl 3 rfl ?_
        refine g_iload X dL_law_1007 5 rfl ?_
        refine g_iconst X (v := (2 : Int32)) dL_law_1009 (by decide) ?_
        refine g_callS_i X (As := [va_rf (some q1), va_rf (some q4), .int v79, .int (2 : Int32)]) (st := []) (n := 4) (c_L_house hst h) m_708 m_709 m_14 m_710 (by decide +kernel) (by decide +kernel) rfl rfl (Nat.zero_le _) ⟨(by have e1 : rm_L_law.cells = 1097659 := rfl; have e2 : rm_L_law.slots = 5808648 := rfl; have e3 : rm_L_house.cells = 68 := rfl; have e4 : rm_L_house.slots = 408 := rfl; omega), (by have e1 : rm_L_law.cells = 1097659 := rfl; have e2 : rm_L_law.slots = 5808648 := rfl; have e3 : rm_L_house.cells = 68 := rfl; have e4 : rm_L_house.slots = 408 := rfl; omega)⟩ dL_law_1010 (fun v271 w270 h => ?_)
        refine g_widen (c2 := (530 + (51 - n21) * 920 + 82)) (s2 := (12685 + (51 - n21) * 13524 + 492)) (by have e1 : rm_L_house.cells = 68 := rfl; omega) (by have e1 : rm_L_house.slots = 408 := rfl; omega) ?_
        refine g_iload X dL_law_1013 9 rfl ?_
        refine g_iadd X dL_law_1015 (fun v272 hv => ?_)
        replace h := h v272 hv; clear hv
        refine g_sipush X (v := (500 : Int32)) dL_law_1016 (by decide) ?_
        refine g_icmp_gt X (tgt := 1033) dL_law_1019 (by decide) (fun hc => ?_) (fun hc => ?_)
        · replace h := h.1 hc; clear hc
          exact g_sub [1, 2, 3, 4, 5, 6, 7, 8, 9, 10] [(0, .inr (some b)), (1, .inr (some q1)), (2, .inr (some q4)), (4, .inl y24), (6, .inl v79), (8, .inl v87), (11, .inl v92), (12, .inl v232), (13, .inl v234), (14, .inl v236)] rfl (jp264 w270 h)
        · replace h := h.2 hc; clear hc
          refine g_iload X dL_law_1022 10 rfl ?_
          refine g_iload X dL_law_1024 9 rfl ?_
          refine g_icmp_lt X (tgt := 1033) dL_law_1026 (by decide) (fun hc => ?_) (fun hc => ?_)
          · replace h := h.1 hc; clear hc
            exact g_sub [1, 2, 3, 4, 5, 6, 7, 8, 9, 10] [(0, .inr (some b)), (1, .inr (some q1)), (2, .inr (some q4)), (4, .inl y24), (6, .inl v79), (8, .inl v87), (11, .inl v92), (12, .inl v232), (13, .inl v234), (14, .inl v236)] rfl (jp264 w270 h)
          · replace h := h.2 hc; clear hc
            refine g_iconst X (v := (1 : Int32)) dL_law_1029 (by decide) ?_
            refine g_goto X (tgt := 1034) dL_law_1030 (by decide) ?_
            exact g_sub [1, 2, 3, 4, 5, 6, 7, 8, 9, 10] [(0, .inr (some b)), (1, .inr (some q1)), (2, .inr (some q4)), (4, .inl y24), (6, .inl v79), (8, .inl v87), (11, .inl v92), (12, .inl v232), (13, .inl v234), (14, .inl v236)] rfl (jp240 (1 : Int32) w270 h)
  obtain ⟨J273, hjJ273, h⟩ := h
  have jp273 : ∀  (w274 : Wd), J273 w274 → Gw l G L0 p e rm_L_law s m #[Value.ref b] below meth c 16 (530 + (51 - n21) * 920 + 12) (12685 + (51 - n21) * 13524 + 72) (lw_Z below #[Value.ref b] s) w274 980 [(0, .inr (some b)), (1, .inr (some q1)), (2, .inr (some q4)), (4, .inl y24), (6, .inl v79), (8, .inl v87), (11, .inl v92), (12, .inl v232), (13, .inl v234), (14, .inl v236)] [] := by
    intro w274 hJ
    have h := hjJ273 w274 hJ
    clear hJ
    refine g_iconst X (v := (0 : Int32)) dL_law_980 (by decide) ?_
    exact g_sub [0, 1, 2, 3, 4, 5, 6, 7, 8, 9] [(0, .inr (some b)), (1, .inr (some q1)), (2, .inr (some q4)), (4, .inl y24), (6, .inl v79), (8, .inl v87), (11, .inl v92), (12, .inl v232), (13, .inl v234), (14, .inl v236)] rfl (jp237 (0 : Int32) w274 h)
  refine g_icmp_eq X (tgt := 980) dL_law_926 (by decide) (fun hc => ?_) (fun hc => ?_)
  · replace h := h.1 hc; clear hc
    refine g_widen (c2 := (530 + (51 - n21) * 920 + 12)) (s2 := (12685 + (51 - n21) * 13524 + 72)) (by omega) (by omega) ?_
    exact g_sub [10, 11, 12, 14, 8, 6, 3, 2, 1, 0] [(0, .inr (some b)), (1, .inr (some q1)), (2, .inr (some q4)), (4, .inl y24), (6, .inl v79), (8, .inl v87), (11, .inl v92), (12, .inl v232), (13, .inl v234), (14, .inl v236)] rfl (jp273 w235 h)
  · replace h := h.2 hc; clear hc
    refine g_iload X dL_law_929 2 rfl ?_
    refine g_iload X dL_law_931 6 rfl ?_
    refine g_icmp_eq X (tgt := 980) dL_law_933 (by decide) (fun hc => ?_) (fun hc => ?_)
    · replace h := h.1 hc; clear hc
      refine g_widen (c2 := (530 + (51 - n21) * 920 + 12)) (s2 := (12685 + (51 - n21) * 13524 + 72)) (by omega) (by omega) ?_
      exact g_sub [10, 11, 12, 14, 8, 6, 3, 2, 1, 0] [(0, .inr (some b)), (1, .inr (some q1)), (2, .inr (some q4)), (4, .inl y24), (6, .inl v79), (8, .inl v87), (11, .inl v92), (12, .inl v232), (13, .inl v234), (14, .inl v236)] rfl (jp273 w235 h)
    · replace h := h.2 hc; clear hc
      refine g_aload_n X dL_law_936 rfl 11 rfl ?_
      refine g_iload X dL_law_937 8 rfl ?_
      refine g_iconst X (v := (1 : Int32)) dL_law_939 (by decide) ?_
      have hk := h.1
      replace h := h.2
      refine g_callFV_i X (As := [.int v79, .int (1 : Int32)]) (st := []) (n := 2) (c_X3_of hst h) rfl (by decide) hk (wE_4 G w235 q1) m_410 m_411 m_412 m_15 m_413 (by decide +kernel) (by decide +kernel) rfl rfl (Nat.zero_le _) ⟨(by have e1 : rm_L_law.cells = 1097659 := rfl; have e2 : rm_L_law.slots = 5808648 := rfl; have e3 : rm_X3_of.cells = 2 := rfl; have e4 : rm_X3_of.slots = 12 := rfl; omega), (by have e1 : rm_L_law.cells = 1097659 := rfl; have e2 : rm_L_law.slots = 5808648 := rfl; have e3 : rm_X3_of.cells = 2 := rfl; have e4 : rm_X3_of.slots = 12 := rfl; omega)⟩ dL_law_940 (fun v276 w275 h => ?_)
      clear hk
      refine g_widen (c2 := (530 + (51 - n21) * 920 + 6)) (s2 := (12685 + (51 - n21) * 13524 + 36)) (by have e1 : rm_X3_of.cells = 2 := rfl; omega) (by have e1 : rm_X3_of.slots = 12 := rfl; omega) ?_
      refine g_if_le X (tgt := 980) dL_law_943 (by decide) (fun hc => ?_) (fun hc => ?_)
      · replace h := h.1 hc; clear hc
        refine g_widen (c2 := (530 + (51 - n21) * 920 + 12)) (s2 := (12685 + (51 - n21) * 13524 + 72)) (by omega) (by omega) ?_
        exact g_sub [10, 11, 12, 14, 8, 6, 3, 2, 1, 0] [(0, .inr (some b)), (1, .inr (some q1)), (2, .inr (some q4)), (4, .inl y24), (6, .inl v79), (8, .inl v87), (11, .inl v92), (12, .inl v232), (13, .inl v234), (14, .inl v236)] rfl (jp273 w275 h)
      · replace h := h.2 hc; clear hc
        refine g_aload_n X dL_law_946 rfl 11 rfl ?_
        refine g_iload X dL_law_947 6 rfl ?_
        refine g_iconst X (v := (1 : Int32)) dL_law_949 (by decide) ?_
        have hk := h.1
        replace h := h.2
        refine g_callFV_i X (As := [.int v87, .int (1 : Int32)]) (st := []) (n := 2) (c_X3_of hst h) rfl (by decide) hk (wE_4 G w275 q1) m_410 m_411 m_412 m_15 m_413 (by decide +kernel) (by decide +kernel) rfl rfl (Nat.zero_le _) ⟨(by have e1 : rm_L_law.cells = 1097659 := rfl; have e2 : rm_L_law.slots = 5808648 := rfl; have e3 : rm_X3_of.cells = 2 := rfl; have e4 : rm_X3_of.slots = 12 := rfl; omega), (by have e1 : rm_L_law.cells = 1097659 := rfl; have e2 : rm_L_law.slots = 5808648 := rfl; have e3 : rm_X3_of.cells = 2 := rfl; have e4 : rm_X3_of.slots = 12 := rfl; omega)⟩ dL_law_950 (fun v278 w277 h => ?_)
        clear hk
        refine g_widen (c2 := (530 + (51 - n21) * 920 + 8)) (s2 := (12685 + (51 - n21) * 13524 + 48)) (by have e1 : rm_X3_of.cells = 2 := rfl; omega) (by have e1 : rm_X3_of.slots = 12 := rfl; omega) ?_
        refine g_if_le X (tgt := 980) dL_law_953 (by decide) (fun hc => ?_) (fun hc => ?_)
        · replace h := h.1 hc; clear hc
          refine g_widen (c2 := (530 + (51 - n21) * 920 + 12)) (s2 := (12685 + (51 - n21) * 13524 + 72)) (by omega) (by omega) ?_
          exact g_sub [10, 11, 12, 14, 8, 6, 3, 2, 1, 0] [(0, .inr (some b)), (1, .inr (some q1)), (2, .inr (some q4)), (4, .inl y24), (6, .inl v79), (8, .inl v87), (11, .inl v92), (12, .inl v232), (13, .inl v234), (14, .inl v236)] rfl (jp273 w277 h)
        · replace h := h.2 hc; clear hc
          refine g_aload_n X dL_law_956 rfl 11 rfl ?_
          refine g_iload X dL_law_957 2 rfl ?_
          refine g_iconst X (v := (1 : Int32)) dL_law_959 (by decide) ?_
          have hk := h.1
          replace h := h.2
          refine g_callFV_i X (As := [.int v232, .int (1 : Int32)]) (st := []) (n := 2) (c_X3_of hst h) rfl (by decide) hk (wE_4 G w277 q1) m_410 m_411 m_412 m_15 m_413 (by decide +kernel) (by decide +kernel) rfl rfl (Nat.zero_le _) ⟨(by have e1 : rm_L_law.cells = 1097659 := rfl; have e2 : rm_L_law.slots = 5808648 := rfl; have e3 : rm_X3_of.cells = 2 := rfl; have e4 : rm_X3_of.slots = 12 := rfl; omega), (by have e1 : rm_L_law.cells = 1097659 := rfl; have e2 : rm_L_law.slots = 5808648 := rfl; have e3 : rm_X3_of.cells = 2 := rfl; have e4 : rm_X3_of.slots = 12 := rfl; omega)⟩ dL_law_960 (fun v280 w279 h => ?_)
          clear hk
          refine g_widen (c2 := (530 + (51 - n21) * 920 + 10)) (s2 := (12685 + (51 - n21) * 13524 + 60)) (by have e1 : rm_X3_of.cells = 2 := rfl; omega) (by have e1 : rm_X3_of.slots = 12 := rfl; omega) ?_
          refine g_if_le X (tgt := 980) dL_law_963 (by decide) (fun hc => ?_) (fun hc => ?_)
          · replace h := h.1 hc; clear hc
            refine g_widen (c2 := (530 + (51 - n21) * 920 + 12)) (s2 := (12685 + (51 - n21) * 13524 + 72)) (by omega) (by omega) ?_
            exact g_sub [10, 11, 12, 14, 8, 6, 3, 2, 1, 0] [(0, .inr (some b)), (1, .inr (some q1)), (2, .inr (some q4)), (4, .inl y24), (6, .inl v79), (8, .inl v87), (11, .inl v92), (12, .inl v232), (13, .inl v234), (14, .inl v236)] rfl (jp273 w279 h)
          · replace h := h.2 hc; clear hc
            refine g_aload_n X dL_law_966 rfl 11 rfl ?_
            refine g_iload X dL_law_967 8 rfl ?_
            refine g_iconst X (v := (2 : Int32)) dL_law_969 (by decide) ?_
            have hk := h.1
            replace h := h.2
            refine g_callFV_i X (As := [.int v79, .int (2 : Int32)]) (st := []) (n := 2) (c_X3_of hst h) rfl (by decide) hk (wE_4 G w279 q1) m_410 m_411 m_412 m_15 m_413 (by decide +kernel) (by decide +kernel) rfl rfl (Nat.zero_le _) ⟨(by have e1 : rm_L_law.cells = 1097659 := rfl; have e2 : rm_L_law.slots = 5808648 := rfl; have e3 : rm_X3_of.cells = 2 := rfl; have e4 : rm_X3_of.slots = 12 := rfl; omega), (by have e1 : rm_L_law.cells = 1097659 := rfl; have e2 : rm_L_law.slots = 5808648 := rfl; have e3 : rm_X3_of.cells = 2 := rfl; have e4 : rm_X3_of.slots = 12 := rfl; omega)⟩ dL_law_970 (fun v282 w281 h => ?_)
            clear hk
            refine g_widen (c2 := (530 + (51 - n21) * 920 + 12)) (s2 := (12685 + (51 - n21) * 13524 + 72)) (by have e1 : rm_X3_of.cells = 2 := rfl; omega) (by have e1 : rm_X3_of.slots = 12 := rfl; omega) ?_
            refine g_if_ne X (tgt := 980) dL_law_973 (by decide) (fun hc => ?_) (fun hc => ?_)
            · replace h := h.1 hc; clear hc
              exact g_sub [10, 11, 12, 14, 8, 6, 3, 2, 1, 0] [(0, .inr (some b)), (1, .inr (some q1)), (2, .inr (some q4)), (4, .inl y24), (6, .inl v79), (8, .inl v87), (11, .inl v92), (12, .inl v232), (13, .inl v234), (14, .inl v236)] rfl (jp273 w281 h)
            · replace h := h.2 hc; clear hc
              refine g_iconst X (v := (1 : Int32)) dL_law_976 (by decide) ?_
              refine g_goto X (tgt := 981) dL_law_977 (by decide) ?_
              exact g_sub [10, 11, 12, 14, 8, 6, 3, 2, 1, 0] [(0, .inr (some b)), (1, .inr (some q1)), (2, .inr (some q4)), (4, .inl y24), (6, .inl v79), (8, .inl v87), (11, .inl v92), (12, .inl v232), (13, .inl v234), (14, .inl v236)] rfl (jp237 (1 : Int32) w281 h)

def wpc_752 (L : Nat) (xs : Nat → Int32) (q1 : Nat) (v79 : Int32) (v83 : Int32) (v90 : Int32) (w91 : Wd) (v92 : Int32) (J93 : Int32 → Wd → Prop) : Prop :=
  ¬ (12 : Int32) = 0 ∧ ∀ v283 : Int32, v283 = v83 - v83 / (12 : Int32) * (12 : Int32) →
  ∀ v284 : Int32, v284 = (1 : Int32) + v283 →
  w91.K q1 = 4 ∧
  wp_X3_of q1 v79 (5 : Int32) w91 (fun v286 w285 => 
  ∃ J287 : Int32 → Wd → Prop, (∀ (y288 : Int32) (w289 : Wd), J287 y288 w289 →
  wp_L_isBuy (some q1) v79 v284 w289 (fun v291 w290 => 
  ∃ J292 : Int32 → Wd → Prop, (∀ (y293 : Int32) (w294 : Wd), J292 y293 w294 →
  J93 y293 w294) ∧
  ∃ J295 : Wd → Prop, (∀  (w296 : Wd), J295 w296 →
  J292 (0 : Int32) w296) ∧
  (¬ v291 = y288 → J295 w290) ∧ (v291 = y288 → w290.K q1 = 4 ∧
  wp_X3_of q1 v79 (0 : Int32) w290 (fun v298 w297 => 
  ∃ J299 : Int32 → Int32 → Prop, (∀ (y300 : Int32) (y301 : Int32), J299 y300 y301 →
  (¬ y300 = y301 → J295 w297) ∧ (y300 = y301 → w297.K q1 = 4 ∧
  wp_X3_of q1 v79 (4 : Int32) w297 (fun v303 w302 => 
  ∀ v304 : Int32, v304 = v303 - v92 →
  w302.K q1 = 4 ∧
  wp_X3_of q1 v79 (0 : Int32) w302 (fun v306 w305 => 
  ∀ v307 : Int32, v307 = v90 - v306 →
  (¬ v304 = v307 → J295 w305) ∧ (v304 = v307 → J292 (1 : Int32) w305)) (fun _ _ => False)) (fun _ _ => False))) ∧
  (y288 = 0 → J299 v298 v90) ∧ (¬ y288 = 0 → ∀ v308 : Int32, v308 = (10 : Int32) * v284 →
  ∀ v309 : Int32, v309 = v90 - v308 →
  J299 v298 v309)) (fun _ _ => False)))) ∧
  ∃ J310 : Wd → Prop, (∀  (w311 : Wd), J310 w311 →
  J287 (0 : Int32) w311) ∧
  (¬ v286 = (1 : Int32) → J310 w285) ∧ (v286 = (1 : Int32) → w285.K q1 = 4 ∧
  wp_X3_of q1 v79 (1 : Int32) w285 (fun v313 w312 => 
  ∀ v314 : Int32, v314 = v313 + v284 →
  ((100 : Int32) < v314 → J310 w312) ∧ (¬ (100 : Int32) < v314 → ∀ v315 : Int32, v315 = (10 : Int32) * v284 →
  (v90 < v315 → J310 w312) ∧ (¬ v90 < v315 → J287 (1 : Int32) w312))) (fun _ _ => False))) (fun _ _ => False)
set_option maxHeartbeats 8000000 in
set_option maxRecDepth 100000 in
theorem q_752 {p : Program} {e : Env} {s : State} {m : MethodId} {below : List Frame} {meth : Method} {c : Code} {l : Launch} {G : GT} {L0 b L : Nat} {xs : Nat → Int32} (hst : l.stackTraces = false) (hL0 : L0 = s.heap.size) (X : GC l G L0 p s m #[Value.ref b] meth c code 16 "SusuRingLaw") (hr : meth.sig.returnType = ret) (hX : va_X b L xs s s.heap) (hb : b < s.heap.size) (hbA : ¬ GA L0 b) (hLL : L < 2 ^ 31) {q1 : Nat} {q4 : Nat} {n21 : Nat} {y23 : Int32} {y24 : Int32} {v75 : Int32} {v79 : Int32} {v83 : Int32} {v87 : Int32} {v88 : Int32} {v90 : Int32} {w91 : Wd} {v92 : Int32} {J93 : Int32 → Wd → Prop} (hnbn21 : n21 ≤ 51) (jp93 : ∀ (y94 : Int32) (w95 : Wd), J93 y94 w95 → Gw l G L0 p e rm_L_law s m #[Value.ref b] below meth c 16 (530 + (51 - n21) * 920 + 358) (12685 + (51 - n21) * 13524 + 10152) (lw_Z below #[Value.ref b] s) w95 1583 [(0, .inr (some b)), (1, .inr (some q1)), (2, .inr (some q4)), (3, .inl y94), (4, .inl y24), (6, .inl v79)] []) (h : wpc_752 L xs q1 v79 v83 v90 w91 v92 J93) : Gw l G L0 p e rm_L_law s m #[Value.ref b] below meth c 16 (530 + (51 - n21) * 920 + 4) (12685 + (51 - n21) * 13524 + 24) (lw_Z below #[Value.ref b] s) w91 752 [(11, .inl v92), (10, .inl v90), (9, .inl v88), (8, .inl v87), (7, .inl v83), (6, .inl v79), (5, .inl v75), (0, .inr (some b)), (1, .inr (some q1)), (2, .inr (some q4)), (3, .inl y23), (4, .inl y24)] [] := by
  refine g_iconst X (v := (1 : Int32)) dL_law_752 (by decide) ?_
  refine g_iload X dL_law_753 4 rfl ?_
  refine g_bipush X (v := (12 : Int32)) dL_law_755 (by decide) ?_
  refine g_irem X dL_law_757 h.1 (fun v283 hv => ?_)
  replace h := h.2 v283 hv; clear hv
  refine g_iadd X dL_law_758 (fun v284 hv => ?_)
  replace h := h v284 hv; clear hv
  refine g_istore X [(12, .inl v284), (11, .inl v92), (10, .inl v90), (9, .inl v88), (8, .inl v87), (7, .inl v83), (6, .inl v79), (5, .inl v75), (0, .inr (some b)), (1, .inr (some q1)), (2, .inr (some q4)), (3, .inl y23), (4, .inl y24)] dL_law_759 (by decide) rfl ?_
  refine g_aload_n X dL_law_761 rfl 9 rfl ?_
  refine g_iload X dL_law_762 6 rfl ?_
  refine g_iconst X (v := (5 : Int32)) dL_law_764 (by decide) ?_
  have hk := h.1
  replace h := h.2
  refine g_callFV_i X (As := [.int v79, .int (5 : Int32)]) (st := []) (n := 2) (c_X3_of hst h) rfl (by decide) hk (wE_4 G w91 q1) m_410 m_411 m_412 m_15 m_413 (by decide +kernel) (by decide +kernel) rfl rfl (Nat.zero_le _) ⟨(by have e1 : rm_L_law.cells = 1097659 := rfl; have e2 : rm_L_law.slots = 5808648 := rfl; have e3 : rm_X3_of.cells = 2 := rfl; have e4 : rm_X3_of.slots = 12 := rfl; omega), (by have e1 : rm_L_law.cells = 1097659 := rfl; have e2 : rm_L_law.slots = 5808648 := rfl; have e3 : rm_X3_of.cells = 2 := rfl; have e4 : rm_X3_of.slots = 12 := rfl; omega)⟩ dL_law_765 (fun v286 w285 h => ?_)
  clear hk
  refine g_widen (c2 := (530 + (51 - n21) * 920 + 6)) (s2 := (12685 + (51 - n21) * 13524 + 36)) (by have e1 : rm_X3_of.cells = 2 := rfl; omega) (by have e1 : rm_X3_of.slots = 12 := rfl; omega) ?_
  refine g_iconst X (v := (1 : Int32)) dL_law_768 (by decide) ?_
  obtain ⟨J287, hjJ287, h⟩ := h
  have jp287 : ∀ (y288 : Int32) (w289 : Wd), J287 y288 w289 → Gw l G L0 p e rm_L_law s m #[Value.ref b] below meth c 16 (530 + (51 - n21) * 920 + 8) (12685 + (51 - n21) * 13524 + 48) (lw_Z below #[Value.ref b] s) w289 802 [(0, .inr (some b)), (1, .inr (some q1)), (2, .inr (some q4)), (4, .inl y24), (6, .inl v79), (10, .inl v90), (11, .inl v92), (12, .inl v284)] [.int y288] := by
    intro y288 w289 hJ
    have h := hjJ287 y288 w289 hJ
    clear hJ
    refine g_istore X [(13, .inl y288), (0, .inr (some b)), (1, .inr (some q1)), (2, .inr (some q4)), (4, .inl y24), (6, .inl v79), (10, .inl v90), (11, .inl v92), (12, .inl v284)] dL_law_802 (by decide) rfl ?_
    refine g_aload_n X dL_law_804 rfl 2 rfl ?_
    refine g_iload X dL_law_805 5 rfl ?_
    refine g_iload X dL_law_807 8 rfl ?_
    refine g_callH_i X (As := [va_rf (some q1), .int v79, .int v284]) (st := []) (n := 3) (c_L_isBuy hst h) m_656 m_657 m_14 m_658 (by decide +kernel) (by decide +kernel) (by decide +kernel) rfl rfl (Nat.zero_le _) ⟨(by have e1 : rm_L_law.cells = 1097659 := rfl; have e2 : rm_L_law.slots = 5808648 := rfl; have e3 : rm_L_isBuy.cells = 3 := rfl; have e4 : rm_L_isBuy.slots = 18 := rfl; omega), (by have e1 : rm_L_law.cells = 1097659 := rfl; have e2 : rm_L_law.slots = 5808648 := rfl; have e3 : rm_L_isBuy.cells = 3 := rfl; have e4 : rm_L_isBuy.slots = 18 := rfl; omega)⟩ dL_law_809 (fun v291 w290 h => ?_)
    refine g_widen (c2 := (530 + (51 - n21) * 920 + 11)) (s2 := (12685 + (51 - n21) * 13524 + 66)) (by have e1 : rm_L_isBuy.cells = 3 := rfl; omega) (by have e1 : rm_L_isBuy.slots = 18 := rfl; omega) ?_
    refine g_iload X dL_law_812 0 rfl ?_
    obtain ⟨J292, hjJ292, h⟩ := h
    have jp292 : ∀ (y293 : Int32) (w294 : Wd), J292 y293 w294 → Gw l G L0 p e rm_L_law s m #[Value.ref b] below meth c 16 (530 + (51 - n21) * 920 + 17) (12685 + (51 - n21) * 13524 + 102) (lw_Z below #[Value.ref b] s) w294 873 [(0, .inr (some b)), (1, .inr (some q1)), (2, .inr (some q4)), (4, .inl y24), (6, .inl v79)] [.int y293] := by
      intro y293 w294 hJ
      have h := hjJ292 y293 w294 hJ
      clear hJ
      refine g_istore_n X [(3, .inl y293), (0, .inr (some b)), (1, .inr (some q1)), (2, .inr (some q4)), (4, .inl y24), (6, .inl v79)] dL_law_873 rfl (by decide) rfl ?_
      refine g_goto X (tgt := 1583) dL_law_874 (by decide) ?_
      refine g_widen (c2 := (530 + (51 - n21) * 920 + 358)) (s2 := (12685 + (51 - n21) * 13524 + 10152)) (by omega) (by omega) ?_
      exact g_sub [1, 2, 3, 0, 4, 5] [(0, .inr (some b)), (1, .inr (some q1)), (2, .inr (some q4)), (3, .inl y293), (4, .inl y24), (6, .inl v79)] rfl (jp93 y293 w294 h)
    obtain ⟨J295, hjJ295, h⟩ := h
    have jp295 : ∀  (w296 : Wd), J295 w296 → Gw l G L0 p e rm_L_law s m #[Value.ref b] below meth c 16 (530 + (51 - n21) * 920 + 17) (12685 + (51 - n21) * 13524 + 102) (lw_Z below #[Value.ref b] s) w296 872 [(0, .inr (some b)), (1, .inr (some q1)), (2, .inr (some q4)), (4, .inl y24), (6, .inl v79)] [] := by
      intro w296 hJ
      have h := hjJ295 w296 hJ
      clear hJ
      refine g_iconst X (v := (0 : Int32)) dL_law_872 (by decide) ?_
      exact g_sub [0, 1, 2, 3, 4] [(0, .inr (some b)), (1, .inr (some q1)), (2, .inr (some q4)), (4, .inl y24), (6, .inl v79)] rfl (jp292 (0 : Int32) w296 h)
    refine g_icmp_ne X (tgt := 872) dL_law_814 (by decide) (fun hc => ?_) (fun hc => ?_)
    · replace h := h.1 hc; clear hc
      refine g_widen (c2 := (530 + (51 - n21) * 920 + 17)) (s2 := (12685 + (51 - n21) * 13524 + 102)) (by omega) (by omega) ?_
      exact g_sub [1, 2, 3, 4, 5] [(0, .inr (some b)), (1, .inr (some q1)), (2, .inr (some q4)), (4, .inl y24), (6, .inl v79)] rfl (jp295 w290 h)
    · replace h := h.2 hc; clear hc
      refine g_aload_n X dL_law_817 rfl 2 rfl ?_
      refine g_iload X dL_law_818 5 rfl ?_
      refine g_iconst X (v := (0 : Int32)) dL_law_820 (by decide) ?_
      have hk := h.1
      replace h := h.2
      refine g_callFV_i X (As := [.int v79, .int (0 : Int32)]) (st := []) (n := 2) (c_X3_of hst h) rfl (by decide) hk (wE_4 G w290 q1) m_410 m_411 m_412 m_15 m_413 (by decide +kernel) (by decide +kernel) rfl rfl (Nat.zero_le _) ⟨(by have e1 : rm_L_law.cells = 1097659 := rfl; have e2 : rm_L_law.slots = 5808648 := rfl; have e3 : rm_X3_of.cells = 2 := rfl; have e4 : rm_X3_of.slots = 12 := rfl; omega), (by have e1 : rm_L_law.cells = 1097659 := rfl; have e2 : rm_L_law.slots = 5808648 := rfl; have e3 : rm_X3_of.cells = 2 := rfl; have e4 : rm_X3_of.slots = 12 := rfl; omega)⟩ dL_law_821 (fun v298 w297 h => ?_)
      clear hk
      refine g_widen (c2 := (530 + (51 - n21) * 920 + 13)) (s2 := (12685 + (51 - n21) * 13524 + 78)) (by have e1 : rm_X3_of.cells = 2 := rfl; omega) (by have e1 : rm_X3_of.slots = 12 := rfl; omega) ?_
      refine g_iload X dL_law_824 0 rfl ?_
      obtain ⟨J299, hjJ299, h⟩ := h
      have jp299 : ∀ (y300 : Int32) (y301 : Int32), J299 y300 y301 → Gw l G L0 p e rm_L_law s m #[Value.ref b] below meth c 16 (530 + (51 - n21) * 920 + 13) (12685 + (51 - n21) * 13524 + 78) (lw_Z below #[Value.ref b] s) w297 842 [(0, .inr (some b)), (1, .inr (some q1)), (2, .inr (some q4)), (4, .inl y24), (6, .inl v79), (10, .inl v90), (11, .inl v92)] [.int y301, .int y300] := by
        intro y300 y301 hJ
        have h := hjJ299 y300 y301 hJ
        clear hJ
        refine g_icmp_ne X (tgt := 872) dL_law_842 (by decide) (fun hc => ?_) (fun hc => ?_)
        · replace h := h.1 hc; clear hc
          refine g_widen (c2 := (530 + (51 - n21) * 920 + 17)) (s2 := (12685 + (51 - n21) * 13524 + 102)) (by omega) (by omega) ?_
          exact g_sub [0, 1, 2, 3, 4] [(0, .inr (some b)), (1, .inr (some q1)), (2, .inr (some q4)), (4, .inl y24), (6, .inl v79)] rfl (jp295 w297 h)
        · replace h := h.2 hc; clear hc
          refine g_aload_n X dL_law_845 rfl 1 rfl ?_
          refine g_iload X dL_law_846 4 rfl ?_
          refine g_iconst X (v := (4 : Int32)) dL_law_848 (by decide) ?_
          have hk := h.1
          replace h := h.2
          refine g_callFV_i X (As := [.int v79, .int (4 : Int32)]) (st := []) (n := 2) (c_X3_of hst h) rfl (by decide) hk (wE_4 G w297 q1) m_410 m_411 m_412 m_15 m_413 (by decide +kernel) (by decide +kernel) rfl rfl (Nat.zero_le _) ⟨(by have e1 : rm_L_law.cells = 1097659 := rfl; have e2 : rm_L_law.slots = 5808648 := rfl; have e3 : rm_X3_of.cells = 2 := rfl; have e4 : rm_X3_of.slots = 12 := rfl; omega), (by have e1 : rm_L_law.cells = 1097659 := rfl; have e2 : rm_L_law.slots = 5808648 := rfl; have e3 : rm_X3_of.cells = 2 := rfl; have e4 : rm_X3_of.slots = 12 := rfl; omega)⟩ dL_law_849 (fun v303 w302 h => ?_)
          clear hk
          refine g_widen (c2 := (530 + (51 - n21) * 920 + 15)) (s2 := (12685 + (51 - n21) * 13524 + 90)) (by have e1 : rm_X3_of.cells = 2 := rfl; omega) (by have e1 : rm_X3_of.slots = 12 := rfl; omega) ?_
          refine g_iload X dL_law_852 6 rfl ?_
          refine g_isub X dL_law_854 (fun v304 hv => ?_)
          replace h := h v304 hv; clear hv
          refine g_iload X dL_law_855 5 rfl ?_
          refine g_aload_n X dL_law_857 rfl 1 rfl ?_
          refine g_iload X dL_law_858 4 rfl ?_
          refine g_iconst X (v := (0 : Int32)) dL_law_860 (by decide) ?_
          have hk := h.1
          replace h := h.2
          refine g_callFV_i X (As := [.int v79, .int (0 : Int32)]) (st := [.int v90, .int v304]) (n := 2) (c_X3_of hst h) rfl (by decide) hk (wE_4 G w302 q1) m_410 m_411 m_412 m_15 m_413 (by decide +kernel) (by decide +kernel) rfl rfl (by simp [cat_int, rf_cat]) ⟨(by have e1 : rm_L_law.cells = 1097659 := rfl; have e2 : rm_L_law.slots = 5808648 := rfl; have e3 : rm_X3_of.cells = 2 := rfl; have e4 : rm_X3_of.slots = 12 := rfl; omega), (by have e1 : rm_L_law.cells = 1097659 := rfl; have e2 : rm_L_law.slots = 5808648 := rfl; have e3 : rm_X3_of.cells = 2 := rfl; have e4 : rm_X3_of.slots = 12 := rfl; omega)⟩ dL_law_861 (fun v306 w305 h => ?_)
          clear hk
          refine g_widen (c2 := (530 + (51 - n21) * 920 + 17)) (s2 := (12685 + (51 - n21) * 13524 + 102)) (by have e1 : rm_X3_of.cells = 2 := rfl; omega) (by have e1 : rm_X3_of.slots = 12 := rfl; omega) ?_
          refine g_isub X dL_law_864 (fun v307 hv => ?_)
          replace h := h v307 hv; clear hv
          refine g_icmp_ne X (tgt := 872) dL_law_865 (by decide) (fun hc => ?_) (fun hc => ?_)
          · replace h := h.1 hc; clear hc
            exact g_sub [0, 1, 2, 3, 4] [(0, .inr (some b)), (1, .inr (some q1)), (2, .inr (some q4)), (4, .inl y24), (6, .inl v79)] rfl (jp295 w305 h)
          · replace h := h.2 hc; clear hc
            refine g_iconst X (v := (1 : Int32)) dL_law_868 (by decide) ?_
            refine g_goto X (tgt := 873) dL_law_869 (by decide) ?_
            exact g_sub [0, 1, 2, 3, 4] [(0, .inr (some b)), (1, .inr (some q1)), (2, .inr (some q4)), (4, .inl y24), (6, .inl v79)] rfl (jp292 (1 : Int32) w305 h)
      refine g_if_eq X (tgt := 840) dL_law_826 (by decide) (fun hc => ?_) (fun hc => ?_)
      · replace h := h.1 hc; clear hc
        refine g_iload X dL_law_840 6 rfl ?_
        exact g_sub [1, 2, 3, 4, 5, 6, 7] [(0, .inr (some b)), (1, .inr (some q1)), (2, .inr (some q4)), (4, .inl y24), (6, .inl v79), (10, .inl v90), (11, .inl v92)] rfl (jp299 v298 v90 h)
      · replace h := h.2 hc; clear hc
        refine g_iload X dL_law_829 6 rfl ?_
        refine g_bipush X (v := (10 : Int32)) dL_law_831 (by decide) ?_
        refine g_iload X dL_law_833 8 rfl ?_
        refine g_imul X dL_law_835 (fun v308 hv => ?_)
        replace h := h v308 hv; clear hv
        refine g_isub X dL_law_836 (fun v309 hv => ?_)
        replace h := h v309 hv; clear hv
        refine g_goto X (tgt := 842) dL_law_837 (by decide) ?_
        exact g_sub [1, 2, 3, 4, 5, 6, 7] [(0, .inr (some b)), (1, .inr (some q1)), (2, .inr (some q4)), (4, .inl y24), (6, .inl v79), (10, .inl v90), (11, .inl v92)] rfl (jp299 v298 v309 h)
  obtain ⟨J310, hjJ310, h⟩ := h
  have jp310 : ∀  (w311 : Wd), J310 w311 → Gw l G L0 p e rm_L_law s m #[Value.ref b] below meth c 16 (530 + (51 - n21) * 920 + 8) (12685 + (51 - n21) * 13524 + 48) (lw_Z below #[Value.ref b] s) w311 801 [(0, .inr (some b)), (1, .inr (some q1)), (2, .inr (some q4)), (4, .inl y24), (6, .inl v79), (10, .inl v90), (11, .inl v92), (12, .inl v284)] [] := by
    intro w311 hJ
    have h := hjJ310 w311 hJ
    clear hJ
    refine g_iconst X (v := (0 : Int32)) dL_law_801 (by decide) ?_
    exact g_sub [0, 1, 2, 3, 4, 5, 6, 7] [(0, .inr (some b)), (1, .inr (some q1)), (2, .inr (some q4)), (4, .inl y24), (6, .inl v79), (10, .inl v90), (11, .inl v92), (12, .inl v284)] rfl (jp287 (0 : Int32) w311 h)
  refine g_icmp_ne X (tgt := 801) dL_law_769 (by decide) (fun hc => ?_) (fun hc => ?_)
  · replace h := h.1 hc; clear hc
    refine g_widen (c2 := (530 + (51 - n21) * 920 + 8)) (s2 := (12685 + (51 - n21) * 13524 + 48)) (by omega) (by omega) ?_
    exact g_sub [8, 9, 10, 12, 6, 2, 1, 0] [(0, .inr (some b)), (1, .inr (some q1)), (2, .inr (some q4)), (4, .inl y24), (6, .inl v79), (10, .inl v90), (11, .inl v92), (12, .inl v284)] rfl (jp310 w285 h)
  · replace h := h.2 hc; clear hc
    refine g_aload_n X dL_law_772 rfl 9 rfl ?_
    refine g_iload X dL_law_773 6 rfl ?_
    refine g_iconst X (v := (1 : Int32)) dL_law_775 (by decide) ?_
    have hk := h.1
    replace h := h.2
    refine g_callFV_i X (As := [.int v79, .int (1 : Int32)]) (st := []) (n := 2) (c_X3_of hst h) rfl (by decide) hk (wE_4 G w285 q1) m_410 m_411 m_412 m_15 m_413 (by decide +kernel) (by decide +kernel) rfl rfl (Nat.zero_le _) ⟨(by have e1 : rm_L_law.cells = 1097659 := rfl; have e2 : rm_L_law.slots = 5808648 := rfl; have e3 : rm_X3_of.cells = 2 := rfl; have e4 : rm_X3_of.slots = 12 := rfl; omega), (by have e1 : rm_L_law.cells = 1097659 := rfl; have e2 : rm_L_law.slots = 5808648 := rfl; have e3 : rm_X3_of.cells = 2 := rfl; have e4 : rm_X3_of.slots = 12 := rfl; omega)⟩ dL_law_776 (fun v313 w312 h => ?_)
    clear hk
    refine g_widen (c2 := (530 + (51 - n21) * 920 + 8)) (s2 := (12685 + (51 - n21) * 13524 + 48)) (by have e1 : rm_X3_of.cells = 2 := rfl; omega) (by have e1 : rm_X3_of.slots = 12 := rfl; omega) ?_
    refine g_iload X dL_law_779 0 rfl ?_
    refine g_iadd X dL_law_781 (fun v314 hv => ?_)
    replace h := h v314 hv; clear hv
    refine g_bipush X (v := (100 : Int32)) dL_law_782 (by decide) ?_
    refine g_icmp_gt X (tgt := 801) dL_law_784 (by decide) (fun hc => ?_) (fun hc => ?_)
    · replace h := h.1 hc; clear hc
      exact g_sub [8, 9, 10, 12, 6, 2, 1, 0] [(0, .inr (some b)), (1, .inr (some q1)), (2, .inr (some q4)), (4, .inl y24), (6, .inl v79), (10, .inl v90), (11, .inl v92), (12, .inl v284)] rfl (jp310 w312 h)
    · replace h := h.2 hc; clear hc
      refine g_iload X dL_law_787 2 rfl ?_
      refine g_bipush X (v := (10 : Int32)) dL_law_789 (by decide) ?_
      refine g_iload X dL_law_791 0 rfl ?_
      refine g_imul X dL_law_793 (fun v315 hv => ?_)
      replace h := h v315 hv; clear hv
      refine g_icmp_lt X (tgt := 801) dL_law_794 (by decide) (fun hc => ?_) (fun hc => ?_)
      · replace h := h.1 hc; clear hc
        exact g_sub [8, 9, 10, 12, 6, 2, 1, 0] [(0, .inr (some b)), (1, .inr (some q1)), (2, .inr (some q4)), (4, .inl y24), (6, .inl v79), (10, .inl v90), (11, .inl v92), (12, .inl v284)] rfl (jp310 w312 h)
      · replace h := h.2 hc; clear hc
        refine g_iconst X (v := (1 : Int32)) dL_law_797 (by decide) ?_
        refine g_goto X (tgt := 802) dL_law_798 (by decide) ?_
        exact g_sub [8, 9, 10, 12, 6, 2, 1, 0] [(0, .inr (some b)), (1, .inr (some q1)), (2, .inr (some q4)), (4, .inl y24), (6, .inl v79), (10, .inl v90), (11, .inl v92), (12, .inl v284)] rfl (jp287 (1 : Int32) w312 h)

def wpc_614 (L : Nat) (xs : Nat → Int32) (q1 : Nat) (v79 : Int32) (v88 : Int32) (v90 : Int32) (w91 : Wd) (v92 : Int32) (J93 : Int32 → Wd → Prop) : Prop :=
  w91.K q1 = 4 ∧
  wp_X3_member q1 v88 v79 (0 : Int32) w91 (fun v317 w316 => 
  ∃ J318 : Int32 → Wd → Prop, (∀ (y319 : Int32) (w320 : Wd), J318 y319 w320 →
  w320.K q1 = 4 ∧
  wp_X3_member q1 v88 v79 (2 : Int32) w320 (fun v322 w321 => 
  wp_L_leaves (some q1) v88 v79 w321 (fun v324 w323 => 
  ∃ J325 : Int32 → Prop, (∀ (y326 : Int32), J325 y326 →
  ∃ J327 : Int32 → Wd → Prop, (∀ (y328 : Int32) (w329 : Wd), J327 y328 w329 →
  J93 y328 w329) ∧
  ∃ J330 : Wd → Prop, (∀  (w331 : Wd), J330 w331 →
  J327 (0 : Int32) w331) ∧
  (¬ y326 = y319 → J330 w323) ∧ (y326 = y319 → ∃ J332 : Wd → Prop, (∀  (w333 : Wd), J332 w333 →
  J327 (1 : Int32) w333) ∧
  (y319 = 0 → J332 w323) ∧ (¬ y319 = 0 → (v322 < v324 → J330 w323) ∧ (¬ v322 < v324 → w323.K q1 = 4 ∧
  wp_X3_of q1 v79 (0 : Int32) w323 (fun v335 w334 => 
  ∀ v336 : Int32, v336 = v90 + v324 →
  (¬ v335 = v336 → J330 w334) ∧ (v335 = v336 → w334.K q1 = 4 ∧
  wp_X3_of q1 v79 (4 : Int32) w334 (fun v338 w337 => 
  ∀ v339 : Int32, v339 = v92 - v324 →
  (¬ v338 = v339 → J330 w337) ∧ (v338 = v339 → w337.K q1 = 4 ∧
  wp_X3_member q1 v88 v79 (3 : Int32) w337 (fun v341 w340 => 
  (¬ v341 = (-1 : Int32) → J330 w340) ∧ (v341 = (-1 : Int32) → J332 w340)) (fun _ _ => False))) (fun _ _ => False))) (fun _ _ => False))))) ∧
  (v324 < 0 → J325 (0 : Int32)) ∧ (¬ v324 < 0 → J325 (1 : Int32)))) (fun _ _ => False)) ∧
  ∃ J342 : Wd → Prop, (∀  (w343 : Wd), J342 w343 →
  J318 (0 : Int32) w343) ∧
  (¬ v317 = 0 → J342 w316) ∧ (v317 = 0 → w316.K q1 = 4 ∧
  wp_X3_member q1 v88 v79 (1 : Int32) w316 (fun v345 w344 => 
  (¬ v345 = 0 → J342 w344) ∧ (v345 = 0 → J318 (1 : Int32) w344)) (fun _ _ => False))) (fun _ _ => False)
set_option maxHeartbeats 8000000 in
set_option maxRecDepth 100000 in
theorem q_614 {p : Program} {e : Env} {s : State} {m : MethodId} {below : List Frame} {meth : Method} {c : Code} {l : Launch} {G : GT} {L0 b L : Nat} {xs : Nat → Int32} (hst : l.stackTraces = false) (hL0 : L0 = s.heap.size) (X : GC l G L0 p s m #[Value.ref b] meth c code 16 "SusuRingLaw") (hr : meth.sig.returnType = ret) (hX : va_X b L xs s s.heap) (hb : b < s.heap.size) (hbA : ¬ GA L0 b) (hLL : L < 2 ^ 31) {q1 : Nat} {q4 : Nat} {n21 : Nat} {y23 : Int32} {y24 : Int32} {v75 : Int32} {v79 : Int32} {v83 : Int32} {v87 : Int32} {v88 : Int32} {v90 : Int32} {w91 : Wd} {v92 : Int32} {J93 : Int32 → Wd → Prop} (hnbn21 : n21 ≤ 51) (jp93 : ∀ (y94 : Int32) (w95 : Wd), J93 y94 w95 → Gw l G L0 p e rm_L_law s m #[Value.ref b] below meth c 16 (530 + (51 - n21) * 920 + 358) (12685 + (51 - n21) * 13524 + 10152) (lw_Z below #[Value.ref b] s) w95 1583 [(0, .inr (some b)), (1, .inr (some q1)), (2, .inr (some q4)), (3, .inl y94), (4, .inl y24), (6, .inl v79)] []) (h : wpc_614 L xs q1 v79 v88 v90 w91 v92 J93) : Gw l G L0 p e rm_L_law s m #[Value.ref b] below meth c 16 (530 + (51 - n21) * 920 + 4) (12685 + (51 - n21) * 13524 + 24) (lw_Z below #[Value.ref b] s) w91 614 [(11, .inl v92), (10, .inl v90), (9, .inl v88), (8, .inl v87), (7, .inl v83), (6, .inl v79), (5, .inl v75), (0, .inr (some b)), (1, .inr (some q1)), (2, .inr (some q4)), (3, .inl y23), (4, .inl y24)] [] := by
  refine g_aload_n X dL_law_614 rfl 8 rfl ?_
  refine g_iload X dL_law_615 2 rfl ?_
  refine g_iload X dL_law_617 5 rfl ?_
  refine g_iconst X (v := (0 : Int32)) dL_law_619 (by decide) ?_
  have hk := h.1
  replace h := h.2
  refine g_callFV_i X (As := [.int v88, .int v79, .int (0 : Int32)]) (st := []) (n := 3) (c_X3_member hst h) rfl (by decide) hk (wE_4 G w91 q1) m_422 m_423 m_424 m_15 m_425 (by decide +kernel) (by decide +kernel) rfl rfl (Nat.zero_le _) ⟨(by have e1 : rm_L_law.cells = 1097659 := rfl; have e2 : rm_L_law.slots = 5808648 := rfl; have e3 : rm_X3_member.cells = 3 := rfl; have e4 : rm_X3_member.slots = 18 := rfl; omega), (by have e1 : rm_L_law.cells = 1097659 := rfl; have e2 : rm_L_law.slots = 5808648 := rfl; have e3 : rm_X3_member.cells = 3 := rfl; have e4 : rm_X3_member.slots = 18 := rfl; omega)⟩ dL_law_620 (fun v317 w316 h => ?_)
  clear hk
  refine g_widen (c2 := (530 + (51 - n21) * 920 + 7)) (s2 := (12685 + (51 - n21) * 13524 + 42)) (by have e1 : rm_X3_member.cells = 3 := rfl; omega) (by have e1 : rm_X3_member.slots = 18 := rfl; omega) ?_
  obtain ⟨J318, hjJ318, h⟩ := h
  have jp318 : ∀ (y319 : Int32) (w320 : Wd), J318 y319 w320 → Gw l G L0 p e rm_L_law s m #[Value.ref b] below meth c 16 (530 + (51 - n21) * 920 + 10) (12685 + (51 - n21) * 13524 + 60) (lw_Z below #[Value.ref b] s) w320 643 [(0, .inr (some b)), (1, .inr (some q1)), (2, .inr (some q4)), (4, .inl y24), (6, .inl v79), (9, .inl v88), (10, .inl v90), (11, .inl v92)] [.int y319] := by
    intro y319 w320 hJ
    have h := hjJ318 y319 w320 hJ
    clear hJ
    refine g_istore X [(12, .inl y319), (0, .inr (some b)), (1, .inr (some q1)), (2, .inr (some q4)), (4, .inl y24), (6, .inl v79), (9, .inl v88), (10, .inl v90), (11, .inl v92)] dL_law_643 (by decide) rfl ?_
    refine g_aload_n X dL_law_645 rfl 2 rfl ?_
    refine g_iload X dL_law_646 6 rfl ?_
    refine g_iload X dL_law_648 5 rfl ?_
    refine g_iconst X (v := (2 : Int32)) dL_law_650 (by decide) ?_
    have hk := h.1
    replace h := h.2
    refine g_callFV_i X (As := [.int v88, .int v79, .int (2 : Int32)]) (st := []) (n := 3) (c_X3_member hst h) rfl (by decide) hk (wE_4 G w320 q1) m_422 m_423 m_424 m_15 m_425 (by decide +kernel) (by decide +kernel) rfl rfl (Nat.zero_le _) ⟨(by have e1 : rm_L_law.cells = 1097659 := rfl; have e2 : rm_L_law.slots = 5808648 := rfl; have e3 : rm_X3_member.cells = 3 := rfl; have e4 : rm_X3_member.slots = 18 := rfl; omega), (by have e1 : rm_L_law.cells = 1097659 := rfl; have e2 : rm_L_law.slots = 5808648 := rfl; have e3 : rm_X3_member.cells = 3 := rfl; have e4 : rm_X3_member.slots = 18 := rfl; omega)⟩ dL_law_651 (fun v322 w321 h => ?_)
    clear hk
    refine g_widen (c2 := (530 + (51 - n21) * 920 + 13)) (s2 := (12685 + (51 - n21) * 13524 + 78)) (by have e1 : rm_X3_member.cells = 3 := rfl; omega) (by have e1 : rm_X3_member.slots = 18 := rfl; omega) ?_
    refine g_istore X [(13, .inl v322), (12, .inl y319), (0, .inr (some b)), (1, .inr (some q1)), (2, .inr (some q4)), (4, .inl y24), (6, .inl v79), (9, .inl v88), (10, .inl v90), (11, .inl v92)] dL_law_654 (by decide) rfl ?_
    refine g_aload_n X dL_law_656 rfl 3 rfl ?_
    refine g_iload X dL_law_657 7 rfl ?_
    refine g_iload X dL_law_659 6 rfl ?_
    refine g_callH_i X (As := [va_rf (some q1), .int v88, .int v79]) (st := []) (n := 3) (c_L_leaves hst h) m_646 m_647 m_14 m_648 (by decide +kernel) (by decide +kernel) (by decide +kernel) rfl rfl (Nat.zero_le _) ⟨(by have e1 : rm_L_law.cells = 1097659 := rfl; have e2 : rm_L_law.slots = 5808648 := rfl; have e3 : rm_L_leaves.cells = 3 := rfl; have e4 : rm_L_leaves.slots = 18 := rfl; omega), (by have e1 : rm_L_law.cells = 1097659 := rfl; have e2 : rm_L_law.slots = 5808648 := rfl; have e3 : rm_L_leaves.cells = 3 := rfl; have e4 : rm_L_leaves.slots = 18 := rfl; omega)⟩ dL_law_661 (fun v324 w323 h => ?_)
    refine g_widen (c2 := (530 + (51 - n21) * 920 + 16)) (s2 := (12685 + (51 - n21) * 13524 + 96)) (by have e1 : rm_L_leaves.cells = 3 := rfl; omega) (by have e1 : rm_L_leaves.slots = 18 := rfl; omega) ?_
    refine g_istore X [(14, .inl v324), (13, .inl v322), (12, .inl y319), (0, .inr (some b)), (1, .inr (some q1)), (2, .inr (some q4)), (4, .inl y24), (6, .inl v79), (9, .inl v88), (10, .inl v90), (11, .inl v92)] dL_law_664 (by decide) rfl ?_
    refine g_iload X dL_law_666 0 rfl ?_
    obtain ⟨J325, hjJ325, h⟩ := h
    have jp325 : ∀ (y326 : Int32), J325 y326 → Gw l G L0 p e rm_L_law s m #[Value.ref b] below meth c 16 (530 + (51 - n21) * 920 + 16) (12685 + (51 - n21) * 13524 + 96) (lw_Z below #[Value.ref b] s) w323 676 [(0, .inr (some b)), (1, .inr (some q1)), (2, .inr (some q4)), (4, .inl y24), (6, .inl v79), (9, .inl v88), (10, .inl v90), (11, .inl v92), (12, .inl y319), (13, .inl v322), (14, .inl v324)] [.int y326] := by
      intro y326 hJ
      have h := hjJ325 y326 hJ
      clear hJ
      refine g_iload X dL_law_676 8 rfl ?_
      obtain ⟨J327, hjJ327, h⟩ := h
      have jp327 : ∀ (y328 : Int32) (w329 : Wd), J327 y328 w329 → Gw l G L0 p e rm_L_law s m #[Value.ref b] below meth c 16 (530 + (51 - n21) * 920 + 23) (12685 + (51 - n21) * 13524 + 138) (lw_Z below #[Value.ref b] s) w329 741 [(0, .inr (some b)), (1, .inr (some q1)), (2, .inr (some q4)), (4, .inl y24), (6, .inl v79)] [.int y328] := by
        intro y328 w329 hJ
        have h := hjJ327 y328 w329 hJ
        clear hJ
        refine g_istore_n X [(3, .inl y328), (0, .inr (some b)), (1, .inr (some q1)), (2, .inr (some q4)), (4, .inl y24), (6, .inl v79)] dL_law_741 rfl (by decide) rfl ?_
        refine g_goto X (tgt := 1583) dL_law_742 (by decide) ?_
        refine g_widen (c2 := (530 + (51 - n21) * 920 + 358)) (s2 := (12685 + (51 - n21) * 13524 + 10152)) (by omega) (by omega) ?_
        exact g_sub [1, 2, 3, 0, 4, 5] [(0, .inr (some b)), (1, .inr (some q1)), (2, .inr (some q4)), (3, .inl y328), (4, .inl y24), (6, .inl v79)] rfl (jp93 y328 w329 h)
      obtain ⟨J330, hjJ330, h⟩ := h
      have jp330 : ∀  (w331 : Wd), J330 w331 → Gw l G L0 p e rm_L_law s m #[Value.ref b] below meth c 16 (530 + (51 - n21) * 920 + 23) (12685 + (51 - n21) * 13524 + 138) (lw_Z below #[Value.ref b] s) w331 740 [(0, .inr (some b)), (1, .inr (some q1)), (2, .inr (some q4)), (4, .inl y24), (6, .inl v79)] [] := by
        intro w331 hJ
        have h := hjJ330 w331 hJ
        clear hJ
        refine g_iconst X (v := (0 : Int32)) dL_law_740 (by decide) ?_
        exact g_sub [0, 1, 2, 3, 4] [(0, .inr (some b)), (1, .inr (some q1)), (2, .inr (some q4)), (4, .inl y24), (6, .inl v79)] rfl (jp327 (0 : Int32) w331 h)
      refine g_icmp_ne X (tgt := 740) dL_law_678 (by decide) (fun hc => ?_) (fun hc => ?_)
      · replace h := h.1 hc; clear hc
        refine g_widen (c2 := (530 + (51 - n21) * 920 + 23)) (s2 := (12685 + (51 - n21) * 13524 + 138)) (by omega) (by omega) ?_
        exact g_sub [0, 1, 2, 3, 4] [(0, .inr (some b)), (1, .inr (some q1)), (2, .inr (some q4)), (4, .inl y24), (6, .inl v79)] rfl (jp330 w323 h)
      · replace h := h.2 hc; clear hc
        refine g_iload X dL_law_681 8 rfl ?_
        obtain ⟨J332, hjJ332, h⟩ := h
        have jp332 : ∀  (w333 : Wd), J332 w333 → Gw l G L0 p e rm_L_law s m #[Value.ref b] below meth c 16 (530 + (51 - n21) * 920 + 23) (12685 + (51 - n21) * 13524 + 138) (lw_Z below #[Value.ref b] s) w333 736 [(0, .inr (some b)), (1, .inr (some q1)), (2, .inr (some q4)), (4, .inl y24), (6, .inl v79)] [] := by
          intro w333 hJ
          have h := hjJ332 w333 hJ
          clear hJ
          refine g_iconst X (v := (1 : Int32)) dL_law_736 (by decide) ?_
          refine g_goto X (tgt := 741) dL_law_737 (by decide) ?_
          exact g_sub [0, 1, 2, 3, 4] [(0, .inr (some b)), (1, .inr (some q1)), (2, .inr (some q4)), (4, .inl y24), (6, .inl v79)] rfl (jp327 (1 : Int32) w333 h)
        refine g_if_eq X (tgt := 736) dL_law_683 (by decide) (fun hc => ?_) (fun hc => ?_)
        · replace h := h.1 hc; clear hc
          refine g_widen (c2 := (530 + (51 - n21) * 920 + 23)) (s2 := (12685 + (51 - n21) * 13524 + 138)) (by omega) (by omega) ?_
          exact g_sub [0, 1, 2, 3, 4] [(0, .inr (some b)), (1, .inr (some q1)), (2, .inr (some q4)), (4, .inl y24), (6, .inl v79)] rfl (jp332 w323 h)
        · replace h := h.2 hc; clear hc
          refine g_iload X dL_law_686 10 rfl ?_
          refine g_iload X dL_law_688 9 rfl ?_
          refine g_icmp_gt X (tgt := 740) dL_law_690 (by decide) (fun hc => ?_) (fun hc => ?_)
          · replace h := h.1 hc; clear hc
            refine g_widen (c2 := (530 + (51 - n21) * 920 + 23)) (s2 := (12685 + (51 - n21) * 13524 + 138)) (by omega) (by omega) ?_
            exact g_sub [0, 1, 2, 3, 4] [(0, .inr (some b)), (1, .inr (some q1)), (2, .inr (some q4)), (4, .inl y24), (6, .inl v79)] rfl (jp330 w323 h)
          · replace h := h.2 hc; clear hc
            refine g_aload_n X dL_law_693 rfl 1 rfl ?_
            refine g_iload X dL_law_694 4 rfl ?_
            refine g_iconst X (v := (0 : Int32)) dL_law_696 (by decide) ?_
            have hk := h.1
            replace h := h.2
            refine g_callFV_i X (As := [.int v79, .int (0 : Int32)]) (st := []) (n := 2) (c_X3_of hst h) rfl (by decide) hk (wE_4 G w323 q1) m_410 m_411 m_412 m_15 m_413 (by decide +kernel) (by decide +kernel) rfl rfl (Nat.zero_le _) ⟨(by have e1 : rm_L_law.cells = 1097659 := rfl; have e2 : rm_L_law.slots = 5808648 := rfl; have e3 : rm_X3_of.cells = 2 := rfl; have e4 : rm_X3_of.slots = 12 := rfl; omega), (by have e1 : rm_L_law.cells = 1097659 := rfl; have e2 : rm_L_law.slots = 5808648 := rfl; have e3 : rm_X3_of.cells = 2 := rfl; have e4 : rm_X3_of.slots = 12 := rfl; omega)⟩ dL_law_697 (fun v335 w334 h => ?_)
            clear hk
            refine g_widen (c2 := (530 + (51 - n21) * 920 + 18)) (s2 := (12685 + (51 - n21) * 13524 + 108)) (by have e1 : rm_X3_of.cells = 2 := rfl; omega) (by have e1 : rm_X3_of.slots = 12 := rfl; omega) ?_
            refine g_iload X dL_law_700 6 rfl ?_
            refine g_iload X dL_law_702 10 rfl ?_
            refine g_iadd X dL_law_704 (fun v336 hv => ?_)
            replace h := h v336 hv; clear hv
            refine g_icmp_ne X (tgt := 740) dL_law_705 (by decide) (fun hc => ?_) (fun hc => ?_)
            · replace h := h.1 hc; clear hc
              refine g_widen (c2 := (530 + (51 - n21) * 920 + 23)) (s2 := (12685 + (51 - n21) * 13524 + 138)) (by omega) (by omega) ?_
              exact g_sub [0, 1, 2, 3, 4] [(0, .inr (some b)), (1, .inr (some q1)), (2, .inr (some q4)), (4, .inl y24), (6, .inl v79)] rfl (jp330 w334 h)
            · replace h := h.2 hc; clear hc
              refine g_aload_n X dL_law_708 rfl 1 rfl ?_
              refine g_iload X dL_law_709 4 rfl ?_
              refine g_iconst X (v := (4 : Int32)) dL_law_711 (by decide) ?_
              have hk := h.1
              replace h := h.2
              refine g_callFV_i X (As := [.int v79, .int (4 : Int32)]) (st := []) (n := 2) (c_X3_of hst h) rfl (by decide) hk (wE_4 G w334 q1) m_410 m_411 m_412 m_15 m_413 (by decide +kernel) (by decide +kernel) rfl rfl (Nat.zero_le _) ⟨(by have e1 : rm_L_law.cells = 1097659 := rfl; have e2 : rm_L_law.slots = 5808648 := rfl; have e3 : rm_X3_of.cells = 2 := rfl; have e4 : rm_X3_of.slots = 12 := rfl; omega), (by have e1 : rm_L_law.cells = 1097659 := rfl; have e2 : rm_L_law.slots = 5808648 := rfl; have e3 : rm_X3_of.cells = 2 := rfl; have e4 : rm_X3_of.slots = 12 := rfl; omega)⟩ dL_law_712 (fun v338 w337 h => ?_)
              clear hk
              refine g_widen (c2 := (530 + (51 - n21) * 920 + 20)) (s2 := (12685 + (51 - n21) * 13524 + 120)) (by have e1 : rm_X3_of.cells = 2 := rfl; omega) (by have e1 : rm_X3_of.slots = 12 := rfl; omega) ?_
              refine g_iload X dL_law_715 7 rfl ?_
              refine g_iload X dL_law_717 10 rfl ?_
              refine g_isub X dL_law_719 (fun v339 hv => ?_)
              replace h := h v339 hv; clear hv
              refine g_icmp_ne X (tgt := 740) dL_law_720 (by decide) (fun hc => ?_) (fun hc => ?_)
              · replace h := h.1 hc; clear hc
                refine g_widen (c2 := (530 + (51 - n21) * 920 + 23)) (s2 := (12685 + (51 - n21) * 13524 + 138)) (by omega) (by omega) ?_
                exact g_sub [0, 1, 2, 3, 4] [(0, .inr (some b)), (1, .inr (some q1)), (2, .inr (some q4)), (4, .inl y24), (6, .inl v79)] rfl (jp330 w337 h)
              · replace h := h.2 hc; clear hc
                refine g_aload_n X dL_law_723 rfl 1 rfl ?_
                refine g_iload X dL_law_724 5 rfl ?_
                refine g_iload X dL_law_726 4 rfl ?_
                refine g_iconst X (v := (3 : Int32)) dL_law_728 (by decide) ?_
                have hk := h.1
                replace h := h.2
                refine g_callFV_i X (As := [.int v88, .int v79, .int (3 : Int32)]) (st := []) (n := 3) (c_X3_member hst h) rfl (by decide) hk (wE_4 G w337 q1) m_422 m_423 m_424 m_15 m_425 (by decide +kernel) (by decide +kernel) rfl rfl (Nat.zero_le _) ⟨(by have e1 : rm_L_law.cells = 1097659 := rfl; have e2 : rm_L_law.slots = 5808648 := rfl; have e3 : rm_X3_member.cells = 3 := rfl; have e4 : rm_X3_member.slots = 18 := rfl; omega), (by have e1 : rm_L_law.cells = 1097659 := rfl; have e2 : rm_L_law.slots = 5808648 := rfl; have e3 : rm_X3_member.cells = 3 := rfl; have e4 : rm_X3_member.slots = 18 := rfl; omega)⟩ dL_law_729 (fun v341 w340 h => ?_)
                clear hk
                refine g_widen (c2 := (530 + (51 - n21) * 920 + 23)) (s2 := (12685 + (51 - n21) * 13524 + 138)) (by have e1 : rm_X3_member.cells = 3 := rfl; omega) (by have e1 : rm_X3_member.slots = 18 := rfl; omega) ?_
                refine g_iconst X (v := (-1 : Int32)) dL_law_732 (by decide) ?_
                refine g_icmp_ne X (tgt := 740) dL_law_733 (by decide) (fun hc => ?_) (fun hc => ?_)
                · replace h := h.1 hc; clear hc
                  exact g_sub [0, 1, 2, 3, 4] [(0, .inr (some b)), (1, .inr (some q1)), (2, .inr (some q4)), (4, .inl y24), (6, .inl v79)] rfl (jp330 w340 h)
                · replace h := h.2 hc; clear hc
                  exact g_sub [0, 1, 2, 3, 4] [(0, .inr (some b)), (1, .inr (some q1)), (2, .inr (some q4)), (4, .inl y24), (6, .inl v79)] rfl (jp332 w340 h)
    refine g_if_lt X (tgt := 675) dL_law_668 (by decide) (fun hc => ?_) (fun hc => ?_)
    · replace h := h.1 hc; clear hc
      refine g_iconst X (v := (0 : Int32)) dL_law_675 (by decide) ?_
      exact g_sub [3, 4, 5, 6, 7, 8, 9, 10, 2, 1, 0] [(0, .inr (some b)), (1, .inr (some q1)), (2, .inr (some q4)), (4, .inl y24), (6, .inl v79), (9, .inl v88), (10, .inl v90), (11, .inl v92), (12, .inl y319), (13, .inl v322), (14, .inl v324)] rfl (jp325 (0 : Int32) h)
    · replace h := h.2 hc; clear hc
      refine g_iconst X (v := (1 : Int32)) dL_law_671 (by decide) ?_
      refine g_goto X (tgt := 676) dL_law_672 (by decide) ?_
      exact g_sub [3, 4, 5, 6, 7, 8, 9, 10, 2, 1, 0] [(0, .inr (some b)), (1, .inr (some q1)), (2, .inr (some q4)), (4, .inl y24), (6, .inl v79), (9, .inl v88), (10, .inl v90), (11, .inl v92), (12, .inl y319), (13, .inl v322), (14, .inl v324)] rfl (jp325 (1 : Int32) h)
  obtain ⟨J342, hjJ342, h⟩ := h
  have jp342 : ∀  (w343 : Wd), J342 w343 → Gw l G L0 p e rm_L_law s m #[Value.ref b] below meth c 16 (530 + (51 - n21) * 920 + 10) (12685 + (51 - n21) * 13524 + 60) (lw_Z below #[Value.ref b] s) w343 642 [(0, .inr (some b)), (1, .inr (some q1)), (2, .inr (some q4)), (4, .inl y24), (6, .inl v79), (9, .inl v88), (10, .inl v90), (11, .inl v92)] [] := by
    intro w343 hJ
    have h := hjJ342 w343 hJ
    clear hJ
    refine g_iconst X (v := (0 : Int32)) dL_law_642 (by decide) ?_
    exact g_sub [0, 1, 2, 3, 4, 5, 6, 7] [(0, .inr (some b)), (1, .inr (some q1)), (2, .inr (some q4)), (4, .inl y24), (6, .inl v79), (9, .inl v88), (10, .inl v90), (11, .inl v92)] rfl (jp318 (0 : Int32) w343 h)
  refine g_if_ne X (tgt := 642) dL_law_623 (by decide) (fun hc => ?_) (fun hc => ?_)
  · replace h := h.1 hc; clear hc
    refine g_widen (c2 := (530 + (51 - n21) * 920 + 10)) (s2 := (12685 + (51 - n21) * 13524 + 60)) (by omega) (by omega) ?_
    exact g_sub [7, 8, 9, 11, 5, 2, 1, 0] [(0, .inr (some b)), (1, .inr (some q1)), (2, .inr (some q4)), (4, .inl y24), (6, .inl v79), (9, .inl v88), (10, .inl v90), (11, .inl v92)] rfl (jp342 w316 h)
  · replace h := h.2 hc; clear hc
    refine g_aload_n X dL_law_626 rfl 8 rfl ?_
    refine g_iload X dL_law_627 2 rfl ?_
    refine g_iload X dL_law_629 5 rfl ?_
    refine g_iconst X (v := (1 : Int32)) dL_law_631 (by decide) ?_
    have hk := h.1
    replace h := h.2
    refine g_callFV_i X (As := [.int v88, .int v79, .int (1 : Int32)]) (st := []) (n := 3) (c_X3_member hst h) rfl (by decide) hk (wE_4 G w316 q1) m_422 m_423 m_424 m_15 m_425 (by decide +kernel) (by decide +kernel) rfl rfl (Nat.zero_le _) ⟨(by have e1 : rm_L_law.cells = 1097659 := rfl; have e2 : rm_L_law.slots = 5808648 := rfl; have e3 : rm_X3_member.cells = 3 := rfl; have e4 : rm_X3_member.slots = 18 := rfl; omega), (by have e1 : rm_L_law.cells = 1097659 := rfl; have e2 : rm_L_law.slots = 5808648 := rfl; have e3 : rm_X3_member.cells = 3 := rfl; have e4 : rm_X3_member.slots = 18 := rfl; omega)⟩ dL_law_632 (fun v345 w344 h => ?_)
    clear hk
    refine g_widen (c2 := (530 + (51 - n21) * 920 + 10)) (s2 := (12685 + (51 - n21) * 13524 + 60)) (by have e1 : rm_X3_member.cells = 3 := rfl; omega) (by have e1 : rm_X3_member.slots = 18 := rfl; omega) ?_
    refine g_if_ne X (tgt := 642) dL_law_635 (by decide) (fun hc => ?_) (fun hc => ?_)
    · replace h := h.1 hc; clear hc
      exact g_sub [7, 8, 9, 11, 5, 2, 1, 0] [(0, .inr (some b)), (1, .inr (some q1)), (2, .inr (some q4)), (4, .inl y24), (6, .inl v79), (9, .inl v88), (10, .inl v90), (11, .inl v92)] rfl (jp342 w344 h)
    · replace h := h.2 hc; clear hc
      refine g_iconst X (v := (1 : Int32)) dL_law_638 (by decide) ?_
      refine g_goto X (tgt := 643) dL_law_639 (by decide) ?_
      exact g_sub [7, 8, 9, 11, 5, 2, 1, 0] [(0, .inr (some b)), (1, .inr (some q1)), (2, .inr (some q4)), (4, .inl y24), (6, .inl v79), (9, .inl v88), (10, .inl v90), (11, .inl v92)] rfl (jp318 (1 : Int32) w344 h)

def wpc_513 (L : Nat) (xs : Nat → Int32) (q1 : Nat) (v83 : Int32) (v88 : Int32) (w91 : Wd) (J93 : Int32 → Wd → Prop) : Prop :=
  w91.K q1 = 4 ∧
  wp_X3_ofCircle q1 v88 (4 : Int32) w91 (fun v347 w346 => 
  w346.K q1 = 4 ∧
  wp_X3_ofCircle q1 v88 (2 : Int32) w346 (fun v349 w348 => 
  ∃ J350 : Option Nat → Int32 → Int32 → Prop, (∀ (q351 : Option Nat) (y352 : Int32) (y353 : Int32), J350 q351 y352 y353 →
  wp_L_meets q351 y352 y353 w348 (fun v355 w354 => 
  ∃ J356 : Int32 → Wd → Prop, (∀ (y357 : Int32) (w358 : Wd), J356 y357 w358 →
  J93 y357 w358) ∧
  (0 ≤ v355 → ∃ J359 : Wd → Prop, (∀  (w360 : Wd), J359 w360 →
  J356 (0 : Int32) w360) ∧
  (¬ v355 = v347 → J359 w354) ∧ (v355 = v347 → w354.K q1 = 4 ∧
  wp_X3_ofCircle q1 v88 (2 : Int32) w354 (fun v362 w361 => 
  ∀ v363 : Int32, v363 = v349 + (1 : Int32) →
  (¬ v362 = v363 → J359 w361) ∧ (v362 = v363 → J356 (1 : Int32) w361)) (fun _ _ => False))) ∧ (¬ 0 ≤ v355 → w354.K q1 = 4 ∧
  wp_X3_ofCircle q1 v88 (2 : Int32) w354 (fun v365 w364 => 
  (¬ v365 = v349 → J356 (0 : Int32) w364) ∧ (v365 = v349 → J356 (1 : Int32) w364)) (fun _ _ => False)))) ∧
  (v83 ≤ (600 : Int32) → J350 (some q1) v88 (0 : Int32)) ∧ (¬ v83 ≤ (600 : Int32) → J350 (some q1) v88 (1 : Int32))) (fun _ _ => False)) (fun _ _ => False)
set_option maxHeartbeats 8000000 in
set_option maxRecDepth 100000 in
theorem q_513 {p : Program} {e : Env} {s : State} {m : MethodId} {below : List Frame} {meth : Method} {c : Code} {l : Launch} {G : GT} {L0 b L : Nat} {xs : Nat → Int32} (hst : l.stackTraces = false) (hL0 : L0 = s.heap.size) (X : GC l G L0 p s m #[Value.ref b] meth c code 16 "SusuRingLaw") (hr : meth.sig.returnType = ret) (hX : va_X b L xs s s.heap) (hb : b < s.heap.size) (hbA : ¬ GA L0 b) (hLL : L < 2 ^ 31) {q1 : Nat} {q4 : Nat} {n21 : Nat} {y23 : Int32} {y24 : Int32} {v75 : Int32} {v79 : Int32} {v83 : Int32} {v87 : Int32} {v88 : Int32} {v90 : Int32} {w91 : Wd} {v92 : Int32} {J93 : Int32 → Wd → Prop} (hnbn21 : n21 ≤ 51) (jp93 : ∀ (y94 : Int32) (w95 : Wd), J93 y94 w95 → Gw l G L0 p e rm_L_law s m #[Value.ref b] below meth c 16 (530 + (51 - n21) * 920 + 358) (12685 + (51 - n21) * 13524 + 10152) (lw_Z below #[Value.ref b] s) w95 1583 [(0, .inr (some b)), (1, .inr (some q1)), (2, .inr (some q4)), (3, .inl y94), (4, .inl y24), (6, .inl v79)] []) (h : wpc_513 L xs q1 v83 v88 w91 J93) : Gw l G L0 p e rm_L_law s m #[Value.ref b] below meth c 16 (530 + (51 - n21) * 920 + 4) (12685 + (51 - n21) * 13524 + 24) (lw_Z below #[Value.ref b] s) w91 513 [(11, .inl v92), (10, .inl v90), (9, .inl v88), (8, .inl v87), (7, .inl v83), (6, .inl v79), (5, .inl v75), (0, .inr (some b)), (1, .inr (some q1)), (2, .inr (some q4)), (3, .inl y23), (4, .inl y24)] [] := by
  refine g_aload_n X dL_law_513 rfl 8 rfl ?_
  refine g_iload X dL_law_514 2 rfl ?_
  refine g_iconst X (v := (4 : Int32)) dL_law_516 (by decide) ?_
  have hk := h.1
  replace h := h.2
  refine g_callFV_i X (As := [.int v88, .int (4 : Int32)]) (st := []) (n := 2) (c_X3_ofCircle hst h) rfl (by decide) hk (wE_4 G w91 q1) m_443 m_444 m_445 m_15 m_446 (by decide +kernel) (by decide +kernel) rfl rfl (Nat.zero_le _) ⟨(by have e1 : rm_L_law.cells = 1097659 := rfl; have e2 : rm_L_law.slots = 5808648 := rfl; have e3 : rm_X3_ofCircle.cells = 2 := rfl; have e4 : rm_X3_ofCircle.slots = 12 := rfl; omega), (by have e1 : rm_L_law.cells = 1097659 := rfl; have e2 : rm_L_law.slots = 5808648 := rfl; have e3 : rm_X3_ofCircle.cells = 2 := rfl; have e4 : rm_X3_ofCircle.slots = 12 := rfl; omega)⟩ dL_law_517 (fun v347 w346 h => ?_)
  clear hk
  refine g_widen (c2 := (530 + (51 - n21) * 920 + 6)) (s2 := (12685 + (51 - n21) * 13524 + 36)) (by have e1 : rm_X3_ofCircle.cells = 2 := rfl; omega) (by have e1 : rm_X3_ofCircle.slots = 12 := rfl; omega) ?_
  refine g_istore X [(12, .inl v347), (11, .inl v92), (10, .inl v90), (9, .inl v88), (8, .inl v87), (7, .inl v83), (6, .inl v79), (5, .inl v75), (0, .inr (some b)), (1, .inr (some q1)), (2, .inr (some q4)), (3, .inl y23), (4, .inl y24)] dL_law_520 (by decide) rfl ?_
  refine g_aload_n X dL_law_522 rfl 9 rfl ?_
  refine g_iload X dL_law_523 3 rfl ?_
  refine g_iconst X (v := (2 : Int32)) dL_law_525 (by decide) ?_
  have hk := h.1
  replace h := h.2
  refine g_callFV_i X (As := [.int v88, .int (2 : Int32)]) (st := []) (n := 2) (c_X3_ofCircle hst h) rfl (by decide) hk (wE_4 G w346 q1) m_443 m_444 m_445 m_15 m_446 (by decide +kernel) (by decide +kernel) rfl rfl (Nat.zero_le _) ⟨(by have e1 : rm_L_law.cells = 1097659 := rfl; have e2 : rm_L_law.slots = 5808648 := rfl; have e3 : rm_X3_ofCircle.cells = 2 := rfl; have e4 : rm_X3_ofCircle.slots = 12 := rfl; omega), (by have e1 : rm_L_law.cells = 1097659 := rfl; have e2 : rm_L_law.slots = 5808648 := rfl; have e3 : rm_X3_ofCircle.cells = 2 := rfl; have e4 : rm_X3_ofCircle.slots = 12 := rfl; omega)⟩ dL_law_526 (fun v349 w348 h => ?_)
  clear hk
  refine g_widen (c2 := (530 + (51 - n21) * 920 + 8)) (s2 := (12685 + (51 - n21) * 13524 + 48)) (by have e1 : rm_X3_ofCircle.cells = 2 := rfl; omega) (by have e1 : rm_X3_ofCircle.slots = 12 := rfl; omega) ?_
  refine g_istore X [(13, .inl v349), (12, .inl v347), (11, .inl v92), (10, .inl v90), (9, .inl v88), (8, .inl v87), (7, .inl v83), (6, .inl v79), (5, .inl v75), (0, .inr (some b)), (1, .inr (some q1)), (2, .inr (some q4)), (3, .inl y23), (4, .inl y24)] dL_law_529 (by decide) rfl ?_
  refine g_aload_n X dL_law_531 rfl 10 rfl ?_
  refine g_iload X dL_law_532 4 rfl ?_
  refine g_iload X dL_law_534 6 rfl ?_
  refine g_sipush X (v := (600 : Int32)) dL_law_536 (by decide) ?_
  obtain ⟨J350, hjJ350, h⟩ := h
  have jp350 : ∀ (q351 : Option Nat) (y352 : Int32) (y353 : Int32), J350 q351 y352 y353 → Gw l G L0 p e rm_L_law s m #[Value.ref b] below meth c 16 (530 + (51 - n21) * 920 + 8) (12685 + (51 - n21) * 13524 + 48) (lw_Z below #[Value.ref b] s) w348 547 [(0, .inr (some b)), (1, .inr (some q1)), (2, .inr (some q4)), (4, .inl y24), (6, .inl v79), (9, .inl v88), (12, .inl v347), (13, .inl v349)] [.int y353, .int y352, va_rf q351] := by
    intro q351 y352 y353 hJ
    have h := hjJ350 q351 y352 y353 hJ
    clear hJ
    refine g_callH_i X (As := [va_rf q351, .int y352, .int y353]) (st := []) (n := 3) (c_L_meets hst h) m_615 m_616 m_14 m_617 (by decide +kernel) (by decide +kernel) (by decide +kernel) rfl rfl (Nat.zero_le _) ⟨(by have e1 : rm_L_law.cells = 1097659 := rfl; have e2 : rm_L_law.slots = 5808648 := rfl; have e3 : rm_L_meets.cells = 2 := rfl; have e4 : rm_L_meets.slots = 12 := rfl; omega), (by have e1 : rm_L_law.cells = 1097659 := rfl; have e2 : rm_L_law.slots = 5808648 := rfl; have e3 : rm_L_meets.cells = 2 := rfl; have e4 : rm_L_meets.slots = 12 := rfl; omega)⟩ dL_law_547 (fun v355 w354 h => ?_)
    refine g_widen (c2 := (530 + (51 - n21) * 920 + 10)) (s2 := (12685 + (51 - n21) * 13524 + 60)) (by have e1 : rm_L_meets.cells = 2 := rfl; omega) (by have e1 : rm_L_meets.slots = 12 := rfl; omega) ?_
    refine g_istore X [(14, .inl v355), (0, .inr (some b)), (1, .inr (some q1)), (2, .inr (some q4)), (4, .inl y24), (6, .inl v79), (9, .inl v88), (12, .inl v347), (13, .inl v349)] dL_law_550 (by decide) rfl ?_
    refine g_iload X dL_law_552 0 rfl ?_
    obtain ⟨J356, hjJ356, h⟩ := h
    have jp356 : ∀ (y357 : Int32) (w358 : Wd), J356 y357 w358 → Gw l G L0 p e rm_L_law s m #[Value.ref b] below meth c 16 (530 + (51 - n21) * 920 + 14) (12685 + (51 - n21) * 13524 + 84) (lw_Z below #[Value.ref b] s) w358 603 [(0, .inr (some b)), (1, .inr (some q1)), (2, .inr (some q4)), (4, .inl y24), (6, .inl v79)] [.int y357] := by
      intro y357 w358 hJ
      have h := hjJ356 y357 w358 hJ
      clear hJ
      refine g_istore_n X [(3, .inl y357), (0, .inr (some b)), (1, .inr (some q1)), (2, .inr (some q4)), (4, .inl y24), (6, .inl v79)] dL_law_603 rfl (by decide) rfl ?_
      refine g_goto X (tgt := 1583) dL_law_604 (by decide) ?_
      refine g_widen (c2 := (530 + (51 - n21) * 920 + 358)) (s2 := (12685 + (51 - n21) * 13524 + 10152)) (by omega) (by omega) ?_
      exact g_sub [1, 2, 3, 0, 4, 5] [(0, .inr (some b)), (1, .inr (some q1)), (2, .inr (some q4)), (3, .inl y357), (4, .inl y24), (6, .inl v79)] rfl (jp93 y357 w358 h)
    refine g_if_ge X (tgt := 577) dL_law_554 (by decide) (fun hc => ?_) (fun hc => ?_)
    · replace h := h.1 hc; clear hc
      refine g_iload X dL_law_577 0 rfl ?_
      refine g_iload X dL_law_579 7 rfl ?_
      obtain ⟨J359, hjJ359, h⟩ := h
      have jp359 : ∀  (w360 : Wd), J359 w360 → Gw l G L0 p e rm_L_law s m #[Value.ref b] below meth c 16 (530 + (51 - n21) * 920 + 12) (12685 + (51 - n21) * 13524 + 72) (lw_Z below #[Value.ref b] s) w360 602 [(0, .inr (some b)), (1, .inr (some q1)), (2, .inr (some q4)), (4, .inl y24), (6, .inl v79)] [] := by
        intro w360 hJ
        have h := hjJ359 w360 hJ
        clear hJ
        refine g_iconst X (v := (0 : Int32)) dL_law_602 (by decide) ?_
        refine g_widen (c2 := (530 + (51 - n21) * 920 + 14)) (s2 := (12685 + (51 - n21) * 13524 + 84)) (by omega) (by omega) ?_
        exact g_sub [0, 1, 2, 3, 4] [(0, .inr (some b)), (1, .inr (some q1)), (2, .inr (some q4)), (4, .inl y24), (6, .inl v79)] rfl (jp356 (0 : Int32) w360 h)
      refine g_icmp_ne X (tgt := 602) dL_law_581 (by decide) (fun hc => ?_) (fun hc => ?_)
      · replace h := h.1 hc; clear hc
        refine g_widen (c2 := (530 + (51 - n21) * 920 + 12)) (s2 := (12685 + (51 - n21) * 13524 + 72)) (by omega) (by omega) ?_
        exact g_sub [1, 2, 3, 4, 5] [(0, .inr (some b)), (1, .inr (some q1)), (2, .inr (some q4)), (4, .inl y24), (6, .inl v79)] rfl (jp359 w354 h)
      · replace h := h.2 hc; clear hc
        refine g_aload_n X dL_law_584 rfl 2 rfl ?_
        refine g_iload X dL_law_585 6 rfl ?_
        refine g_iconst X (v := (2 : Int32)) dL_law_587 (by decide) ?_
        have hk := h.1
        replace h := h.2
        refine g_callFV_i X (As := [.int v88, .int (2 : Int32)]) (st := []) (n := 2) (c_X3_ofCircle hst h) rfl (by decide) hk (wE_4 G w354 q1) m_443 m_444 m_445 m_15 m_446 (by decide +kernel) (by decide +kernel) rfl rfl (Nat.zero_le _) ⟨(by have e1 : rm_L_law.cells = 1097659 := rfl; have e2 : rm_L_law.slots = 5808648 := rfl; have e3 : rm_X3_ofCircle.cells = 2 := rfl; have e4 : rm_X3_ofCircle.slots = 12 := rfl; omega), (by have e1 : rm_L_law.cells = 1097659 := rfl; have e2 : rm_L_law.slots = 5808648 := rfl; have e3 : rm_X3_ofCircle.cells = 2 := rfl; have e4 : rm_X3_ofCircle.slots = 12 := rfl; omega)⟩ dL_law_588 (fun v362 w361 h => ?_)
        clear hk
        refine g_widen (c2 := (530 + (51 - n21) * 920 + 12)) (s2 := (12685 + (51 - n21) * 13524 + 72)) (by have e1 : rm_X3_ofCircle.cells = 2 := rfl; omega) (by have e1 : rm_X3_ofCircle.slots = 12 := rfl; omega) ?_
        refine g_iload X dL_law_591 8 rfl ?_
        refine g_iconst X (v := (1 : Int32)) dL_law_593 (by decide) ?_
        refine g_iadd X dL_law_594 (fun v363 hv => ?_)
        replace h := h v363 hv; clear hv
        refine g_icmp_ne X (tgt := 602) dL_law_595 (by decide) (fun hc => ?_) (fun hc => ?_)
        · replace h := h.1 hc; clear hc
          exact g_sub [1, 2, 3, 4, 5] [(0, .inr (some b)), (1, .inr (some q1)), (2, .inr (some q4)), (4, .inl y24), (6, .inl v79)] rfl (jp359 w361 h)
        · replace h := h.2 hc; clear hc
          refine g_iconst X (v := (1 : Int32)) dL_law_598 (by decide) ?_
          refine g_goto X (tgt := 603) dL_law_599 (by decide) ?_
          refine g_widen (c2 := (530 + (51 - n21) * 920 + 14)) (s2 := (12685 + (51 - n21) * 13524 + 84)) (by omega) (by omega) ?_
          exact g_sub [1, 2, 3, 4, 5] [(0, .inr (some b)), (1, .inr (some q1)), (2, .inr (some q4)), (4, .inl y24), (6, .inl v79)] rfl (jp356 (1 : Int32) w361 h)
    · replace h := h.2 hc; clear hc
      refine g_aload_n X dL_law_557 rfl 2 rfl ?_
      refine g_iload X dL_law_558 6 rfl ?_
      refine g_iconst X (v := (2 : Int32)) dL_law_560 (by decide) ?_
      have hk := h.1
      replace h := h.2
      refine g_callFV_i X (As := [.int v88, .int (2 : Int32)]) (st := []) (n := 2) (c_X3_ofCircle hst h) rfl (by decide) hk (wE_4 G w354 q1) m_443 m_444 m_445 m_15 m_446 (by decide +kernel) (by decide +kernel) rfl rfl (Nat.zero_le _) ⟨(by have e1 : rm_L_law.cells = 1097659 := rfl; have e2 : rm_L_law.slots = 5808648 := rfl; have e3 : rm_X3_ofCircle.cells = 2 := rfl; have e4 : rm_X3_ofCircle.slots = 12 := rfl; omega), (by have e1 : rm_L_law.cells = 1097659 := rfl; have e2 : rm_L_law.slots = 5808648 := rfl; have e3 : rm_X3_ofCircle.cells = 2 := rfl; have e4 : rm_X3_ofCircle.slots = 12 := rfl; omega)⟩ dL_law_561 (fun v365 w364 h => ?_)
      clear hk
      refine g_widen (c2 := (530 + (51 - n21) * 920 + 12)) (s2 := (12685 + (51 - n21) * 13524 + 72)) (by have e1 : rm_X3_ofCircle.cells = 2 := rfl; omega) (by have e1 : rm_X3_ofCircle.slots = 12 := rfl; omega) ?_
      refine g_iload X dL_law_564 8 rfl ?_
      refine g_icmp_ne X (tgt := 573) dL_law_566 (by decide) (fun hc => ?_) (fun hc => ?_)
      · replace h := h.1 hc; clear hc
        refine g_iconst X (v := (0 : Int32)) dL_law_573 (by decide) ?_
        refine g_goto X (tgt := 603) dL_law_574 (by decide) ?_
        refine g_widen (c2 := (530 + (51 - n21) * 920 + 14)) (s2 := (12685 + (51 - n21) * 13524 + 84)) (by omega) (by omega) ?_
        exact g_sub [1, 2, 3, 4, 5] [(0, .inr (some b)), (1, .inr (some q1)), (2, .inr (some q4)), (4, .inl y24), (6, .inl v79)] rfl (jp356 (0 : Int32) w364 h)
      · replace h := h.2 hc; clear hc
        refine g_iconst X (v := (1 : Int32)) dL_law_569 (by decide) ?_
        refine g_goto X (tgt := 603) dL_law_570 (by decide) ?_
        refine g_widen (c2 := (530 + (51 - n21) * 920 + 14)) (s2 := (12685 + (51 - n21) * 13524 + 84)) (by omega) (by omega) ?_
        exact g_sub [1, 2, 3, 4, 5] [(0, .inr (some b)), (1, .inr (some q1)), (2, .inr (some q4)), (4, .inl y24), (6, .inl v79)] rfl (jp356 (1 : Int32) w364 h)
  refine g_icmp_le X (tgt := 546) dL_law_539 (by decide) (fun hc => ?_) (fun hc => ?_)
  · replace h := h.1 hc; clear hc
    refine g_iconst X (v := (0 : Int32)) dL_law_546 (by decide) ?_
    exact g_sub [9, 10, 11, 13, 7, 4, 1, 0] [(0, .inr (some b)), (1, .inr (some q1)), (2, .inr (some q4)), (4, .inl y24), (6, .inl v79), (9, .inl v88), (12, .inl v347), (13, .inl v349)] rfl (jp350 (some q1) v88 (0 : Int32) h)
  · replace h := h.2 hc; clear hc
    refine g_iconst X (v := (1 : Int32)) dL_law_542 (by decide) ?_
    refine g_goto X (tgt := 547) dL_law_543 (by decide) ?_
    exact g_sub [9, 10, 11, 13, 7, 4, 1, 0] [(0, .inr (some b)), (1, .inr (some q1)), (2, .inr (some q4)), (4, .inl y24), (6, .inl v79), (9, .inl v88), (12, .inl v347), (13, .inl v349)] rfl (jp350 (some q1) v88 (1 : Int32) h)

def wpc_454 (L : Nat) (xs : Nat → Int32) (q1 : Nat) (v79 : Int32) (v83 : Int32) (v88 : Int32) (w91 : Wd) (J93 : Int32 → Wd → Prop) : Prop :=
  ¬ (4 : Int32) = 0 ∧ ∀ v366 : Int32, v366 = v83 - v83 / (4 : Int32) * (4 : Int32) →
  ∃ J367 : Option Nat → Int32 → Int32 → Int32 → Int32 → Prop, (∀ (q368 : Option Nat) (y369 : Int32) (y370 : Int32) (y371 : Int32) (y372 : Int32), J367 q368 y369 y370 y371 y372 →
  wp_L_isWant q368 y369 y370 y371 y372 w91 (fun v374 w373 => 
  w373.K q1 = 4 ∧
  wp_X3_member q1 v88 v79 (3 : Int32) w373 (fun v376 w375 => 
  ∃ J377 : Int32 → Int32 → Prop, (∀ (y378 : Int32) (y379 : Int32), J377 y378 y379 →
  ∃ J380 : Int32 → Prop, (∀ (y381 : Int32), J380 y381 →
  J93 y381 w375) ∧
  (¬ y378 = y379 → J380 (0 : Int32)) ∧ (y378 = y379 → J380 (1 : Int32))) ∧
  (v376 < 0 → J377 v374 (0 : Int32)) ∧ (¬ v376 < 0 → J377 v374 (1 : Int32))) (fun _ _ => False))) ∧
  (v366 ≤ (1 : Int32) → J367 (some q1) v88 v79 v83 (0 : Int32)) ∧ (¬ v366 ≤ (1 : Int32) → J367 (some q1) v88 v79 v83 (1 : Int32))
set_option maxHeartbeats 8000000 in
set_option maxRecDepth 100000 in
theorem q_454 {p : Program} {e : Env} {s : State} {m : MethodId} {below : List Frame} {meth : Method} {c : Code} {l : Launch} {G : GT} {L0 b L : Nat} {xs : Nat → Int32} (hst : l.stackTraces = false) (hL0 : L0 = s.heap.size) (X : GC l G L0 p s m #[Value.ref b] meth c code 16 "SusuRingLaw") (hr : meth.sig.returnType = ret) (hX : va_X b L xs s s.heap) (hb : b < s.heap.size) (hbA : ¬ GA L0 b) (hLL : L < 2 ^ 31) {q1 : Nat} {q4 : Nat} {n21 : Nat} {y23 : Int32} {y24 : Int32} {v75 : Int32} {v79 : Int32} {v83 : Int32} {v87 : Int32} {v88 : Int32} {v90 : Int32} {w91 : Wd} {v92 : Int32} {J93 : Int32 → Wd → Prop} (hnbn21 : n21 ≤ 51) (jp93 : ∀ (y94 : Int32) (w95 : Wd), J93 y94 w95 → Gw l G L0 p e rm_L_law s m #[Value.ref b] below meth c 16 (530 + (51 - n21) * 920 + 358) (12685 + (51 - n21) * 13524 + 10152) (lw_Z below #[Value.ref b] s) w95 1583 [(0, .inr (some b)), (1, .inr (some q1)), (2, .inr (some q4)), (3, .inl y94), (4, .inl y24), (6, .inl v79)] []) (h : wpc_454 L xs q1 v79 v83 v88 w91 J93) : Gw l G L0 p e rm_L_law s m #[Value.ref b] below meth c 16 (530 + (51 - n21) * 920 + 4) (12685 + (51 - n21) * 13524 + 24) (lw_Z below #[Value.ref b] s) w91 454 [(11, .inl v92), (10, .inl v90), (9, .inl v88), (8, .inl v87), (7, .inl v83), (6, .inl v79), (5, .inl v75), (0, .inr (some b)), (1, .inr (some q1)), (2, .inr (some q4)), (3, .inl y23), (4, .inl y24)] [] := by
  refine g_aload_n X dL_law_454 rfl 8 rfl ?_
  refine g_iload X dL_law_455 2 rfl ?_
  refine g_iload X dL_law_457 5 rfl ?_
  refine g_iload X dL_law_459 4 rfl ?_
  refine g_iload X dL_law_461 4 rfl ?_
  refine g_iconst X (v := (4 : Int32)) dL_law_463 (by decide) ?_
  refine g_irem X dL_law_464 h.1 (fun v366 hv => ?_)
  replace h := h.2 v366 hv; clear hv
  refine g_iconst X (v := (1 : Int32)) dL_law_465 (by decide) ?_
  obtain ⟨J367, hjJ367, h⟩ := h
  have jp367 : ∀ (q368 : Option Nat) (y369 : Int32) (y370 : Int32) (y371 : Int32) (y372 : Int32), J367 q368 y369 y370 y371 y372 → Gw l G L0 p e rm_L_law s m #[Value.ref b] below meth c 16 (530 + (51 - n21) * 920 + 4) (12685 + (51 - n21) * 13524 + 24) (lw_Z below #[Value.ref b] s) w91 474 [(0, .inr (some b)), (1, .inr (some q1)), (2, .inr (some q4)), (4, .inl y24), (6, .inl v79), (9, .inl v88)] [.int y372, .int y371, .int y370, .int y369, va_rf q368] := by
    intro q368 y369 y370 y371 y372 hJ
    have h := hjJ367 q368 y369 y370 y371 y372 hJ
    clear hJ
    refine g_callH_i X (As := [va_rf q368, .int y369, .int y370, .int y371, .int y372]) (st := []) (n := 5) (c_L_isWant hst h) m_599 m_600 m_14 m_601 (by decide +kernel) (by decide +kernel) (by decide +kernel) rfl rfl (Nat.zero_le _) ⟨(by have e1 : rm_L_law.cells = 1097659 := rfl; have e2 : rm_L_law.slots = 5808648 := rfl; have e3 : rm_L_isWant.cells = 4 := rfl; have e4 : rm_L_isWant.slots = 24 := rfl; omega), (by have e1 : rm_L_law.cells = 1097659 := rfl; have e2 : rm_L_law.slots = 5808648 := rfl; have e3 : rm_L_isWant.cells = 4 := rfl; have e4 : rm_L_isWant.slots = 24 := rfl; omega)⟩ dL_law_474 (fun v374 w373 h => ?_)
    refine g_widen (c2 := (530 + (51 - n21) * 920 + 8)) (s2 := (12685 + (51 - n21) * 13524 + 48)) (by have e1 : rm_L_isWant.cells = 4 := rfl; omega) (by have e1 : rm_L_isWant.slots = 24 := rfl; omega) ?_
    refine g_aload_n X dL_law_477 rfl 1 rfl ?_
    refine g_iload X dL_law_478 5 rfl ?_
    refine g_iload X dL_law_480 4 rfl ?_
    refine g_iconst X (v := (3 : Int32)) dL_law_482 (by decide) ?_
    have hk := h.1
    replace h := h.2
    refine g_callFV_i X (As := [.int v88, .int v79, .int (3 : Int32)]) (st := [.int v374]) (n := 3) (c_X3_member hst h) rfl (by decide) hk (wE_4 G w373 q1) m_422 m_423 m_424 m_15 m_425 (by decide +kernel) (by decide +kernel) rfl rfl (by simp [cat_int, rf_cat]) ⟨(by have e1 : rm_L_law.cells = 1097659 := rfl; have e2 : rm_L_law.slots = 5808648 := rfl; have e3 : rm_X3_member.cells = 3 := rfl; have e4 : rm_X3_member.slots = 18 := rfl; omega), (by have e1 : rm_L_law.cells = 1097659 := rfl; have e2 : rm_L_law.slots = 5808648 := rfl; have e3 : rm_X3_member.cells = 3 := rfl; have e4 : rm_X3_member.slots = 18 := rfl; omega)⟩ dL_law_483 (fun v376 w375 h => ?_)
    clear hk
    refine g_widen (c2 := (530 + (51 - n21) * 920 + 11)) (s2 := (12685 + (51 - n21) * 13524 + 66)) (by have e1 : rm_X3_member.cells = 3 := rfl; omega) (by have e1 : rm_X3_member.slots = 18 := rfl; omega) ?_
    obtain ⟨J377, hjJ377, h⟩ := h
    have jp377 : ∀ (y378 : Int32) (y379 : Int32), J377 y378 y379 → Gw l G L0 p e rm_L_law s m #[Value.ref b] below meth c 16 (530 + (51 - n21) * 920 + 11) (12685 + (51 - n21) * 13524 + 66) (lw_Z below #[Value.ref b] s) w375 494 [(0, .inr (some b)), (1, .inr (some q1)), (2, .inr (some q4)), (4, .inl y24), (6, .inl v79)] [.int y379, .int y378] := by
      intro y378 y379 hJ
      have h := hjJ377 y378 y379 hJ
      clear hJ
      obtain ⟨J380, hjJ380, h⟩ := h
      have jp380 : ∀ (y381 : Int32), J380 y381 → Gw l G L0 p e rm_L_law s m #[Value.ref b] below meth c 16 (530 + (51 - n21) * 920 + 11) (12685 + (51 - n21) * 13524 + 66) (lw_Z below #[Value.ref b] s) w375 502 [(0, .inr (some b)), (1, .inr (some q1)), (2, .inr (some q4)), (4, .inl y24), (6, .inl v79)] [.int y381] := by
        intro y381 hJ
        have h := hjJ380 y381 hJ
        clear hJ
        refine g_istore_n X [(3, .inl y381), (0, .inr (some b)), (1, .inr (some q1)), (2, .inr (some q4)), (4, .inl y24), (6, .inl v79)] dL_law_502 rfl (by decide) rfl ?_
        refine g_goto X (tgt := 1583) dL_law_503 (by decide) ?_
        refine g_widen (c2 := (530 + (51 - n21) * 920 + 358)) (s2 := (12685 + (51 - n21) * 13524 + 10152)) (by omega) (by omega) ?_
        exact g_sub [1, 2, 3, 0, 4, 5] [(0, .inr (some b)), (1, .inr (some q1)), (2, .inr (some q4)), (3, .inl y381), (4, .inl y24), (6, .inl v79)] rfl (jp93 y381 w375 h)
      refine g_icmp_ne X (tgt := 501) dL_law_494 (by decide) (fun hc => ?_) (fun hc => ?_)
      · replace h := h.1 hc; clear hc
        refine g_iconst X (v := (0 : Int32)) dL_law_501 (by decide) ?_
        exact g_sub [0, 1, 2, 3, 4] [(0, .inr (some b)), (1, .inr (some q1)), (2, .inr (some q4)), (4, .inl y24), (6, .inl v79)] rfl (jp380 (0 : Int32) h)
      · replace h := h.2 hc; clear hc
        refine g_iconst X (v := (1 : Int32)) dL_law_497 (by decide) ?_
        refine g_goto X (tgt := 502) dL_law_498 (by decide) ?_
        exact g_sub [0, 1, 2, 3, 4] [(0, .inr (some b)), (1, .inr (some q1)), (2, .inr (some q4)), (4, .inl y24), (6, .inl v79)] rfl (jp380 (1 : Int32) h)
    refine g_if_lt X (tgt := 493) dL_law_486 (by decide) (fun hc => ?_) (fun hc => ?_)
    · replace h := h.1 hc; clear hc
      refine g_iconst X (v := (0 : Int32)) dL_law_493 (by decide) ?_
      exact g_sub [0, 1, 2, 3, 4] [(0, .inr (some b)), (1, .inr (some q1)), (2, .inr (some q4)), (4, .inl y24), (6, .inl v79)] rfl (jp377 v374 (0 : Int32) h)
    · replace h := h.2 hc; clear hc
      refine g_iconst X (v := (1 : Int32)) dL_law_489 (by decide) ?_
      refine g_goto X (tgt := 494) dL_law_490 (by decide) ?_
      exact g_sub [0, 1, 2, 3, 4] [(0, .inr (some b)), (1, .inr (some q1)), (2, .inr (some q4)), (4, .inl y24), (6, .inl v79)] rfl (jp377 v374 (1 : Int32) h)
  refine g_icmp_le X (tgt := 473) dL_law_466 (by decide) (fun hc => ?_) (fun hc => ?_)
  · replace h := h.1 hc; clear hc
    refine g_iconst X (v := (0 : Int32)) dL_law_473 (by decide) ?_
    exact g_sub [7, 8, 9, 11, 5, 2] [(0, .inr (some b)), (1, .inr (some q1)), (2, .inr (some q4)), (4, .inl y24), (6, .inl v79), (9, .inl v88)] rfl (jp367 (some q1) v88 v79 v83 (0 : Int32) h)
  · replace h := h.2 hc; clear hc
    refine g_iconst X (v := (1 : Int32)) dL_law_469 (by decide) ?_
    refine g_goto X (tgt := 474) dL_law_470 (by decide) ?_
    exact g_sub [7, 8, 9, 11, 5, 2] [(0, .inr (some b)), (1, .inr (some q1)), (2, .inr (some q4)), (4, .inl y24), (6, .inl v79), (9, .inl v88)] rfl (jp367 (some q1) v88 v79 v83 (1 : Int32) h)

def wpc_393 (L : Nat) (xs : Nat → Int32) (q1 : Nat) (v83 : Int32) (v88 : Int32) (w91 : Wd) (J93 : Int32 → Wd → Prop) : Prop :=
  w91.K q1 = 4 ∧
  wp_X3_ofCircle q1 v88 (1 : Int32) w91 (fun v383 w382 => 
  ∃ J384 : Int32 → Prop, (∀ (y385 : Int32), J384 y385 →
  wp_L_isStart (some q1) v88 v83 w382 (fun v387 w386 => 
  ∃ J388 : Int32 → Wd → Prop, (∀ (y389 : Int32) (w390 : Wd), J388 y389 w390 →
  J93 y389 w390) ∧
  ∃ J391 : Wd → Prop, (∀  (w392 : Wd), J391 w392 →
  J388 (1 : Int32) w392) ∧
  (v387 = 0 → J391 w386) ∧ (¬ v387 = 0 → ∃ J393 : Wd → Prop, (∀  (w394 : Wd), J393 w394 →
  J388 (0 : Int32) w394) ∧
  (y385 = 0 → J393 w386) ∧ (¬ y385 = 0 → wp_L_isStart (some q1) v88 v83 w386 (fun v396 w395 => 
  (¬ v396 = 0 → J393 w395) ∧ (v396 = 0 → J391 w395)))))) ∧
  (v383 ≤ (1 : Int32) → J384 (0 : Int32)) ∧ (¬ v383 ≤ (1 : Int32) → J384 (1 : Int32))) (fun _ _ => False)
set_option maxHeartbeats 8000000 in
set_option maxRecDepth 100000 in
theorem q_393 {p : Program} {e : Env} {s : State} {m : MethodId} {below : List Frame} {meth : Method} {c : Code} {l : Launch} {G : GT} {L0 b L : Nat} {xs : Nat → Int32} (hst : l.stackTraces = false) (hL0 : L0 = s.heap.size) (X : GC l G L0 p s m #[Value.ref b] meth c code 16 "SusuRingLaw") (hr : meth.sig.returnType = ret) (hX : va_X b L xs s s.heap) (hb : b < s.heap.size) (hbA : ¬ GA L0 b) (hLL : L < 2 ^ 31) {q1 : Nat} {q4 : Nat} {n21 : Nat} {y23 : Int32} {y24 : Int32} {v75 : Int32} {v79 : Int32} {v83 : Int32} {v87 : Int32} {v88 : Int32} {v90 : Int32} {w91 : Wd} {v92 : Int32} {J93 : Int32 → Wd → Prop} (hnbn21 : n21 ≤ 51) (jp93 : ∀ (y94 : Int32) (w95 : Wd), J93 y94 w95 → Gw l G L0 p e rm_L_law s m #[Value.ref b] below meth c 16 (530 + (51 - n21) * 920 + 358) (12685 + (51 - n21) * 13524 + 10152) (lw_Z below #[Value.ref b] s) w95 1583 [(0, .inr (some b)), (1, .inr (some q1)), (2, .inr (some q4)), (3, .inl y94), (4, .inl y24), (6, .inl v79)] []) (h : wpc_393 L xs q1 v83 v88 w91 J93) : Gw l G L0 p e rm_L_law s m #[Value.ref b] below meth c 16 (530 + (51 - n21) * 920 + 4) (12685 + (51 - n21) * 13524 + 24) (lw_Z below #[Value.ref b] s) w91 393 [(11, .inl v92), (10, .inl v90), (9, .inl v88), (8, .inl v87), (7, .inl v83), (6, .inl v79), (5, .inl v75), (0, .inr (some b)), (1, .inr (some q1)), (2, .inr (some q4)), (3, .inl y23), (4, .inl y24)] [] := by
  refine g_aload_n X dL_law_393 rfl 8 rfl ?_
  refine g_iload X dL_law_394 2 rfl ?_
  refine g_iconst X (v := (1 : Int32)) dL_law_396 (by decide) ?_
  have hk := h.1
  replace h := h.2
  refine g_callFV_i X (As := [.int v88, .int (1 : Int32)]) (st := []) (n := 2) (c_X3_ofCircle hst h) rfl (by decide) hk (wE_4 G w91 q1) m_443 m_444 m_445 m_15 m_446 (by decide +kernel) (by decide +kernel) rfl rfl (Nat.zero_le _) ⟨(by have e1 : rm_L_law.cells = 1097659 := rfl; have e2 : rm_L_law.slots = 5808648 := rfl; have e3 : rm_X3_ofCircle.cells = 2 := rfl; have e4 : rm_X3_ofCircle.slots = 12 := rfl; omega), (by have e1 : rm_L_law.cells = 1097659 := rfl; have e2 : rm_L_law.slots = 5808648 := rfl; have e3 : rm_X3_ofCircle.cells = 2 := rfl; have e4 : rm_X3_ofCircle.slots = 12 := rfl; omega)⟩ dL_law_397 (fun v383 w382 h => ?_)
  clear hk
  refine g_widen (c2 := (530 + (51 - n21) * 920 + 6)) (s2 := (12685 + (51 - n21) * 13524 + 36)) (by have e1 : rm_X3_ofCircle.cells = 2 := rfl; omega) (by have e1 : rm_X3_ofCircle.slots = 12 := rfl; omega) ?_
  refine g_iconst X (v := (1 : Int32)) dL_law_400 (by decide) ?_
  obtain ⟨J384, hjJ384, h⟩ := h
  have jp384 : ∀ (y385 : Int32), J384 y385 → Gw l G L0 p e rm_L_law s m #[Value.ref b] below meth c 16 (530 + (51 - n21) * 920 + 6) (12685 + (51 - n21) * 13524 + 36) (lw_Z below #[Value.ref b] s) w382 409 [(0, .inr (some b)), (1, .inr (some q1)), (2, .inr (some q4)), (4, .inl y24), (6, .inl v79), (7, .inl v83), (9, .inl v88)] [.int y385] := by
    intro y385 hJ
    have h := hjJ384 y385 hJ
    clear hJ
    refine g_istore X [(12, .inl y385), (0, .inr (some b)), (1, .inr (some q1)), (2, .inr (some q4)), (4, .inl y24), (6, .inl v79), (7, .inl v83), (9, .inl v88)] dL_law_409 (by decide) rfl ?_
    refine g_aload_n X dL_law_411 rfl 2 rfl ?_
    refine g_iload X dL_law_412 7 rfl ?_
    refine g_iload X dL_law_414 6 rfl ?_
    refine g_callH_i X (As := [va_rf (some q1), .int v88, .int v83]) (st := []) (n := 3) (c_L_isStart hst h) m_569 m_570 m_14 m_571 (by decide +kernel) (by decide +kernel) (by decide +kernel) rfl rfl (Nat.zero_le _) ⟨(by have e1 : rm_L_law.cells = 1097659 := rfl; have e2 : rm_L_law.slots = 5808648 := rfl; have e3 : rm_L_isStart.cells = 71 := rfl; have e4 : rm_L_isStart.slots = 4370 := rfl; omega), (by have e1 : rm_L_law.cells = 1097659 := rfl; have e2 : rm_L_law.slots = 5808648 := rfl; have e3 : rm_L_isStart.cells = 71 := rfl; have e4 : rm_L_isStart.slots = 4370 := rfl; omega)⟩ dL_law_416 (fun v387 w386 h => ?_)
    refine g_widen (c2 := (530 + (51 - n21) * 920 + 77)) (s2 := (12685 + (51 - n21) * 13524 + 4406)) (by have e1 : rm_L_isStart.cells = 71 := rfl; omega) (by have e1 : rm_L_isStart.slots = 4370 := rfl; omega) ?_
    obtain ⟨J388, hjJ388, h⟩ := h
    have jp388 : ∀ (y389 : Int32) (w390 : Wd), J388 y389 w390 → Gw l G L0 p e rm_L_law s m #[Value.ref b] below meth c 16 (530 + (51 - n21) * 920 + 148) (12685 + (51 - n21) * 13524 + 8776) (lw_Z below #[Value.ref b] s) w390 443 [(0, .inr (some b)), (1, .inr (some q1)), (2, .inr (some q4)), (4, .inl y24), (6, .inl v79)] [.int y389] := by
      intro y389 w390 hJ
      have h := hjJ388 y389 w390 hJ
      clear hJ
      refine g_istore_n X [(3, .inl y389), (0, .inr (some b)), (1, .inr (some q1)), (2, .inr (some q4)), (4, .inl y24), (6, .inl v79)] dL_law_443 rfl (by decide) rfl ?_
      refine g_goto X (tgt := 1583) dL_law_444 (by decide) ?_
      refine g_widen (c2 := (530 + (51 - n21) * 920 + 358)) (s2 := (12685 + (51 - n21) * 13524 + 10152)) (by omega) (by omega) ?_
      exact g_sub [1, 2, 3, 0, 4, 5] [(0, .inr (some b)), (1, .inr (some q1)), (2, .inr (some q4)), (3, .inl y389), (4, .inl y24), (6, .inl v79)] rfl (jp93 y389 w390 h)
    obtain ⟨J391, hjJ391, h⟩ := h
    have jp391 : ∀  (w392 : Wd), J391 w392 → Gw l G L0 p e rm_L_law s m #[Value.ref b] below meth c 16 (530 + (51 - n21) * 920 + 148) (12685 + (51 - n21) * 13524 + 8776) (lw_Z below #[Value.ref b] s) w392 438 [(0, .inr (some b)), (1, .inr (some q1)), (2, .inr (some q4)), (4, .inl y24), (6, .inl v79)] [] := by
      intro w392 hJ
      have h := hjJ391 w392 hJ
      clear hJ
      refine g_iconst X (v := (1 : Int32)) dL_law_438 (by decide) ?_
      refine g_goto X (tgt := 443) dL_law_439 (by decide) ?_
      exact g_sub [0, 1, 2, 3, 4] [(0, .inr (some b)), (1, .inr (some q1)), (2, .inr (some q4)), (4, .inl y24), (6, .inl v79)] rfl (jp388 (1 : Int32) w392 h)
    refine g_if_eq X (tgt := 438) dL_law_419 (by decide) (fun hc => ?_) (fun hc => ?_)
    · replace h := h.1 hc; clear hc
      refine g_widen (c2 := (530 + (51 - n21) * 920 + 148)) (s2 := (12685 + (51 - n21) * 13524 + 8776)) (by omega) (by omega) ?_
      exact g_sub [1, 2, 3, 4, 5] [(0, .inr (some b)), (1, .inr (some q1)), (2, .inr (some q4)), (4, .inl y24), (6, .inl v79)] rfl (jp391 w386 h)
    · replace h := h.2 hc; clear hc
      refine g_iload X dL_law_422 0 rfl ?_
      obtain ⟨J393, hjJ393, h⟩ := h
      have jp393 : ∀  (w394 : Wd), J393 w394 → Gw l G L0 p e rm_L_law s m #[Value.ref b] below meth c 16 (530 + (51 - n21) * 920 + 148) (12685 + (51 - n21) * 13524 + 8776) (lw_Z below #[Value.ref b] s) w394 442 [(0, .inr (some b)), (1, .inr (some q1)), (2, .inr (some q4)), (4, .inl y24), (6, .inl v79)] [] := by
        intro w394 hJ
        have h := hjJ393 w394 hJ
        clear hJ
        refine g_iconst X (v := (0 : Int32)) dL_law_442 (by decide) ?_
        exact g_sub [0, 1, 2, 3, 4] [(0, .inr (some b)), (1, .inr (some q1)), (2, .inr (some q4)), (4, .inl y24), (6, .inl v79)] rfl (jp388 (0 : Int32) w394 h)
      refine g_if_eq X (tgt := 442) dL_law_424 (by decide) (fun hc => ?_) (fun hc => ?_)
      · replace h := h.1 hc; clear hc
        refine g_widen (c2 := (530 + (51 - n21) * 920 + 148)) (s2 := (12685 + (51 - n21) * 13524 + 8776)) (by omega) (by omega) ?_
        exact g_sub [1, 2, 3, 4, 5] [(0, .inr (some b)), (1, .inr (some q1)), (2, .inr (some q4)), (4, .inl y24), (6, .inl v79)] rfl (jp393 w386 h)
      · replace h := h.2 hc; clear hc
        refine g_aload_n X dL_law_427 rfl 2 rfl ?_
        refine g_iload X dL_law_428 7 rfl ?_
        refine g_iload X dL_law_430 6 rfl ?_
        refine g_callH_i X (As := [va_rf (some q1), .int v88, .int v83]) (st := []) (n := 3) (c_L_isStart hst h) m_569 m_570 m_14 m_571 (by decide +kernel) (by decide +kernel) (by decide +kernel) rfl rfl (Nat.zero_le _) ⟨(by have e1 : rm_L_law.cells = 1097659 := rfl; have e2 : rm_L_law.slots = 5808648 := rfl; have e3 : rm_L_isStart.cells = 71 := rfl; have e4 : rm_L_isStart.slots = 4370 := rfl; omega), (by have e1 : rm_L_law.cells = 1097659 := rfl; have e2 : rm_L_law.slots = 5808648 := rfl; have e3 : rm_L_isStart.cells = 71 := rfl; have e4 : rm_L_isStart.slots = 4370 := rfl; omega)⟩ dL_law_432 (fun v396 w395 h => ?_)
        refine g_widen (c2 := (530 + (51 - n21) * 920 + 148)) (s2 := (12685 + (51 - n21) * 13524 + 8776)) (by have e1 : rm_L_isStart.cells = 71 := rfl; omega) (by have e1 : rm_L_isStart.slots = 4370 := rfl; omega) ?_
        refine g_if_ne X (tgt := 442) dL_law_435 (by decide) (fun hc => ?_) (fun hc => ?_)
        · replace h := h.1 hc; clear hc
          exact g_sub [1, 2, 3, 4, 5] [(0, .inr (some b)), (1, .inr (some q1)), (2, .inr (some q4)), (4, .inl y24), (6, .inl v79)] rfl (jp393 w395 h)
        · replace h := h.2 hc; clear hc
          exact g_sub [1, 2, 3, 4, 5] [(0, .inr (some b)), (1, .inr (some q1)), (2, .inr (some q4)), (4, .inl y24), (6, .inl v79)] rfl (jp391 w395 h)
  refine g_icmp_le X (tgt := 408) dL_law_401 (by decide) (fun hc => ?_) (fun hc => ?_)
  · replace h := h.1 hc; clear hc
    refine g_iconst X (v := (0 : Int32)) dL_law_408 (by decide) ?_
    exact g_sub [7, 8, 9, 11, 5, 4, 2] [(0, .inr (some b)), (1, .inr (some q1)), (2, .inr (some q4)), (4, .inl y24), (6, .inl v79), (7, .inl v83), (9, .inl v88)] rfl (jp384 (0 : Int32) h)
  · replace h := h.2 hc; clear hc
    refine g_iconst X (v := (1 : Int32)) dL_law_404 (by decide) ?_
    refine g_goto X (tgt := 409) dL_law_405 (by decide) ?_
    exact g_sub [7, 8, 9, 11, 5, 4, 2] [(0, .inr (some b)), (1, .inr (some q1)), (2, .inr (some q4)), (4, .inl y24), (6, .inl v79), (7, .inl v83), (9, .inl v88)] rfl (jp384 (1 : Int32) h)

def wpc_328 (L : Nat) (xs : Nat → Int32) (q1 : Nat) (v79 : Int32) (v88 : Int32) (w91 : Wd) (J93 : Int32 → Wd → Prop) : Prop :=
  w91.K q1 = 4 ∧
  wp_X3_ofCircle q1 v88 (1 : Int32) w91 (fun v398 w397 => 
  wp_L_isEnter (some q1) v88 v79 w397 (fun v400 w399 => 
  ∃ J401 : Int32 → Wd → Prop, (∀ (y402 : Int32) (w403 : Wd), J401 y402 w403 →
  J93 y402 w403) ∧
  ∃ J404 : Wd → Prop, (∀  (w405 : Wd), J404 w405 →
  J401 (1 : Int32) w405) ∧
  (v400 = 0 → J404 w399) ∧ (¬ v400 = 0 → w399.K q1 = 4 ∧
  wp_X3_member q1 v88 v79 (3 : Int32) w399 (fun v407 w406 => 
  ∃ J408 : Wd → Prop, (∀  (w409 : Wd), J408 w409 →
  J401 (0 : Int32) w409) ∧
  (¬ v407 = v398 → J408 w406) ∧ (v407 = v398 → w406.K q1 = 4 ∧
  wp_X3_member q1 v88 v79 (0 : Int32) w406 (fun v411 w410 => 
  (¬ v411 = 0 → J408 w410) ∧ (v411 = 0 → J404 w410)) (fun _ _ => False))) (fun _ _ => False)))) (fun _ _ => False)
set_option maxHeartbeats 8000000 in
set_option maxRecDepth 100000 in
theorem q_328 {p : Program} {e : Env} {s : State} {m : MethodId} {below : List Frame} {meth : Method} {c : Code} {l : Launch} {G : GT} {L0 b L : Nat} {xs : Nat → Int32} (hst : l.stackTraces = false) (hL0 : L0 = s.heap.size) (X : GC l G L0 p s m #[Value.ref b] meth c code 16 "SusuRingLaw") (hr : meth.sig.returnType = ret) (hX : va_X b L xs s s.heap) (hb : b < s.heap.size) (hbA : ¬ GA L0 b) (hLL : L < 2 ^ 31) {q1 : Nat} {q4 : Nat} {n21 : Nat} {y23 : Int32} {y24 : Int32} {v75 : Int32} {v79 : Int32} {v83 : Int32} {v87 : Int32} {v88 : Int32} {v90 : Int32} {w91 : Wd} {v92 : Int32} {J93 : Int32 → Wd → Prop} (hnbn21 : n21 ≤ 51) (jp93 : ∀ (y94 : Int32) (w95 : Wd), J93 y94 w95 → Gw l G L0 p e rm_L_law s m #[Value.ref b] below meth c 16 (530 + (51 - n21) * 920 + 358) (12685 + (51 - n21) * 13524 + 10152) (lw_Z below #[Value.ref b] s) w95 1583 [(0, .inr (some b)), (1, .inr (some q1)), (2, .inr (some q4)), (3, .inl y94), (4, .inl y24), (6, .inl v79)] []) (h : wpc_328 L xs q1 v79 v88 w91 J93) : Gw l G L0 p e rm_L_law s m #[Value.ref b] below meth c 16 (530 + (51 - n21) * 920 + 4) (12685 + (51 - n21) * 13524 + 24) (lw_Z below #[Value.ref b] s) w91 328 [(11, .inl v92), (10, .inl v90), (9, .inl v88), (8, .inl v87), (7, .inl v83), (6, .inl v79), (5, .inl v75), (0, .inr (some b)), (1, .inr (some q1)), (2, .inr (some q4)), (3, .inl y23), (4, .inl y24)] [] := by
  refine g_aload_n X dL_law_328 rfl 8 rfl ?_
  refine g_iload X dL_law_329 2 rfl ?_
  refine g_iconst X (v := (1 : Int32)) dL_law_331 (by decide) ?_
  have hk := h.1
  replace h := h.2
  refine g_callFV_i X (As := [.int v88, .int (1 : Int32)]) (st := []) (n := 2) (c_X3_ofCircle hst h) rfl (by decide) hk (wE_4 G w91 q1) m_443 m_444 m_445 m_15 m_446 (by decide +kernel) (by decide +kernel) rfl rfl (Nat.zero_le _) ⟨(by have e1 : rm_L_law.cells = 1097659 := rfl; have e2 : rm_L_law.slots = 5808648 := rfl; have e3 : rm_X3_ofCircle.cells = 2 := rfl; have e4 : rm_X3_ofCircle.slots = 12 := rfl; omega), (by have e1 : rm_L_law.cells = 1097659 := rfl; have e2 : rm_L_law.slots = 5808648 := rfl; have e3 : rm_X3_ofCircle.cells = 2 := rfl; have e4 : rm_X3_ofCircle.slots = 12 := rfl; omega)⟩ dL_law_332 (fun v398 w397 h => ?_)
  clear hk
  refine g_widen (c2 := (530 + (51 - n21) * 920 + 6)) (s2 := (12685 + (51 - n21) * 13524 + 36)) (by have e1 : rm_X3_ofCircle.cells = 2 := rfl; omega) (by have e1 : rm_X3_ofCircle.slots = 12 := rfl; omega) ?_
  refine g_istore X [(12, .inl v398), (11, .inl v92), (10, .inl v90), (9, .inl v88), (8, .inl v87), (7, .inl v83), (6, .inl v79), (5, .inl v75), (0, .inr (some b)), (1, .inr (some q1)), (2, .inr (some q4)), (3, .inl y23), (4, .inl y24)] dL_law_335 (by decide) rfl ?_
  refine g_aload_n X dL_law_337 rfl 9 rfl ?_
  refine g_iload X dL_law_338 3 rfl ?_
  refine g_iload X dL_law_340 6 rfl ?_
  refine g_callH_i X (As := [va_rf (some q1), .int v88, .int v79]) (st := []) (n := 3) (c_L_isEnter hst h) m_529 m_530 m_14 m_531 (by decide +kernel) (by decide +kernel) (by decide +kernel) rfl rfl (Nat.zero_le _) ⟨(by have e1 : rm_L_law.cells = 1097659 := rfl; have e2 : rm_L_law.slots = 5808648 := rfl; have e3 : rm_L_isEnter.cells = 7 := rfl; have e4 : rm_L_isEnter.slots = 158 := rfl; omega), (by have e1 : rm_L_law.cells = 1097659 := rfl; have e2 : rm_L_law.slots = 5808648 := rfl; have e3 : rm_L_isEnter.cells = 7 := rfl; have e4 : rm_L_isEnter.slots = 158 := rfl; omega)⟩ dL_law_342 (fun v400 w399 h => ?_)
  refine g_widen (c2 := (530 + (51 - n21) * 920 + 13)) (s2 := (12685 + (51 - n21) * 13524 + 194)) (by have e1 : rm_L_isEnter.cells = 7 := rfl; omega) (by have e1 : rm_L_isEnter.slots = 158 := rfl; omega) ?_
  refine g_istore X [(13, .inl v400), (12, .inl v398), (11, .inl v92), (10, .inl v90), (9, .inl v88), (8, .inl v87), (7, .inl v83), (6, .inl v79), (5, .inl v75), (0, .inr (some b)), (1, .inr (some q1)), (2, .inr (some q4)), (3, .inl y23), (4, .inl y24)] dL_law_345 (by decide) rfl ?_
  refine g_iload X dL_law_347 0 rfl ?_
  obtain ⟨J401, hjJ401, h⟩ := h
  have jp401 : ∀ (y402 : Int32) (w403 : Wd), J401 y402 w403 → Gw l G L0 p e rm_L_law s m #[Value.ref b] below meth c 16 (530 + (51 - n21) * 920 + 19) (12685 + (51 - n21) * 13524 + 230) (lw_Z below #[Value.ref b] s) w403 383 [(0, .inr (some b)), (1, .inr (some q1)), (2, .inr (some q4)), (4, .inl y24), (6, .inl v79)] [.int y402] := by
    intro y402 w403 hJ
    have h := hjJ401 y402 w403 hJ
    clear hJ
    refine g_istore_n X [(3, .inl y402), (0, .inr (some b)), (1, .inr (some q1)), (2, .inr (some q4)), (4, .inl y24), (6, .inl v79)] dL_law_383 rfl (by decide) rfl ?_
    refine g_goto X (tgt := 1583) dL_law_384 (by decide) ?_
    refine g_widen (c2 := (530 + (51 - n21) * 920 + 358)) (s2 := (12685 + (51 - n21) * 13524 + 10152)) (by omega) (by omega) ?_
    exact g_sub [1, 2, 3, 0, 4, 5] [(0, .inr (some b)), (1, .inr (some q1)), (2, .inr (some q4)), (3, .inl y402), (4, .inl y24), (6, .inl v79)] rfl (jp93 y402 w403 h)
  obtain ⟨J404, hjJ404, h⟩ := h
  have jp404 : ∀  (w405 : Wd), J404 w405 → Gw l G L0 p e rm_L_law s m #[Value.ref b] below meth c 16 (530 + (51 - n21) * 920 + 19) (12685 + (51 - n21) * 13524 + 230) (lw_Z below #[Value.ref b] s) w405 378 [(0, .inr (some b)), (1, .inr (some q1)), (2, .inr (some q4)), (4, .inl y24), (6, .inl v79)] [] := by
    intro w405 hJ
    have h := hjJ404 w405 hJ
    clear hJ
    refine g_iconst X (v := (1 : Int32)) dL_law_378 (by decide) ?_
    refine g_goto X (tgt := 383) dL_law_379 (by decide) ?_
    exact g_sub [0, 1, 2, 3, 4] [(0, .inr (some b)), (1, .inr (some q1)), (2, .inr (some q4)), (4, .inl y24), (6, .inl v79)] rfl (jp401 (1 : Int32) w405 h)
  refine g_if_eq X (tgt := 378) dL_law_349 (by decide) (fun hc => ?_) (fun hc => ?_)
  · replace h := h.1 hc; clear hc
    refine g_widen (c2 := (530 + (51 - n21) * 920 + 19)) (s2 := (12685 + (51 - n21) * 13524 + 230)) (by omega) (by omega) ?_
    exact g_sub [9, 10, 11, 13, 7] [(0, .inr (some b)), (1, .inr (some q1)), (2, .inr (some q4)), (4, .inl y24), (6, .inl v79)] rfl (jp404 w399 h)
  · replace h := h.2 hc; clear hc
    refine g_aload_n X dL_law_352 rfl 10 rfl ?_
    refine g_iload X dL_law_353 4 rfl ?_
    refine g_iload X dL_law_355 7 rfl ?_
    refine g_iconst X (v := (3 : Int32)) dL_law_357 (by decide) ?_
    have hk := h.1
    replace h := h.2
    refine g_callFV_i X (As := [.int v88, .int v79, .int (3 : Int32)]) (st := []) (n := 3) (c_X3_member hst h) rfl (by decide) hk (wE_4 G w399 q1) m_422 m_423 m_424 m_15 m_425 (by decide +kernel) (by decide +kernel) rfl rfl (Nat.zero_le _) ⟨(by have e1 : rm_L_law.cells = 1097659 := rfl; have e2 : rm_L_law.slots = 5808648 := rfl; have e3 : rm_X3_member.cells = 3 := rfl; have e4 : rm_X3_member.slots = 18 := rfl; omega), (by have e1 : rm_L_law.cells = 1097659 := rfl; have e2 : rm_L_law.slots = 5808648 := rfl; have e3 : rm_X3_member.cells = 3 := rfl; have e4 : rm_X3_member.slots = 18 := rfl; omega)⟩ dL_law_358 (fun v407 w406 h => ?_)
    clear hk
    refine g_widen (c2 := (530 + (51 - n21) * 920 + 16)) (s2 := (12685 + (51 - n21) * 13524 + 212)) (by have e1 : rm_X3_member.cells = 3 := rfl; omega) (by have e1 : rm_X3_member.slots = 18 := rfl; omega) ?_
    refine g_iload X dL_law_361 1 rfl ?_
    obtain ⟨J408, hjJ408, h⟩ := h
    have jp408 : ∀  (w409 : Wd), J408 w409 → Gw l G L0 p e rm_L_law s m #[Value.ref b] below meth c 16 (530 + (51 - n21) * 920 + 19) (12685 + (51 - n21) * 13524 + 230) (lw_Z below #[Value.ref b] s) w409 382 [(0, .inr (some b)), (1, .inr (some q1)), (2, .inr (some q4)), (4, .inl y24), (6, .inl v79)] [] := by
      intro w409 hJ
      have h := hjJ408 w409 hJ
      clear hJ
      refine g_iconst X (v := (0 : Int32)) dL_law_382 (by decide) ?_
      exact g_sub [0, 1, 2, 3, 4] [(0, .inr (some b)), (1, .inr (some q1)), (2, .inr (some q4)), (4, .inl y24), (6, .inl v79)] rfl (jp401 (0 : Int32) w409 h)
    refine g_icmp_ne X (tgt := 382) dL_law_363 (by decide) (fun hc => ?_) (fun hc => ?_)
    · replace h := h.1 hc; clear hc
      refine g_widen (c2 := (530 + (51 - n21) * 920 + 19)) (s2 := (12685 + (51 - n21) * 13524 + 230)) (by omega) (by omega) ?_
      exact g_sub [9, 10, 11, 13, 7] [(0, .inr (some b)), (1, .inr (some q1)), (2, .inr (some q4)), (4, .inl y24), (6, .inl v79)] rfl (jp408 w406 h)
    · replace h := h.2 hc; clear hc
      refine g_aload_n X dL_law_366 rfl 10 rfl ?_
      refine g_iload X dL_law_367 4 rfl ?_
      refine g_iload X dL_law_369 7 rfl ?_
      refine g_iconst X (v := (0 : Int32)) dL_law_371 (by decide) ?_
      have hk := h.1
      replace h := h.2
      refine g_callFV_i X (As := [.int v88, .int v79, .int (0 : Int32)]) (st := []) (n := 3) (c_X3_member hst h) rfl (by decide) hk (wE_4 G w406 q1) m_422 m_423 m_424 m_15 m_425 (by decide +kernel) (by decide +kernel) rfl rfl (Nat.zero_le _) ⟨(by have e1 : rm_L_law.cells = 1097659 := rfl; have e2 : rm_L_law.slots = 5808648 := rfl; have e3 : rm_X3_member.cells = 3 := rfl; have e4 : rm_X3_member.slots = 18 := rfl; omega), (by have e1 : rm_L_law.cells = 1097659 := rfl; have e2 : rm_L_law.slots = 5808648 := rfl; have e3 : rm_X3_member.cells = 3 := rfl; have e4 : rm_X3_member.slots = 18 := rfl; omega)⟩ dL_law_372 (fun v411 w410 h => ?_)
      clear hk
      refine g_widen (c2 := (530 + (51 - n21) * 920 + 19)) (s2 := (12685 + (51 - n21) * 13524 + 230)) (by have e1 : rm_X3_member.cells = 3 := rfl; omega) (by have e1 : rm_X3_member.slots = 18 := rfl; omega) ?_
      refine g_if_ne X (tgt := 382) dL_law_375 (by decide) (fun hc => ?_) (fun hc => ?_)
      · replace h := h.1 hc; clear hc
        exact g_sub [9, 10, 11, 13, 7] [(0, .inr (some b)), (1, .inr (some q1)), (2, .inr (some q4)), (4, .inl y24), (6, .inl v79)] rfl (jp408 w410 h)
      · replace h := h.2 hc; clear hc
        exact g_sub [9, 10, 11, 13, 7] [(0, .inr (some b)), (1, .inr (some q1)), (2, .inr (some q4)), (4, .inl y24), (6, .inl v79)] rfl (jp404 w410 h)

def wpc_258 (L : Nat) (xs : Nat → Int32) (q1 : Nat) (v79 : Int32) (v83 : Int32) (v90 : Int32) (w91 : Wd) (v92 : Int32) (J93 : Int32 → Wd → Prop) : Prop :=
  ∀ v412 : Int32, v412 = v83 - (300 : Int32) →
  wp_L_isEarn (some q1) v79 v412 w91 (fun v414 w413 => 
  w413.K q1 = 4 ∧
  wp_X3_of q1 v79 (5 : Int32) w413 (fun v416 w415 => 
  ∃ J417 : Int32 → Int32 → Prop, (∀ (y418 : Int32) (y419 : Int32), J417 y418 y419 →
  ∃ J420 : Int32 → Wd → Prop, (∀ (y421 : Int32) (w422 : Wd), J420 y421 w422 →
  J93 y421 w422) ∧
  ∃ J423 : Wd → Prop, (∀  (w424 : Wd), J423 w424 →
  J420 (0 : Int32) w424) ∧
  (¬ y418 = y419 → J423 w415) ∧ (y418 = y419 → w415.K q1 = 4 ∧
  wp_X3_of q1 v79 (4 : Int32) w415 (fun v426 w425 => 
  (¬ v426 = v92 → J423 w425) ∧ (v426 = v92 → J420 (1 : Int32) w425)) (fun _ _ => False))) ∧
  ∃ J427 : Int32 → Prop, (∀ (y428 : Int32), J427 y428 →
  J417 y428 (0 : Int32)) ∧
  (¬ v416 = (1 : Int32) → J427 v414) ∧ (v416 = (1 : Int32) → ∀ v429 : Int32, v429 = v90 + v412 →
  (v429 < 0 → J427 v414) ∧ (¬ v429 < 0 → J417 v414 (1 : Int32)))) (fun _ _ => False))
set_option maxHeartbeats 8000000 in
set_option maxRecDepth 100000 in
theorem q_258 {p : Program} {e : Env} {s : State} {m : MethodId} {below : List Frame} {meth : Method} {c : Code} {l : Launch} {G : GT} {L0 b L : Nat} {xs : Nat → Int32} (hst : l.stackTraces = false) (hL0 : L0 = s.heap.size) (X : GC l G L0 p s m #[Value.ref b] meth c code 16 "SusuRingLaw") (hr : meth.sig.returnType = ret) (hX : va_X b L xs s s.heap) (hb : b < s.heap.size) (hbA : ¬ GA L0 b) (hLL : L < 2 ^ 31) {q1 : Nat} {q4 : Nat} {n21 : Nat} {y23 : Int32} {y24 : Int32} {v75 : Int32} {v79 : Int32} {v83 : Int32} {v87 : Int32} {v88 : Int32} {v90 : Int32} {w91 : Wd} {v92 : Int32} {J93 : Int32 → Wd → Prop} (hnbn21 : n21 ≤ 51) (jp93 : ∀ (y94 : Int32) (w95 : Wd), J93 y94 w95 → Gw l G L0 p e rm_L_law s m #[Value.ref b] below meth c 16 (530 + (51 - n21) * 920 + 358) (12685 + (51 - n21) * 13524 + 10152) (lw_Z below #[Value.ref b] s) w95 1583 [(0, .inr (some b)), (1, .inr (some q1)), (2, .inr (some q4)), (3, .inl y94), (4, .inl y24), (6, .inl v79)] []) (h : wpc_258 L xs q1 v79 v83 v90 w91 v92 J93) : Gw l G L0 p e rm_L_law s m #[Value.ref b] below meth c 16 (530 + (51 - n21) * 920 + 4) (12685 + (51 - n21) * 13524 + 24) (lw_Z below #[Value.ref b] s) w91 258 [(11, .inl v92), (10, .inl v90), (9, .inl v88), (8, .inl v87), (7, .inl v83), (6, .inl v79), (5, .inl v75), (0, .inr (some b)), (1, .inr (some q1)), (2, .inr (some q4)), (3, .inl y23), (4, .inl y24)] [] := by
  refine g_iload X dL_law_258 4 rfl ?_
  refine g_sipush X (v := (300 : Int32)) dL_law_260 (by decide) ?_
  refine g_isub X dL_law_263 (fun v412 hv => ?_)
  replace h := h v412 hv; clear hv
  refine g_istore X [(12, .inl v412), (11, .inl v92), (10, .inl v90), (9, .inl v88), (8, .inl v87), (7, .inl v83), (6, .inl v79), (5, .inl v75), (0, .inr (some b)), (1, .inr (some q1)), (2, .inr (some q4)), (3, .inl y23), (4, .inl y24)] dL_law_264 (by decide) rfl ?_
  refine g_aload_n X dL_law_266 rfl 9 rfl ?_
  refine g_iload X dL_law_267 6 rfl ?_
  refine g_iload X dL_law_269 0 rfl ?_
  refine g_callH_i X (As := [va_rf (some q1), .int v79, .int v412]) (st := []) (n := 3) (c_L_isEarn hst h) m_482 m_483 m_14 m_484 (by decide +kernel) (by decide +kernel) (by decide +kernel) rfl rfl (Nat.zero_le _) ⟨(by have e1 : rm_L_law.cells = 1097659 := rfl; have e2 : rm_L_law.slots = 5808648 := rfl; have e3 : rm_L_isEarn.cells = 3 := rfl; have e4 : rm_L_isEarn.slots = 18 := rfl; omega), (by have e1 : rm_L_law.cells = 1097659 := rfl; have e2 : rm_L_law.slots = 5808648 := rfl; have e3 : rm_L_isEarn.cells = 3 := rfl; have e4 : rm_L_isEarn.slots = 18 := rfl; omega)⟩ dL_law_271 (fun v414 w413 h => ?_)
  refine g_widen (c2 := (530 + (51 - n21) * 920 + 7)) (s2 := (12685 + (51 - n21) * 13524 + 42)) (by have e1 : rm_L_isEarn.cells = 3 := rfl; omega) (by have e1 : rm_L_isEarn.slots = 18 := rfl; omega) ?_
  refine g_aload_n X dL_law_274 rfl 9 rfl ?_
  refine g_iload X dL_law_275 6 rfl ?_
  refine g_iconst X (v := (5 : Int32)) dL_law_277 (by decide) ?_
  have hk := h.1
  replace h := h.2
  refine g_callFV_i X (As := [.int v79, .int (5 : Int32)]) (st := [.int v414]) (n := 2) (c_X3_of hst h) rfl (by decide) hk (wE_4 G w413 q1) m_410 m_411 m_412 m_15 m_413 (by decide +kernel) (by decide +kernel) rfl rfl (by simp [cat_int, rf_cat]) ⟨(by have e1 : rm_L_law.cells = 1097659 := rfl; have e2 : rm_L_law.slots = 5808648 := rfl; have e3 : rm_X3_of.cells = 2 := rfl; have e4 : rm_X3_of.slots = 12 := rfl; omega), (by have e1 : rm_L_law.cells = 1097659 := rfl; have e2 : rm_L_law.slots = 5808648 := rfl; have e3 : rm_X3_of.cells = 2 := rfl; have e4 : rm_X3_of.slots = 12 := rfl; omega)⟩ dL_law_278 (fun v416 w415 h => ?_)
  clear hk
  refine g_widen (c2 := (530 + (51 - n21) * 920 + 9)) (s2 := (12685 + (51 - n21) * 13524 + 54)) (by have e1 : rm_X3_of.cells = 2 := rfl; omega) (by have e1 : rm_X3_of.slots = 12 := rfl; omega) ?_
  refine g_iconst X (v := (1 : Int32)) dL_law_281 (by decide) ?_
  obtain ⟨J417, hjJ417, h⟩ := h
  have jp417 : ∀ (y418 : Int32) (y419 : Int32), J417 y418 y419 → Gw l G L0 p e rm_L_law s m #[Value.ref b] below meth c 16 (530 + (51 - n21) * 920 + 9) (12685 + (51 - n21) * 13524 + 54) (lw_Z below #[Value.ref b] s) w415 298 [(0, .inr (some b)), (1, .inr (some q1)), (2, .inr (some q4)), (4, .inl y24), (6, .inl v79), (11, .inl v92)] [.int y419, .int y418] := by
    intro y418 y419 hJ
    have h := hjJ417 y418 y419 hJ
    clear hJ
    obtain ⟨J420, hjJ420, h⟩ := h
    have jp420 : ∀ (y421 : Int32) (w422 : Wd), J420 y421 w422 → Gw l G L0 p e rm_L_law s m #[Value.ref b] below meth c 16 (530 + (51 - n21) * 920 + 11) (12685 + (51 - n21) * 13524 + 66) (lw_Z below #[Value.ref b] s) w422 318 [(0, .inr (some b)), (1, .inr (some q1)), (2, .inr (some q4)), (4, .inl y24), (6, .inl v79)] [.int y421] := by
      intro y421 w422 hJ
      have h := hjJ420 y421 w422 hJ
      clear hJ
      refine g_istore_n X [(3, .inl y421), (0, .inr (some b)), (1, .inr (some q1)), (2, .inr (some q4)), (4, .inl y24), (6, .inl v79)] dL_law_318 rfl (by decide) rfl ?_
      refine g_goto X (tgt := 1583) dL_law_319 (by decide) ?_
      refine g_widen (c2 := (530 + (51 - n21) * 920 + 358)) (s2 := (12685 + (51 - n21) * 13524 + 10152)) (by omega) (by omega) ?_
      exact g_sub [1, 2, 3, 0, 4, 5] [(0, .inr (some b)), (1, .inr (some q1)), (2, .inr (some q4)), (3, .inl y421), (4, .inl y24), (6, .inl v79)] rfl (jp93 y421 w422 h)
    obtain ⟨J423, hjJ423, h⟩ := h
    have jp423 : ∀  (w424 : Wd), J423 w424 → Gw l G L0 p e rm_L_law s m #[Value.ref b] below meth c 16 (530 + (51 - n21) * 920 + 11) (12685 + (51 - n21) * 13524 + 66) (lw_Z below #[Value.ref b] s) w424 317 [(0, .inr (some b)), (1, .inr (some q1)), (2, .inr (some q4)), (4, .inl y24), (6, .inl v79)] [] := by
      intro w424 hJ
      have h := hjJ423 w424 hJ
      clear hJ
      refine g_iconst X (v := (0 : Int32)) dL_law_317 (by decide) ?_
      exact g_sub [0, 1, 2, 3, 4] [(0, .inr (some b)), (1, .inr (some q1)), (2, .inr (some q4)), (4, .inl y24), (6, .inl v79)] rfl (jp420 (0 : Int32) w424 h)
    refine g_icmp_ne X (tgt := 317) dL_law_298 (by decide) (fun hc => ?_) (fun hc => ?_)
    · replace h := h.1 hc; clear hc
      refine g_widen (c2 := (530 + (51 - n21) * 920 + 11)) (s2 := (12685 + (51 - n21) * 13524 + 66)) (by omega) (by omega) ?_
      exact g_sub [0, 1, 2, 3, 4] [(0, .inr (some b)), (1, .inr (some q1)), (2, .inr (some q4)), (4, .inl y24), (6, .inl v79)] rfl (jp423 w415 h)
    · replace h := h.2 hc; clear hc
      refine g_aload_n X dL_law_301 rfl 1 rfl ?_
      refine g_iload X dL_law_302 4 rfl ?_
      refine g_iconst X (v := (4 : Int32)) dL_law_304 (by decide) ?_
      have hk := h.1
      replace h := h.2
      refine g_callFV_i X (As := [.int v79, .int (4 : Int32)]) (st := []) (n := 2) (c_X3_of hst h) rfl (by decide) hk (wE_4 G w415 q1) m_410 m_411 m_412 m_15 m_413 (by decide +kernel) (by decide +kernel) rfl rfl (Nat.zero_le _) ⟨(by have e1 : rm_L_law.cells = 1097659 := rfl; have e2 : rm_L_law.slots = 5808648 := rfl; have e3 : rm_X3_of.cells = 2 := rfl; have e4 : rm_X3_of.slots = 12 := rfl; omega), (by have e1 : rm_L_law.cells = 1097659 := rfl; have e2 : rm_L_law.slots = 5808648 := rfl; have e3 : rm_X3_of.cells = 2 := rfl; have e4 : rm_X3_of.slots = 12 := rfl; omega)⟩ dL_law_305 (fun v426 w425 h => ?_)
      clear hk
      refine g_widen (c2 := (530 + (51 - n21) * 920 + 11)) (s2 := (12685 + (51 - n21) * 13524 + 66)) (by have e1 : rm_X3_of.cells = 2 := rfl; omega) (by have e1 : rm_X3_of.slots = 12 := rfl; omega) ?_
      refine g_iload X dL_law_308 5 rfl ?_
      refine g_icmp_ne X (tgt := 317) dL_law_310 (by decide) (fun hc => ?_) (fun hc => ?_)
      · replace h := h.1 hc; clear hc
        exact g_sub [0, 1, 2, 3, 4] [(0, .inr (some b)), (1, .inr (some q1)), (2, .inr (some q4)), (4, .inl y24), (6, .inl v79)] rfl (jp423 w425 h)
      · replace h := h.2 hc; clear hc
        refine g_iconst X (v := (1 : Int32)) dL_law_313 (by decide) ?_
        refine g_goto X (tgt := 318) dL_law_314 (by decide) ?_
        exact g_sub [0, 1, 2, 3, 4] [(0, .inr (some b)), (1, .inr (some q1)), (2, .inr (some q4)), (4, .inl y24), (6, .inl v79)] rfl (jp420 (1 : Int32) w425 h)
  obtain ⟨J427, hjJ427, h⟩ := h
  have jp427 : ∀ (y428 : Int32), J427 y428 → Gw l G L0 p e rm_L_law s m #[Value.ref b] below meth c 16 (530 + (51 - n21) * 920 + 9) (12685 + (51 - n21) * 13524 + 54) (lw_Z below #[Value.ref b] s) w415 297 [(0, .inr (some b)), (1, .inr (some q1)), (2, .inr (some q4)), (4, .inl y24), (6, .inl v79), (11, .inl v92)] [.int y428] := by
    intro y428 hJ
    have h := hjJ427 y428 hJ
    clear hJ
    refine g_iconst X (v := (0 : Int32)) dL_law_297 (by decide) ?_
    exact g_sub [0, 1, 2, 3, 4, 5] [(0, .inr (some b)), (1, .inr (some q1)), (2, .inr (some q4)), (4, .inl y24), (6, .inl v79), (11, .inl v92)] rfl (jp417 y428 (0 : Int32) h)
  refine g_icmp_ne X (tgt := 297) dL_law_282 (by decide) (fun hc => ?_) (fun hc => ?_)
  · replace h := h.1 hc; clear hc
    exact g_sub [8, 9, 10, 12, 6, 1] [(0, .inr (some b)), (1, .inr (some q1)), (2, .inr (some q4)), (4, .inl y24), (6, .inl v79), (11, .inl v92)] rfl (jp427 v414 h)
  · replace h := h.2 hc; clear hc
    refine g_iload X dL_law_285 2 rfl ?_
    refine g_iload X dL_law_287 0 rfl ?_
    refine g_iadd X dL_law_289 (fun v429 hv => ?_)
    replace h := h v429 hv; clear hv
    refine g_if_lt X (tgt := 297) dL_law_290 (by decide) (fun hc => ?_) (fun hc => ?_)
    · replace h := h.1 hc; clear hc
      exact g_sub [8, 9, 10, 12, 6, 1] [(0, .inr (some b)), (1, .inr (some q1)), (2, .inr (some q4)), (4, .inl y24), (6, .inl v79), (11, .inl v92)] rfl (jp427 v414 h)
    · replace h := h.2 hc; clear hc
      refine g_iconst X (v := (1 : Int32)) dL_law_293 (by decide) ?_
      refine g_goto X (tgt := 298) dL_law_294 (by decide) ?_
      exact g_sub [8, 9, 10, 12, 6, 1] [(0, .inr (some b)), (1, .inr (some q1)), (2, .inr (some q4)), (4, .inl y24), (6, .inl v79), (11, .inl v92)] rfl (jp417 v414 (1 : Int32) h)

def wpc_167 (L : Nat) (xs : Nat → Int32) (q1 : Nat) (q4 : Nat) (n21 : Nat) (Inv22 : Nat → Int32 → Int32 → Wd → Prop) (y23 : Int32) (y24 : Int32) (w25 : Wd) : Prop :=
  ∀ v72 : Int32, v72 = (4 : Int32) * y24 →
  ∀ v73 : Int32, v73 = v72 + (18 : Int32) →
  wp_L_drawn L xs v73 (20 : Int32) w25 (fun v75 w74 => 
  ∀ v76 : Int32, v76 = (4 : Int32) * y24 →
  ∀ v77 : Int32, v77 = v76 + (19 : Int32) →
  wp_L_drawn L xs v77 (7 : Int32) w74 (fun v79 w78 => 
  ∀ v80 : Int32, v80 = (4 : Int32) * y24 →
  ∀ v81 : Int32, v81 = v80 + (20 : Int32) →
  wp_L_drawn L xs v81 (840 : Int32) w78 (fun v83 w82 => 
  ∀ v84 : Int32, v84 = v79 + (1 : Int32) →
  ¬ (6 : Int32) = 0 ∧ ∀ v85 : Int32, v85 = v83 - v83 / (6 : Int32) * (6 : Int32) →
  ∀ v86 : Int32, v86 = v84 + v85 →
  ¬ (7 : Int32) = 0 ∧ ∀ v87 : Int32, v87 = v86 - v86 / (7 : Int32) * (7 : Int32) →
  ¬ (2 : Int32) = 0 ∧ ∀ v88 : Int32, v88 = v83 - v83 / (2 : Int32) * (2 : Int32) →
  w82.K q1 = 4 ∧
  wp_X3_of q1 v79 (0 : Int32) w82 (fun v90 w89 => 
  w89.K q1 = 4 ∧
  wp_X3_of q1 v79 (4 : Int32) w89 (fun v92 w91 => 
  ∃ J93 : Int32 → Wd → Prop, (∀ (y94 : Int32) (w95 : Wd), J93 y94 w95 →
  wpc_1583 L xs q1 q4 n21 Inv22 y24 v79 y94 w95) ∧
  ((2 : Int32) ≤ v75 → ((5 : Int32) ≤ v75 → (¬ v75 = (5 : Int32) → (¬ v75 = (6 : Int32) → ((11 : Int32) ≤ v75 → (¬ v75 = (11 : Int32) → ((14 : Int32) ≤ v75 → ((16 : Int32) ≤ v75 → (¬ v75 = (16 : Int32) → (¬ v75 = (17 : Int32) → (¬ v75 = (18 : Int32) → (v83 ≤ (500 : Int32) → J93 y23 w91) ∧ (¬ v83 ≤ (500 : Int32) → wpc_1425 L xs q1 v79 v87 v90 w91 v92 J93)) ∧ (v75 = (18 : Int32) → wpc_1367 L xs q1 v79 v87 w91 J93)) ∧ (v75 = (17 : Int32) → wpc_1259 L xs q1 v79 v83 w91 J93)) ∧ (v75 = (16 : Int32) → wpc_1130 L xs q1 v79 v83 v90 w91 v92 J93)) ∧ (¬ (16 : Int32) ≤ v75 → wpc_884 L xs q1 q4 v79 v83 v87 w91 v92 J93)) ∧ (¬ (14 : Int32) ≤ v75 → wpc_752 L xs q1 v79 v83 v90 w91 v92 J93)) ∧ (v75 = (11 : Int32) → wpc_614 L xs q1 v79 v88 v90 w91 v92 J93)) ∧ (¬ (11 : Int32) ≤ v75 → wpc_513 L xs q1 v83 v88 w91 J93)) ∧ (v75 = (6 : Int32) → wpc_454 L xs q1 v79 v83 v88 w91 J93)) ∧ (v75 = (5 : Int32) → wpc_393 L xs q1 v83 v88 w91 J93)) ∧ (¬ (5 : Int32) ≤ v75 → wpc_328 L xs q1 v79 v88 w91 J93)) ∧ (¬ (2 : Int32) ≤ v75 → wpc_258 L xs q1 v79 v83 v90 w91 v92 J93)) (fun _ _ => False)) (fun _ _ => False))))
set_option maxHeartbeats 8000000 in
set_option maxRecDepth 100000 in
theorem q_167 {p : Program} {e : Env} {s : State} {m : MethodId} {below : List Frame} {meth : Method} {c : Code} {l : Launch} {G : GT} {L0 b L : Nat} {xs : Nat → Int32} (hst : l.stackTraces = false) (hL0 : L0 = s.heap.size) (X : GC l G L0 p s m #[Value.ref b] meth c code 16 "SusuRingLaw") (hr : meth.sig.returnType = ret) (hX : va_X b L xs s s.heap) (hb : b < s.heap.size) (hbA : ¬ GA L0 b) (hLL : L < 2 ^ 31) {q1 : Nat} {q4 : Nat} {n21 : Nat} {Inv22 : Nat → Int32 → Int32 → Wd → Prop} {y23 : Int32} {y24 : Int32} {w25 : Wd} (hnbn21 : n21 ≤ 51) (ihn21 : ∀ (mn21 : Nat), mn21 < n21 → mn21 ≤ 51 → ∀ (y23 : Int32) (y24 : Int32) (w25 : Wd), Inv22 mn21 y23 y24 w25 → Gw l G L0 p e rm_L_law s m #[Value.ref b] below meth c 16 (530 + (51 - mn21) * 920 + 0) (12685 + (51 - mn21) * 13524 + 0) (lw_Z below #[Value.ref b] s) w25 156 [(0, .inr (some b)), (1, .inr (some q1)), (2, .inr (some q4)), (3, .inl y23), (4, .inl y24)] []) (h : wpc_167 L xs q1 q4 n21 Inv22 y23 y24 w25) : Gw l G L0 p e rm_L_law s m #[Value.ref b] below meth c 16 (530 + (51 - n21) * 920 + 0) (12685 + (51 - n21) * 13524 + 0) (lw_Z below #[Value.ref b] s) w25 167 [(0, .inr (some b)), (1, .inr (some q1)), (2, .inr (some q4)), (3, .inl y23), (4, .inl y24)] [] := by
  refine g_aload_n X dL_law_167 rfl 0 rfl ?_
  refine g_iconst X (v := (4 : Int32)) dL_law_168 (by decide) ?_
  refine g_iload X dL_law_169 4 rfl ?_
  refine g_imul X dL_law_171 (fun v72 hv => ?_)
  replace h := h v72 hv; clear hv
  refine g_bipush X (v := (18 : Int32)) dL_law_172 (by decide) ?_
  refine g_iadd X dL_law_174 (fun v73 hv => ?_)
  replace h := h v73 hv; clear hv
  refine g_bipush X (v := (20 : Int32)) dL_law_175 (by decide) ?_
  refine g_callD X hX hb hbA (st := []) (c_L_drawn hst hLL h) m_478 m_479 m_14 m_480 (Nat.zero_le _) (by decide +kernel) ⟨(by have e1 : rm_L_law.cells = 1097659 := rfl; have e2 : rm_L_law.slots = 5808648 := rfl; omega), (by have e1 : rm_L_law.cells = 1097659 := rfl; have e2 : rm_L_law.slots = 5808648 := rfl; omega)⟩ dL_law_177 (fun v75 w74 h => ?_)
  refine g_istore X [(5, .inl v75), (0, .inr (some b)), (1, .inr (some q1)), (2, .inr (some q4)), (3, .inl y23), (4, .inl y24)] dL_law_180 (by decide) rfl ?_
  refine g_aload_n X dL_law_182 rfl 1 rfl ?_
  refine g_iconst X (v := (4 : Int32)) dL_law_183 (by decide) ?_
  refine g_iload X dL_law_184 5 rfl ?_
  refine g_imul X dL_law_186 (fun v76 hv => ?_)
  replace h := h v76 hv; clear hv
  refine g_bipush X (v := (19 : Int32)) dL_law_187 (by decide) ?_
  refine g_iadd X dL_law_189 (fun v77 hv => ?_)
  replace h := h v77 hv; clear hv
  refine g_bipush X (v := (7 : Int32)) dL_law_190 (by decide) ?_
  refine g_callD X hX hb hbA (st := []) (c_L_drawn hst hLL h) m_478 m_479 m_14 m_480 (Nat.zero_le _) (by decide +kernel) ⟨(by have e1 : rm_L_law.cells = 1097659 := rfl; have e2 : rm_L_law.slots = 5808648 := rfl; omega), (by have e1 : rm_L_law.cells = 1097659 := rfl; have e2 : rm_L_law.slots = 5808648 := rfl; omega)⟩ dL_law_192 (fun v79 w78 h => ?_)
  refine g_istore X [(6, .inl v79), (5, .inl v75), (0, .inr (some b)), (1, .inr (some q1)), (2, .inr (some q4)), (3, .inl y23), (4, .inl y24)] dL_law_195 (by decide) rfl ?_
  refine g_aload_n X dL_law_197 rfl 2 rfl ?_
  refine g_iconst X (v := (4 : Int32)) dL_law_198 (by decide) ?_
  refine g_iload X dL_law_199 6 rfl ?_
  refine g_imul X dL_law_201 (fun v80 hv => ?_)
  replace h := h v80 hv; clear hv
  refine g_bipush X (v := (20 : Int32)) dL_law_202 (by decide) ?_
  refine g_iadd X dL_law_204 (fun v81 hv => ?_)
  replace h := h v81 hv; clear hv
  refine g_sipush X (v := (840 : Int32)) dL_law_205 (by decide) ?_
  refine g_callD X hX hb hbA (st := []) (c_L_drawn hst hLL h) m_478 m_479 m_14 m_480 (Nat.zero_le _) (by decide +kernel) ⟨(by have e1 : rm_L_law.cells = 1097659 := rfl; have e2 : rm_L_law.slots = 5808648 := rfl; omega), (by have e1 : rm_L_law.cells = 1097659 := rfl; have e2 : rm_L_law.slots = 5808648 := rfl; omega)⟩ dL_law_208 (fun v83 w82 h => ?_)
  refine g_istore X [(7, .inl v83), (6, .inl v79), (5, .inl v75), (0, .inr (some b)), (1, .inr (some q1)), (2, .inr (some q4)), (3, .inl y23), (4, .inl y24)] dL_law_211 (by decide) rfl ?_
  refine g_iload X dL_law_213 1 rfl ?_
  refine g_iconst X (v := (1 : Int32)) dL_law_215 (by decide) ?_
  refine g_iadd X dL_law_216 (fun v84 hv => ?_)
  replace h := h v84 hv; clear hv
  refine g_iload X dL_law_217 0 rfl ?_
  refine g_bipush X (v := (6 : Int32)) dL_law_219 (by decide) ?_
  refine g_irem X dL_law_221 h.1 (fun v85 hv => ?_)
  replace h := h.2 v85 hv; clear hv
  refine g_iadd X dL_law_222 (fun v86 hv => ?_)
  replace h := h v86 hv; clear hv
  refine g_bipush X (v := (7 : Int32)) dL_law_223 (by decide) ?_
  refine g_irem X dL_law_225 h.1 (fun v87 hv => ?_)
  replace h := h.2 v87 hv; clear hv
  refine g_istore X [(8, .inl v87), (7, .inl v83), (6, .inl v79), (5, .inl v75), (0, .inr (some b)), (1, .inr (some q1)), (2, .inr (some q4)), (3, .inl y23), (4, .inl y24)] dL_law_226 (by decide) rfl ?_
  refine g_iload X dL_law_228 1 rfl ?_
  refine g_iconst X (v := (2 : Int32)) dL_law_230 (by decide) ?_
  refine g_irem X dL_law_231 h.1 (fun v88 hv => ?_)
  replace h := h.2 v88 hv; clear hv
  refine g_istore X [(9, .inl v88), (8, .inl v87), (7, .inl v83), (6, .inl v79), (5, .inl v75), (0, .inr (some b)), (1, .inr (some q1)), (2, .inr (some q4)), (3, .inl y23), (4, .inl y24)] dL_law_232 (by decide) rfl ?_
  refine g_aload_n X dL_law_234 rfl 6 rfl ?_
  refine g_iload X dL_law_235 3 rfl ?_
  refine g_iconst X (v := (0 : Int32)) dL_law_237 (by decide) ?_
  have hk := h.1
  replace h := h.2
  refine g_callFV_i X (As := [.int v79, .int (0 : Int32)]) (st := []) (n := 2) (c_X3_of hst h) rfl (by decide) hk (wE_4 G w82 q1) m_410 m_411 m_412 m_15 m_413 (by decide +kernel) (by decide +kernel) rfl rfl (Nat.zero_le _) ⟨(by have e1 : rm_L_law.cells = 1097659 := rfl; have e2 : rm_L_law.slots = 5808648 := rfl; have e3 : rm_X3_of.cells = 2 := rfl; have e4 : rm_X3_of.slots = 12 := rfl; omega), (by have e1 : rm_L_law.cells = 1097659 := rfl; have e2 : rm_L_law.slots = 5808648 := rfl; have e3 : rm_X3_of.cells = 2 := rfl; have e4 : rm_X3_of.slots = 12 := rfl; omega)⟩ dL_law_238 (fun v90 w89 h => ?_)
  clear hk
  refine g_widen (c2 := (530 + (51 - n21) * 920 + 2)) (s2 := (12685 + (51 - n21) * 13524 + 12)) (by have e1 : rm_X3_of.cells = 2 := rfl; omega) (by have e1 : rm_X3_of.slots = 12 := rfl; omega) ?_
  refine g_istore X [(10, .inl v90), (9, .inl v88), (8, .inl v87), (7, .inl v83), (6, .inl v79), (5, .inl v75), (0, .inr (some b)), (1, .inr (some q1)), (2, .inr (some q4)), (3, .inl y23), (4, .inl y24)] dL_law_241 (by decide) rfl ?_
  refine g_aload_n X dL_law_243 rfl 7 rfl ?_
  refine g_iload X dL_law_244 4 rfl ?_
  refine g_iconst X (v := (4 : Int32)) dL_law_246 (by decide) ?_
  have hk := h.1
  replace h := h.2
  refine g_callFV_i X (As := [.int v79, .int (4 : Int32)]) (st := []) (n := 2) (c_X3_of hst h) rfl (by decide) hk (wE_4 G w89 q1) m_410 m_411 m_412 m_15 m_413 (by decide +kernel) (by decide +kernel) rfl rfl (Nat.zero_le _) ⟨(by have e1 : rm_L_law.cells = 1097659 := rfl; have e2 : rm_L_law.slots = 5808648 := rfl; have e3 : rm_X3_of.cells = 2 := rfl; have e4 : rm_X3_of.slots = 12 := rfl; omega), (by have e1 : rm_L_law.cells = 1097659 := rfl; have e2 : rm_L_law.slots = 5808648 := rfl; have e3 : rm_X3_of.cells = 2 := rfl; have e4 : rm_X3_of.slots = 12 := rfl; omega)⟩ dL_law_247 (fun v92 w91 h => ?_)
  clear hk
  refine g_widen (c2 := (530 + (51 - n21) * 920 + 4)) (s2 := (12685 + (51 - n21) * 13524 + 24)) (by have e1 : rm_X3_of.cells = 2 := rfl; omega) (by have e1 : rm_X3_of.slots = 12 := rfl; omega) ?_
  refine g_istore X [(11, .inl v92), (10, .inl v90), (9, .inl v88), (8, .inl v87), (7, .inl v83), (6, .inl v79), (5, .inl v75), (0, .inr (some b)), (1, .inr (some q1)), (2, .inr (some q4)), (3, .inl y23), (4, .inl y24)] dL_law_250 (by decide) rfl ?_
  refine g_iload X dL_law_252 6 rfl ?_
  refine g_iconst X (v := (2 : Int32)) dL_law_254 (by decide) ?_
  obtain ⟨J93, hjJ93, h⟩ := h
  have jp93 : ∀ (y94 : Int32) (w95 : Wd), J93 y94 w95 → Gw l G L0 p e rm_L_law s m #[Value.ref b] below meth c 16 (530 + (51 - n21) * 920 + 358) (12685 + (51 - n21) * 13524 + 10152) (lw_Z below #[Value.ref b] s) w95 1583 [(0, .inr (some b)), (1, .inr (some q1)), (2, .inr (some q4)), (3, .inl y94), (4, .inl y24), (6, .inl v79)] [] := by
    intro y94 w95 hJ
    have h := hjJ93 y94 w95 hJ
    clear hJ
    exact q_1583 hst hL0 X hr hX hb hbA hLL hnbn21 ihn21 h
  refine g_icmp_ge X (tgt := 322) dL_law_255 (by decide) (fun hc => ?_) (fun hc => ?_)
  · replace h := h.1 hc; clear hc
    refine g_iload X dL_law_322 6 rfl ?_
    refine g_iconst X (v := (5 : Int32)) dL_law_324 (by decide) ?_
    refine g_icmp_ge X (tgt := 387) dL_law_325 (by decide) (fun hc => ?_) (fun hc => ?_)
    · replace h := h.1 hc; clear hc
      refine g_iload X dL_law_387 6 rfl ?_
      refine g_iconst X (v := (5 : Int32)) dL_law_389 (by decide) ?_
      refine g_icmp_ne X (tgt := 447) dL_law_390 (by decide) (fun hc => ?_) (fun hc => ?_)
      · replace h := h.1 hc; clear hc
        refine g_iload X dL_law_447 6 rfl ?_
        refine g_bipush X (v := (6 : Int32)) dL_law_449 (by decide) ?_
        refine g_icmp_ne X (tgt := 506) dL_law_451 (by decide) (fun hc => ?_) (fun hc => ?_)
        · replace h := h.1 hc; clear hc
          refine g_iload X dL_law_506 6 rfl ?_
          refine g_bipush X (v := (11 : Int32)) dL_law_508 (by decide) ?_
          refine g_icmp_ge X (tgt := 607) dL_law_510 (by decide) (fun hc => ?_) (fun hc => ?_)
          · replace h := h.1 hc; clear hc
            refine g_iload X dL_law_607 6 rfl ?_
            refine g_bipush X (v := (11 : Int32)) dL_law_609 (by decide) ?_
            refine g_icmp_ne X (tgt := 745) dL_law_611 (by decide) (fun hc => ?_) (fun hc => ?_)
            · replace h := h.1 hc; clear hc
              refine g_iload X dL_law_745 6 rfl ?_
              refine g_bipush X (v := (14 : Int32)) dL_law_747 (by decide) ?_
              refine g_icmp_ge X (tgt := 877) dL_law_749 (by decide) (fun hc => ?_) (fun hc => ?_)
              · replace h := h.1 hc; clear hc
                refine g_iload X dL_law_877 6 rfl ?_
                refine g_bipush X (v := (16 : Int32)) dL_law_879 (by decide) ?_
                refine g_icmp_ge X (tgt := 1123) dL_law_881 (by decide) (fun hc => ?_) (fun hc => ?_)
                · replace h := h.1 hc; clear hc
                  refine g_iload X dL_law_1123 6 rfl ?_
                  refine g_bipush X (v := (16 : Int32)) dL_law_1125 (by decide) ?_
                  refine g_icmp_ne X (tgt := 1252) dL_law_1127 (by decide) (fun hc => ?_) (fun hc => ?_)
                  · replace h := h.1 hc; clear hc
                    refine g_iload X dL_law_1252 6 rfl ?_
                    refine g_bipush X (v := (17 : Int32)) dL_law_1254 (by decide) ?_
                    refine g_icmp_ne X (tgt := 1360) dL_law_1256 (by decide) (fun hc => ?_) (fun hc => ?_)
                    · replace h := h.1 hc; clear hc
                      refine g_iload X dL_law_1360 6 rfl ?_
                      refine g_bipush X (v := (18 : Int32)) dL_law_1362 (by decide) ?_
                      refine g_icmp_ne X (tgt := 1417) dL_law_1364 (by decide) (fun hc => ?_) (fun hc => ?_)
                      · replace h := h.1 hc; clear hc
                        refine g_iload X dL_law_1417 4 rfl ?_
                        refine g_sipush X (v := (500 : Int32)) dL_law_1419 (by decide) ?_
                        refine g_icmp_le X (tgt := 1583) dL_law_1422 (by decide) (fun hc => ?_) (fun hc => ?_)
                        · replace h := h.1 hc; clear hc
                          refine g_widen (c2 := (530 + (51 - n21) * 920 + 358)) (s2 := (12685 + (51 - n21) * 13524 + 10152)) (by omega) (by omega) ?_
                          exact g_sub [7, 8, 9, 10, 11, 5] [(0, .inr (some b)), (1, .inr (some q1)), (2, .inr (some q4)), (3, .inl y23), (4, .inl y24), (6, .inl v79)] rfl (jp93 y23 w91 h)
                        · replace h := h.2 hc; clear hc
                          exact q_1425 hst hL0 X hr hX hb hbA hLL hnbn21 jp93 h
                      · replace h := h.2 hc; clear hc
                        exact q_1367 hst hL0 X hr hX hb hbA hLL hnbn21 jp93 h
                    · replace h := h.2 hc; clear hc
                      exact q_1259 hst hL0 X hr hX hb hbA hLL hnbn21 jp93 h
                  · replace h := h.2 hc; clear hc
                    exact q_1130 hst hL0 X hr hX hb hbA hLL hnbn21 jp93 h
                · replace h := h.2 hc; clear hc
                  exact q_884 hst hL0 X hr hX hb hbA hLL hnbn21 jp93 h
              · replace h := h.2 hc; clear hc
                exact q_752 hst hL0 X hr hX hb hbA hLL hnbn21 jp93 h
            · replace h := h.2 hc; clear hc
              exact q_614 hst hL0 X hr hX hb hbA hLL hnbn21 jp93 h
          · replace h := h.2 hc; clear hc
            exact q_513 hst hL0 X hr hX hb hbA hLL hnbn21 jp93 h
        · replace h := h.2 hc; clear hc
          exact q_454 hst hL0 X hr hX hb hbA hLL hnbn21 jp93 h
      · replace h := h.2 hc; clear hc
        exact q_393 hst hL0 X hr hX hb hbA hLL hnbn21 jp93 h
    · replace h := h.2 hc; clear hc
      exact q_328 hst hL0 X hr hX hb hbA hLL hnbn21 jp93 h
  · replace h := h.2 hc; clear hc
    exact q_258 hst hL0 X hr hX hb hbA hLL hnbn21 jp93 h

def wpc_156 (L : Nat) (xs : Nat → Int32) (q1 : Nat) (q4 : Nat) (y18 : Int32) (w20 : Wd) : Prop :=
  ∃ Inv22 : Nat → Int32 → Int32 → Wd → Prop, (∃ n : Nat, n ≤ 51 ∧ Inv22 n y18 (0 : Int32) w20) ∧ ∀ (n21 : Nat) (y23 : Int32) (y24 : Int32) (w25 : Wd), Inv22 n21 y23 y24 w25 →
  ∃ J26 : Prop, (J26 →
  wpc_1649 L xs q1 y23 w25) ∧
  ((50 : Int32) ≤ y24 → J26) ∧ (¬ (50 : Int32) ≤ y24 → (y23 = 0 → J26) ∧ (¬ y23 = 0 → wpc_167 L xs q1 q4 n21 Inv22 y23 y24 w25))
set_option maxHeartbeats 8000000 in
set_option maxRecDepth 100000 in
theorem q_156 {p : Program} {e : Env} {s : State} {m : MethodId} {below : List Frame} {meth : Method} {c : Code} {l : Launch} {G : GT} {L0 b L : Nat} {xs : Nat → Int32} (hst : l.stackTraces = false) (hL0 : L0 = s.heap.size) (X : GC l G L0 p s m #[Value.ref b] meth c code 16 "SusuRingLaw") (hr : meth.sig.returnType = ret) (hX : va_X b L xs s s.heap) (hb : b < s.heap.size) (hbA : ¬ GA L0 b) (hLL : L < 2 ^ 31) {q1 : Nat} {q4 : Nat} {n16 : Nat} {y18 : Int32} {w20 : Wd} (hnbn16 : n16 ≤ 51) (h : wpc_156 L xs q1 q4 y18 w20) : Gw l G L0 p e rm_L_law s m #[Value.ref b] below meth c 16 (20 + (51 - n16) * 10 + 0) (394 + (51 - n16) * 241 + 0) (lw_Z below #[Value.ref b] s) w20 156 [(4, .inl (0 : Int32)), (0, .inr (some b)), (1, .inr (some q1)), (2, .inr (some q4)), (3, .inl y18)] [] := by
  refine g_widen (c2 := (530)) (s2 := (12685)) (by omega) (by omega) ?_
  obtain ⟨Inv22, ⟨n0, hn0, hi⟩, hsn21⟩ := h
  have lp22 : ∀ (n21 : Nat), n21 ≤ 51 → ∀ (y23 : Int32) (y24 : Int32) (w25 : Wd), Inv22 n21 y23 y24 w25 → Gw l G L0 p e rm_L_law s m #[Value.ref b] below meth c 16 (530 + (51 - n21) * 920 + 0) (12685 + (51 - n21) * 13524 + 0) (lw_Z below #[Value.ref b] s) w25 156 [(0, .inr (some b)), (1, .inr (some q1)), (2, .inr (some q4)), (3, .inl y23), (4, .inl y24)] [] := by
    intro n21
    induction n21 using Nat.strongRecOn with
    | ind n21 ihn21 =>
      intro hnbn21 y23 y24 w25 hI
      have h := hsn21 n21 y23 y24 w25 hI
      clear hI
      refine g_iload X dL_law_156 4 rfl ?_
      refine g_bipush X (v := (50 : Int32)) dL_law_158 (by decide) ?_
      obtain ⟨J26, hjJ26, h⟩ := h
      have jp26 : J26 → Gw l G L0 p e rm_L_law s m #[Value.ref b] below meth c 16 (530 + (51 - n21) * 920 + 0) (12685 + (51 - n21) * 13524 + 0) (lw_Z below #[Value.ref b] s) w25 1649 [(1, .inr (some q1)), (3, .inl y23)] [] := by
        intro hJ
        have h := hjJ26 hJ
        clear hJ
        exact q_1649 hst hL0 X hr hX hb hbA hLL hnbn21 h
      refine g_icmp_ge X (tgt := 1649) dL_law_160 (by decide) (fun hc => ?_) (fun hc => ?_)
      · replace h := h.1 hc; clear hc
        exact g_sub [1, 3] [(1, .inr (some q1)), (3, .inl y23)] rfl (jp26  h)
      · replace h := h.2 hc; clear hc
        refine g_iload_n X dL_law_163 rfl 3 rfl ?_
        refine g_if_eq X (tgt := 1649) dL_law_164 (by decide) (fun hc => ?_) (fun hc => ?_)
        · replace h := h.1 hc; clear hc
          exact g_sub [1, 3] [(1, .inr (some q1)), (3, .inl y23)] rfl (jp26  h)
        · replace h := h.2 hc; clear hc
          exact q_167 hst hL0 X hr hX hb hbA hLL hnbn21 ihn21 h
  refine g_widen (c2 := (530 + (51 - n0) * 920 + 0)) (s2 := (12685 + (51 - n0) * 13524 + 0)) (by omega) (by omega) ?_
  exact g_sub [1, 2, 3, 4, 0] [(0, .inr (some b)), (1, .inr (some q1)), (2, .inr (some q4)), (3, .inl y18), (4, .inl (0 : Int32))] rfl (lp22 n0 hn0 y18 (0 : Int32) w20 hi)

def wpc_153 (L : Nat) (xs : Nat → Int32) (q1 : Nat) (q4 : Nat) (y18 : Int32) (w20 : Wd) : Prop :=
  wpc_156 L xs q1 q4 y18 w20
set_option maxHeartbeats 8000000 in
set_option maxRecDepth 100000 in
theorem q_153 {p : Program} {e : Env} {s : State} {m : MethodId} {below : List Frame} {meth : Method} {c : Code} {l : Launch} {G : GT} {L0 b L : Nat} {xs : Nat → Int32} (hst : l.stackTraces = false) (hL0 : L0 = s.heap.size) (X : GC l G L0 p s m #[Value.ref b] meth c code 16 "SusuRingLaw") (hr : meth.sig.returnType = ret) (hX : va_X b L xs s s.heap) (hb : b < s.heap.size) (hbA : ¬ GA L0 b) (hLL : L < 2 ^ 31) {q1 : Nat} {q4 : Nat} {n16 : Nat} {y18 : Int32} {y19 : Int32} {w20 : Wd} (hnbn16 : n16 ≤ 51) (h : wpc_153 L xs q1 q4 y18 w20) : Gw l G L0 p e rm_L_law s m #[Value.ref b] below meth c 16 (20 + (51 - n16) * 10 + 0) (394 + (51 - n16) * 241 + 0) (lw_Z below #[Value.ref b] s) w20 153 [(0, .inr (some b)), (1, .inr (some q1)), (2, .inr (some q4)), (3, .inl y18), (4, .inl y19)] [] := by
  refine g_iconst X (v := (0 : Int32)) dL_law_153 (by decide) ?_
  refine g_istore X [(4, .inl (0 : Int32)), (0, .inr (some b)), (1, .inr (some q1)), (2, .inr (some q4)), (3, .inl y18)] dL_law_154 (by decide) rfl ?_
  exact q_156 hst hL0 X hr hX hb hbA hLL hnbn16 h

def wpc_67 (L : Nat) (xs : Nat → Int32) (q1 : Nat) (q4 : Nat) (y14 : Int32) (w15 : Wd) : Prop :=
  ∃ Inv17 : Nat → Int32 → Int32 → Wd → Prop, (∃ n : Nat, n ≤ 51 ∧ Inv17 n y14 (0 : Int32) w15) ∧ ∀ (n16 : Nat) (y18 : Int32) (y19 : Int32) (w20 : Wd), Inv17 n16 y18 y19 w20 →
  ((7 : Int32) ≤ y19 → wpc_153 L xs q1 q4 y18 w20) ∧ (¬ (7 : Int32) ≤ y19 → ∀ v430 : Int32, v430 = (4 : Int32) + y19 →
  wp_L_drawn L xs v430 (3 : Int32) w20 (fun v432 w431 => 
  ∀ v433 : Int32, v433 = v432 * (10101 : Int32) →
  ∀ v434 : Int32, v434 = (11 : Int32) + y19 →
  wp_L_drawn L xs v434 (3 : Int32) w431 (fun v436 w435 => 
  ∀ v437 : Int32, v437 = v433 + v436 →
  w435.K q4 = 11 ∧
  ∃ j438 : Nat, y19 = nI j438 ∧ j438 < w435.N q4 ∧ w435.N q4 < 2 ^ 31 ∧
  ∀ w439 : Wd, w439 = w435.setA q4 j438 v437 →
  ∃ J440 : Int32 → Wd → Prop, (∀ (y441 : Int32) (w442 : Wd), J440 y441 w442 →
  ∀ v443 : Int32, v443 = y19 + (1 : Int32) →
  ∃ n : Nat, n < n16 ∧ Inv17 n y441 v443 w442) ∧
  ∃ J444 : Wd → Prop, (∀  (w445 : Wd), J444 w445 →
  J440 (0 : Int32) w445) ∧
  (y18 = 0 → J444 w439) ∧ (¬ y18 = 0 → ∀ v446 : Int32, v446 = (5 : Int32) * y19 →
  ∀ v447 : Int32, v447 = (20 : Int32) + v446 →
  w439.K q4 = 11 ∧
  ∃ j448 : Nat, y19 = nI j448 ∧ j448 < w439.N q4 ∧ w439.N q4 < 2 ^ 31 ∧
  ∀ v449 : Int32, v449 = w439.A q4 j448 →
  w439.K q1 = 4 ∧
  wp_X3_person q1 v447 v449 w439 (fun v451 w450 => 
  (¬ v451 = y19 → J444 w450) ∧ (v451 = y19 → w450.K q1 = 4 ∧
  wp_X3_earn q1 y19 (200 : Int32) w450 (fun v453 w452 => 
  (¬ v453 = (200 : Int32) → J444 w452) ∧ (v453 = (200 : Int32) → J440 (1 : Int32) w452)) (fun _ _ => False))) (fun _ _ => False)))))
set_option maxHeartbeats 8000000 in
set_option maxRecDepth 100000 in
theorem q_67 {p : Program} {e : Env} {s : State} {m : MethodId} {below : List Frame} {meth : Method} {c : Code} {l : Launch} {G : GT} {L0 b L : Nat} {xs : Nat → Int32} (hst : l.stackTraces = false) (hL0 : L0 = s.heap.size) (X : GC l G L0 p s m #[Value.ref b] meth c code 16 "SusuRingLaw") (hr : meth.sig.returnType = ret) (hX : va_X b L xs s s.heap) (hb : b < s.heap.size) (hbA : ¬ GA L0 b) (hLL : L < 2 ^ 31) {q1 : Nat} {q4 : Nat} {y14 : Int32} {w15 : Wd} (h : wpc_67 L xs q1 q4 y14 w15) : Gw l G L0 p e rm_L_law s m #[Value.ref b] below meth c 16 (20) (394) (lw_Z below #[Value.ref b] s) w15 67 [(4, .inl (0 : Int32)), (3, .inl y14), (0, .inr (some b)), (1, .inr (some q1)), (2, .inr (some q4))] [] := by
  obtain ⟨Inv17, ⟨n0, hn0, hi⟩, hsn16⟩ := h
  have lp17 : ∀ (n16 : Nat), n16 ≤ 51 → ∀ (y18 : Int32) (y19 : Int32) (w20 : Wd), Inv17 n16 y18 y19 w20 → Gw l G L0 p e rm_L_law s m #[Value.ref b] below meth c 16 (20 + (51 - n16) * 10 + 0) (394 + (51 - n16) * 241 + 0) (lw_Z below #[Value.ref b] s) w20 67 [(0, .inr (some b)), (1, .inr (some q1)), (2, .inr (some q4)), (3, .inl y18), (4, .inl y19)] [] := by
    intro n16
    induction n16 using Nat.strongRecOn with
    | ind n16 ihn16 =>
      intro hnbn16 y18 y19 w20 hI
      have h := hsn16 n16 y18 y19 w20 hI
      clear hI
      refine g_iload X dL_law_67 4 rfl ?_
      refine g_bipush X (v := (7 : Int32)) dL_law_69 (by decide) ?_
      refine g_icmp_ge X (tgt := 153) dL_law_71 (by decide) (fun hc => ?_) (fun hc => ?_)
      · replace h := h.1 hc; clear hc
        exact q_153 hst hL0 X hr hX hb hbA hLL hnbn16 h
      · replace h := h.2 hc; clear hc
        refine g_aload_n X dL_law_74 rfl 2 rfl ?_
        refine g_iload X dL_law_75 4 rfl ?_
        refine g_aload_n X dL_law_77 rfl 0 rfl ?_
        refine g_iconst X (v := (4 : Int32)) dL_law_78 (by decide) ?_
        refine g_iload X dL_law_79 4 rfl ?_
        refine g_iadd X dL_law_81 (fun v430 hv => ?_)
        replace h := h v430 hv; clear hv
        refine g_iconst X (v := (3 : Int32)) dL_law_82 (by decide) ?_
        refine g_callD X hX hb hbA (st := [.int y19, va_rf (some q4)]) (c_L_drawn hst hLL h) m_478 m_479 m_14 m_480 (by simp [cat_int, rf_cat]) (by decide +kernel) ⟨(by have e1 : rm_L_law.cells = 1097659 := rfl; have e2 : rm_L_law.slots = 5808648 := rfl; omega), (by have e1 : rm_L_law.cells = 1097659 := rfl; have e2 : rm_L_law.slots = 5808648 := rfl; omega)⟩ dL_law_83 (fun v432 w431 h => ?_)
        refine g_sipush X (v := (10101 : Int32)) dL_law_86 (by decide) ?_
        refine g_imul X dL_law_89 (fun v433 hv => ?_)
        replace h := h v433 hv; clear hv
        refine g_aload_n X dL_law_90 rfl 0 rfl ?_
        refine g_bipush X (v := (11 : Int32)) dL_law_91 (by decide) ?_
        refine g_iload X dL_law_93 4 rfl ?_
        refine g_iadd X dL_law_95 (fun v434 hv => ?_)
        replace h := h v434 hv; clear hv
        refine g_iconst X (v := (3 : Int32)) dL_law_96 (by decide) ?_
        refine g_callD X hX hb hbA (st := [.int v433, .int y19, va_rf (some q4)]) (c_L_drawn hst hLL h) m_478 m_479 m_14 m_480 (by simp [cat_int, rf_cat]) (by decide +kernel) ⟨(by have e1 : rm_L_law.cells = 1097659 := rfl; have e2 : rm_L_law.slots = 5808648 := rfl; omega), (by have e1 : rm_L_law.cells = 1097659 := rfl; have e2 : rm_L_law.slots = 5808648 := rfl; omega)⟩ dL_law_97 (fun v436 w435 h => ?_)
        refine g_iadd X dL_law_100 (fun v437 hv => ?_)
        replace h := h v437 hv; clear hv
        have hk := h.1
        replace h := h.2
        obtain ⟨j438, hi, hj, hN, h⟩ := h
        refine g_iast X hk hi hj hN dL_law_101 (fun w439 hv => ?_)
        replace h := h w439 hv; clear hv hk hi hj hN
        refine g_iload_n X dL_law_102 rfl 3 rfl ?_
        obtain ⟨J440, hjJ440, h⟩ := h
        have jp440 : ∀ (y441 : Int32) (w442 : Wd), J440 y441 w442 → Gw l G L0 p e rm_L_law s m #[Value.ref b] below meth c 16 (20 + (51 - n16) * 10 + 10) (394 + (51 - n16) * 241 + 241) (lw_Z below #[Value.ref b] s) w442 146 [(0, .inr (some b)), (1, .inr (some q1)), (2, .inr (some q4)), (4, .inl y19)] [.int y441] := by
          intro y441 w442 hJ
          have h := hjJ440 y441 w442 hJ
          clear hJ
          refine g_istore_n X [(3, .inl y441), (0, .inr (some b)), (1, .inr (some q1)), (2, .inr (some q4)), (4, .inl y19)] dL_law_146 rfl (by decide) rfl ?_
          refine g_iinc X dL_law_147 4 rfl (d := (1 : Int32)) (by decide) (by decide) (fun v443 hv => ?_)
          replace h := h v443 hv; clear hv
          refine g_sub [0, 1, 2, 3, 4] [(4, .inl v443), (3, .inl y441), (0, .inr (some b)), (1, .inr (some q1)), (2, .inr (some q4))] rfl ?_
          refine g_goto X (tgt := 67) dL_law_150 (by decide) ?_
          obtain ⟨n, hn, hI⟩ := h
          refine g_widen (c2 := (20 + (51 - n) * 10 + 0)) (s2 := (394 + (51 - n) * 241 + 0)) (by omega) (by omega) ?_
          exact g_sub [2, 3, 4, 1, 0] [(0, .inr (some b)), (1, .inr (some q1)), (2, .inr (some q4)), (3, .inl y441), (4, .inl v443)] rfl (ihn16 n hn (by omega) y441 v443 w442 hI)
        obtain ⟨J444, hjJ444, h⟩ := h
        have jp444 : ∀  (w445 : Wd), J444 w445 → Gw l G L0 p e rm_L_law s m #[Value.ref b] below meth c 16 (20 + (51 - n16) * 10 + 10) (394 + (51 - n16) * 241 + 241) (lw_Z below #[Value.ref b] s) w445 145 [(0, .inr (some b)), (1, .inr (some q1)), (2, .inr (some q4)), (4, .inl y19)] [] := by
          intro w445 hJ
          have h := hjJ444 w445 hJ
          clear hJ
          refine g_iconst X (v := (0 : Int32)) dL_law_145 (by decide) ?_
          exact g_sub [0, 1, 2, 3] [(0, .inr (some b)), (1, .inr (some q1)), (2, .inr (some q4)), (4, .inl y19)] rfl (jp440 (0 : Int32) w445 h)
        refine g_if_eq X (tgt := 145) dL_law_103 (by decide) (fun hc => ?_) (fun hc => ?_)
        · replace h := h.1 hc; clear hc
          refine g_widen (c2 := (20 + (51 - n16) * 10 + 10)) (s2 := (394 + (51 - n16) * 241 + 241)) (by omega) (by omega) ?_
          exact g_sub [0, 1, 2, 4] [(0, .inr (some b)), (1, .inr (some q1)), (2, .inr (some q4)), (4, .inl y19)] rfl (jp444 w439 h)
        · replace h := h.2 hc; clear hc
          refine g_aload_n X dL_law_106 rfl 1 rfl ?_
          refine g_bipush X (v := (20 : Int32)) dL_law_107 (by decide) ?_
          refine g_iconst X (v := (5 : Int32)) dL_law_109 (by decide) ?_
          refine g_iload X dL_law_110 4 rfl ?_
          refine g_imul X dL_law_112 (fun v446 hv => ?_)
          replace h := h v446 hv; clear hv
          refine g_iadd X dL_law_113 (fun v447 hv => ?_)
          replace h := h v447 hv; clear hv
          refine g_aload_n X dL_law_114 rfl 2 rfl ?_
          refine g_iload X dL_law_115 4 rfl ?_
          have hk := h.1
          replace h := h.2
          obtain ⟨j448, hi, hj, hN, h⟩ := h
          refine g_iald X hk hi hj hN dL_law_117 (fun v449 hv => ?_)
          replace h := h v449 hv; clear hv hk hi hj hN
          have hk := h.1
          replace h := h.2
          refine g_callFV_i X (As := [.int v447, .int v449]) (st := []) (n := 2) (c_X3_person hst h) rfl (by decide) hk (wE_4 G w439 q1) m_81 m_82 m_83 m_15 m_84 (by decide +kernel) (by decide +kernel) rfl rfl (Nat.zero_le _) ⟨(by have e1 : rm_L_law.cells = 1097659 := rfl; have e2 : rm_L_law.slots = 5808648 := rfl; have e3 : rm_X3_person.cells = 7 := rfl; have e4 : rm_X3_person.slots = 223 := rfl; omega), (by have e1 : rm_L_law.cells = 1097659 := rfl; have e2 : rm_L_law.slots = 5808648 := rfl; have e3 : rm_X3_person.cells = 7 := rfl; have e4 : rm_X3_person.slots = 223 := rfl; omega)⟩ dL_law_118 (fun v451 w450 h => ?_)
          clear hk
          refine g_widen (c2 := (20 + (51 - n16) * 10 + 7)) (s2 := (394 + (51 - n16) * 241 + 223)) (by have e1 : rm_X3_person.cells = 7 := rfl; omega) (by have e1 : rm_X3_person.slots = 223 := rfl; omega) ?_
          refine g_iload X dL_law_121 4 rfl ?_
          refine g_icmp_ne X (tgt := 145) dL_law_123 (by decide) (fun hc => ?_) (fun hc => ?_)
          · replace h := h.1 hc; clear hc
            refine g_widen (c2 := (20 + (51 - n16) * 10 + 10)) (s2 := (394 + (51 - n16) * 241 + 241)) (by omega) (by omega) ?_
            exact g_sub [0, 1, 2, 4] [(0, .inr (some b)), (1, .inr (some q1)), (2, .inr (some q4)), (4, .inl y19)] rfl (jp444 w450 h)
          · replace h := h.2 hc; clear hc
            refine g_aload_n X dL_law_126 rfl 1 rfl ?_
            refine g_iload X dL_law_127 4 rfl ?_
            refine g_sipush X (v := (200 : Int32)) dL_law_129 (by decide) ?_
            have hk := h.1
            replace h := h.2
            refine g_callFV_i X (As := [.int y19, .int (200 : Int32)]) (st := []) (n := 2) (c_X3_earn hst h) rfl (by decide) hk (wE_4 G w450 q1) m_291 m_292 m_293 m_15 m_294 (by decide +kernel) (by decide +kernel) rfl rfl (Nat.zero_le _) ⟨(by have e1 : rm_L_law.cells = 1097659 := rfl; have e2 : rm_L_law.slots = 5808648 := rfl; have e3 : rm_X3_earn.cells = 3 := rfl; have e4 : rm_X3_earn.slots = 18 := rfl; omega), (by have e1 : rm_L_law.cells = 1097659 := rfl; have e2 : rm_L_law.slots = 5808648 := rfl; have e3 : rm_X3_earn.cells = 3 := rfl; have e4 : rm_X3_earn.slots = 18 := rfl; omega)⟩ dL_law_132 (fun v453 w452 h => ?_)
            clear hk
            refine g_widen (c2 := (20 + (51 - n16) * 10 + 10)) (s2 := (394 + (51 - n16) * 241 + 241)) (by have e1 : rm_X3_earn.cells = 3 := rfl; omega) (by have e1 : rm_X3_earn.slots = 18 := rfl; omega) ?_
            refine g_sipush X (v := (200 : Int32)) dL_law_135 (by decide) ?_
            refine g_icmp_ne X (tgt := 145) dL_law_138 (by decide) (fun hc => ?_) (fun hc => ?_)
            · replace h := h.1 hc; clear hc
              exact g_sub [0, 1, 2, 4] [(0, .inr (some b)), (1, .inr (some q1)), (2, .inr (some q4)), (4, .inl y19)] rfl (jp444 w452 h)
            · replace h := h.2 hc; clear hc
              refine g_iconst X (v := (1 : Int32)) dL_law_141 (by decide) ?_
              refine g_goto X (tgt := 146) dL_law_142 (by decide) ?_
              exact g_sub [0, 1, 2, 4] [(0, .inr (some b)), (1, .inr (some q1)), (2, .inr (some q4)), (4, .inl y19)] rfl (jp440 (1 : Int32) w452 h)
  refine g_widen (c2 := (20 + (51 - n0) * 10 + 0)) (s2 := (394 + (51 - n0) * 241 + 0)) (by omega) (by omega) ?_
  exact g_sub [2, 3, 4, 1, 0] [(0, .inr (some b)), (1, .inr (some q1)), (2, .inr (some q4)), (3, .inl y14), (4, .inl (0 : Int32))] rfl (lp17 n0 hn0 y14 (0 : Int32) w15 hi)

def wp_L_law (L : Nat) (xs : Nat → Int32) (w : Wd) : Prop :=
  ∀ q1 : Nat, w.K q1 = 0 → ∀ w2 : Wd, w2 = w.new 4 q1 →
  wp_X3_init q1 w2 (fun w3 => 
  ∀ q4 : Nat, w3.K q4 = 0 → ∀ w5 : Wd, w5 = w3.newA 11 q4 7 →
  wp_L_drawn L xs (0 : Int32) (40 : Int32) w5 (fun v7 w6 => 
  ∀ v8 : Int32, v8 = (1 : Int32) + v7 →
  wp_L_drawn L xs (1 : Int32) (4 : Int32) w6 (fun v10 w9 => 
  w9.K q1 = 4 ∧
  wp_X3_circle q1 v8 v10 w9 (fun v12 w11 => 
  ∃ J13 : Int32 → Wd → Prop, (∀ (y14 : Int32) (w15 : Wd), J13 y14 w15 →
  wpc_67 L xs q1 q4 y14 w15) ∧
  ∃ J454 : Wd → Prop, (∀  (w455 : Wd), J454 w455 →
  J13 (0 : Int32) w455) ∧
  (¬ v12 = 0 → J454 w11) ∧ (v12 = 0 → wp_L_drawn L xs (2 : Int32) (40 : Int32) w11 (fun v457 w456 => 
  ∀ v458 : Int32, v458 = (1 : Int32) + v457 →
  wp_L_drawn L xs (3 : Int32) (4 : Int32) w456 (fun v460 w459 => 
  w459.K q1 = 4 ∧
  wp_X3_circle q1 v458 v460 w459 (fun v462 w461 => 
  (¬ v462 = (1 : Int32) → J454 w461) ∧ (v462 = (1 : Int32) → J13 (1 : Int32) w461)) (fun _ _ => False))))) (fun _ _ => False))))
set_option maxHeartbeats 8000000 in
set_option maxRecDepth 100000 in
theorem c_L_law {p : Program} {e : Env} {s : State} {m : MethodId} {below : List Frame} {meth : Method} {c : Code} {l : Launch} {G : GT} {L0 b L : Nat} {xs : Nat → Int32} (hst : l.stackTraces = false) (hL0 : L0 = s.heap.size) (X : GC l G L0 p s m #[Value.ref b] meth c code 16 "SusuRingLaw") (hr : meth.sig.returnType = ret) (hX : va_X b L xs s s.heap) (hb : b < s.heap.size) (hbA : ¬ GA L0 b) (hLL : L < 2 ^ 31) {w : Wd} (h : wp_L_law L xs w) : Gw l G L0 p e rm_L_law s m #[Value.ref b] below meth c 16 0 0 (lw_Z below #[Value.ref b] s) w 0 [(0, .inr (some b))] [] := by
  refine gnew_4 X m_34 m_35 m_15 (by decide +kernel) (by decide +kernel) dL_law_0 (fun q1 h1 w2 hv => ?_)
  replace h := h q1 h1 w2 hv; clear hv h1
  refine g_widen (c2 := (1)) (s2 := (4)) (by decide) (by decide) ?_
  refine g_dup X dL_law_3 rf_cat ?_
  refine g_callI_v X (As := []) (st := [va_rf (some q1)]) (n := 0) (c_X3_init hst h) m_36 m_37 rfl m_15 m_38 (by decide +kernel) (by decide +kernel) rfl rfl (by simp [cat_int, rf_cat]) ⟨(by decide +kernel), (by decide +kernel)⟩ dL_law_4 (fun w3 h => ?_)
  refine g_widen (c2 := (3)) (s2 := (10)) (by decide +kernel) (by decide +kernel) ?_
  refine g_astore_n X [(1, .inr (some q1)), (0, .inr (some b))] dL_law_7 rfl (by decide) rfl ?_
  refine g_bipush X (v := (7 : Int32)) dL_law_8 (by decide) ?_
  have hi : (7 : Int32) = nI 7 := by decide
  have hn : 7 ≤ 64 := by decide
  refine gnewA_11 X m_235 hi (by omega) (by have e1 : rm_L_law.cells = 1097659 := rfl; omega) (by have e2 : rm_L_law.slots = 5808648 := rfl; omega) dL_law_10 (fun q4 h1 w5 hv => ?_)
  replace h := h q4 h1 w5 hv; clear hv h1 hi
  refine g_widen (c2 := (4)) (s2 := (74)) (by omega) (by omega) ?_
  clear hn
  refine g_astore_n X [(2, .inr (some q4)), (1, .inr (some q1)), (0, .inr (some b))] dL_law_12 rfl (by decide) rfl ?_
  refine g_aload_n X dL_law_13 rfl 1 rfl ?_
  refine g_iconst X (v := (1 : Int32)) dL_law_14 (by decide) ?_
  refine g_aload_n X dL_law_15 rfl 2 rfl ?_
  refine g_iconst X (v := (0 : Int32)) dL_law_16 (by decide) ?_
  refine g_bipush X (v := (40 : Int32)) dL_law_17 (by decide) ?_
  refine g_callD X hX hb hbA (st := [.int (1 : Int32), va_rf (some q1)]) (c_L_drawn hst hLL h) m_478 m_479 m_14 m_480 (by simp [cat_int, rf_cat]) (by decide +kernel) ⟨(by decide +kernel), (by decide +kernel)⟩ dL_law_19 (fun v7 w6 h => ?_)
  refine g_iadd X dL_law_22 (fun v8 hv => ?_)
  replace h := h v8 hv; clear hv
  refine g_aload_n X dL_law_23 rfl 2 rfl ?_
  refine g_iconst X (v := (1 : Int32)) dL_law_24 (by decide) ?_
  refine g_iconst X (v := (4 : Int32)) dL_law_25 (by decide) ?_
  refine g_callD X hX hb hbA (st := [.int v8, va_rf (some q1)]) (c_L_drawn hst hLL h) m_478 m_479 m_14 m_480 (by simp [cat_int, rf_cat]) (by decide +kernel) ⟨(by decide +kernel), (by decide +kernel)⟩ dL_law_26 (fun v10 w9 h => ?_)
  have hk := h.1
  replace h := h.2
  refine g_callFV_i X (As := [.int v8, .int v10]) (st := []) (n := 2) (c_X3_circle hst h) rfl (by decide) hk (wE_4 G w9 q1) m_331 m_332 m_333 m_15 m_334 (by decide +kernel) (by decide +kernel) rfl rfl (Nat.zero_le _) ⟨(by decide +kernel), (by decide +kernel)⟩ dL_law_29 (fun v12 w11 h => ?_)
  clear hk
  refine g_widen (c2 := (12)) (s2 := (234)) (by decide +kernel) (by decide +kernel) ?_
  obtain ⟨J13, hjJ13, h⟩ := h
  have jp13 : ∀ (y14 : Int32) (w15 : Wd), J13 y14 w15 → Gw l G L0 p e rm_L_law s m #[Value.ref b] below meth c 16 (20) (394) (lw_Z below #[Value.ref b] s) w15 63 [(0, .inr (some b)), (1, .inr (some q1)), (2, .inr (some q4))] [.int y14] := by
    intro y14 w15 hJ
    have h := hjJ13 y14 w15 hJ
    clear hJ
    refine g_istore_n X [(3, .inl y14), (0, .inr (some b)), (1, .inr (some q1)), (2, .inr (some q4))] dL_law_63 rfl (by decide) rfl ?_
    refine g_iconst X (v := (0 : Int32)) dL_law_64 (by decide) ?_
    refine g_istore X [(4, .inl (0 : Int32)), (3, .inl y14), (0, .inr (some b)), (1, .inr (some q1)), (2, .inr (some q4))] dL_law_65 (by decide) rfl ?_
    exact q_67 hst hL0 X hr hX hb hbA hLL h
  obtain ⟨J454, hjJ454, h⟩ := h
  have jp454 : ∀  (w455 : Wd), J454 w455 → Gw l G L0 p e rm_L_law s m #[Value.ref b] below meth c 16 (20) (394) (lw_Z below #[Value.ref b] s) w455 62 [(0, .inr (some b)), (1, .inr (some q1)), (2, .inr (some q4))] [] := by
    intro w455 hJ
    have h := hjJ454 w455 hJ
    clear hJ
    refine g_iconst X (v := (0 : Int32)) dL_law_62 (by decide) ?_
    exact g_sub [0, 1, 2] [(0, .inr (some b)), (1, .inr (some q1)), (2, .inr (some q4))] rfl (jp13 (0 : Int32) w455 h)
  refine g_if_ne X (tgt := 62) dL_law_32 (by decide) (fun hc => ?_) (fun hc => ?_)
  · replace h := h.1 hc; clear hc
    refine g_widen (c2 := (20)) (s2 := (394)) (by decide) (by decide) ?_
    exact g_sub [2, 1, 0] [(0, .inr (some b)), (1, .inr (some q1)), (2, .inr (some q4))] rfl (jp454 w11 h)
  · replace h := h.2 hc; clear hc
    refine g_aload_n X dL_law_35 rfl 1 rfl ?_
    refine g_iconst X (v := (1 : Int32)) dL_law_36 (by decide) ?_
    refine g_aload_n X dL_law_37 rfl 2 rfl ?_
    refine g_iconst X (v := (2 : Int32)) dL_law_38 (by decide) ?_
    refine g_bipush X (v := (40 : Int32)) dL_law_39 (by decide) ?_
    refine g_callD X hX hb hbA (st := [.int (1 : Int32), va_rf (some q1)]) (c_L_drawn hst hLL h) m_478 m_479 m_14 m_480 (by simp [cat_int, rf_cat]) (by decide +kernel) ⟨(by decide +kernel), (by decide +kernel)⟩ dL_law_41 (fun v457 w456 h => ?_)
    refine g_iadd X dL_law_44 (fun v458 hv => ?_)
    replace h := h v458 hv; clear hv
    refine g_aload_n X dL_law_45 rfl 2 rfl ?_
    refine g_iconst X (v := (3 : Int32)) dL_law_46 (by decide) ?_
    refine g_iconst X (v := (4 : Int32)) dL_law_47 (by decide) ?_
    refine g_callD X hX hb hbA (st := [.int v458, va_rf (some q1)]) (c_L_drawn hst hLL h) m_478 m_479 m_14 m_480 (by simp [cat_int, rf_cat]) (by decide +kernel) ⟨(by decide +kernel), (by decide +kernel)⟩ dL_law_48 (fun v460 w459 h => ?_)
    have hk := h.1
    replace h := h.2
    refine g_callFV_i X (As := [.int v458, .int v460]) (st := []) (n := 2) (c_X3_circle hst h) rfl (by decide) hk (wE_4 G w459 q1) m_331 m_332 m_333 m_15 m_334 (by decide +kernel) (by decide +kernel) rfl rfl (Nat.zero_le _) ⟨(by decide +kernel), (by decide +kernel)⟩ dL_law_51 (fun v462 w461 h => ?_)
    clear hk
    refine g_widen (c2 := (20)) (s2 := (394)) (by decide +kernel) (by decide +kernel) ?_
    refine g_iconst X (v := (1 : Int32)) dL_law_54 (by decide) ?_
    refine g_icmp_ne X (tgt := 62) dL_law_55 (by decide) (fun hc => ?_) (fun hc => ?_)
    · replace h := h.1 hc; clear hc
      exact g_sub [2, 1, 0] [(0, .inr (some b)), (1, .inr (some q1)), (2, .inr (some q4))] rfl (jp454 w461 h)
    · replace h := h.2 hc; clear hc
      refine g_iconst X (v := (1 : Int32)) dL_law_58 (by decide) ?_
      refine g_goto X (tgt := 63) dL_law_59 (by decide) ?_
      exact g_sub [2, 1, 0] [(0, .inr (some b)), (1, .inr (some q1)), (2, .inr (some q4))] rfl (jp13 (1 : Int32) w461 h)
