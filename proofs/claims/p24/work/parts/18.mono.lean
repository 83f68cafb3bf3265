-- ===== what follows a call may be weakened
theorem mo_J7_copyOf_1904c {r0 : Option Nat} {x1 : Int32} {w : Wd} {Q Q1 : Option Nat → Wd → Prop} (hQ : ∀ u0 u1, Q u0 u1 → Q1 u0 u1) : wp_J7_copyOf_1904c r0 x1 w Q → wp_J7_copyOf_1904c r0 x1 w Q1 := by
  unfold wp_J7_copyOf_1904c
  repeat' (first | exact id | exact hQ _ _ | (refine Exists.imp (fun _ => ?_)) | (refine And.imp ?_ ?_) | (refine Or.imp ?_ ?_) | (refine forall_imp (fun _ => ?_)))
theorem mo_Jxa1e45_init_da8c8 {a0 : Nat} {w : Wd} {Q Q1 : Wd → Prop} (hQ : ∀ u0, Q u0 → Q1 u0) : wp_Jxa1e45_init_da8c8 a0 w Q → wp_Jxa1e45_init_da8c8 a0 w Q1 := by
  unfold wp_Jxa1e45_init_da8c8
  repeat' (first | exact id | exact hQ _ | (refine Exists.imp (fun _ => ?_)) | (refine And.imp ?_ ?_) | (refine Or.imp ?_ ?_) | (refine forall_imp (fun _ => ?_)))
theorem mo_Jxc12de_init_da8c8 {a0 : Nat} {w : Wd} {Q Q1 : Wd → Prop} (hQ : ∀ u0, Q u0 → Q1 u0) : wp_Jxc12de_init_da8c8 a0 w Q → wp_Jxc12de_init_da8c8 a0 w Q1 := by
  unfold wp_Jxc12de_init_da8c8
  repeat' (first | exact id | exact hQ _ | refine mo_Jxa1e45_init_da8c8 (fun _ => ?_) | (refine Exists.imp (fun _ => ?_)) | (refine And.imp ?_ ?_) | (refine Or.imp ?_ ?_) | (refine forall_imp (fun _ => ?_)))
theorem mo_Jx4a65c_init_da8c8 {a0 : Nat} {w : Wd} {Q Q1 : Wd → Prop} (hQ : ∀ u0, Q u0 → Q1 u0) : wp_Jx4a65c_init_da8c8 a0 w Q → wp_Jx4a65c_init_da8c8 a0 w Q1 := by
  unfold wp_Jx4a65c_init_da8c8
  repeat' (first | exact id | exact hQ _ | refine mo_Jxc12de_init_da8c8 (fun _ => ?_) | (refine Exists.imp (fun _ => ?_)) | (refine And.imp ?_ ?_) | (refine Or.imp ?_ ?_) | (refine forall_imp (fun _ => ?_)))
theorem mo_Jx4a65c_size_8abf5 {a0 : Nat} {w : Wd} {Q Q1 : Int32 → Wd → Prop} (hQ : ∀ u0 u1, Q u0 u1 → Q1 u0 u1) : wp_Jx4a65c_size_8abf5 a0 w Q → wp_Jx4a65c_size_8abf5 a0 w Q1 := by
  unfold wp_Jx4a65c_size_8abf5
  repeat' (first | exact id | exact hQ _ _ | (refine Exists.imp (fun _ => ?_)) | (refine And.imp ?_ ?_) | (refine Or.imp ?_ ?_) | (refine forall_imp (fun _ => ?_)))
theorem mo_J3_checkIndex_8e157 {x0 : Int32} {x1 : Int32} {r2 : Option Nat} {w : Wd} {Q Q1 : Int32 → Wd → Prop} (hQ : ∀ u0 u1, Q u0 u1 → Q1 u0 u1) : wp_J3_checkIndex_8e157 x0 x1 r2 w Q → wp_J3_checkIndex_8e157 x0 x1 r2 w Q1 := by
  unfold wp_J3_checkIndex_8e157
  repeat' (first | exact id | exact hQ _ _ | (refine Exists.imp (fun _ => ?_)) | (refine And.imp ?_ ?_) | (refine Or.imp ?_ ?_) | (refine forall_imp (fun _ => ?_)))
theorem mo_J15_checkIndex_7cf53 {x0 : Int32} {x1 : Int32} {w : Wd} {Q Q1 : Int32 → Wd → Prop} (hQ : ∀ u0 u1, Q u0 u1 → Q1 u0 u1) : wp_J15_checkIndex_7cf53 x0 x1 w Q → wp_J15_checkIndex_7cf53 x0 x1 w Q1 := by
  unfold wp_J15_checkIndex_7cf53
  repeat' (first | exact id | exact hQ _ _ | refine mo_J3_checkIndex_8e157 (fun _ _ => ?_) | (refine Exists.imp (fun _ => ?_)) | (refine And.imp ?_ ?_) | (refine Or.imp ?_ ?_) | (refine forall_imp (fun _ => ?_)))
theorem mo_Jx4a65c_elementData_915e3 {a0 : Nat} {x1 : Int32} {w : Wd} {Q Q1 : Option Nat → Wd → Prop} (hQ : ∀ u0 u1, Q u0 u1 → Q1 u0 u1) : wp_Jx4a65c_elementData_915e3 a0 x1 w Q → wp_Jx4a65c_elementData_915e3 a0 x1 w Q1 := by
  unfold wp_Jx4a65c_elementData_915e3
  repeat' (first | exact id | exact hQ _ _ | (refine Exists.imp (fun _ => ?_)) | (refine And.imp ?_ ?_) | (refine Or.imp ?_ ?_) | (refine forall_imp (fun _ => ?_)))
theorem mo_Jx4a65c_get_915e3 {a0 : Nat} {x1 : Int32} {w : Wd} {Q Q1 : Option Nat → Wd → Prop} (hQ : ∀ u0 u1, Q u0 u1 → Q1 u0 u1) : wp_Jx4a65c_get_915e3 a0 x1 w Q → wp_Jx4a65c_get_915e3 a0 x1 w Q1 := by
  unfold wp_Jx4a65c_get_915e3
  repeat' (first | exact id | exact hQ _ _ | refine mo_J15_checkIndex_7cf53 (fun _ _ => ?_) | refine mo_Jx4a65c_elementData_915e3 (fun _ _ => ?_) | (refine Exists.imp (fun _ => ?_)) | (refine And.imp ?_ ?_) | (refine Or.imp ?_ ?_) | (refine forall_imp (fun _ => ?_)))
theorem mo_J8_newLength_cabcc {x0 : Int32} {x1 : Int32} {x2 : Int32} {w : Wd} {Q Q1 : Int32 → Wd → Prop} (hQ : ∀ u0 u1, Q u0 u1 → Q1 u0 u1) : wp_J8_newLength_cabcc x0 x1 x2 w Q → wp_J8_newLength_cabcc x0 x1 x2 w Q1 := by
  unfold wp_J8_newLength_cabcc
  repeat' (first | exact id | exact hQ _ _ | (refine Exists.imp (fun _ => ?_)) | (refine And.imp ?_ ?_) | (refine Or.imp ?_ ?_) | (refine forall_imp (fun _ => ?_)))
theorem mo_Jx4a65c_grow_92f84 {a0 : Nat} {x1 : Int32} {w : Wd} {Q Q1 : Option Nat → Wd → Prop} (hQ : ∀ u0 u1, Q u0 u1 → Q1 u0 u1) : wp_Jx4a65c_grow_92f84 a0 x1 w Q → wp_Jx4a65c_grow_92f84 a0 x1 w Q1 := by
  unfold wp_Jx4a65c_grow_92f84
  repeat' (first | exact id | exact hQ _ _ | refine mo_J7_copyOf_1904c (fun _ _ => ?_) | refine mo_J8_newLength_cabcc (fun _ _ => ?_) | (refine Exists.imp (fun _ => ?_)) | (refine And.imp ?_ ?_) | (refine Or.imp ?_ ?_) | (refine forall_imp (fun _ => ?_)))
theorem mo_Jx4a65c_grow_d5877 {a0 : Nat} {w : Wd} {Q Q1 : Option Nat → Wd → Prop} (hQ : ∀ u0 u1, Q u0 u1 → Q1 u0 u1) : wp_Jx4a65c_grow_d5877 a0 w Q → wp_Jx4a65c_grow_d5877 a0 w Q1 := by
  unfold wp_Jx4a65c_grow_d5877
  repeat' (first | exact id | exact hQ _ _ | refine mo_Jx4a65c_grow_92f84 (fun _ _ => ?_) | (refine Exists.imp (fun _ => ?_)) | (refine And.imp ?_ ?_) | (refine Or.imp ?_ ?_) | (refine forall_imp (fun _ => ?_)))
theorem mo_Jx4a65c_add_72be8 {a0 : Nat} {r1 : Option Nat} {r2 : Option Nat} {x3 : Int32} {w : Wd} {Q Q1 : Wd → Prop} (hQ : ∀ u0, Q u0 → Q1 u0) : wp_Jx4a65c_add_72be8 a0 r1 r2 x3 w Q → wp_Jx4a65c_add_72be8 a0 r1 r2 x3 w Q1 := by
  unfold wp_Jx4a65c_add_72be8
  repeat' (first | exact id | exact hQ _ | refine mo_Jx4a65c_grow_d5877 (fun _ _ => ?_) | (refine Exists.imp (fun _ => ?_)) | (refine And.imp ?_ ?_) | (refine Or.imp ?_ ?_) | (refine forall_imp (fun _ => ?_)))
theorem mo_Jx4a65c_add_9ea2d {a0 : Nat} {r1 : Option Nat} {w : Wd} {Q Q1 : Int32 → Wd → Prop} (hQ : ∀ u0 u1, Q u0 u1 → Q1 u0 u1) : wp_Jx4a65c_add_9ea2d a0 r1 w Q → wp_Jx4a65c_add_9ea2d a0 r1 w Q1 := by
  unfold wp_Jx4a65c_add_9ea2d
  repeat' (first | exact id | exact hQ _ _ | refine mo_Jx4a65c_add_72be8 (fun _ => ?_) | (refine Exists.imp (fun _ => ?_)) | (refine And.imp ?_ ?_) | (refine Or.imp ?_ ?_) | (refine forall_imp (fun _ => ?_)))
theorem mo_Jx4a65c_fastRemove_b59b0 {a0 : Nat} {r1 : Option Nat} {x2 : Int32} {w : Wd} {Q Q1 : Wd → Prop} (hQ : ∀ u0, Q u0 → Q1 u0) : wp_Jx4a65c_fastRemove_b59b0 a0 r1 x2 w Q → wp_Jx4a65c_fastRemove_b59b0 a0 r1 x2 w Q1 := by
  unfold wp_Jx4a65c_fastRemove_b59b0
  repeat' (first | exact id | exact hQ _ | (refine Exists.imp (fun _ => ?_)) | (refine And.imp ?_ ?_) | (refine Or.imp ?_ ?_) | (refine forall_imp (fun _ => ?_)))
theorem mo_Jx4a65c_remove_915e3 {a0 : Nat} {x1 : Int32} {w : Wd} {Q Q1 : Option Nat → Wd → Prop} (hQ : ∀ u0 u1, Q u0 u1 → Q1 u0 u1) : wp_Jx4a65c_remove_915e3 a0 x1 w Q → wp_Jx4a65c_remove_915e3 a0 x1 w Q1 := by
  unfold wp_Jx4a65c_remove_915e3
  repeat' (first | exact id | exact hQ _ _ | refine mo_J15_checkIndex_7cf53 (fun _ _ => ?_) | refine mo_Jx4a65c_fastRemove_b59b0 (fun _ => ?_) | (refine Exists.imp (fun _ => ?_)) | (refine And.imp ?_ ?_) | (refine Or.imp ?_ ?_) | (refine forall_imp (fun _ => ?_)))
theorem mo_Jx4a65c_rangeCheckForAdd_d00df {a0 : Nat} {x1 : Int32} {w : Wd} {Q Q1 : Wd → Prop} (hQ : ∀ u0, Q u0 → Q1 u0) : wp_Jx4a65c_rangeCheckForAdd_d00df a0 x1 w Q → wp_Jx4a65c_rangeCheckForAdd_d00df a0 x1 w Q1 := by
  unfold wp_Jx4a65c_rangeCheckForAdd_d00df
  repeat' (first | exact id | exact hQ _ | (refine Exists.imp (fun _ => ?_)) | (refine And.imp ?_ ?_) | (refine Or.imp ?_ ?_) | (refine forall_imp (fun _ => ?_)))
theorem mo_Jx4a65c_add_7a177 {a0 : Nat} {x1 : Int32} {r2 : Option Nat} {w : Wd} {Q Q1 : Wd → Prop} (hQ : ∀ u0, Q u0 → Q1 u0) : wp_Jx4a65c_add_7a177 a0 x1 r2 w Q → wp_Jx4a65c_add_7a177 a0 x1 r2 w Q1 := by
  unfold wp_Jx4a65c_add_7a177
  repeat' (first | exact id | exact hQ _ | refine mo_Jx4a65c_grow_d5877 (fun _ _ => ?_) | refine mo_Jx4a65c_rangeCheckForAdd_d00df (fun _ => ?_) | (refine Exists.imp (fun _ => ?_)) | (refine And.imp ?_ ?_) | (refine Or.imp ?_ ?_) | (refine forall_imp (fun _ => ?_)))
theorem mo_Jx4a65c_isEmpty_aae02 {a0 : Nat} {w : Wd} {Q Q1 : Int32 → Wd → Prop} (hQ : ∀ u0 u1, Q u0 u1 → Q1 u0 u1) : wp_Jx4a65c_isEmpty_aae02 a0 w Q → wp_Jx4a65c_isEmpty_aae02 a0 w Q1 := by
  unfold wp_Jx4a65c_isEmpty_aae02
  repeat' (first | exact id | exact hQ _ _ | (refine Exists.imp (fun _ => ?_)) | (refine And.imp ?_ ?_) | (refine Or.imp ?_ ?_) | (refine forall_imp (fun _ => ?_)))
theorem mo_X2_rank {a0 : Nat} {x1 : Int32} {w : Wd} {Q Q1 : Int32 → Wd → Prop} (hQ : ∀ u0 u1, Q u0 u1 → Q1 u0 u1) : wp_X2_rank a0 x1 w Q → wp_X2_rank a0 x1 w Q1 := by
  unfold wp_X2_rank
  repeat' (first | exact id | exact hQ _ _ | (refine Exists.imp (fun _ => ?_)) | (refine And.imp ?_ ?_) | (refine Or.imp ?_ ?_) | (refine forall_imp (fun _ => ?_)))
theorem mo_X1_payIn {a0 : Nat} {x1 : Int32} {w : Wd} {Q Q1 : Wd → Prop} (hQ : ∀ u0, Q u0 → Q1 u0) : wp_X1_payIn a0 x1 w Q → wp_X1_payIn a0 x1 w Q1 := by
  unfold wp_X1_payIn
  repeat' (first | exact id | exact hQ _ | (refine Exists.imp (fun _ => ?_)) | (refine And.imp ?_ ?_) | (refine Or.imp ?_ ?_) | (refine forall_imp (fun _ => ?_)))
theorem mo_X1_getOut {a0 : Nat} {x1 : Int32} {w : Wd} {Q Q1 : Wd → Prop} (hQ : ∀ u0, Q u0 → Q1 u0) : wp_X1_getOut a0 x1 w Q → wp_X1_getOut a0 x1 w Q1 := by
  unfold wp_X1_getOut
  repeat' (first | exact id | exact hQ _ | (refine Exists.imp (fun _ => ?_)) | (refine And.imp ?_ ?_) | (refine Or.imp ?_ ?_) | (refine forall_imp (fun _ => ?_)))
theorem mo_X1_init {a0 : Nat} {x1 : Int32} {x2 : Int32} {x3 : Int32} {w : Wd} {Q Q1 : Wd → Prop} (hQ : ∀ u0, Q u0 → Q1 u0) : wp_X1_init a0 x1 x2 x3 w Q → wp_X1_init a0 x1 x2 x3 w Q1 := by
  unfold wp_X1_init
  repeat' (first | exact id | exact hQ _ | (refine Exists.imp (fun _ => ?_)) | (refine And.imp ?_ ?_) | (refine Or.imp ?_ ?_) | (refine forall_imp (fun _ => ?_)))
theorem mo_X1_hasShare {a0 : Nat} {w : Wd} {Q Q1 : Int32 → Wd → Prop} (hQ : ∀ u0 u1, Q u0 u1 → Q1 u0 u1) : wp_X1_hasShare a0 w Q → wp_X1_hasShare a0 w Q1 := by
  unfold wp_X1_hasShare
  repeat' (first | exact id | exact hQ _ _ | (refine Exists.imp (fun _ => ?_)) | (refine And.imp ?_ ?_) | (refine Or.imp ?_ ?_) | (refine forall_imp (fun _ => ?_)))
theorem mo_X1_hasLoan {a0 : Nat} {w : Wd} {Q Q1 : Int32 → Wd → Prop} (hQ : ∀ u0 u1, Q u0 u1 → Q1 u0 u1) : wp_X1_hasLoan a0 w Q → wp_X1_hasLoan a0 w Q1 := by
  unfold wp_X1_hasLoan
  repeat' (first | exact id | exact hQ _ _ | (refine Exists.imp (fun _ => ?_)) | (refine And.imp ?_ ?_) | (refine Or.imp ?_ ?_) | (refine forall_imp (fun _ => ?_)))
theorem mo_X1_isOfHouse {a0 : Nat} {r1 : Option Nat} {w : Wd} {Q Q1 : Int32 → Wd → Prop} (hQ : ∀ u0 u1, Q u0 u1 → Q1 u0 u1) : wp_X1_isOfHouse a0 r1 w Q → wp_X1_isOfHouse a0 r1 w Q1 := by
  unfold wp_X1_isOfHouse
  repeat' (first | exact id | exact hQ _ _ | (refine Exists.imp (fun _ => ?_)) | (refine And.imp ?_ ?_) | (refine Or.imp ?_ ?_) | (refine forall_imp (fun _ => ?_)))
theorem mo_X1_takeLoan {a0 : Nat} {x1 : Int32} {r2 : Option Nat} {r3 : Option Nat} {w : Wd} {Q Q1 : Wd → Prop} (hQ : ∀ u0, Q u0 → Q1 u0) : wp_X1_takeLoan a0 x1 r2 r3 w Q → wp_X1_takeLoan a0 x1 r2 r3 w Q1 := by
  unfold wp_X1_takeLoan
  repeat' (first | exact id | exact hQ _ | refine mo_X1_getOut (fun _ => ?_) | (refine Exists.imp (fun _ => ?_)) | (refine And.imp ?_ ?_) | (refine Or.imp ?_ ?_) | (refine forall_imp (fun _ => ?_)))
theorem mo_X1_ageLoan {a0 : Nat} {w : Wd} {Q Q1 : Wd → Prop} (hQ : ∀ u0, Q u0 → Q1 u0) : wp_X1_ageLoan a0 w Q → wp_X1_ageLoan a0 w Q1 := by
  unfold wp_X1_ageLoan
  repeat' (first | exact id | exact hQ _ | (refine Exists.imp (fun _ => ?_)) | (refine And.imp ?_ ?_) | (refine Or.imp ?_ ?_) | (refine forall_imp (fun _ => ?_)))
theorem mo_X1_bequeath {a0 : Nat} {r1 : Option Nat} {w : Wd} {Q Q1 : Wd → Prop} (hQ : ∀ u0, Q u0 → Q1 u0) : wp_X1_bequeath a0 r1 w Q → wp_X1_bequeath a0 r1 w Q1 := by
  unfold wp_X1_bequeath
  repeat' (first | exact id | exact hQ _ | refine mo_X1_hasLoan (fun _ _ => ?_) | (refine Exists.imp (fun _ => ?_)) | (refine And.imp ?_ ?_) | (refine Or.imp ?_ ?_) | (refine forall_imp (fun _ => ?_)))
theorem mo_X2_init {a0 : Nat} {r1 : Option Nat} {w : Wd} {Q Q1 : Wd → Prop} (hQ : ∀ u0, Q u0 → Q1 u0) : wp_X2_init a0 r1 w Q → wp_X2_init a0 r1 w Q1 := by
  unfold wp_X2_init
  repeat' (first | exact id | exact hQ _ | (refine Exists.imp (fun _ => ?_)) | (refine And.imp ?_ ?_) | (refine Or.imp ?_ ?_) | (refine forall_imp (fun _ => ?_)))
theorem mo_X2_changeNeed {a0 : Nat} {x1 : Int32} {w : Wd} {Q Q1 : Int32 → Wd → Prop} (hQ : ∀ u0 u1, Q u0 u1 → Q1 u0 u1) : wp_X2_changeNeed a0 x1 w Q → wp_X2_changeNeed a0 x1 w Q1 := by
  unfold wp_X2_changeNeed
  repeat' (first | exact id | exact hQ _ _ | (refine Exists.imp (fun _ => ?_)) | (refine And.imp ?_ ?_) | (refine Or.imp ?_ ?_) | (refine forall_imp (fun _ => ?_)))
theorem mo_X2_changeBid {a0 : Nat} {x1 : Int32} {w : Wd} {Q Q1 : Int32 → Wd → Prop} (hQ : ∀ u0 u1, Q u0 u1 → Q1 u0 u1) : wp_X2_changeBid a0 x1 w Q → wp_X2_changeBid a0 x1 w Q1 := by
  unfold wp_X2_changeBid
  repeat' (first | exact id | exact hQ _ _ | (refine Exists.imp (fun _ => ?_)) | (refine And.imp ?_ ?_) | (refine Or.imp ?_ ?_) | (refine forall_imp (fun _ => ?_)))
theorem mo_X0_init {a0 : Nat} {x1 : Int32} {x2 : Int32} {w : Wd} {Q Q1 : Wd → Prop} (hQ : ∀ u0, Q u0 → Q1 u0) : wp_X0_init a0 x1 x2 w Q → wp_X0_init a0 x1 x2 w Q1 := by
  unfold wp_X0_init
  repeat' (first | exact id | exact hQ _ | refine mo_Jx4a65c_init_da8c8 (fun _ => ?_) | (refine Exists.imp (fun _ => ?_)) | (refine And.imp ?_ ?_) | (refine Or.imp ?_ ?_) | (refine forall_imp (fun _ => ?_)))
theorem mo_X0_hasOrder {a0 : Nat} {w : Wd} {Q Q1 : Int32 → Wd → Prop} (hQ : ∀ u0 u1, Q u0 u1 → Q1 u0 u1) : wp_X0_hasOrder a0 w Q → wp_X0_hasOrder a0 w Q1 := by
  unfold wp_X0_hasOrder
  repeat' (first | exact id | exact hQ _ _ | (refine Exists.imp (fun _ => ?_)) | (refine And.imp ?_ ?_) | (refine Or.imp ?_ ?_) | (refine forall_imp (fun _ => ?_)))
theorem mo_X0_indexOf {a0 : Nat} {r1 : Option Nat} {w : Wd} {Q Q1 : Int32 → Wd → Prop} (hQ : ∀ u0 u1, Q u0 u1 → Q1 u0 u1) : wp_X0_indexOf a0 r1 w Q → wp_X0_indexOf a0 r1 w Q1 := by
  unfold wp_X0_indexOf
  repeat' (first | exact id | exact hQ _ _ | refine mo_Jx4a65c_get_915e3 (fun _ _ => ?_) | refine mo_Jx4a65c_size_8abf5 (fun _ _ => ?_) | (refine Exists.imp (fun _ => ?_)) | (refine And.imp ?_ ?_) | (refine Or.imp ?_ ?_) | (refine forall_imp (fun _ => ?_)))
theorem mo_X0_placeOf {a0 : Nat} {r1 : Option Nat} {w : Wd} {Q Q1 : Option Nat → Wd → Prop} (hQ : ∀ u0 u1, Q u0 u1 → Q1 u0 u1) : wp_X0_placeOf a0 r1 w Q → wp_X0_placeOf a0 r1 w Q1 := by
  unfold wp_X0_placeOf
  repeat' (first | exact id | exact hQ _ _ | refine mo_Jx4a65c_get_915e3 (fun _ _ => ?_) | refine mo_Jx4a65c_size_8abf5 (fun _ _ => ?_) | refine mo_X0_indexOf (fun _ _ => ?_) | (refine Exists.imp (fun _ => ?_)) | (refine And.imp ?_ ?_) | (refine Or.imp ?_ ?_) | (refine forall_imp (fun _ => ?_)))
theorem mo_X0_drawn {a0 : Nat} {x1 : Int32} {x2 : Int32} {w : Wd} {Q Q1 : Int32 → Wd → Prop} (hQ : ∀ u0 u1, Q u0 u1 → Q1 u0 u1) : wp_X0_drawn a0 x1 x2 w Q → wp_X0_drawn a0 x1 x2 w Q1 := by
  unfold wp_X0_drawn
  repeat' (first | exact id | exact hQ _ _ | refine mo_Jx4a65c_size_8abf5 (fun _ _ => ?_) | (refine Exists.imp (fun _ => ?_)) | (refine And.imp ?_ ?_) | (refine Or.imp ?_ ?_) | (refine forall_imp (fun _ => ?_)))
theorem mo_X0_eldest {a0 : Nat} {x1 : Int32} {w : Wd} {Q Q1 : Int32 → Wd → Prop} (hQ : ∀ u0 u1, Q u0 u1 → Q1 u0 u1) : wp_X0_eldest a0 x1 w Q → wp_X0_eldest a0 x1 w Q1 := by
  unfold wp_X0_eldest
  repeat' (first | exact id | exact hQ _ _ | refine mo_Jx4a65c_get_915e3 (fun _ _ => ?_) | refine mo_Jx4a65c_size_8abf5 (fun _ _ => ?_) | (refine Exists.imp (fun _ => ?_)) | (refine And.imp ?_ ?_) | (refine Or.imp ?_ ?_) | (refine forall_imp (fun _ => ?_)))
theorem mo_X0_makeOrder {a0 : Nat} {x1 : Int32} {w : Wd} {Q Q1 : Wd → Prop} (hQ : ∀ u0, Q u0 → Q1 u0) : wp_X0_makeOrder a0 x1 w Q → wp_X0_makeOrder a0 x1 w Q1 := by
  unfold wp_X0_makeOrder
  repeat' (first | exact id | exact hQ _ | refine mo_Jx4a65c_add_7a177 (fun _ => ?_) | refine mo_Jx4a65c_add_9ea2d (fun _ _ => ?_) | refine mo_Jx4a65c_get_915e3 (fun _ _ => ?_) | refine mo_Jx4a65c_remove_915e3 (fun _ _ => ?_) | refine mo_Jx4a65c_size_8abf5 (fun _ _ => ?_) | refine mo_X0_drawn (fun _ _ => ?_) | refine mo_X0_eldest (fun _ _ => ?_) | refine mo_X0_hasOrder (fun _ _ => ?_) | (refine Exists.imp (fun _ => ?_)) | (refine And.imp ?_ ?_) | (refine Or.imp ?_ ?_) | (refine forall_imp (fun _ => ?_)))
theorem mo_X0_firstInOrder {a0 : Nat} {w : Wd} {Q Q1 : Option Nat → Wd → Prop} (hQ : ∀ u0 u1, Q u0 u1 → Q1 u0 u1) : wp_X0_firstInOrder a0 w Q → wp_X0_firstInOrder a0 w Q1 := by
  unfold wp_X0_firstInOrder
  repeat' (first | exact id | exact hQ _ _ | refine mo_Jx4a65c_get_915e3 (fun _ _ => ?_) | refine mo_Jx4a65c_size_8abf5 (fun _ _ => ?_) | (refine Exists.imp (fun _ => ?_)) | (refine And.imp ?_ ?_) | (refine Or.imp ?_ ?_) | (refine forall_imp (fun _ => ?_)))
theorem mo_X0_greatest {a0 : Nat} {w : Wd} {Q Q1 : Option Nat → Wd → Prop} (hQ : ∀ u0 u1, Q u0 u1 → Q1 u0 u1) : wp_X0_greatest a0 w Q → wp_X0_greatest a0 w Q1 := by
  unfold wp_X0_greatest
  repeat' (first | exact id | exact hQ _ _ | refine mo_Jx4a65c_get_915e3 (fun _ _ => ?_) | refine mo_Jx4a65c_size_8abf5 (fun _ _ => ?_) | refine mo_X2_rank (fun _ _ => ?_) | (refine Exists.imp (fun _ => ?_)) | (refine And.imp ?_ ?_) | (refine Or.imp ?_ ?_) | (refine forall_imp (fun _ => ?_)))
theorem mo_X0_upNext {a0 : Nat} {w : Wd} {Q Q1 : Option Nat → Wd → Prop} (hQ : ∀ u0 u1, Q u0 u1 → Q1 u0 u1) : wp_X0_upNext a0 w Q → wp_X0_upNext a0 w Q1 := by
  unfold wp_X0_upNext
  repeat' (first | exact id | exact hQ _ _ | refine mo_X0_firstInOrder (fun _ _ => ?_) | refine mo_X0_greatest (fun _ _ => ?_) | refine mo_X0_hasOrder (fun _ _ => ?_) | (refine Exists.imp (fun _ => ?_)) | (refine And.imp ?_ ?_) | (refine Or.imp ?_ ?_) | (refine forall_imp (fun _ => ?_)))
theorem mo_X0_collect {a0 : Nat} {x1 : Int32} {w : Wd} {Q Q1 : Wd → Prop} (hQ : ∀ u0, Q u0 → Q1 u0) : wp_X0_collect a0 x1 w Q → wp_X0_collect a0 x1 w Q1 := by
  unfold wp_X0_collect
  repeat' (first | exact id | exact hQ _ | refine mo_Jx4a65c_get_915e3 (fun _ _ => ?_) | refine mo_Jx4a65c_size_8abf5 (fun _ _ => ?_) | refine mo_X1_payIn (fun _ => ?_) | (refine Exists.imp (fun _ => ?_)) | (refine And.imp ?_ ?_) | (refine Or.imp ?_ ?_) | (refine forall_imp (fun _ => ?_)))
theorem mo_X0_giveOut {a0 : Nat} {r1 : Option Nat} {x2 : Int32} {w : Wd} {Q Q1 : Wd → Prop} (hQ : ∀ u0, Q u0 → Q1 u0) : wp_X0_giveOut a0 r1 x2 w Q → wp_X0_giveOut a0 r1 x2 w Q1 := by
  unfold wp_X0_giveOut
  repeat' (first | exact id | exact hQ _ | refine mo_X1_getOut (fun _ => ?_) | (refine Exists.imp (fun _ => ?_)) | (refine And.imp ?_ ?_) | (refine Or.imp ?_ ?_) | (refine forall_imp (fun _ => ?_)))
theorem mo_X0_payOut {a0 : Nat} {r1 : Option Nat} {w : Wd} {Q Q1 : Wd → Prop} (hQ : ∀ u0, Q u0 → Q1 u0) : wp_X0_payOut a0 r1 w Q → wp_X0_payOut a0 r1 w Q1 := by
  unfold wp_X0_payOut
  repeat' (first | exact id | exact hQ _ | refine mo_Jx4a65c_get_915e3 (fun _ _ => ?_) | refine mo_Jx4a65c_size_8abf5 (fun _ _ => ?_) | refine mo_X0_giveOut (fun _ => ?_) | (refine Exists.imp (fun _ => ?_)) | (refine And.imp ?_ ?_) | (refine Or.imp ?_ ?_) | (refine forall_imp (fun _ => ?_)))
theorem mo_X0_clearBids {a0 : Nat} {w : Wd} {Q Q1 : Wd → Prop} (hQ : ∀ u0, Q u0 → Q1 u0) : wp_X0_clearBids a0 w Q → wp_X0_clearBids a0 w Q1 := by
  unfold wp_X0_clearBids
  repeat' (first | exact id | exact hQ _ | refine mo_Jx4a65c_get_915e3 (fun _ _ => ?_) | refine mo_Jx4a65c_size_8abf5 (fun _ _ => ?_) | (refine Exists.imp (fun _ => ?_)) | (refine And.imp ?_ ?_) | (refine Or.imp ?_ ?_) | (refine forall_imp (fun _ => ?_)))
theorem mo_X0_endRoundIfAllHadTurns {a0 : Nat} {w : Wd} {Q Q1 : Wd → Prop} (hQ : ∀ u0, Q u0 → Q1 u0) : wp_X0_endRoundIfAllHadTurns a0 w Q → wp_X0_endRoundIfAllHadTurns a0 w Q1 := by
  unfold wp_X0_endRoundIfAllHadTurns
  repeat' (first | exact id | exact hQ _ | refine mo_Jx4a65c_get_915e3 (fun _ _ => ?_) | refine mo_Jx4a65c_isEmpty_aae02 (fun _ _ => ?_) | refine mo_Jx4a65c_size_8abf5 (fun _ _ => ?_) | (refine Exists.imp (fun _ => ?_)) | (refine And.imp ?_ ?_) | (refine Or.imp ?_ ?_) | (refine forall_imp (fun _ => ?_)))
theorem mo_X0_removeFrom {r0 : Option Nat} {r1 : Option Nat} {w : Wd} {Q Q1 : Wd → Prop} (hQ : ∀ u0, Q u0 → Q1 u0) : wp_X0_removeFrom r0 r1 w Q → wp_X0_removeFrom r0 r1 w Q1 := by
  unfold wp_X0_removeFrom
  repeat' (first | exact id | exact hQ _ | refine mo_Jx4a65c_get_915e3 (fun _ _ => ?_) | refine mo_Jx4a65c_remove_915e3 (fun _ _ => ?_) | refine mo_Jx4a65c_size_8abf5 (fun _ _ => ?_) | (refine Exists.imp (fun _ => ?_)) | (refine And.imp ?_ ?_) | (refine Or.imp ?_ ?_) | (refine forall_imp (fun _ => ?_)))
theorem mo_X0_removePlace {a0 : Nat} {r1 : Option Nat} {w : Wd} {Q Q1 : Wd → Prop} (hQ : ∀ u0, Q u0 → Q1 u0) : wp_X0_removePlace a0 r1 w Q → wp_X0_removePlace a0 r1 w Q1 := by
  unfold wp_X0_removePlace
  repeat' (first | exact id | exact hQ _ | refine mo_X0_endRoundIfAllHadTurns (fun _ => ?_) | refine mo_X0_removeFrom (fun _ => ?_) | (refine Exists.imp (fun _ => ?_)) | (refine And.imp ?_ ?_) | (refine Or.imp ?_ ?_) | (refine forall_imp (fun _ => ?_)))
theorem mo_X0_passOn {a0 : Nat} {r1 : Option Nat} {r2 : Option Nat} {w : Wd} {Q Q1 : Int32 → Wd → Prop} (hQ : ∀ u0 u1, Q u0 u1 → Q1 u0 u1) : wp_X0_passOn a0 r1 r2 w Q → wp_X0_passOn a0 r1 r2 w Q1 := by
  unfold wp_X0_passOn
  repeat' (first | exact id | exact hQ _ _ | refine mo_X0_placeOf (fun _ _ => ?_) | refine mo_X0_removePlace (fun _ => ?_) | (refine Exists.imp (fun _ => ?_)) | (refine And.imp ?_ ?_) | (refine Or.imp ?_ ?_) | (refine forall_imp (fun _ => ?_)))
theorem mo_X3_init {a0 : Nat} {w : Wd} {Q Q1 : Wd → Prop} (hQ : ∀ u0, Q u0 → Q1 u0) : wp_X3_init a0 w Q → wp_X3_init a0 w Q1 := by
  unfold wp_X3_init
  repeat' (first | exact id | exact hQ _ | refine mo_Jx4a65c_init_da8c8 (fun _ => ?_) | (refine Exists.imp (fun _ => ?_)) | (refine And.imp ?_ ?_) | (refine Or.imp ?_ ?_) | (refine forall_imp (fun _ => ?_)))
theorem mo_X3_checkRange {x0 : Int32} {x1 : Int32} {x2 : Int32} {w : Wd} {Q Q1 : Wd → Prop} {QX QX1 : String → Wd → Prop} (hQ : ∀ u0, Q u0 → Q1 u0) (hX : ∀ E w1, QX E w1 → QX1 E w1) : wp_X3_checkRange x0 x1 x2 w Q QX → wp_X3_checkRange x0 x1 x2 w Q1 QX1 := by
  unfold wp_X3_checkRange
  repeat' (first | exact id | exact hQ _ | exact hX _ _ | (refine Exists.imp (fun _ => ?_)) | (refine And.imp ?_ ?_) | (refine Or.imp ?_ ?_) | (refine forall_imp (fun _ => ?_)))
theorem mo_X3_person {a0 : Nat} {x1 : Int32} {x2 : Int32} {w : Wd} {Q Q1 : Int32 → Wd → Prop} {QX QX1 : String → Wd → Prop} (hQ : ∀ u0 u1, Q u0 u1 → Q1 u0 u1) (hX : ∀ E w1, QX E w1 → QX1 E w1) : wp_X3_person a0 x1 x2 w Q QX → wp_X3_person a0 x1 x2 w Q1 QX1 := by
  unfold wp_X3_person
  repeat' (first | exact id | exact hQ _ _ | exact hX _ _ | refine mo_Jx4a65c_add_9ea2d (fun _ _ => ?_) | refine mo_Jx4a65c_size_8abf5 (fun _ _ => ?_) | refine mo_X1_init (fun _ => ?_) | refine mo_X3_checkRange (fun _ => ?_) (fun _ _ => ?_) | (refine Exists.imp (fun _ => ?_)) | (refine And.imp ?_ ?_) | (refine Or.imp ?_ ?_) | (refine forall_imp (fun _ => ?_)))
theorem mo_X3_personAt {a0 : Nat} {x1 : Int32} {w : Wd} {Q Q1 : Option Nat → Wd → Prop} {QX QX1 : String → Wd → Prop} (hQ : ∀ u0 u1, Q u0 u1 → Q1 u0 u1) (hX : ∀ E w1, QX E w1 → QX1 E w1) : wp_X3_personAt a0 x1 w Q QX → wp_X3_personAt a0 x1 w Q1 QX1 := by
  unfold wp_X3_personAt
  repeat' (first | exact id | exact hQ _ _ | exact hX _ _ | refine mo_Jx4a65c_get_915e3 (fun _ _ => ?_) | refine mo_Jx4a65c_size_8abf5 (fun _ _ => ?_) | (refine Exists.imp (fun _ => ?_)) | (refine And.imp ?_ ?_) | (refine Or.imp ?_ ?_) | (refine forall_imp (fun _ => ?_)))
theorem mo_X3_earn {a0 : Nat} {x1 : Int32} {x2 : Int32} {w : Wd} {Q Q1 : Int32 → Wd → Prop} {QX QX1 : String → Wd → Prop} (hQ : ∀ u0 u1, Q u0 u1 → Q1 u0 u1) (hX : ∀ E w1, QX E w1 → QX1 E w1) : wp_X3_earn a0 x1 x2 w Q QX → wp_X3_earn a0 x1 x2 w Q1 QX1 := by
  unfold wp_X3_earn
  repeat' (first | exact id | exact hQ _ _ | exact hX _ _ | refine mo_X3_checkRange (fun _ => ?_) (fun _ _ => ?_) | refine mo_X3_personAt (fun _ _ => ?_) (fun _ _ => ?_) | (refine Exists.imp (fun _ => ?_)) | (refine And.imp ?_ ?_) | (refine Or.imp ?_ ?_) | (refine forall_imp (fun _ => ?_)))
theorem mo_X3_die {a0 : Nat} {x1 : Int32} {x2 : Int32} {w : Wd} {Q Q1 : Int32 → Wd → Prop} {QX QX1 : String → Wd → Prop} (hQ : ∀ u0 u1, Q u0 u1 → Q1 u0 u1) (hX : ∀ E w1, QX E w1 → QX1 E w1) : wp_X3_die a0 x1 x2 w Q QX → wp_X3_die a0 x1 x2 w Q1 QX1 := by
  unfold wp_X3_die
  repeat' (first | exact id | exact hQ _ _ | exact hX _ _ | refine mo_Jx4a65c_get_915e3 (fun _ _ => ?_) | refine mo_Jx4a65c_size_8abf5 (fun _ _ => ?_) | refine mo_X0_passOn (fun _ _ => ?_) | refine mo_X1_bequeath (fun _ => ?_) | refine mo_X3_personAt (fun _ _ => ?_) (fun _ _ => ?_) | (refine Exists.imp (fun _ => ?_)) | (refine And.imp ?_ ?_) | (refine Or.imp ?_ ?_) | (refine forall_imp (fun _ => ?_)))
theorem mo_X3_circle {a0 : Nat} {x1 : Int32} {x2 : Int32} {w : Wd} {Q Q1 : Int32 → Wd → Prop} {QX QX1 : String → Wd → Prop} (hQ : ∀ u0 u1, Q u0 u1 → Q1 u0 u1) (hX : ∀ E w1, QX E w1 → QX1 E w1) : wp_X3_circle a0 x1 x2 w Q QX → wp_X3_circle a0 x1 x2 w Q1 QX1 := by
  unfold wp_X3_circle
  repeat' (first | exact id | exact hQ _ _ | exact hX _ _ | refine mo_Jx4a65c_add_9ea2d (fun _ _ => ?_) | refine mo_Jx4a65c_size_8abf5 (fun _ _ => ?_) | refine mo_X0_init (fun _ => ?_) | refine mo_X3_checkRange (fun _ => ?_) (fun _ _ => ?_) | (refine Exists.imp (fun _ => ?_)) | (refine And.imp ?_ ?_) | (refine Or.imp ?_ ?_) | (refine forall_imp (fun _ => ?_)))
theorem mo_X3_circleAt {a0 : Nat} {x1 : Int32} {w : Wd} {Q Q1 : Option Nat → Wd → Prop} {QX QX1 : String → Wd → Prop} (hQ : ∀ u0 u1, Q u0 u1 → Q1 u0 u1) (hX : ∀ E w1, QX E w1 → QX1 E w1) : wp_X3_circleAt a0 x1 w Q QX → wp_X3_circleAt a0 x1 w Q1 QX1 := by
  unfold wp_X3_circleAt
  repeat' (first | exact id | exact hQ _ _ | exact hX _ _ | refine mo_Jx4a65c_get_915e3 (fun _ _ => ?_) | refine mo_Jx4a65c_size_8abf5 (fun _ _ => ?_) | (refine Exists.imp (fun _ => ?_)) | (refine And.imp ?_ ?_) | (refine Or.imp ?_ ?_) | (refine forall_imp (fun _ => ?_)))
theorem mo_X3_enter {a0 : Nat} {x1 : Int32} {x2 : Int32} {w : Wd} {Q Q1 : Int32 → Wd → Prop} {QX QX1 : String → Wd → Prop} (hQ : ∀ u0 u1, Q u0 u1 → Q1 u0 u1) (hX : ∀ E w1, QX E w1 → QX1 E w1) : wp_X3_enter a0 x1 x2 w Q QX → wp_X3_enter a0 x1 x2 w Q1 QX1 := by
  unfold wp_X3_enter
  repeat' (first | exact id | exact hQ _ _ | exact hX _ _ | refine mo_Jx4a65c_add_9ea2d (fun _ _ => ?_) | refine mo_Jx4a65c_size_8abf5 (fun _ _ => ?_) | refine mo_X0_placeOf (fun _ _ => ?_) | refine mo_X2_init (fun _ => ?_) | refine mo_X3_circleAt (fun _ _ => ?_) (fun _ _ => ?_) | refine mo_X3_personAt (fun _ _ => ?_) (fun _ _ => ?_) | (refine Exists.imp (fun _ => ?_)) | (refine And.imp ?_ ?_) | (refine Or.imp ?_ ?_) | (refine forall_imp (fun _ => ?_)))
theorem mo_X3_numberAt {r0 : Option Nat} {w : Wd} {Q Q1 : Int32 → Wd → Prop} (hQ : ∀ u0 u1, Q u0 u1 → Q1 u0 u1) : wp_X3_numberAt r0 w Q → wp_X3_numberAt r0 w Q1 := by
  unfold wp_X3_numberAt
  repeat' (first | exact id | exact hQ _ _ | (refine Exists.imp (fun _ => ?_)) | (refine And.imp ?_ ?_) | (refine Or.imp ?_ ?_) | (refine forall_imp (fun _ => ?_)))
theorem mo_X3_start {a0 : Nat} {x1 : Int32} {x2 : Int32} {w : Wd} {Q Q1 : Int32 → Wd → Prop} {QX QX1 : String → Wd → Prop} (hQ : ∀ u0 u1, Q u0 u1 → Q1 u0 u1) (hX : ∀ E w1, QX E w1 → QX1 E w1) : wp_X3_start a0 x1 x2 w Q QX → wp_X3_start a0 x1 x2 w Q1 QX1 := by
  unfold wp_X3_start
  repeat' (first | exact id | exact hQ _ _ | exact hX _ _ | refine mo_Jx4a65c_size_8abf5 (fun _ _ => ?_) | refine mo_X0_hasOrder (fun _ _ => ?_) | refine mo_X0_makeOrder (fun _ => ?_) | refine mo_X0_upNext (fun _ _ => ?_) | refine mo_X3_checkRange (fun _ => ?_) (fun _ _ => ?_) | refine mo_X3_circleAt (fun _ _ => ?_) (fun _ _ => ?_) | refine mo_X3_numberAt (fun _ _ => ?_) | (refine Exists.imp (fun _ => ?_)) | (refine And.imp ?_ ?_) | (refine Or.imp ?_ ?_) | (refine forall_imp (fun _ => ?_)))
theorem mo_X3_want {a0 : Nat} {x1 : Int32} {x2 : Int32} {x3 : Int32} {x4 : Int32} {w : Wd} {Q Q1 : Int32 → Wd → Prop} {QX QX1 : String → Wd → Prop} (hQ : ∀ u0 u1, Q u0 u1 → Q1 u0 u1) (hX : ∀ E w1, QX E w1 → QX1 E w1) : wp_X3_want a0 x1 x2 x3 x4 w Q QX → wp_X3_want a0 x1 x2 x3 x4 w Q1 QX1 := by
  unfold wp_X3_want
  repeat' (first | exact id | exact hQ _ _ | exact hX _ _ | refine mo_X0_placeOf (fun _ _ => ?_) | refine mo_X2_changeBid (fun _ _ => ?_) | refine mo_X2_changeNeed (fun _ _ => ?_) | refine mo_X3_checkRange (fun _ => ?_) (fun _ _ => ?_) | refine mo_X3_circleAt (fun _ _ => ?_) (fun _ _ => ?_) | refine mo_X3_personAt (fun _ _ => ?_) (fun _ _ => ?_) | (refine Exists.imp (fun _ => ?_)) | (refine And.imp ?_ ?_) | (refine Or.imp ?_ ?_) | (refine forall_imp (fun _ => ?_)))
theorem mo_X3_meet {a0 : Nat} {x1 : Int32} {x2 : Int32} {w : Wd} {Q Q1 : Int32 → Wd → Prop} {QX QX1 : String → Wd → Prop} (hQ : ∀ u0 u1, Q u0 u1 → Q1 u0 u1) (hX : ∀ E w1, QX E w1 → QX1 E w1) : wp_X3_meet a0 x1 x2 w Q QX → wp_X3_meet a0 x1 x2 w Q1 QX1 := by
  unfold wp_X3_meet
  repeat' (first | exact id | exact hQ _ _ | exact hX _ _ | refine mo_Jx4a65c_size_8abf5 (fun _ _ => ?_) | refine mo_X0_clearBids (fun _ => ?_) | refine mo_X0_collect (fun _ => ?_) | refine mo_X0_endRoundIfAllHadTurns (fun _ => ?_) | refine mo_X0_payOut (fun _ => ?_) | refine mo_X0_upNext (fun _ _ => ?_) | refine mo_X3_circleAt (fun _ _ => ?_) (fun _ _ => ?_) | refine mo_X3_numberAt (fun _ _ => ?_) | (refine Exists.imp (fun _ => ?_)) | (refine And.imp ?_ ?_) | (refine Or.imp ?_ ?_) | (refine forall_imp (fun _ => ?_)))
theorem mo_X3_leave {a0 : Nat} {x1 : Int32} {x2 : Int32} {w : Wd} {Q Q1 : Int32 → Wd → Prop} {QX QX1 : String → Wd → Prop} (hQ : ∀ u0 u1, Q u0 u1 → Q1 u0 u1) (hX : ∀ E w1, QX E w1 → QX1 E w1) : wp_X3_leave a0 x1 x2 w Q QX → wp_X3_leave a0 x1 x2 w Q1 QX1 := by
  unfold wp_X3_leave
  repeat' (first | exact id | exact hQ _ _ | exact hX _ _ | refine mo_X0_giveOut (fun _ => ?_) | refine mo_X0_placeOf (fun _ _ => ?_) | refine mo_X0_removePlace (fun _ => ?_) | refine mo_X3_circleAt (fun _ _ => ?_) (fun _ _ => ?_) | refine mo_X3_personAt (fun _ _ => ?_) (fun _ _ => ?_) | (refine Exists.imp (fun _ => ?_)) | (refine And.imp ?_ ?_) | (refine Or.imp ?_ ?_) | (refine forall_imp (fun _ => ?_)))
theorem mo_X3_payFund {a0 : Nat} {r1 : Option Nat} {x2 : Int32} {w : Wd} {Q Q1 : Wd → Prop} (hQ : ∀ u0, Q u0 → Q1 u0) : wp_X3_payFund a0 r1 x2 w Q → wp_X3_payFund a0 r1 x2 w Q1 := by
  unfold wp_X3_payFund
  repeat' (first | exact id | exact hQ _ | refine mo_X1_payIn (fun _ => ?_) | (refine Exists.imp (fun _ => ?_)) | (refine And.imp ?_ ?_) | (refine Or.imp ?_ ?_) | (refine forall_imp (fun _ => ?_)))
theorem mo_X3_buy {a0 : Nat} {x1 : Int32} {x2 : Int32} {w : Wd} {Q Q1 : Int32 → Wd → Prop} {QX QX1 : String → Wd → Prop} (hQ : ∀ u0 u1, Q u0 u1 → Q1 u0 u1) (hX : ∀ E w1, QX E w1 → QX1 E w1) : wp_X3_buy a0 x1 x2 w Q QX → wp_X3_buy a0 x1 x2 w Q1 QX1 := by
  unfold wp_X3_buy
  repeat' (first | exact id | exact hQ _ _ | exact hX _ _ | refine mo_X3_checkRange (fun _ => ?_) (fun _ _ => ?_) | refine mo_X3_payFund (fun _ => ?_) | refine mo_X3_personAt (fun _ _ => ?_) (fun _ _ => ?_) | (refine Exists.imp (fun _ => ?_)) | (refine And.imp ?_ ?_) | (refine Or.imp ?_ ?_) | (refine forall_imp (fun _ => ?_)))
theorem mo_X3_houseDebts {a0 : Nat} {r1 : Option Nat} {w : Wd} {Q Q1 : Int32 → Wd → Prop} (hQ : ∀ u0 u1, Q u0 u1 → Q1 u0 u1) : wp_X3_houseDebts a0 r1 w Q → wp_X3_houseDebts a0 r1 w Q1 := by
  unfold wp_X3_houseDebts
  repeat' (first | exact id | exact hQ _ _ | refine mo_Jx4a65c_get_915e3 (fun _ _ => ?_) | refine mo_Jx4a65c_size_8abf5 (fun _ _ => ?_) | refine mo_X1_isOfHouse (fun _ _ => ?_) | (refine Exists.imp (fun _ => ?_)) | (refine And.imp ?_ ?_) | (refine Or.imp ?_ ?_) | (refine forall_imp (fun _ => ?_)))
theorem mo_X3_highestLoan {a0 : Nat} {r1 : Option Nat} {w : Wd} {Q Q1 : Int32 → Wd → Prop} (hQ : ∀ u0 u1, Q u0 u1 → Q1 u0 u1) : wp_X3_highestLoan a0 r1 w Q → wp_X3_highestLoan a0 r1 w Q1 := by
  unfold wp_X3_highestLoan
  repeat' (first | exact id | exact hQ _ _ | refine mo_X3_houseDebts (fun _ _ => ?_) | (refine Exists.imp (fun _ => ?_)) | (refine And.imp ?_ ?_) | (refine Or.imp ?_ ?_) | (refine forall_imp (fun _ => ?_)))
theorem mo_X3_borrow {a0 : Nat} {x1 : Int32} {x2 : Int32} {x3 : Int32} {x4 : Int32} {w : Wd} {Q Q1 : Int32 → Wd → Prop} {QX QX1 : String → Wd → Prop} (hQ : ∀ u0 u1, Q u0 u1 → Q1 u0 u1) (hX : ∀ E w1, QX E w1 → QX1 E w1) : wp_X3_borrow a0 x1 x2 x3 x4 w Q QX → wp_X3_borrow a0 x1 x2 x3 x4 w Q1 QX1 := by
  unfold wp_X3_borrow
  repeat' (first | exact id | exact hQ _ _ | exact hX _ _ | refine mo_X1_hasLoan (fun _ _ => ?_) | refine mo_X1_hasShare (fun _ _ => ?_) | refine mo_X1_takeLoan (fun _ => ?_) | refine mo_X3_checkRange (fun _ => ?_) (fun _ _ => ?_) | refine mo_X3_highestLoan (fun _ _ => ?_) | refine mo_X3_personAt (fun _ _ => ?_) (fun _ _ => ?_) | (refine Exists.imp (fun _ => ?_)) | (refine And.imp ?_ ?_) | (refine Or.imp ?_ ?_) | (refine forall_imp (fun _ => ?_)))
theorem mo_X3_repay {a0 : Nat} {x1 : Int32} {x2 : Int32} {w : Wd} {Q Q1 : Int32 → Wd → Prop} {QX QX1 : String → Wd → Prop} (hQ : ∀ u0 u1, Q u0 u1 → Q1 u0 u1) (hX : ∀ E w1, QX E w1 → QX1 E w1) : wp_X3_repay a0 x1 x2 w Q QX → wp_X3_repay a0 x1 x2 w Q1 QX1 := by
  unfold wp_X3_repay
  repeat' (first | exact id | exact hQ _ _ | exact hX _ _ | refine mo_X1_hasLoan (fun _ _ => ?_) | refine mo_X3_checkRange (fun _ => ?_) (fun _ _ => ?_) | refine mo_X3_payFund (fun _ => ?_) | refine mo_X3_personAt (fun _ _ => ?_) (fun _ _ => ?_) | (refine Exists.imp (fun _ => ?_)) | (refine And.imp ?_ ?_) | (refine Or.imp ?_ ?_) | (refine forall_imp (fun _ => ?_)))
theorem mo_X3_payForOther {a0 : Nat} {r1 : Option Nat} {x2 : Int32} {w : Wd} {Q Q1 : Wd → Prop} (hQ : ∀ u0, Q u0 → Q1 u0) : wp_X3_payForOther a0 r1 x2 w Q → wp_X3_payForOther a0 r1 x2 w Q1 := by
  unfold wp_X3_payForOther
  repeat' (first | exact id | exact hQ _ | refine mo_X3_payFund (fun _ => ?_) | (refine Exists.imp (fun _ => ?_)) | (refine And.imp ?_ ?_) | (refine Or.imp ?_ ?_) | (refine forall_imp (fun _ => ?_)))
theorem mo_X3_defaultLoan {a0 : Nat} {r1 : Option Nat} {w : Wd} {Q Q1 : Wd → Prop} (hQ : ∀ u0, Q u0 → Q1 u0) : wp_X3_defaultLoan a0 r1 w Q → wp_X3_defaultLoan a0 r1 w Q1 := by
  unfold wp_X3_defaultLoan
  repeat' (first | exact id | exact hQ _ | refine mo_X3_payForOther (fun _ => ?_) | (refine Exists.imp (fun _ => ?_)) | (refine And.imp ?_ ?_) | (refine Or.imp ?_ ?_) | (refine forall_imp (fun _ => ?_)))
theorem mo_X3_month {a0 : Nat} {x1 : Int32} {w : Wd} {Q Q1 : Int32 → Wd → Prop} (hQ : ∀ u0 u1, Q u0 u1 → Q1 u0 u1) : wp_X3_month a0 x1 w Q → wp_X3_month a0 x1 w Q1 := by
  unfold wp_X3_month
  repeat' (first | exact id | exact hQ _ _ | refine mo_Jx4a65c_get_915e3 (fun _ _ => ?_) | refine mo_Jx4a65c_size_8abf5 (fun _ _ => ?_) | refine mo_X1_ageLoan (fun _ => ?_) | refine mo_X1_hasLoan (fun _ _ => ?_) | refine mo_X3_defaultLoan (fun _ => ?_) | (refine Exists.imp (fun _ => ?_)) | (refine And.imp ?_ ?_) | (refine Or.imp ?_ ?_) | (refine forall_imp (fun _ => ?_)))
theorem mo_X3_feast {a0 : Nat} {w : Wd} {Q Q1 : Int32 → Wd → Prop} {QX QX1 : String → Wd → Prop} (hQ : ∀ u0 u1, Q u0 u1 → Q1 u0 u1) (hX : ∀ E w1, QX E w1 → QX1 E w1) : wp_X3_feast a0 w Q QX → wp_X3_feast a0 w Q1 QX1 := by
  unfold wp_X3_feast
  repeat' (first | exact id | exact hQ _ _ | exact hX _ _ | refine mo_Jx4a65c_get_915e3 (fun _ _ => ?_) | refine mo_Jx4a65c_size_8abf5 (fun _ _ => ?_) | refine mo_X1_getOut (fun _ => ?_) | refine mo_X1_hasLoan (fun _ _ => ?_) | (refine Exists.imp (fun _ => ?_)) | (refine And.imp ?_ ?_) | (refine Or.imp ?_ ?_) | (refine forall_imp (fun _ => ?_)))
theorem mo_X3_note {a0 : Nat} {x1 : Int32} {x2 : Int32} {x3 : Int32} {w : Wd} {Q Q1 : Int32 → Wd → Prop} {QX QX1 : String → Wd → Prop} (hQ : ∀ u0 u1, Q u0 u1 → Q1 u0 u1) (hX : ∀ E w1, QX E w1 → QX1 E w1) : wp_X3_note a0 x1 x2 x3 w Q QX → wp_X3_note a0 x1 x2 x3 w Q1 QX1 := by
  unfold wp_X3_note
  repeat' (first | exact id | exact hQ _ _ | exact hX _ _ | refine mo_X3_checkRange (fun _ => ?_) (fun _ _ => ?_) | refine mo_X3_personAt (fun _ _ => ?_) (fun _ _ => ?_) | (refine Exists.imp (fun _ => ?_)) | (refine And.imp ?_ ?_) | (refine Or.imp ?_ ?_) | (refine forall_imp (fun _ => ?_)))
theorem mo_X3_audit {a0 : Nat} {x1 : Int32} {w : Wd} {Q Q1 : Int32 → Wd → Prop} {QX QX1 : String → Wd → Prop} (hQ : ∀ u0 u1, Q u0 u1 → Q1 u0 u1) (hX : ∀ E w1, QX E w1 → QX1 E w1) : wp_X3_audit a0 x1 w Q QX → wp_X3_audit a0 x1 w Q1 QX1 := by
  unfold wp_X3_audit
  repeat' (first | exact id | exact hQ _ _ | exact hX _ _ | refine mo_Jx4a65c_get_915e3 (fun _ _ => ?_) | refine mo_Jx4a65c_size_8abf5 (fun _ _ => ?_) | (refine Exists.imp (fun _ => ?_)) | (refine And.imp ?_ ?_) | (refine Or.imp ?_ ?_) | (refine forall_imp (fun _ => ?_)))
theorem mo_X3_houseSize {a0 : Nat} {r1 : Option Nat} {w : Wd} {Q Q1 : Int32 → Wd → Prop} (hQ : ∀ u0 u1, Q u0 u1 → Q1 u0 u1) : wp_X3_houseSize a0 r1 w Q → wp_X3_houseSize a0 r1 w Q1 := by
  unfold wp_X3_houseSize
  repeat' (first | exact id | exact hQ _ _ | refine mo_Jx4a65c_get_915e3 (fun _ _ => ?_) | refine mo_Jx4a65c_size_8abf5 (fun _ _ => ?_) | refine mo_X1_isOfHouse (fun _ _ => ?_) | (refine Exists.imp (fun _ => ?_)) | (refine And.imp ?_ ?_) | (refine Or.imp ?_ ?_) | (refine forall_imp (fun _ => ?_)))
theorem mo_X3_of {a0 : Nat} {x1 : Int32} {x2 : Int32} {w : Wd} {Q Q1 : Int32 → Wd → Prop} {QX QX1 : String → Wd → Prop} (hQ : ∀ u0 u1, Q u0 u1 → Q1 u0 u1) (hX : ∀ E w1, QX E w1 → QX1 E w1) : wp_X3_of a0 x1 x2 w Q QX → wp_X3_of a0 x1 x2 w Q1 QX1 := by
  unfold wp_X3_of
  repeat' (first | exact id | exact hQ _ _ | exact hX _ _ | refine mo_X3_checkRange (fun _ => ?_) (fun _ _ => ?_) | refine mo_X3_houseSize (fun _ _ => ?_) | refine mo_X3_personAt (fun _ _ => ?_) (fun _ _ => ?_) | (refine Exists.imp (fun _ => ?_)) | (refine And.imp ?_ ?_) | (refine Or.imp ?_ ?_) | (refine forall_imp (fun _ => ?_)))
theorem mo_X3_member {a0 : Nat} {x1 : Int32} {x2 : Int32} {x3 : Int32} {w : Wd} {Q Q1 : Int32 → Wd → Prop} {QX QX1 : String → Wd → Prop} (hQ : ∀ u0 u1, Q u0 u1 → Q1 u0 u1) (hX : ∀ E w1, QX E w1 → QX1 E w1) : wp_X3_member a0 x1 x2 x3 w Q QX → wp_X3_member a0 x1 x2 x3 w Q1 QX1 := by
  unfold wp_X3_member
  repeat' (first | exact id | exact hQ _ _ | exact hX _ _ | refine mo_X0_indexOf (fun _ _ => ?_) | refine mo_X0_placeOf (fun _ _ => ?_) | refine mo_X3_checkRange (fun _ => ?_) (fun _ _ => ?_) | refine mo_X3_circleAt (fun _ _ => ?_) (fun _ _ => ?_) | refine mo_X3_personAt (fun _ _ => ?_) (fun _ _ => ?_) | (refine Exists.imp (fun _ => ?_)) | (refine And.imp ?_ ?_) | (refine Or.imp ?_ ?_) | (refine forall_imp (fun _ => ?_)))
theorem mo_X3_ofCircle {a0 : Nat} {x1 : Int32} {x2 : Int32} {w : Wd} {Q Q1 : Int32 → Wd → Prop} {QX QX1 : String → Wd → Prop} (hQ : ∀ u0 u1, Q u0 u1 → Q1 u0 u1) (hX : ∀ E w1, QX E w1 → QX1 E w1) : wp_X3_ofCircle a0 x1 x2 w Q QX → wp_X3_ofCircle a0 x1 x2 w Q1 QX1 := by
  unfold wp_X3_ofCircle
  repeat' (first | exact id | exact hQ _ _ | exact hX _ _ | refine mo_Jx4a65c_size_8abf5 (fun _ _ => ?_) | refine mo_X0_upNext (fun _ _ => ?_) | refine mo_X3_checkRange (fun _ => ?_) (fun _ _ => ?_) | refine mo_X3_circleAt (fun _ _ => ?_) (fun _ _ => ?_) | refine mo_X3_numberAt (fun _ _ => ?_) | (refine Exists.imp (fun _ => ?_)) | (refine And.imp ?_ ?_) | (refine Or.imp ?_ ?_) | (refine forall_imp (fun _ => ?_)))
theorem mo_X3_cash {a0 : Nat} {w : Wd} {Q Q1 : Int32 → Wd → Prop} (hQ : ∀ u0 u1, Q u0 u1 → Q1 u0 u1) : wp_X3_cash a0 w Q → wp_X3_cash a0 w Q1 := by
  unfold wp_X3_cash
  repeat' (first | exact id | exact hQ _ _ | (refine Exists.imp (fun _ => ?_)) | (refine And.imp ?_ ?_) | (refine Or.imp ?_ ?_) | (refine forall_imp (fun _ => ?_)))
theorem mo_X3_coins {a0 : Nat} {w : Wd} {Q Q1 : Int32 → Wd → Prop} (hQ : ∀ u0 u1, Q u0 u1 → Q1 u0 u1) : wp_X3_coins a0 w Q → wp_X3_coins a0 w Q1 := by
  unfold wp_X3_coins
  repeat' (first | exact id | exact hQ _ _ | refine mo_Jx4a65c_get_915e3 (fun _ _ => ?_) | refine mo_Jx4a65c_size_8abf5 (fun _ _ => ?_) | (refine Exists.imp (fun _ => ?_)) | (refine And.imp ?_ ?_) | (refine Or.imp ?_ ?_) | (refine forall_imp (fun _ => ?_)))
