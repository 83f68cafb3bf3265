-- ===== a call of the class with its three throws (no row is written: J is nobody's here)
def wp_L_person (r0 : Option Nat) (x1 : Int32) (x2 : Int32) (r3 : Option Nat) (w : Wd) (Q : Int32 → Wd → Prop) : Prop :=
  ∃ a1, r0 = some a1 ∧ w.K a1 = 4 ∧
  wp_X3_person a1 x1 x2 w (fun v3 w2 => 
  ∃ a5, r3 = some a5 ∧ True ∧
  ∃ j6 : Nat, (0 : Int32) = nI j6 ∧ j6 = 0 ∧ True ∧
  ∀ w7 : Wd, w7 = w2.setJ a5 j6 v3.toInt64 →
  Q (0 : Int32) w7) (fun E w4 => (E = "java/lang/IllegalArgumentException" ∧ Q (1 : Int32) w4) ∨ (E = "java/lang/IllegalStateException" ∧ Q (2 : Int32) w4))
def wp_L_earn (r0 : Option Nat) (x1 : Int32) (x2 : Int32) (r3 : Option Nat) (w : Wd) (Q : Int32 → Wd → Prop) : Prop :=
  ∃ a1, r0 = some a1 ∧ w.K a1 = 4 ∧
  wp_X3_earn a1 x1 x2 w (fun v3 w2 => 
  ∃ a5, r3 = some a5 ∧ True ∧
  ∃ j6 : Nat, (0 : Int32) = nI j6 ∧ j6 = 0 ∧ True ∧
  ∀ w7 : Wd, w7 = w2.setJ a5 j6 v3.toInt64 →
  Q (0 : Int32) w7) (fun E w4 => (E = "java/lang/IndexOutOfBoundsException" ∧ Q (1 : Int32) w4) ∨ (E = "java/lang/IllegalArgumentException" ∧ Q (2 : Int32) w4) ∨ (E = "java/lang/IllegalStateException" ∧ Q (3 : Int32) w4))
def wp_L_die (r0 : Option Nat) (x1 : Int32) (x2 : Int32) (r3 : Option Nat) (w : Wd) (Q : Int32 → Wd → Prop) : Prop :=
  ∃ a1, r0 = some a1 ∧ w.K a1 = 4 ∧
  wp_X3_die a1 x1 x2 w (fun v3 w2 => 
  ∃ a5, r3 = some a5 ∧ True ∧
  ∃ j6 : Nat, (0 : Int32) = nI j6 ∧ j6 = 0 ∧ True ∧
  ∀ w7 : Wd, w7 = w2.setJ a5 j6 v3.toInt64 →
  Q (0 : Int32) w7) (fun E w4 => (E = "java/lang/IndexOutOfBoundsException" ∧ Q (1 : Int32) w4) ∨ (E = "java/lang/IllegalArgumentException" ∧ Q (2 : Int32) w4) ∨ (E = "java/lang/IllegalStateException" ∧ Q (3 : Int32) w4))
def wp_L_circle (r0 : Option Nat) (x1 : Int32) (x2 : Int32) (r3 : Option Nat) (w : Wd) (Q : Int32 → Wd → Prop) : Prop :=
  ∃ a1, r0 = some a1 ∧ w.K a1 = 4 ∧
  wp_X3_circle a1 x1 x2 w (fun v3 w2 => 
  ∃ a5, r3 = some a5 ∧ True ∧
  ∃ j6 : Nat, (0 : Int32) = nI j6 ∧ j6 = 0 ∧ True ∧
  ∀ w7 : Wd, w7 = w2.setJ a5 j6 v3.toInt64 →
  Q (0 : Int32) w7) (fun E w4 => (E = "java/lang/IllegalArgumentException" ∧ Q (1 : Int32) w4) ∨ (E = "java/lang/IllegalStateException" ∧ Q (2 : Int32) w4))
def wp_L_enter (r0 : Option Nat) (x1 : Int32) (x2 : Int32) (r3 : Option Nat) (w : Wd) (Q : Int32 → Wd → Prop) : Prop :=
  ∃ a1, r0 = some a1 ∧ w.K a1 = 4 ∧
  wp_X3_enter a1 x1 x2 w (fun v3 w2 => 
  ∃ a5, r3 = some a5 ∧ True ∧
  ∃ j6 : Nat, (0 : Int32) = nI j6 ∧ j6 = 0 ∧ True ∧
  ∀ w7 : Wd, w7 = w2.setJ a5 j6 v3.toInt64 →
  Q (0 : Int32) w7) (fun E w4 => (E = "java/lang/IndexOutOfBoundsException" ∧ Q (1 : Int32) w4) ∨ (E = "java/lang/IllegalStateException" ∧ Q (2 : Int32) w4))
def wp_L_start (r0 : Option Nat) (x1 : Int32) (x2 : Int32) (r3 : Option Nat) (w : Wd) (Q : Int32 → Wd → Prop) : Prop :=
  ∃ a1, r0 = some a1 ∧ w.K a1 = 4 ∧
  wp_X3_start a1 x1 x2 w (fun v3 w2 => 
  ∃ a5, r3 = some a5 ∧ True ∧
  ∃ j6 : Nat, (0 : Int32) = nI j6 ∧ j6 = 0 ∧ True ∧
  ∀ w7 : Wd, w7 = w2.setJ a5 j6 v3.toInt64 →
  Q (0 : Int32) w7) (fun E w4 => (E = "java/lang/IndexOutOfBoundsException" ∧ Q (1 : Int32) w4) ∨ (E = "java/lang/IllegalArgumentException" ∧ Q (2 : Int32) w4) ∨ (E = "java/lang/IllegalStateException" ∧ Q (3 : Int32) w4))
def wp_L_want (r0 : Option Nat) (x1 : Int32) (x2 : Int32) (x3 : Int32) (x4 : Int32) (r5 : Option Nat) (w : Wd) (Q : Int32 → Wd → Prop) : Prop :=
  ∃ a1, r0 = some a1 ∧ w.K a1 = 4 ∧
  wp_X3_want a1 x1 x2 x3 x4 w (fun v3 w2 => 
  ∃ a5, r5 = some a5 ∧ True ∧
  ∃ j6 : Nat, (0 : Int32) = nI j6 ∧ j6 = 0 ∧ True ∧
  ∀ w7 : Wd, w7 = w2.setJ a5 j6 v3.toInt64 →
  Q (0 : Int32) w7) (fun E w4 => (E = "java/lang/IndexOutOfBoundsException" ∧ Q (1 : Int32) w4) ∨ (E = "java/lang/IllegalArgumentException" ∧ Q (2 : Int32) w4) ∨ (E = "java/lang/IllegalStateException" ∧ Q (3 : Int32) w4))
def wp_L_meet (r0 : Option Nat) (x1 : Int32) (x2 : Int32) (r3 : Option Nat) (w : Wd) (Q : Int32 → Wd → Prop) : Prop :=
  ∃ a1, r0 = some a1 ∧ w.K a1 = 4 ∧
  wp_X3_meet a1 x1 x2 w (fun v3 w2 => 
  ∃ a5, r3 = some a5 ∧ True ∧
  ∃ j6 : Nat, (0 : Int32) = nI j6 ∧ j6 = 0 ∧ True ∧
  ∀ w7 : Wd, w7 = w2.setJ a5 j6 v3.toInt64 →
  Q (0 : Int32) w7) (fun E w4 => (E = "java/lang/IndexOutOfBoundsException" ∧ Q (1 : Int32) w4) ∨ (E = "java/lang/IllegalStateException" ∧ Q (2 : Int32) w4))
def wp_L_leave (r0 : Option Nat) (x1 : Int32) (x2 : Int32) (r3 : Option Nat) (w : Wd) (Q : Int32 → Wd → Prop) : Prop :=
  ∃ a1, r0 = some a1 ∧ w.K a1 = 4 ∧
  wp_X3_leave a1 x1 x2 w (fun v3 w2 => 
  ∃ a5, r3 = some a5 ∧ True ∧
  ∃ j6 : Nat, (0 : Int32) = nI j6 ∧ j6 = 0 ∧ True ∧
  ∀ w7 : Wd, w7 = w2.setJ a5 j6 v3.toInt64 →
  Q (0 : Int32) w7) (fun E w4 => (E = "java/lang/IndexOutOfBoundsException" ∧ Q (1 : Int32) w4) ∨ (E = "java/lang/IllegalStateException" ∧ Q (2 : Int32) w4))
def wp_L_buy (r0 : Option Nat) (x1 : Int32) (x2 : Int32) (r3 : Option Nat) (w : Wd) (Q : Int32 → Wd → Prop) : Prop :=
  ∃ a1, r0 = some a1 ∧ w.K a1 = 4 ∧
  wp_X3_buy a1 x1 x2 w (fun v3 w2 => 
  ∃ a5, r3 = some a5 ∧ True ∧
  ∃ j6 : Nat, (0 : Int32) = nI j6 ∧ j6 = 0 ∧ True ∧
  ∀ w7 : Wd, w7 = w2.setJ a5 j6 v3.toInt64 →
  Q (0 : Int32) w7) (fun E w4 => (E = "java/lang/IndexOutOfBoundsException" ∧ Q (1 : Int32) w4) ∨ (E = "java/lang/IllegalArgumentException" ∧ Q (2 : Int32) w4) ∨ (E = "java/lang/IllegalStateException" ∧ Q (3 : Int32) w4))
def wp_L_borrow (r0 : Option Nat) (x1 : Int32) (x2 : Int32) (x3 : Int32) (x4 : Int32) (r5 : Option Nat) (w : Wd) (Q : Int32 → Wd → Prop) : Prop :=
  ∃ a1, r0 = some a1 ∧ w.K a1 = 4 ∧
  wp_X3_borrow a1 x1 x2 x3 x4 w (fun v3 w2 => 
  ∃ a5, r5 = some a5 ∧ True ∧
  ∃ j6 : Nat, (0 : Int32) = nI j6 ∧ j6 = 0 ∧ True ∧
  ∀ w7 : Wd, w7 = w2.setJ a5 j6 v3.toInt64 →
  Q (0 : Int32) w7) (fun E w4 => (E = "java/lang/IndexOutOfBoundsException" ∧ Q (1 : Int32) w4) ∨ (E = "java/lang/IllegalArgumentException" ∧ Q (2 : Int32) w4) ∨ (E = "java/lang/IllegalStateException" ∧ Q (3 : Int32) w4))
def wp_L_repay (r0 : Option Nat) (x1 : Int32) (x2 : Int32) (r3 : Option Nat) (w : Wd) (Q : Int32 → Wd → Prop) : Prop :=
  ∃ a1, r0 = some a1 ∧ w.K a1 = 4 ∧
  wp_X3_repay a1 x1 x2 w (fun v3 w2 => 
  ∃ a5, r3 = some a5 ∧ True ∧
  ∃ j6 : Nat, (0 : Int32) = nI j6 ∧ j6 = 0 ∧ True ∧
  ∀ w7 : Wd, w7 = w2.setJ a5 j6 v3.toInt64 →
  Q (0 : Int32) w7) (fun E w4 => (E = "java/lang/IndexOutOfBoundsException" ∧ Q (1 : Int32) w4) ∨ (E = "java/lang/IllegalArgumentException" ∧ Q (2 : Int32) w4) ∨ (E = "java/lang/IllegalStateException" ∧ Q (3 : Int32) w4))
def wp_L_feast (r0 : Option Nat) (r1 : Option Nat) (w : Wd) (Q : Int32 → Wd → Prop) : Prop :=
  ∃ a1, r0 = some a1 ∧ w.K a1 = 4 ∧
  wp_X3_feast a1 w (fun v3 w2 => 
  ∃ a5, r1 = some a5 ∧ True ∧
  ∃ j6 : Nat, (0 : Int32) = nI j6 ∧ j6 = 0 ∧ True ∧
  ∀ w7 : Wd, w7 = w2.setJ a5 j6 v3.toInt64 →
  Q (0 : Int32) w7) (fun E w4 => (E = "java/lang/IllegalStateException" ∧ Q (1 : Int32) w4))
def wp_L_note (r0 : Option Nat) (x1 : Int32) (x2 : Int32) (x3 : Int32) (r4 : Option Nat) (w : Wd) (Q : Int32 → Wd → Prop) : Prop :=
  ∃ a1, r0 = some a1 ∧ w.K a1 = 4 ∧
  wp_X3_note a1 x1 x2 x3 w (fun v3 w2 => 
  ∃ a5, r4 = some a5 ∧ True ∧
  ∃ j6 : Nat, (0 : Int32) = nI j6 ∧ j6 = 0 ∧ True ∧
  ∀ w7 : Wd, w7 = w2.setJ a5 j6 v3.toInt64 →
  Q (0 : Int32) w7) (fun E w4 => (E = "java/lang/IndexOutOfBoundsException" ∧ Q (1 : Int32) w4) ∨ (E = "java/lang/IllegalArgumentException" ∧ Q (2 : Int32) w4))
def wp_L_audit (r0 : Option Nat) (x1 : Int32) (r2 : Option Nat) (w : Wd) (Q : Int32 → Wd → Prop) : Prop :=
  ∃ a1, r0 = some a1 ∧ w.K a1 = 4 ∧
  wp_X3_audit a1 x1 w (fun v3 w2 => 
  ∃ a5, r2 = some a5 ∧ True ∧
  ∃ j6 : Nat, (0 : Int32) = nI j6 ∧ j6 = 0 ∧ True ∧
  ∀ w7 : Wd, w7 = w2.setJ a5 j6 v3.toInt64 →
  Q (0 : Int32) w7) (fun E w4 => (E = "java/lang/IndexOutOfBoundsException" ∧ Q (1 : Int32) w4))
def wp_L_of (r0 : Option Nat) (x1 : Int32) (x2 : Int32) (r3 : Option Nat) (w : Wd) (Q : Int32 → Wd → Prop) : Prop :=
  ∃ a1, r0 = some a1 ∧ w.K a1 = 4 ∧
  wp_X3_of a1 x1 x2 w (fun v3 w2 => 
  ∃ a5, r3 = some a5 ∧ True ∧
  ∃ j6 : Nat, (0 : Int32) = nI j6 ∧ j6 = 0 ∧ True ∧
  ∀ w7 : Wd, w7 = w2.setJ a5 j6 v3.toInt64 →
  Q (0 : Int32) w7) (fun E w4 => (E = "java/lang/IndexOutOfBoundsException" ∧ Q (1 : Int32) w4) ∨ (E = "java/lang/IllegalArgumentException" ∧ Q (2 : Int32) w4))
def wp_L_member (r0 : Option Nat) (x1 : Int32) (x2 : Int32) (x3 : Int32) (r4 : Option Nat) (w : Wd) (Q : Int32 → Wd → Prop) : Prop :=
  ∃ a1, r0 = some a1 ∧ w.K a1 = 4 ∧
  wp_X3_member a1 x1 x2 x3 w (fun v3 w2 => 
  ∃ a5, r4 = some a5 ∧ True ∧
  ∃ j6 : Nat, (0 : Int32) = nI j6 ∧ j6 = 0 ∧ True ∧
  ∀ w7 : Wd, w7 = w2.setJ a5 j6 v3.toInt64 →
  Q (0 : Int32) w7) (fun E w4 => (E = "java/lang/IndexOutOfBoundsException" ∧ Q (1 : Int32) w4) ∨ (E = "java/lang/IllegalArgumentException" ∧ Q (2 : Int32) w4))
def wp_L_ofCircle (r0 : Option Nat) (x1 : Int32) (x2 : Int32) (r3 : Option Nat) (w : Wd) (Q : Int32 → Wd → Prop) : Prop :=
  ∃ a1, r0 = some a1 ∧ w.K a1 = 4 ∧
  wp_X3_ofCircle a1 x1 x2 w (fun v3 w2 => 
  ∃ a5, r3 = some a5 ∧ True ∧
  ∃ j6 : Nat, (0 : Int32) = nI j6 ∧ j6 = 0 ∧ True ∧
  ∀ w7 : Wd, w7 = w2.setJ a5 j6 v3.toInt64 →
  Q (0 : Int32) w7) (fun E w4 => (E = "java/lang/IndexOutOfBoundsException" ∧ Q (1 : Int32) w4) ∨ (E = "java/lang/IllegalArgumentException" ∧ Q (2 : Int32) w4))
