-- ===== the law's calls, where the object is known
/-- the object at x, the law's row of names at mo, its code o: all as S says -/
def AT (x mo o : Nat) (S : MS) (w : Wd) : Prop := ∃ G : GH, G.x = x ∧ G.mo = mo ∧ G.o = o ∧ RC w G S S
theorem AT.gk {x mo o : Nat} {S : MS} {w : Wd} {G G' : GH} (a : G.x = x) (b : G.mo = mo) (c : G.o = o) (g : GK G G') (q : RC w G' S S) : AT x mo o S w := ⟨G', g.1.trans a, g.2.2.trans b, g.2.1.trans c, q⟩
theorem fof_0 {S : MS} {i : Nat} : fof S i 0 = S.a 504 i := if_pos rfl
theorem fof_1 {S : MS} {i : Nat} : fof S i 1 = S.a 505 i := (if_neg (by decide)).trans (if_pos rfl)
theorem fof_2 {S : MS} {i : Nat} : fof S i 2 = S.a 506 i := (if_neg (by decide)).trans ((if_neg (by decide)).trans (if_pos rfl))
theorem fof_3 {S : MS} {i : Nat} : fof S i 3 = S.a 510 i := (if_neg (by decide)).trans ((if_neg (by decide)).trans ((if_neg (by decide)).trans (if_pos rfl)))
theorem fof_4 {S : MS} {i : Nat} : fof S i 4 = S.a 511 i := (if_neg (by decide)).trans ((if_neg (by decide)).trans ((if_neg (by decide)).trans ((if_neg (by decide)).trans (if_pos rfl))))
theorem fof_5 {S : MS} {i : Nat} : fof S i 5 = if S.a 512 i = 0 then 1 else 0 := (if_neg (by decide)).trans ((if_neg (by decide)).trans ((if_neg (by decide)).trans ((if_neg (by decide)).trans ((if_neg (by decide)).trans (if_pos rfl)))))
theorem fof_6 {S : MS} {i : Nat} : fof S i 6 = hcnt S i (fun _ => 1) (nP S) := (if_neg (by decide)).trans ((if_neg (by decide)).trans ((if_neg (by decide)).trans ((if_neg (by decide)).trans ((if_neg (by decide)).trans (if_neg (by decide))))))
theorem fof_al {S : MS} {i : Nat} : fof S i 5 = 1 ↔ S.a 512 i = 0 := by
  rw [fof_5]
  by_cases z : S.a 512 i = 0
  · rw [if_pos z]; exact ⟨fun _ => z, fun _ => rfl⟩
  · rw [if_neg z]; exact ⟨fun y => absurd y (by decide), fun y => absurd y z⟩
theorem fcir_0 {S : MS} {i : Nat} : fcir S i 0 = S.a 516 i := if_pos rfl
theorem fcir_1 {S : MS} {i : Nat} : fcir S i 1 = S.a 517 i := (if_neg (by decide)).trans (if_pos rfl)
theorem fcir_2 {S : MS} {i : Nat} : fcir S i 2 = S.a 518 i := (if_neg (by decide)).trans ((if_neg (by decide)).trans (if_pos rfl))
theorem fcir_3 {S : MS} {i : Nat} : fcir S i 3 = S.a 519 i := (if_neg (by decide)).trans ((if_neg (by decide)).trans ((if_neg (by decide)).trans (if_pos rfl)))
theorem fcir_4 {S : MS} {i : Nat} : fcir S i 4 = if S.a 520 i = 0 then -1 else whoT S i (tof S i (mn S i)) := (if_neg (by decide)).trans ((if_neg (by decide)).trans ((if_neg (by decide)).trans (if_neg (by decide))))
/-- what member answers -/
def fm (S : MS) (c i : Nat) (y : Int32) : Int32 := match pl S c i with
  | none => -1
  | some k => fmem S c k y
theorem fm_y {S : MS} {c i k : Nat} {y : Int32} (hD : DI S) (hc : c < nC S) (hk : k < mn S c) (hw : wh S (10 * c + k) = i) : fm S c i y = fmem S c k y := by unfold fm; rw [pl_eq hD hc hk hw]
theorem fm_n {S : MS} {c i : Nat} {y : Int32} (h : ∀ k, k < mn S c → wh S (10 * c + k) ≠ i) : fm S c i y = -1 := by unfold fm; rw [pl_no h]
theorem fmem_0 {S : MS} {c k : Nat} : fmem S c k 0 = S.a 522 (10 * c + k) := if_pos rfl
theorem fmem_1 {S : MS} {c k : Nat} : fmem S c k 1 = if S.a 527 (10 * c + k) = 0 then 0 else 1 := (if_neg (by decide)).trans (if_pos rfl)
theorem fmem_2 {S : MS} {c k : Nat} : fmem S c k 2 = S.a 525 (10 * c + k) := (if_neg (by decide)).trans ((if_neg (by decide)).trans (if_pos rfl))
theorem fmem_3 {S : MS} {c k : Nat} : fmem S c k 3 = nI k := (if_neg (by decide)).trans ((if_neg (by decide)).trans (if_neg (by decide)))
section ATS
variable {x mo o n : Nat} {S : MS} {w : Wd}
theorem AT.k (h : AT x mo o S w) : w.K x = 4 := by
  obtain ⟨G, rfl, -, -, q⟩ := h
  exact q.kx
theorem AT.of {Q : Int32 → Wd → Prop} {i : Nat} {y : Int32} (h : AT x mo o S w) (v : JV n S) (hi : i < nP S) (h0 : ¬ y < 0) (h6 : y ≤ 6) (hQ : ∀ w1, AT x mo o S w1 → Q (fof S i y) w1) : w.K x = 4 ∧ wp_X3_of x (nI i) y w Q (fun _ _ => False) := by
  refine ⟨h.k, ?_⟩
  obtain ⟨G, rfl, rfl, rfl, q⟩ := h
  exact a_of q v hi h0 h6 (fun w1 G' g q' => hQ w1 (AT.gk rfl rfl rfl g q'))
theorem AT.mem {Q : Int32 → Wd → Prop} {c i : Nat} {y : Int32} (h : AT x mo o S w) (v : JV n S) (hc : c < nC S) (hi : i < nP S) (h0 : ¬ y < 0) (h6 : y ≤ 3) (hQ : ∀ w1, AT x mo o S w1 → Q (fm S c i y) w1) : w.K x = 4 ∧ wp_X3_member x (nI c) (nI i) y w Q (fun _ _ => False) := by
  refine ⟨h.k, ?_⟩
  obtain ⟨G, rfl, rfl, rfl, q⟩ := h
  exact a_mem q v hc hi h0 h6 (fun k hk hw w1 G' g q' => by rw [← fm_y v.di hc hk hw]; exact hQ w1 (AT.gk rfl rfl rfl g q')) (fun hno w1 G' g q' => by rw [← fm_n (y := y) hno]; exact hQ w1 (AT.gk rfl rfl rfl g q'))
theorem AT.cir {Q : Int32 → Wd → Prop} {c : Nat} {y : Int32} (h : AT x mo o S w) (v : JV n S) (hc : c < nC S) (h0 : ¬ y < 0) (h6 : y ≤ 4) (hQ : ∀ w1, AT x mo o S w1 → Q (fcir S c y) w1) : w.K x = 4 ∧ wp_X3_ofCircle x (nI c) y w Q (fun _ _ => False) := by
  refine ⟨h.k, ?_⟩
  obtain ⟨G, rfl, rfl, rfl, q⟩ := h
  exact a_cir q v hc h0 h6 (fun w1 G' g q' => hQ w1 (AT.gk rfl rfl rfl g q'))
theorem AT.cash {Q : Int32 → Wd → Prop} (h : AT x mo o S w) (v : JV n S) (hQ : ∀ w1, AT x mo o S w1 → Q (S.s 528) w1) : w.K x = 4 ∧ wp_X3_cash x w Q := by
  refine ⟨h.k, ?_⟩
  obtain ⟨G, rfl, rfl, rfl, q⟩ := h
  exact a_cash q v (fun w1 G' g q' => hQ w1 (AT.gk rfl rfl rfl g q'))
theorem AT.coins {Q : Int32 → Wd → Prop} (h : AT x mo o S w) (v : JV n S) (hn : n ≤ 512) (hQ : ∀ w1, AT x mo o S w1 → Q 0 w1) : w.K x = 4 ∧ wp_X3_coins x w Q := by
  refine ⟨h.k, ?_⟩
  obtain ⟨G, rfl, rfl, rfl, q⟩ := h
  exact a_coins q v hn (fun w1 G' g q' => hQ w1 (AT.gk rfl rfl rfl g q'))
theorem AT.earn {x1 x2 : Int32} (h : AT x mo o S w) (v : JV n S) : ∃ r S', I_earn S x1 x2 r S' ∧ ∀ Q : Int32 → Wd → Prop, (S'.s 500 = 0 ∨ S'.s 500 = 3) → (S'.s 500 = 0 → ∀ w1, AT x mo o S' w1 → Q 1 w1) → (S'.s 500 = 3 → ∀ w1, AT x mo o S' w1 → Q 0 w1) → wp_L_isEarn (some x) x1 x2 w Q := by
  obtain ⟨G, rfl, rfl, rfl, q⟩ := h
  obtain ⟨k, r, S', rfl, hI, hm⟩ := u_earn (x1 := x1) (x2 := x2) q v
  exact ⟨r, S', hI, fun Q hk h0 h3 => ⟨_, rfl, q.kx, hm hk _ _ (fun e => fun w1 G' g q' => ⟨Or.inr rfl, h0 e w1 (AT.gk rfl rfl rfl g q')⟩) (fun e => fun w1 G' g q' => ⟨rfl, Or.inl rfl, h3 e w1 (AT.gk rfl rfl rfl g q')⟩)⟩⟩
theorem AT.die {x1 x2 : Int32} (h : AT x mo o S w) (v : JV n S) : ∃ r S', I_die S x1 x2 r S' ∧ ∀ Q : Int32 → Wd → Prop, (S'.s 500 = 0 ∨ S'.s 500 = 3) → (S'.s 500 = 0 → ∀ w1, AT x mo o S' w1 → Q 1 w1) → (S'.s 500 = 3 → ∀ w1, AT x mo o S' w1 → Q 0 w1) → wp_L_isDie (some x) x1 x2 w Q := by
  obtain ⟨G, rfl, rfl, rfl, q⟩ := h
  obtain ⟨k, r, S', rfl, hI, hm⟩ := u_die (x1 := x1) (x2 := x2) q v
  exact ⟨r, S', hI, fun Q hk h0 h3 => ⟨_, rfl, q.kx, hm hk _ _ (fun e => fun w1 G' g q' => ⟨Or.inr rfl, h0 e w1 (AT.gk rfl rfl rfl g q')⟩) (fun e => fun w1 G' g q' => ⟨rfl, Or.inl rfl, h3 e w1 (AT.gk rfl rfl rfl g q')⟩)⟩⟩
theorem AT.enter {x1 x2 : Int32} (h : AT x mo o S w) (v : JV n S) : ∃ r S', I_enter S x1 x2 r S' ∧ ∀ Q : Int32 → Wd → Prop, (S'.s 500 = 0 ∨ S'.s 500 = 2) → (S'.s 500 = 0 → ∀ w1, AT x mo o S' w1 → Q 1 w1) → (S'.s 500 = 2 → ∀ w1, AT x mo o S' w1 → Q 0 w1) → wp_L_isEnter (some x) x1 x2 w Q := by
  obtain ⟨G, rfl, rfl, rfl, q⟩ := h
  obtain ⟨k, r, S', rfl, hI, hm⟩ := u_enter (x1 := x1) (x2 := x2) q v
  exact ⟨r, S', hI, fun Q hk h0 h3 => ⟨_, rfl, q.kx, hm hk _ _ (fun e => fun w1 G' g q' => ⟨Or.inr rfl, h0 e w1 (AT.gk rfl rfl rfl g q')⟩) (fun e => fun w1 G' g q' => ⟨rfl, Or.inl rfl, h3 e w1 (AT.gk rfl rfl rfl g q')⟩)⟩⟩
theorem AT.start {x1 x2 : Int32} (h : AT x mo o S w) (v : JV n S) : ∃ r S', I_start S x1 x2 r S' ∧ ∀ Q : Int32 → Wd → Prop, (S'.s 500 = 0 ∨ S'.s 500 = 3) → (S'.s 500 = 0 → ∀ w1, AT x mo o S' w1 → Q 1 w1) → (S'.s 500 = 3 → ∀ w1, AT x mo o S' w1 → Q 0 w1) → wp_L_isStart (some x) x1 x2 w Q := by
  obtain ⟨G, rfl, rfl, rfl, q⟩ := h
  obtain ⟨k, r, S', rfl, hI, hm⟩ := u_start (x1 := x1) (x2 := x2) q v
  exact ⟨r, S', hI, fun Q hk h0 h3 => ⟨_, rfl, q.kx, hm hk _ _ (fun e => fun w1 G' g q' => ⟨Or.inr rfl, h0 e w1 (AT.gk rfl rfl rfl g q')⟩) (fun e => fun w1 G' g q' => ⟨rfl, Or.inl rfl, h3 e w1 (AT.gk rfl rfl rfl g q')⟩)⟩⟩
theorem AT.want {x1 x2 x3 x4 : Int32} (h : AT x mo o S w) (v : JV n S) : ∃ r S', I_want S x1 x2 x3 x4 r S' ∧ ∀ Q : Int32 → Wd → Prop, (S'.s 500 = 0 ∨ S'.s 500 = 3) → (S'.s 500 = 0 → ∀ w1, AT x mo o S' w1 → Q 1 w1) → (S'.s 500 = 3 → ∀ w1, AT x mo o S' w1 → Q 0 w1) → wp_L_isWant (some x) x1 x2 x3 x4 w Q := by
  obtain ⟨G, rfl, rfl, rfl, q⟩ := h
  obtain ⟨k, r, S', rfl, hI, hm⟩ := u_want (x1 := x1) (x2 := x2) (x3 := x3) (x4 := x4) q v
  exact ⟨r, S', hI, fun Q hk h0 h3 => ⟨_, rfl, q.kx, hm hk _ _ (fun e => fun w1 G' g q' => ⟨Or.inr rfl, h0 e w1 (AT.gk rfl rfl rfl g q')⟩) (fun e => fun w1 G' g q' => ⟨rfl, Or.inl rfl, h3 e w1 (AT.gk rfl rfl rfl g q')⟩)⟩⟩
theorem AT.buy {x1 x2 : Int32} (h : AT x mo o S w) (v : JV n S) : ∃ r S', I_buy S x1 x2 r S' ∧ ∀ Q : Int32 → Wd → Prop, (S'.s 500 = 0 ∨ S'.s 500 = 3) → (S'.s 500 = 0 → ∀ w1, AT x mo o S' w1 → Q 1 w1) → (S'.s 500 = 3 → ∀ w1, AT x mo o S' w1 → Q 0 w1) → wp_L_isBuy (some x) x1 x2 w Q := by
  obtain ⟨G, rfl, rfl, rfl, q⟩ := h
  obtain ⟨k, r, S', rfl, hI, hm⟩ := u_buy (x1 := x1) (x2 := x2) q v
  exact ⟨r, S', hI, fun Q hk h0 h3 => ⟨_, rfl, q.kx, hm hk _ _ (fun e => fun w1 G' g q' => ⟨Or.inr rfl, h0 e w1 (AT.gk rfl rfl rfl g q')⟩) (fun e => fun w1 G' g q' => ⟨rfl, Or.inl rfl, h3 e w1 (AT.gk rfl rfl rfl g q')⟩)⟩⟩
theorem AT.borrow {x1 x2 x3 x4 : Int32} (h : AT x mo o S w) (v : JV n S) : ∃ r S', I_borrow S x1 x2 x3 x4 r S' ∧ ∀ Q : Int32 → Wd → Prop, (S'.s 500 = 0 ∨ S'.s 500 = 3) → (S'.s 500 = 0 → ∀ w1, AT x mo o S' w1 → Q 1 w1) → (S'.s 500 = 3 → ∀ w1, AT x mo o S' w1 → Q 0 w1) → wp_L_isBorrow (some x) x1 x2 x3 x4 w Q := by
  obtain ⟨G, rfl, rfl, rfl, q⟩ := h
  obtain ⟨k, r, S', rfl, hI, hm⟩ := u_borrow (x1 := x1) (x2 := x2) (x3 := x3) (x4 := x4) q v
  exact ⟨r, S', hI, fun Q hk h0 h3 => ⟨_, rfl, q.kx, hm hk _ _ (fun e => fun w1 G' g q' => ⟨Or.inr rfl, h0 e w1 (AT.gk rfl rfl rfl g q')⟩) (fun e => fun w1 G' g q' => ⟨rfl, Or.inl rfl, h3 e w1 (AT.gk rfl rfl rfl g q')⟩)⟩⟩
theorem AT.repay {x1 x2 : Int32} (h : AT x mo o S w) (v : JV n S) : ∃ r S', I_repay S x1 x2 r S' ∧ ∀ Q : Int32 → Wd → Prop, (S'.s 500 = 0 ∨ S'.s 500 = 3) → (S'.s 500 = 0 → ∀ w1, AT x mo o S' w1 → Q 1 w1) → (S'.s 500 = 3 → ∀ w1, AT x mo o S' w1 → Q 0 w1) → wp_L_isRepay (some x) x1 x2 w Q := by
  obtain ⟨G, rfl, rfl, rfl, q⟩ := h
  obtain ⟨k, r, S', rfl, hI, hm⟩ := u_repay (x1 := x1) (x2 := x2) q v
  exact ⟨r, S', hI, fun Q hk h0 h3 => ⟨_, rfl, q.kx, hm hk _ _ (fun e => fun w1 G' g q' => ⟨Or.inr rfl, h0 e w1 (AT.gk rfl rfl rfl g q')⟩) (fun e => fun w1 G' g q' => ⟨rfl, Or.inl rfl, h3 e w1 (AT.gk rfl rfl rfl g q')⟩)⟩⟩
theorem AT.meet {x1 x2 : Int32} (h : AT x mo o S w) (v : JV n S) (hn : n ≤ 512) : ∃ r S', I_meet S x1 x2 r S' ∧ ∀ Q : Int32 → Wd → Prop, (S'.s 500 = 0 ∨ S'.s 500 = 2) → (S'.s 500 = 0 → ∀ w1, AT x mo o S' w1 → Q r w1) → (S'.s 500 = 2 → ∀ w1, AT x mo o S' w1 → Q (-1) w1) → wp_L_meets (some x) x1 x2 w Q := by
  obtain ⟨G, rfl, rfl, rfl, q⟩ := h
  obtain ⟨k, r, S', rfl, hI, hm⟩ := u_meet (x1 := x1) (x2 := x2) q v hn
  exact ⟨r, S', hI, fun Q hk h0 h3 => ⟨_, rfl, q.kx, hm hk _ _ (fun e => fun w1 G' g q' => h0 e w1 (AT.gk rfl rfl rfl g q')) (fun e => fun w1 G' g q' => ⟨rfl, h3 e w1 (AT.gk rfl rfl rfl g q')⟩)⟩⟩
theorem AT.leave {x1 x2 : Int32} (h : AT x mo o S w) (v : JV n S) : ∃ r S', I_leave S x1 x2 r S' ∧ ∀ Q : Int32 → Wd → Prop, (S'.s 500 = 0 ∨ S'.s 500 = 2) → (S'.s 500 = 0 → ∀ w1, AT x mo o S' w1 → Q r w1) → (S'.s 500 = 2 → ∀ w1, AT x mo o S' w1 → Q (-1) w1) → wp_L_leaves (some x) x1 x2 w Q := by
  obtain ⟨G, rfl, rfl, rfl, q⟩ := h
  obtain ⟨k, r, S', rfl, hI, hm⟩ := u_leave (x1 := x1) (x2 := x2) q v
  exact ⟨r, S', hI, fun Q hk h0 h3 => ⟨_, rfl, q.kx, hm hk _ _ (fun e => fun w1 G' g q' => h0 e w1 (AT.gk rfl rfl rfl g q')) (fun e => fun w1 G' g q' => ⟨rfl, h3 e w1 (AT.gk rfl rfl rfl g q')⟩)⟩⟩
theorem AT.feast (h : AT x mo o S w) (v : JV n S) : ∃ r S', I_feast S r S' ∧ ∀ Q : Int32 → Wd → Prop, (S'.s 500 = 0 ∨ S'.s 500 = 1) → (S'.s 500 = 0 → ∀ w1, AT x mo o S' w1 → Q r w1) → (S'.s 500 = 1 → ∀ w1, AT x mo o S' w1 → Q (-1) w1) → wp_L_feasts (some x) w Q := by
  obtain ⟨G, rfl, rfl, rfl, q⟩ := h
  obtain ⟨k, r, S', rfl, hI, hm⟩ := u_feast  q v
  exact ⟨r, S', hI, fun Q hk h0 h3 => ⟨_, rfl, q.kx, hm hk _ _ (fun e => fun w1 G' g q' => h0 e w1 (AT.gk rfl rfl rfl g q')) (fun e => fun w1 G' g q' => ⟨rfl, h3 e w1 (AT.gk rfl rfl rfl g q')⟩)⟩⟩
theorem AT.person0 {x1 x2 : Int32} (h : AT x mo o S w) (v : JV n S) : ∃ r S', I_person S x1 x2 r S' ∧ ∀ Q : Int32 → Wd → Prop, S'.s 500 = 0 → (∀ w1, AT x mo o S' w1 → Q r w1) → w.K x = 4 ∧ wp_X3_person x x1 x2 w Q (fun _ _ => False) := by
  obtain ⟨G, rfl, rfl, rfl, q⟩ := h
  obtain ⟨k, r, S', rfl, hI, hm⟩ := u_person (x1 := x1) (x2 := x2) q v
  exact ⟨r, S', hI, fun Q hk h0 => ⟨q.kx, hm (Or.inl hk) _ _ (fun _ w1 G' g q' => h0 w1 (AT.gk rfl rfl rfl g q')) (fun e => absurd (hk.symm.trans e) (by decide))⟩⟩
theorem AT.circle0 {x1 x2 : Int32} (h : AT x mo o S w) (v : JV n S) : ∃ r S', I_circle S x1 x2 r S' ∧ ∀ Q : Int32 → Wd → Prop, S'.s 500 = 0 → (∀ w1, AT x mo o S' w1 → Q r w1) → w.K x = 4 ∧ wp_X3_circle x x1 x2 w Q (fun _ _ => False) := by
  obtain ⟨G, rfl, rfl, rfl, q⟩ := h
  obtain ⟨k, r, S', rfl, hI, hm⟩ := u_circle (x1 := x1) (x2 := x2) q v
  exact ⟨r, S', hI, fun Q hk h0 => ⟨q.kx, hm (Or.inl hk) _ _ (fun _ w1 G' g q' => h0 w1 (AT.gk rfl rfl rfl g q')) (fun e => absurd (hk.symm.trans e) (by decide))⟩⟩
theorem AT.earn0 {x1 x2 : Int32} (h : AT x mo o S w) (v : JV n S) : ∃ r S', I_earn S x1 x2 r S' ∧ ∀ Q : Int32 → Wd → Prop, S'.s 500 = 0 → (∀ w1, AT x mo o S' w1 → Q r w1) → w.K x = 4 ∧ wp_X3_earn x x1 x2 w Q (fun _ _ => False) := by
  obtain ⟨G, rfl, rfl, rfl, q⟩ := h
  obtain ⟨k, r, S', rfl, hI, hm⟩ := u_earn (x1 := x1) (x2 := x2) q v
  exact ⟨r, S', hI, fun Q hk h0 => ⟨q.kx, hm (Or.inl hk) _ _ (fun _ w1 G' g q' => h0 w1 (AT.gk rfl rfl rfl g q')) (fun e => absurd (hk.symm.trans e) (by decide))⟩⟩
theorem AT.note0 {x1 x2 x3 : Int32} (h : AT x mo o S w) (v : JV n S) : ∃ r S', I_note S x1 x2 x3 r S' ∧ ∀ Q : Int32 → Wd → Prop, S'.s 500 = 0 → (∀ w1, AT x mo o S' w1 → Q r w1) → w.K x = 4 ∧ wp_X3_note x x1 x2 x3 w Q (fun _ _ => False) := by
  obtain ⟨G, rfl, rfl, rfl, q⟩ := h
  obtain ⟨k, r, S', rfl, hI, hm⟩ := u_note (x1 := x1) (x2 := x2) (x3 := x3) q v
  exact ⟨r, S', hI, fun Q hk h0 => ⟨q.kx, hm (Or.inl hk) _ _ (fun _ w1 G' g q' => h0 w1 (AT.gk rfl rfl rfl g q')) (fun e => absurd (hk.symm.trans e) (by decide))⟩⟩
theorem AT.audit0 {x1 : Int32} (h : AT x mo o S w) (v : JV n S) : ∃ r S', I_audit S x1 r S' ∧ ∀ Q : Int32 → Wd → Prop, S'.s 500 = 0 → (∀ w1, AT x mo o S' w1 → Q r w1) → w.K x = 4 ∧ wp_X3_audit x x1 w Q (fun _ _ => False) := by
  obtain ⟨G, rfl, rfl, rfl, q⟩ := h
  obtain ⟨k, r, S', rfl, hI, hm⟩ := u_audit (x1 := x1) q v
  exact ⟨r, S', hI, fun Q hk h0 => ⟨q.kx, hm (Or.inl hk) _ _ (fun _ w1 G' g q' => h0 w1 (AT.gk rfl rfl rfl g q')) (fun e => absurd (hk.symm.trans e) (by decide))⟩⟩
theorem AT.month {x1 : Int32} (h : AT x mo o S w) (v : JV n S) : VO S ∧ ∃ r S', I_month S x1 r S' ∧ ∀ Q : Int32 → Wd → Prop, (∀ w1, AT x mo o S' w1 → Q r w1) → w.K x = 4 ∧ wp_X3_month x x1 w Q := by
  obtain ⟨G, rfl, rfl, rfl, q⟩ := h
  obtain ⟨r, S', hI, hm⟩ := u_month (x1 := x1) q v
  exact ⟨q.vo, r, S', hI, fun Q h0 => ⟨q.kx, hm Q (fun w1 G' g q' => h0 w1 (AT.gk rfl rfl rfl g q'))⟩⟩
end ATS
/-- after k acts -/
def JJ (x mo o k : Nat) (y : Int32) (w : Wd) : Prop := y = 1 ∧ ∃ S n, n ≤ 20 + 3 * k ∧ AT x mo o S w ∧ ST o k n S
