-- ===== each call, with what every run keeps
def JV (n : Nat) (S : MS) : Prop := IV n S ∧ BD S
theorem JV.thr {n : Nat} {S : MS} {k : Int32} (h : JV n S) : JV (n + 1) (S.setS 500 k) := ⟨h.1.thr, h.2⟩
theorem JV.sh {n : Nat} {S : MS} (h : JV n S) : SH S := h.1.1
theorem JV.di {n : Nat} {S : MS} (h : JV n S) : DI S := h.1.2.1
theorem JV.wy {n : Nat} {S : MS} (h : JV n S) : WY S := h.1.2.2.1
theorem JV.hb {n : Nat} {S : MS} (h : JV n S) : HB S := h.1.2.2.2.1
theorem JV.us {n : Nat} {S : MS} (h : JV n S) : US S := h.1.2.2.2.2.1
theorem JV.tt {n : Nat} {S : MS} (h : JV n S) : TT S := h.1.2.2.2.2.2.1
theorem JV.ag {n : Nat} {S : MS} (h : JV n S) : AG S := h.1.2.2.2.2.2.2.1
theorem JV.zp {n : Nat} {S : MS} (h : JV n S) : ZP S := h.1.2.2.2.2.2.2.2.1
theorem JV.zc {n : Nat} {S : MS} (h : JV n S) : ZC S := h.1.2.2.2.2.2.2.2.2.1
theorem JV.db {n : Nat} {S : MS} (h : JV n S) : DB S := h.1.2.2.2.2.2.2.2.2.2.1
theorem JV.sb {n : Nat} {S : MS} (h : JV n S) : SB S := h.1.2.2.2.2.2.2.2.2.2.2.1
theorem JV.ab {n : Nat} {S : MS} (h : JV n S) : AB n S := h.1.2.2.2.2.2.2.2.2.2.2.2.1
theorem JV.mo {n : Nat} {S : MS} (h : JV n S) : ∃ a b, a + b ≤ n ∧ MO 0 a S ∧ PB a b S := h.1.2.2.2.2.2.2.2.2.2.2.2.2
theorem JV.hD {n : Nat} {S : MS} (h : JV n S) (i : Nat) (hi : i < nP S) : ¬ S.a 506 i < 0 := nneg_of (h.db i (by have := h.sh.2.1; omega)).1
/-- who vouches -/
def VO (S : MS) : Prop := ∀ i, i < nP S → 0 < S.a 506 i → ∃ a b, a < nP S ∧ b < nP S ∧ S.a 508 i = nI a ∧ S.a 509 i = nI b
theorem RC.vo {w : Wd} {G : GH} {S S0 : MS} (h : RC w G S S0) : VO S := fun i hi hd => by
  obtain ⟨-, a, b, h1, h2, h3, h4, -, -⟩ := h.2.2.2.2.2.1 i hi hd
  exact ⟨a, b, h1, h2, h3, h4⟩
section JVS
variable {S S' : MS} {n : Nat} {x1 x2 x3 x4 r : Int32}
theorem jv_person (v : JV n S) (hS : I_person S x1 x2 r S') : JV (n + 1) S' := by
  rcases hS with ⟨rfl, -⟩ | ⟨rfl, -⟩ | ⟨h1, h2, -, -, rfl⟩
  · exact v.thr
  · exact v.thr
  · exact ⟨v.1.person h1 h2, fun x => by rw [fpers_a (by decide) (by decide)]; exact v.2 x⟩
theorem jv_earn (v : JV n S) (hn : n ≤ 512) (hS : I_earn S x1 x2 r S') : JV (n + 1) S' := by
  rcases hS with ⟨rfl, -⟩ | ⟨rfl, -⟩ | ⟨i, -, -, rfl, -⟩ | ⟨i, h1, -, h2, h3, -, h4, -, -, rfl⟩
  · exact v.thr
  · exact v.thr
  · exact v.thr
  · exact ⟨v.1.earn hn h1 h2 h3 h4, v.2.sm ((Sm.rf.ss.st (by decide)).ss)⟩
theorem jv_die (v : JV n S) (hn : n ≤ 512) (hS : I_die S x1 x2 r S') : JV (n + 1) S' := by
  rcases hS with ⟨rfl, -⟩ | ⟨rfl, -⟩ | ⟨p, q, -, -, -, -, rfl, -⟩ | ⟨p, q, h1, h2, -, -, h3, h4, h5, h6, rfl⟩
  · exact v.thr
  · exact v.thr
  · exact v.thr
  · exact ⟨v.1.die hn h1 h2 h3 h4 h5 h6, fdied_bd v.1 v.2 h2⟩
theorem jv_circle (v : JV n S) (hS : I_circle S x1 x2 r S') : JV (n + 1) S' := by
  rcases hS with ⟨rfl, -⟩ | ⟨rfl, -⟩ | ⟨h1, h2, h3, h4, h5, -, rfl⟩
  · exact v.thr
  · exact v.thr
  · exact ⟨v.1.circle h1 h2 h3 h4 h5, fun x => by rw [fcirc_a (by decide) (by decide)]; exact v.2 x⟩
theorem jv_enter (v : JV n S) (hS : I_enter S x1 x2 r S') : JV (n + 1) S' := by
  rcases hS with ⟨rfl, -⟩ | rfl | ⟨c, i, h1, h2, -, -, h3, h4, -, h6, rfl⟩
  · exact v.thr
  · exact v.thr
  · exact ⟨v.1.enter h1 h2 h3 h4 h6, fent_bd v.2⟩
theorem jv_start (v : JV n S) (hS : I_start S x1 x2 r S') : JV (n + 1) S' := by
  rcases hS with ⟨rfl, -⟩ | ⟨rfl, -⟩ | rfl | ⟨c, s, h1, -, -, -, rfl⟩
  · exact v.thr
  · exact v.thr
  · exact v.thr
  · exact ⟨v.1.start h1, fstart_bd v.2⟩
theorem jv_want (v : JV n S) (hS : I_want S x1 x2 x3 x4 r S') : JV (n + 1) S' := by
  rcases hS with ⟨rfl, -⟩ | ⟨rfl, -⟩ | ⟨c, i, -, -, -, -, rfl, -⟩ | ⟨c, i, k, q, h1, -, -, -, h2, -, h3, h4, h5, rfl⟩
  · exact v.thr
  · exact v.thr
  · exact v.thr
  · refine ⟨v.1.want h3, fun x => ?_⟩
    have e : ((S.setS 500 0).setA q (10 * c + k) x3).a 524 x = if 524 = q ∧ x = 10 * c + k then x3 else S.a 524 x := rfl
    rw [e]
    by_cases z : 524 = q ∧ x = 10 * c + k
    · rw [if_pos z]; exact n_lt (k := 0) (by decide) h4
    · rw [if_neg z]; exact v.2 x
theorem jv_meet (v : JV n S) (hn : n ≤ 512) (hS : I_meet S x1 x2 r S') : JV (n + 1) S' := by
  rcases hS with ⟨rfl, -⟩ | ⟨c, -, -, rfl, -⟩ | ⟨c, t, h1, -, h2, h3, h4, -, -, -, rfl⟩
  · exact v.thr
  · exact v.thr
  · exact v.1.meet v.2 hn h1 h2 h3 h4
theorem jv_leave (v : JV n S) (hn : n ≤ 512) (hS : I_leave S x1 x2 r S') : JV (n + 1) S' := by
  rcases hS with ⟨rfl, -⟩ | ⟨c, i, -, -, -, -, rfl, -⟩ | ⟨c, i, k, -, -, -, -, -, -, rfl, -⟩ | ⟨c, i, k, h1, -, -, -, h2, -, -, -, -, rfl⟩
  · exact v.thr
  · exact v.thr
  · exact v.thr
  · exact ⟨v.1.leave hn h1 h2, fleave_bd v.1 v.2 h1 h2⟩
theorem jv_buy (v : JV n S) (hn : n ≤ 512) (hS : I_buy S x1 x2 r S') : JV (n + 1) S' := by
  rcases hS with ⟨rfl, -⟩ | ⟨rfl, -⟩ | ⟨i, -, -, rfl, -⟩ | ⟨i, h1, -, h2, h3, -, h5, h6, rfl⟩
  · exact v.thr
  · exact v.thr
  · exact v.thr
  · exact ⟨v.1.buy hn h1 h2 h3 h5 h6, v.2.sm ((((Sm.rf.ss.st (by decide)).st (by decide)).ss).st (by decide))⟩
theorem jv_borrow (v : JV n S) (hn : n ≤ 512) (hS : I_borrow S x1 x2 x3 x4 r S') : JV (n + 1) S' := by
  rcases hS with ⟨rfl, -⟩ | ⟨p, a, b, -, -, -, -, -, -, rfl, -⟩ | ⟨p, a, b, -, -, -, -, -, -, rfl, -⟩ | ⟨p, a, b, h1, -, -, -, -, -, h4, h5, h6, -, -, -, -, h9, h10, rfl⟩
  · exact v.thr
  · exact v.thr
  · exact v.thr
  · exact ⟨v.1.borrow hn h1 h4 h5 h6 h9 h10, v.2.sm (((((((Sm.rf.ss.st (by decide)).st (by decide)).st (by decide)).st (by decide)).st (by decide)).st (by decide)).ss)⟩
theorem jv_repay (v : JV n S) (hn : n ≤ 512) (hS : I_repay S x1 x2 r S') : JV (n + 1) S' := by
  rcases hS with ⟨rfl, -⟩ | ⟨rfl, -⟩ | ⟨i, -, -, rfl, -⟩ | ⟨i, h1, -, h2, -, h4, h5, rfl⟩
  · exact v.thr
  · exact v.thr
  · exact v.thr
  · exact ⟨v.1.repay hn h1 h2 h4 h5, v.2.sm (((((Sm.rf.ss.st (by decide)).st (by decide)).ss).st (by decide)).st (by decide))⟩
theorem jv_month (v : JV n S) (hn : n ≤ 512) (hV : VO S) (hS : I_month S x1 r S') : JV (n + 1) S' := by
  rcases hS with ⟨-, -, rfl⟩ | ⟨-, -, rfl⟩
  · exact v.thr
  · exact ⟨v.1.month hn hV, fun x => by rw [fmon_b (by decide) (by decide) (by decide) (by decide) (by decide)]; exact v.2 x⟩
theorem jv_feast (v : JV n S) (hn : n ≤ 512) (hS : I_feast S r S') : JV (n + 1) S' := by
  rcases hS with rfl | ⟨h1, -, -, rfl⟩
  · exact v.thr
  · exact ⟨v.1.feast hn h1, fun x => by rw [ffe_a (by decide) (by decide) (by decide)]; exact v.2 x⟩
theorem jv_note (v : JV n S) (hS : I_note S x1 x2 x3 r S') : JV (n + 1) S' := by
  rcases hS with ⟨rfl, -⟩ | ⟨rfl, -⟩ | ⟨b, i, h1, h2, -, -, -, rfl⟩
  · exact v.thr
  · exact v.thr
  · exact ⟨v.1.note h2, v.2.sm (Sm.rf.ss.st (by decide))⟩
end JVS
