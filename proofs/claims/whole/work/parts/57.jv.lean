-- ===== each call, with what every run keeps
def JV (n : Nat) (S : MS) : Prop := IV n S ∧ BD S
theorem OX.mono {w : Wd} {G : GH} {S : MS} {lw : (Int32 → Wd → Prop) → Prop} {md : (Int32 → MS → Prop) → Prop} {I I' : MS → Prop} (h : OX w G S lw md I) (hI : ∀ S', I S' → I' S') : OX w G S lw md I' := by
  obtain ⟨k, r, S', h1, h2, h3, h4⟩ := h
  exact ⟨k, r, S', h1, hI S' h2, h3, h4⟩
theorem OD.mono {w : Wd} {G : GH} {S : MS} {lw : (Int32 → Wd → Prop) → Prop} {md : (Int32 → MS → Prop) → Prop} {I I' : MS → Prop} (h : OD w G S lw md I) (hI : ∀ S', I S' → I' S') : OD w G S lw md I' := by
  obtain ⟨r, S', h2, h3, h4⟩ := h
  exact ⟨r, S', hI S' h2, h3, h4⟩
theorem JV.thr {n : Nat} {S : MS} {k : Int32} (h : JV n S) : JV (n + 1) (S.setS 500 k) := ⟨h.1.thr, h.2⟩
theorem JV.sh {n : Nat} {S : MS} (h : JV n S) : SH S := h.1.1
theorem JV.di {n : Nat} {S : MS} (h : JV n S) : DI S := h.1.2.1
theorem JV.wy {n : Nat} {S : MS} (h : JV n S) : WY S := h.1.2.2.1
theorem JV.hb {n : Nat} {S : MS} (h : JV n S) : HB S := h.1.2.2.2.1
theorem JV.us {n : Nat} {S : MS} (h : JV n S) : US S := h.1.2.2.2.2.1
theorem JV.tt {n : Nat} {S : MS} (h : JV n S) : TT S := h.1.2.2.2.2.2.1
theorem JV.ag {n : Nat} {S : MS} (h : JV n S) : AG S := h.1.2.2.2.2.2.2.1
theorem JV.zp {n : Nat} {S : MS} (h : JV n S) : ZP S := h.1.2.2.2.2.2.2.2.1
theorem JV.zc {n : Nat} {S : MS} (h : JV n S) : ZC S := h.1.2.2.2.2.2.2.2.2.1
theorem JV.db {n : Nat} {S : MS} (h : JV n S) : DB S := h.1.2.2.2.2.2.2.2.2.2.1
theorem JV.sb {n : Nat} {S : MS} (h : JV n S) : SB S := h.1.2.2.2.2.2.2.2.2.2.2.1
theorem JV.hD {n : Nat} {S : MS} (h : JV n S) (i : Nat) (hi : i < nP S) : ¬ S.a 506 i < 0 := nneg_of (h.db i (by have := h.sh.2.1; omega)).1
theorem v_person {w : Wd} {G : GH} {S : MS} {n : Nat} {x1 x2 : Int32} (h : RC w G S S) (v : JV n S) : OX w G S (fun Q => wp_L_person (some G.x) x1 x2 (some G.o) w Q) (fun Q => sp_X4_person x1 x2 S Q) (JV (n + 1)) :=
  (o_person h v.sh v.zp).mono fun S' hS => by
    rcases hS with ⟨k, rfl⟩ | ⟨h1, h2, -, rfl⟩
    · exact v.thr
    · exact ⟨v.1.person h1 h2, fun x => by rw [fpers_a (by decide) (by decide)]; exact v.2 x⟩
theorem v_earn {w : Wd} {G : GH} {S : MS} {n : Nat} {x1 x2 : Int32} (h : RC w G S S) (v : JV n S) (hn : n ≤ 512) : OX w G S (fun Q => wp_L_earn (some G.x) x1 x2 (some G.o) w Q) (fun Q => sp_X4_earn x1 x2 S Q) (JV (n + 1)) :=
  (o_earn h v.sh).x.mono fun S' hS => by
    rcases hS with ⟨k, rfl⟩ | ⟨i, h1, h2, h3, h4, -, rfl⟩
    · exact v.thr
    · exact ⟨v.1.earn hn h1 h2 h3 h4, v.2.sm ((Sm.rf.ss.st (by decide)).ss)⟩
theorem v_die {w : Wd} {G : GH} {S : MS} {n : Nat} {x1 x2 : Int32} (h : RC w G S S) (v : JV n S) (hn : n ≤ 512) : OX w G S (fun Q => wp_L_die (some G.x) x1 x2 (some G.o) w Q) (fun Q => sp_X4_die x1 x2 S Q) (JV (n + 1)) :=
  (o_die h v.sh v.di v.hb v.hD).mono fun S' hS => by
    rcases hS with ⟨k, rfl⟩ | ⟨p, q, h1, h2, h3, h4, h5, h6, rfl⟩
    · exact v.thr
    · exact ⟨v.1.die hn h1 h2 h3 h4 h5 h6, fdied_bd v.1 v.2 h2⟩
theorem v_circle {w : Wd} {G : GH} {S : MS} {n : Nat} {x1 x2 : Int32} (h : RC w G S S) (v : JV n S) : OX w G S (fun Q => wp_L_circle (some G.x) x1 x2 (some G.o) w Q) (fun Q => sp_X4_circle x1 x2 S Q) (JV (n + 1)) :=
  (o_circle h v.sh v.zc).mono fun S' hS => by
    rcases hS with ⟨k, rfl⟩ | ⟨h1, h2, h3, h4, h5, rfl⟩
    · exact v.thr
    · exact ⟨v.1.circle h1 h2 h3 h4 h5, fun x => by rw [fcirc_a (by decide) (by decide)]; exact v.2 x⟩
theorem v_enter {w : Wd} {G : GH} {S : MS} {n : Nat} {x1 x2 : Int32} (h : RC w G S S) (v : JV n S) : OX w G S (fun Q => wp_L_enter (some G.x) x1 x2 (some G.o) w Q) (fun Q => sp_X4_enter x1 x2 S Q) (JV (n + 1)) :=
  (o_enter h v.sh v.di).mono fun S' hS => by
    rcases hS with ⟨k, rfl⟩ | ⟨c, i, h1, h2, h3, h4, -, h6, rfl⟩
    · exact v.thr
    · exact ⟨v.1.enter h1 h2 h3 h4 h6, fent_bd v.2⟩
theorem v_start {w : Wd} {G : GH} {S : MS} {n : Nat} {x1 x2 : Int32} (h : RC w G S S) (v : JV n S) : OX w G S (fun Q => wp_L_start (some G.x) x1 x2 (some G.o) w Q) (fun Q => sp_X4_start x1 x2 S Q) (JV (n + 1)) :=
  (o_start h v.sh v.wy v.us v.ag).mono fun S' hS => by
    rcases hS with ⟨k, rfl⟩ | ⟨c, s, h1, -, -, rfl⟩
    · exact v.thr
    · exact ⟨v.1.start h1, fstart_bd v.2⟩
theorem v_want {w : Wd} {G : GH} {S : MS} {n : Nat} {x1 x2 x3 x4 : Int32} (h : RC w G S S) (v : JV n S) : OX w G S (fun Q => wp_L_want (some G.x) x1 x2 x3 x4 (some G.o) w Q) (fun Q => sp_X4_want x1 x2 x3 x4 S Q) (JV (n + 1)) :=
  (o_want h v.sh v.di).x.mono fun S' hS => by
    rcases hS with ⟨k, rfl⟩ | ⟨c, k, r, h1, h2, h3, h4, h5, rfl⟩
    · exact v.thr
    · refine ⟨v.1.want h3, fun x => ?_⟩
      have e : ((S.setS 500 0).setA r (10 * c + k) x3).a 524 x = if 524 = r ∧ x = 10 * c + k then x3 else S.a 524 x := rfl
      rw [e]
      by_cases z : 524 = r ∧ x = 10 * c + k
      · rw [if_pos z]; exact n_lt (k := 0) (by decide) h4
      · rw [if_neg z]; exact v.2 x
theorem v_meet {w : Wd} {G : GH} {S : MS} {n : Nat} {x1 x2 : Int32} (h : RC w G S S) (v : JV n S) (hn : n ≤ 512) : OX w G S (fun Q => wp_L_meet (some G.x) x1 x2 (some G.o) w Q) (fun Q => sp_X4_meet x1 x2 S Q) (JV (n + 1)) :=
  (o_meet h v.sh v.wy v.tt (fun c m hc => v.1.hP hn c m hc)).x.mono fun S' hS => by
    rcases hS with ⟨k, rfl⟩ | ⟨c, t, h1, h2, h3, h4, -, rfl⟩
    · exact v.thr
    · exact v.1.meet v.2 hn h1 h2 h3 h4
theorem v_leave {w : Wd} {G : GH} {S : MS} {n : Nat} {x1 x2 : Int32} (h : RC w G S S) (v : JV n S) (hn : n ≤ 512) : OX w G S (fun Q => wp_L_leave (some G.x) x1 x2 (some G.o) w Q) (fun Q => sp_X4_leave x1 x2 S Q) (JV (n + 1)) :=
  (o_leave h v.sh v.di v.hb).x.mono fun S' hS => by
    rcases hS with ⟨k, rfl⟩ | ⟨c, k, h1, h2, -, -, rfl⟩
    · exact v.thr
    · exact ⟨v.1.leave hn h1 h2, fleave_bd v.1 v.2 h1 h2⟩
theorem v_buy {w : Wd} {G : GH} {S : MS} {n : Nat} {x1 x2 : Int32} (h : RC w G S S) (v : JV n S) (hn : n ≤ 512) : OX w G S (fun Q => wp_L_buy (some G.x) x1 x2 (some G.o) w Q) (fun Q => sp_X4_buy x1 x2 S Q) (JV (n + 1)) :=
  (o_buy h v.sh).x.mono fun S' hS => by
    rcases hS with ⟨k, rfl⟩ | ⟨i, h1, h2, h3, -, h5, h6, rfl⟩
    · exact v.thr
    · exact ⟨v.1.buy hn h1 h2 h3 h5 h6, v.2.sm ((((Sm.rf.ss.st (by decide)).st (by decide)).ss).st (by decide))⟩
theorem v_borrow {w : Wd} {G : GH} {S : MS} {n : Nat} {x1 x2 x3 x4 : Int32} (h : RC w G S S) (v : JV n S) (hn : n ≤ 512) : OX w G S (fun Q => wp_L_borrow (some G.x) x1 x2 x3 x4 (some G.o) w Q) (fun Q => sp_X4_borrow x1 x2 x3 x4 S Q) (JV (n + 1)) :=
  (o_borrow h v.sh v.hD (fun i _ => v.db.hH v.sh.2.1 i)).mono fun S' hS => by
    rcases hS with ⟨k, rfl⟩ | ⟨p, a, b, h1, -, -, h4, h5, h6, -, -, -, h9, h10, rfl⟩
    · exact v.thr
    · exact ⟨v.1.borrow hn h1 h4 h5 h6 h9 h10, v.2.sm (((((((Sm.rf.ss.st (by decide)).st (by decide)).st (by decide)).st (by decide)).st (by decide)).st (by decide)).ss)⟩
theorem v_repay {w : Wd} {G : GH} {S : MS} {n : Nat} {x1 x2 : Int32} (h : RC w G S S) (v : JV n S) (hn : n ≤ 512) : OX w G S (fun Q => wp_L_repay (some G.x) x1 x2 (some G.o) w Q) (fun Q => sp_X4_repay x1 x2 S Q) (JV (n + 1)) :=
  (o_repay h v.sh v.hD).x.mono fun S' hS => by
    rcases hS with ⟨k, rfl⟩ | ⟨i, u, h1, h2, -, h4, h5, rfl⟩
    · exact v.thr
    · exact ⟨v.1.repay hn h1 h2 h4 h5, v.2.sm (((((Sm.rf.ss.st (by decide)).st (by decide)).ss).st (by decide)).st (by decide))⟩
theorem v_month {w : Wd} {G : GH} {S : MS} {n : Nat} {x1 : Int32} (h : RC w G S S) (v : JV n S) (hn : n ≤ 512) : OD w G S (fun Q => wp_X3_month G.x x1 w Q) (fun Q => sp_X4_month x1 S Q) (JV (n + 1)) := by
  have hV : ∀ i, i < nP S → 0 < S.a 506 i → ∃ a b, a < nP S ∧ b < nP S ∧ S.a 508 i = nI a ∧ S.a 509 i = nI b := fun i hi hd => by
    obtain ⟨-, a, b, h1, h2, h3, h4, -, -⟩ := h.2.2.2.2.2.1 i hi hd
    exact ⟨a, b, h1, h2, h3, h4⟩
  refine (o_month h v.sh (fun i hi hd => (v.db.hG (by have := v.sh.2.1; omega) hd).1) hV).mono fun S' hS => ?_
  rcases hS with ⟨k, rfl⟩ | rfl
  · exact v.thr
  · exact ⟨v.1.month hn hV, fun x => by rw [fmon_b (by decide) (by decide) (by decide) (by decide) (by decide)]; exact v.2 x⟩
theorem v_feast {w : Wd} {G : GH} {S : MS} {n : Nat} (h : RC w G S S) (v : JV n S) (hn : n ≤ 512) : OX w G S (fun Q => wp_L_feast (some G.x) (some G.o) w Q) (fun Q => sp_X4_feast S Q) (JV (n + 1)) :=
  (o_feast h v.sh (nneg_of (v.sb.h1 (nP S) v.sh.2.1).1) (v.db.h2 v.sh.2.1)).mono fun S' hS => by
    rcases hS with ⟨k, rfl⟩ | ⟨h1, -, rfl⟩
    · exact v.thr
    · exact ⟨v.1.feast hn h1, fun x => by rw [ffe_a (by decide) (by decide) (by decide)]; exact v.2 x⟩
theorem v_note {w : Wd} {G : GH} {S : MS} {n : Nat} {x1 x2 x3 : Int32} (h : RC w G S S) (v : JV n S) : OX w G S (fun Q => wp_L_note (some G.x) x1 x2 x3 (some G.o) w Q) (fun Q => sp_X4_note x1 x2 x3 S Q) (JV (n + 1)) :=
  (o_note h v.sh).x.mono fun S' hS => by
    rcases hS with ⟨k, rfl⟩ | ⟨b, i, u, h1, h2, rfl⟩
    · exact v.thr
    · exact ⟨v.1.note h2, v.2.sm (Sm.rf.ss.st (by decide))⟩
theorem v_audit {w : Wd} {G : GH} {S : MS} {n : Nat} {x1 : Int32} (h : RC w G S S) (v : JV n S) : OX w G S (fun Q => wp_L_audit (some G.x) x1 (some G.o) w Q) (fun Q => sp_X4_audit x1 S Q) (JV (n + 1)) :=
  (o_audit h v.sh).x.mono fun S' hS => by
    obtain ⟨k, rfl⟩ := hS
    exact v.thr
theorem v_of {w : Wd} {G : GH} {S : MS} {n : Nat} {x1 x2 : Int32} (h : RC w G S S) (v : JV n S) : OX w G S (fun Q => wp_L_of (some G.x) x1 x2 (some G.o) w Q) (fun Q => sp_X4_of x1 x2 S Q) (JV (n + 1)) :=
  (o_of h v.sh).x.mono fun S' hS => by
    obtain ⟨k, rfl⟩ := hS
    exact v.thr
theorem v_member {w : Wd} {G : GH} {S : MS} {n : Nat} {x1 x2 x3 : Int32} (h : RC w G S S) (v : JV n S) : OX w G S (fun Q => wp_L_member (some G.x) x1 x2 x3 (some G.o) w Q) (fun Q => sp_X4_member x1 x2 x3 S Q) (JV (n + 1)) :=
  (o_member h v.sh v.di).x.mono fun S' hS => by
    obtain ⟨k, rfl⟩ := hS
    exact v.thr
theorem v_ofCircle {w : Wd} {G : GH} {S : MS} {n : Nat} {x1 x2 : Int32} (h : RC w G S S) (v : JV n S) : OX w G S (fun Q => wp_L_ofCircle (some G.x) x1 x2 (some G.o) w Q) (fun Q => sp_X4_ofCircle x1 x2 S Q) (JV (n + 1)) :=
  (o_ofCircle h v.sh v.wy).x.mono fun S' hS => by
    obtain ⟨k, rfl⟩ := hS
    exact v.thr
theorem v_cash {w : Wd} {G : GH} {S : MS} {n : Nat} (h : RC w G S S) (v : JV n S) : OD w G S (fun Q => wp_X3_cash G.x w Q) (fun Q => sp_X4_cash S Q) (JV (n + 1)) :=
  (o_cash h).mono fun S' hS => by
    obtain ⟨k, rfl⟩ := hS
    exact v.thr
theorem v_coins {w : Wd} {G : GH} {S : MS} {n : Nat} (h : RC w G S S) (v : JV n S) : OD w G S (fun Q => wp_X3_coins G.x w Q) (fun Q => sp_X4_coins S Q) (JV (n + 1)) :=
  (o_coins h v.sh).mono fun S' hS => by
    obtain ⟨k, rfl⟩ := hS
    exact v.thr
