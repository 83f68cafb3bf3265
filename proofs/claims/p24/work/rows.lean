section
-- ===== PART A: goes FIRST, ahead of the names: the tables' words, and 'selects' of the private methods out of them =====
/-- a private method of a class that the tables say can be made, by its rows of tables_1 -/
def lw_okq (q : MethodName × Nat) : Prop := (q.1.cls ≠ "java/lang/invoke/MethodHandle" ∧ q.1.cls ≠ "java/lang/invoke/VarHandle") ∧ Cond.instantiable q.1.cls q.2 ∈ tables_1 ∧ Cond.privateMethod q.1 ∈ tables_1 ∧ Cond.instanceMethod q.1 ∈ tables_1
theorem lw_p0 : lw_okq (⟨"java/lang/Throwable", "fillInStackTrace", "(I)Ljava/lang/Throwable;"⟩, 6) := ⟨⟨by decide +kernel, by decide +kernel⟩, List.mem_of_getElem? (i := 113) (by decide +kernel), List.mem_of_getElem? (i := 111) (by decide +kernel), List.mem_of_getElem? (i := 112) (by decide +kernel)⟩
theorem lw_p1 : lw_okq (⟨"java/util/ArrayList", "add", "(Ljava/lang/Object;[Ljava/lang/Object;I)V"⟩, 3) := ⟨⟨by decide +kernel, by decide +kernel⟩, List.mem_of_getElem? (i := 29) (by decide +kernel), List.mem_of_getElem? (i := 227) (by decide +kernel), List.mem_of_getElem? (i := 228) (by decide +kernel)⟩
theorem lw_p2 : lw_okq (⟨"java/util/ArrayList", "grow", "()[Ljava/lang/Object;"⟩, 3) := ⟨⟨by decide +kernel, by decide +kernel⟩, List.mem_of_getElem? (i := 29) (by decide +kernel), List.mem_of_getElem? (i := 231) (by decide +kernel), List.mem_of_getElem? (i := 232) (by decide +kernel)⟩
theorem lw_p3 : lw_okq (⟨"java/util/ArrayList", "grow", "(I)[Ljava/lang/Object;"⟩, 3) := ⟨⟨by decide +kernel, by decide +kernel⟩, List.mem_of_getElem? (i := 29) (by decide +kernel), List.mem_of_getElem? (i := 235) (by decide +kernel), List.mem_of_getElem? (i := 236) (by decide +kernel)⟩
theorem lw_p4 : lw_okq (⟨"SusuRing", "personAt", "(I)LSusuRing$Person;"⟩, 4) := ⟨⟨by decide +kernel, by decide +kernel⟩, List.mem_of_getElem? (i := 21) (by decide +kernel), List.mem_of_getElem? (i := 282) (by decide +kernel), List.mem_of_getElem? (i := 283) (by decide +kernel)⟩
theorem lw_p5 : lw_okq (⟨"SusuRing", "defaultLoan", "(LSusuRing$Person;)V"⟩, 4) := ⟨⟨by decide +kernel, by decide +kernel⟩, List.mem_of_getElem? (i := 21) (by decide +kernel), List.mem_of_getElem? (i := 371) (by decide +kernel), List.mem_of_getElem? (i := 372) (by decide +kernel)⟩
theorem lw_p6 : lw_okq (⟨"SusuRing", "payForOther", "(LSusuRing$Person;I)V"⟩, 4) := ⟨⟨by decide +kernel, by decide +kernel⟩, List.mem_of_getElem? (i := 21) (by decide +kernel), List.mem_of_getElem? (i := 375) (by decide +kernel), List.mem_of_getElem? (i := 376) (by decide +kernel)⟩
theorem lw_p7 : lw_okq (⟨"SusuRing", "payFund", "(LSusuRing$Person;I)V"⟩, 4) := ⟨⟨by decide +kernel, by decide +kernel⟩, List.mem_of_getElem? (i := 21) (by decide +kernel), List.mem_of_getElem? (i := 380) (by decide +kernel), List.mem_of_getElem? (i := 381) (by decide +kernel)⟩
theorem lw_p8 : lw_okq (⟨"SusuRing", "houseSize", "(LSusuRing$Person;)I"⟩, 4) := ⟨⟨by decide +kernel, by decide +kernel⟩, List.mem_of_getElem? (i := 21) (by decide +kernel), List.mem_of_getElem? (i := 401) (by decide +kernel), List.mem_of_getElem? (i := 402) (by decide +kernel)⟩
theorem lw_p9 : lw_okq (⟨"SusuRing", "circleAt", "(I)LSusuRing$Circle;"⟩, 4) := ⟨⟨by decide +kernel, by decide +kernel⟩, List.mem_of_getElem? (i := 21) (by decide +kernel), List.mem_of_getElem? (i := 413) (by decide +kernel), List.mem_of_getElem? (i := 414) (by decide +kernel)⟩
theorem lw_p10 : lw_okq (⟨"java/util/ArrayList", "fastRemove", "([Ljava/lang/Object;I)V"⟩, 3) := ⟨⟨by decide +kernel, by decide +kernel⟩, List.mem_of_getElem? (i := 29) (by decide +kernel), List.mem_of_getElem? (i := 503) (by decide +kernel), List.mem_of_getElem? (i := 504) (by decide +kernel)⟩
theorem lw_p11 : lw_okq (⟨"java/util/ArrayList", "rangeCheckForAdd", "(I)V"⟩, 3) := ⟨⟨by decide +kernel, by decide +kernel⟩, List.mem_of_getElem? (i := 29) (by decide +kernel), List.mem_of_getElem? (i := 581) (by decide +kernel), List.mem_of_getElem? (i := 582) (by decide +kernel)⟩
theorem lw_p12 : lw_okq (⟨"SusuRing", "highestLoan", "(LSusuRing$Person;)I"⟩, 4) := ⟨⟨by decide +kernel, by decide +kernel⟩, List.mem_of_getElem? (i := 21) (by decide +kernel), List.mem_of_getElem? (i := 664) (by decide +kernel), List.mem_of_getElem? (i := 665) (by decide +kernel)⟩
theorem lw_p13 : lw_okq (⟨"SusuRing", "houseDebts", "(LSusuRing$Person;)I"⟩, 4) := ⟨⟨by decide +kernel, by decide +kernel⟩, List.mem_of_getElem? (i := 21) (by decide +kernel), List.mem_of_getElem? (i := 668) (by decide +kernel), List.mem_of_getElem? (i := 669) (by decide +kernel)⟩
def lw_privs_1 : List (MethodName × Nat) := [(⟨"java/lang/Throwable", "fillInStackTrace", "(I)Ljava/lang/Throwable;"⟩, 6), (⟨"java/util/ArrayList", "add", "(Ljava/lang/Object;[Ljava/lang/Object;I)V"⟩, 3), (⟨"java/util/ArrayList", "grow", "()[Ljava/lang/Object;"⟩, 3), (⟨"java/util/ArrayList", "grow", "(I)[Ljava/lang/Object;"⟩, 3), (⟨"SusuRing", "personAt", "(I)LSusuRing$Person;"⟩, 4), (⟨"SusuRing", "defaultLoan", "(LSusuRing$Person;)V"⟩, 4), (⟨"SusuRing", "payForOther", "(LSusuRing$Person;I)V"⟩, 4), (⟨"SusuRing", "payFund", "(LSusuRing$Person;I)V"⟩, 4), (⟨"SusuRing", "houseSize", "(LSusuRing$Person;)I"⟩, 4), (⟨"SusuRing", "circleAt", "(I)LSusuRing$Circle;"⟩, 4), (⟨"java/util/ArrayList", "fastRemove", "([Ljava/lang/Object;I)V"⟩, 3), (⟨"java/util/ArrayList", "rangeCheckForAdd", "(I)V"⟩, 3), (⟨"SusuRing", "highestLoan", "(LSusuRing$Person;)I"⟩, 4), (⟨"SusuRing", "houseDebts", "(LSusuRing$Person;)I"⟩, 4)]
theorem lw_r1 : ∀ q ∈ lw_privs_1, lw_okq q := List.forall_mem_cons.mpr ⟨lw_p0, List.forall_mem_cons.mpr ⟨lw_p1, List.forall_mem_cons.mpr ⟨lw_p2, List.forall_mem_cons.mpr ⟨lw_p3, List.forall_mem_cons.mpr ⟨lw_p4, List.forall_mem_cons.mpr ⟨lw_p5, List.forall_mem_cons.mpr ⟨lw_p6, List.forall_mem_cons.mpr ⟨lw_p7, List.forall_mem_cons.mpr ⟨lw_p8, List.forall_mem_cons.mpr ⟨lw_p9, List.forall_mem_cons.mpr ⟨lw_p10, List.forall_mem_cons.mpr ⟨lw_p11, List.forall_mem_cons.mpr ⟨lw_p12, List.forall_mem_cons.mpr ⟨lw_p13, fun _ h => absurd h List.not_mem_nil⟩⟩⟩⟩⟩⟩⟩⟩⟩⟩⟩⟩⟩⟩
def lw_privs : List (MethodName × Nat) := lw_privs_1
def lw_tbl : List Cond := k2_sels lw_privs ++ tables_1
theorem lw_privs_ok : ∀ q ∈ lw_privs, lw_okq q := lw_r1
end
section
/-! ===== BEGIN words of one list among another's, by their places ===== -/
theorem goodIn_r {big : List Cond} (ws : List Cond) (ps : List Nat) (hp : ws = ps.filterMap (fun i => big[i]?)) (h : ws.all goodWord = true) : GoodIn big ws := by
  intro w hw
  have h1 := List.all_eq_true.mp h w hw
  rw [hp] at hw
  obtain ⟨i, -, hi⟩ := List.mem_filterMap.mp hw
  have hm : w ∈ big := by first | exact List.mem_of_getElem? hi | exact List.getElem?_mem hi
  exact ⟨hm, good_of_word h1⟩
theorem goodIn_app {big a b : List Cond} (ha : GoodIn big a) (hb : GoodIn big b) : GoodIn big (a ++ b) := fun w h => (List.mem_append.mp h).elim (ha w) (hb w)
theorem goodIn_ca {big a b : List Cond} {c : Cond} (ha : GoodIn big (c :: a)) (hb : GoodIn big b) : GoodIn big (c :: (a ++ b)) := fun w h => (List.mem_cons.mp h).elim (fun e => ha w (List.mem_cons.mpr (Or.inl e))) (fun h => (List.mem_append.mp h).elim (fun h => ha w (List.mem_cons.mpr (Or.inr h))) (hb w))
theorem goodIn_sub {big ws : List Cond} (hm : ∀ w ∈ ws, w ∈ big) (h : ws.all goodWord = true) : GoodIn big ws := fun w hw => ⟨hm w hw, good_of_word (List.all_eq_true.mp h w hw)⟩
/-! ===== END ===== -/

/-! ===== BEGIN exceptions that leave a method, and their catching by the caller (launches without stack traces) ===== -/
section VXA
/-! The laws vx_back, vx_callV, vx_callS, vx_callSW, vx_throw0, vx_throwS follow proofs of the library, with one case more: JvmDerived/Free/Laws.lean (Back.of_free), Shelf42/LK1.lean (callV, callS), Shelf/KitTraced.lean (throwNew0V, throwNewS). -/
/-- where a method has thrown q: the class by its name, the cell, what was written, the world -/
def vx_T (XC : String → State → State → Prop) (st : State) (q : Addr) (t : State) (mc ms : Nat) (free : Addr → Prop) : Prop :=
  ∃ (E : String) (ce : Cell) (L : List Loc), XC E st t ∧ t.heap[q]? = some ce ∧ ce.vm = .none ∧ st.vm.findClass E = some ce.cls ∧ st.WarmedH t.vm ∧ st.sameButNew ({ t with vm := st.vm } : State) L mc ms ∧ ∀ z ∈ L, free z.base
def vx_Q (Qc : Array Value → State → Outcome → State → Prop) (XC : String → State → State → Prop) (mc ms : Nat) (free : Addr → Prop) : Array Value → State → Outcome → State → Prop := fun a st o t =>
  (Qc a st o t ∧ ∃ L, FrameEnd st o t L mc ms ∧ ∀ q ∈ L, free q.base) ∨ ∃ q, o = .threw q ∧ vx_T XC st q t mc ms free
/-- a callee that returns or throws -/
def vx_Met (l : Launch) (y : MethodName) (ws : List Cond) (rm : Room) (Pc : Array Value → State → Prop) (Qc : Array Value → State → Outcome → State → Prop) (XC : String → State → State → Prop) (mc ms : Nat) (free : Addr → Prop) : Prop :=
  MetFree l y (headSpec ws rm) Pc (fun _ _ _ _ _ => True) (vx_Q Qc XC mc ms free)
def vx_Post (XC : String → State → State → Prop) (mc ms : Nat) (free : Addr → Prop) : Pt → Array Value → Addr → Pt → Prop := fun A a q B =>
  ∃ (g : JFrame) (mk : MethodId) (t : State) (L : List Loc) (E : String) (ce : Cell), B.U.heap = t.heap ∧ B.U.vm = t.vm ∧ XC E (A.U.calling g mk a) t ∧ t.heap[q]? = some ce ∧ ce.vm = .none ∧ A.U.vm.findClass E = some ce.cls ∧ B.locs = A.locs ++ L ∧ (∀ z ∈ L, free z.base) ∧ B.cells = A.cells + mc ∧ B.slots = A.slots + ms
def vx_Back (l : Launch) (R : Room) (p : Program) (e : Env) (below : List Frame) (s : State) (sargs : Array Value) (y : MethodName) (len W9 : Nat)
    (Pre : Pt → Array Value → Prop) (Post : Pt → Array Value → Option Value → Pt → Prop) (PostX : Pt → Array Value → Addr → Pt → Prop) : Prop :=
  ∀ (m : MethodId) (meth : Method) (c : Code) (A : Pt) (g : JFrame) (ig : Instr) (mk : MethodId) (a : Array Value),
    Stand p l e R s m sargs below meth c A.U A.locs A.cells A.slots → g.method = m → g.locals.size = c.maxLocals → decode c.code g.pc = .ok (ig, len) →
    2 * g.monitorRoom + (g.stack.map fun v => v.category).sum ≤ W9 → A.U.methodNamed? y = some mk → Pre A a →
    (∃ (v : Option Value) (B : Pt), Stand p l e R s m sargs below meth c B.U B.locs B.cells B.slots ∧ Post A a v B ∧
      Steps p.tables e below (doInvoke e (A.U.setTop g) [] mk a).1 (B.U.setTop { g with pc := g.pc + len, stack := v.toList ++ g.stack })) ∨
    (∃ (q : Addr) (B : Pt), Stand p l e R s m sargs below meth c B.U B.locs B.cells B.slots ∧ PostX A a q B ∧
      Steps p.tables e below (doInvoke e (A.U.setTop g) [] mk a).1 ((B.U.setTop g).pushFrame (.throwing q)))
section Payer
variable {l : Launch} {R : Room} {p : Program} {e : Env} {below : List Frame} {s : State} {sargs : Array Value} {y : MethodName} {len W9 : Nat}
theorem vx_back {ws : List Cond} {rm : Room} {Pc : Array Value → State → Prop} {Qc : Array Value → State → Outcome → State → Prop} {XC : String → State → State → Prop} {mc ms : Nat} {free : Addr → Prop} {bytes : ByteArray} {maxL : Nat} {ret : Option FieldType}
    (hM : vx_Met l y ws rm Pc Qc XC mc ms free) (hblind : FrameBlind Pc) (hrc : rm.cells = mc) (hrs : rm.slots = ms)
    (hframes : rm.frames + 1 ≤ R.frames) (hlocals : W9 + (maxL + 11) + rm.locals ≤ R.locals)
    (hws : ∀ w ∈ ws, ∀ a' U, s.WarmedH U.vm → w.before a' U = true) (hcode : Cond.code y bytes maxL ret ∈ ws) (hinit : ∀ a' U, s.WarmedH U.vm → (Cond.initialized y.cls).before a' U = true) :
    vx_Back l R p e below s sargs y len W9 (PreOf R mc ms Pc) (PostOf Qc mc ms free) (vx_Post XC mc ms free) := by
  intro m meth c A g ig mk a X hg hsize hdg hW hn hp
  have h1 : (headSpec ws rm).pre.before a A.U = true := atoms_intro fun w hw => hws w hw _ _ X.warmed
  have h2 : (Cond.code y bytes maxL ret).before a A.U = true := hws _ hcode _ _ X.warmed
  have h3 : (Cond.initialized y.cls).before a A.U = true := hinit _ _ X.warmed
  have h4 : A.cells + (headSpec ws rm).room.cells ≤ R.cells := by rw [show (headSpec ws rm).room.cells = mc from hrc]; exact hp.1
  have h5 : A.slots + (headSpec ws rm).room.slots ≤ R.slots := by rw [show (headSpec ws rm).room.slots = ms from hrs]; exact hp.2.1
  have hPc : Pc a (A.U.calling g mk a) := hblind _ _ _ _ hp.2.2
  obtain ⟨U, Ls, c0, s0⟩ := A
  dsimp only [Pt.U, Pt.locs, Pt.cells, Pt.slots] at h1 h2 h3 h4 h5 X hn hPc ⊢
  obtain ⟨methY, cY, hmY, hcY, -, hlY, -, -, -, -⟩ := Cond.code_spec hn h2
  obtain ⟨kY, hkY, -⟩ := className_of_methodNamed hn
  have hinitY : kY.init = .initialized := Cond.initialized_spec (findClass_of_methodNamed hn) hkY h3
  have h : At U g.method c below := by rw [hg]; exact X.here
  have hlocals9 : W9 + (maxL + 11) + (headSpec ws rm).room.locals ≤ R.locals := hlocals
  have happ : (headSpec ws rm).appliesLoose y e.platform (U.calling g mk a) = true :=
    Spec.appliesLoose_calling (g := g) h hdg hn hkY hinitY
      (X.room_calling (g := g) (R' := (headSpec ws rm).room) hsize hmY hcY hframes (by rw [hlY]; omega) h4 h5) h1
  obtain ⟨mid, hmid⟩ := h.above
  have hfr : (U.setTop g).frames = (.java g :: mid) ++ below := by rw [State.frames_setTop' g h.top, hmid]; rfl
  obtain ⟨o, s₂, hsteps, -, hend, hq⟩ := Steps.callFree hM p X.admits X.cas X.clock (acts := []) hfr happ hPc trivial
  have hq' : vx_Q Qc XC mc ms free a (U.calling g mk a) o s₂ := hq
  rw [State.frames_setTop' g h.top] at hend
  obtain ⟨g₀, hg0⟩ := Option.isSome_iff_exists.mp h.top
  obtain ⟨r, hr⟩ := State.topJava?_eq_some.mp hg0
  have hr' : (({ U with heap := s₂.heap, slotsUsed := s₂.slotsUsed } : State).setVm s₂.vm).frames = .java g₀ :: r := hr
  rcases hq' with ⟨hqc, L, hfe, hL⟩ | ⟨q, rfl, E, ce, L, hx, hce, hcv, hcl, hW₂, hsm, hL⟩
  · obtain ⟨⟨v, rfl⟩, hW₂, e2, q2, q3, q4, q5, q6⟩ := id hfe
    have e3 : s₂ = ({ (U.calling g mk a).setFrames s₂.frames with heap := s₂.heap, slotsUsed := s₂.slotsUsed } : State).setVm s₂.vm := by
      have : s₂ = ({ s₂ with vm := (U.calling g mk a).vm } : State).setVm s₂.vm := rfl
      rw [e2] at this
      exact this
    obtain ⟨c₂, i₂, len₂, hc₂, hd₂, hf₂⟩ := hend
    have hW' : U.WarmedH s₂.vm := hW₂
    have hcc : c₂ = c := by
      have h1 : s₂.code? g.method = U.code? g.method := by
        rw [State.code?_eq, State.code?_eq, hW'.alike.method?]
      exact Option.some.inj (hc₂.symm.trans (h1.trans h.code))
    subst hcc
    have hlen : len₂ = len := by rw [hdg] at hd₂; cases hd₂; rfl
    subst hlen
    have hs₂ : s₂ = (({ U with heap := s₂.heap, slotsUsed := s₂.slotsUsed } : State).setVm s₂.vm).setTop { g with pc := g.pc + len₂, stack := v.toList ++ g.stack } := by
      refine e3.trans ?_
      rw [hf₂, State.calling_eq h.top, State.setFrames_setFrames, State.setTop_of_frames _ hr', hr]
      rfl
    have hsame : U.sameButNew ({ U with heap := s₂.heap, slotsUsed := s₂.slotsUsed } : State) L mc ms := by
      refine ⟨?_, q2, q3, q4, q5, q6⟩
      obtain ⟨t, ht, -⟩ := State.frames_cons hr
      show ({ U with heap := s₂.heap, slotsUsed := s₂.slotsUsed } : State) = { U.setFrames U.frames with heap := s₂.heap, slotsUsed := s₂.slotsUsed }
      rw [State.setFrames_self ht]
    subst hg
    refine Or.inl ⟨v, ⟨(({ U with heap := s₂.heap, slotsUsed := s₂.slotsUsed } : State).setVm s₂.vm), Ls ++ L, c0 + mc, s0 + ms⟩,
      ⟨X.admits, X.cas, X.clock, X.frames, X.room, X.hears, X.method, X.code, (X.here.setHeapUsed s₂.heap s₂.slotsUsed).setVm hW'.alike, X.tail, State.WarmedH.trans X.warmed hW', X.limits, X.bytes, X.same.trans (hsame.setVm s.vm)⟩,
      ⟨g, mk, s₂, L, rfl, rfl, hqc, rfl, hL, rfl, rfl⟩, ?_⟩
    show Steps p.tables e below _ ((({ U with heap := s₂.heap, slotsUsed := s₂.slotsUsed } : State).setVm s₂.vm).setTop { g with pc := g.pc + len₂, stack := v.toList ++ g.stack })
    rw [← hs₂]
    exact hsteps
  · obtain ⟨e2, q2, q3, q4, q5, q6⟩ := id hsm
    have e3 : s₂ = ({ (U.calling g mk a).setFrames s₂.frames with heap := s₂.heap, slotsUsed := s₂.slotsUsed } : State).setVm s₂.vm := by
      have : s₂ = ({ s₂ with vm := (U.calling g mk a).vm } : State).setVm s₂.vm := rfl
      rw [e2] at this
      exact this
    have hf₂ : s₂.frames = .throwing q :: .java g :: U.frames.tail := hend
    have hW' : U.WarmedH s₂.vm := hW₂
    have hs₂ : s₂ = ((({ U with heap := s₂.heap, slotsUsed := s₂.slotsUsed } : State).setVm s₂.vm).setTop g).pushFrame (.throwing q) := by
      refine e3.trans ?_
      rw [hf₂, State.calling_eq h.top, State.setFrames_setFrames, State.pushFrame, State.frames_setTop _ hr', State.setTop_of_frames _ hr', State.setFrames_setFrames, hr]
      rfl
    have hsame : U.sameButNew ({ U with heap := s₂.heap, slotsUsed := s₂.slotsUsed } : State) L mc ms := by
      refine ⟨?_, q2, q3, q4, q5, q6⟩
      obtain ⟨t, ht, -⟩ := State.frames_cons hr
      show ({ U with heap := s₂.heap, slotsUsed := s₂.slotsUsed } : State) = { U.setFrames U.frames with heap := s₂.heap, slotsUsed := s₂.slotsUsed }
      rw [State.setFrames_self ht]
    subst hg
    refine Or.inr ⟨q, ⟨(({ U with heap := s₂.heap, slotsUsed := s₂.slotsUsed } : State).setVm s₂.vm), Ls ++ L, c0 + mc, s0 + ms⟩,
      ⟨X.admits, X.cas, X.clock, X.frames, X.room, X.hears, X.method, X.code, (X.here.setHeapUsed s₂.heap s₂.slotsUsed).setVm hW'.alike, X.tail, State.WarmedH.trans X.warmed hW', X.limits, X.bytes, X.same.trans (hsame.setVm s.vm)⟩,
      ⟨g, mk, s₂, L, E, ce, rfl, rfl, hx, hce, hcv, hcl, rfl, hL, rfl, rfl⟩, ?_⟩
    show Steps p.tables e below _ (((({ U with heap := s₂.heap, slotsUsed := s₂.slotsUsed } : State).setVm s₂.vm).setTop g).pushFrame (.throwing q))
    rw [← hs₂]
    exact hsteps
end Payer
section Calls
variable {p : Program} {l : Launch} {e : Env} {R : Room} {s : State} {m : MethodId} {args : Array Value} {below : List Frame} {meth : Method} {c : Code} {T : State} {locs : List Loc} {cells slots : Nat}
theorem vx_callV (X : Stand p l e R s m args below meth c T locs cells slots) (hexec : p.tables.exec = Jvm.exec) {own C : String} {index : Nat} {y : MethodName} {bytes : ByteArray} {maxL : Nat} {ret : Option FieldType}
    (hown : s.vm.findClass own = some m.cls) (hlink : (Cond.methodLink own index y).before args s = true) (hinst : (Cond.instanceMethod y).before args s = true) (hsel : (Cond.selects C y y).before args s = true)
    (hcode : (Cond.code y bytes maxL ret).before args s = true) (hy : y.cls ≠ "java/lang/invoke/MethodHandle" ∧ y.cls ≠ "java/lang/invoke/VarHandle")
    {W9 : Nat} {Pre : Pt → Array Value → Prop} {Post : Pt → Array Value → Option Value → Pt → Prop} {PostX : Pt → Array Value → Addr → Pt → Prop} (hK : vx_Back l R p e below s args y 3 W9 Pre Post PostX)
    {b : Addr} {cellB : Cell} (hcell : T.heap[b]? = some cellB) (hobj : cellB.vm.isStatics = false) (hcls : s.vm.findClass C = some cellB.cls)
    {g : JFrame} (hg : g.method = m) (hsize : g.locals.size = c.maxLocals) {argsL rest : List Value} (hlen : ∀ sig, parseMethodDescriptor y.desc = some sig → argsL.length = sig.parameters.length)
    (hstack : g.stack = argsL.reverse ++ .ref b :: rest) (hW : 2 * g.monitorRoom + (rest.map fun v => v.category).sum ≤ W9) (hdg : decode c.code g.pc = .ok (.invokevirtual index, 3))
    (hpre : ∀ vm₁, s.WarmedH vm₁ → Pre ⟨T.setVm vm₁, locs, cells, slots⟩ (Value.ref b :: argsL).toArray) :
    (∃ (v : Option Value) (vm₁ : Vm) (B : Pt), s.WarmedH vm₁ ∧ Stand p l e R s m args below meth c B.U B.locs B.cells B.slots ∧ Post ⟨T.setVm vm₁, locs, cells, slots⟩ (Value.ref b :: argsL).toArray v B ∧
      ∀ target, Steps p.tables e below (B.U.setTop { g with pc := g.pc + 3, stack := v.toList ++ rest }) target → Steps p.tables e below (T.setTop g) target) ∨
    (∃ (q : Addr) (vm₁ : Vm) (B : Pt), s.WarmedH vm₁ ∧ Stand p l e R s m args below meth c B.U B.locs B.cells B.slots ∧ PostX ⟨T.setVm vm₁, locs, cells, slots⟩ (Value.ref b :: argsL).toArray q B ∧
      Steps p.tables e below (T.setTop g) ((B.U.setTop { g with stack := rest }).pushFrame (.throwing q))) := by
  obtain ⟨mk, methM, hnamed, hmethM, hstM, habM⟩ := Cond.instanceMethod_spec hinst
  obtain ⟨methM', cM, hmethM', -, -, -, -, -, -, hsigM⟩ := Cond.code_spec hnamed hcode
  cases hmethM.symm.trans hmethM'
  obtain ⟨c2, r2, m2, q1, q2, q3, q4, kP, hkP, hkPi⟩ := Cond.selects_spec hsel
  cases hcls.symm.trans q1
  cases (State.methodFound?_of_named hnamed hy).symm.trans q2
  cases hnamed.symm.trans q3
  have hselP : selectMethod e.platform s.vm cellB.cls mk = .method mk := by rw [Launch.admits_selectMethod X.admits]; exact q4
  obtain ⟨vm₁, X₁, hstep₁⟩ := X.invokevirtual hexec hown hlink hnamed hmethM hstM hkP hkPi hy (a := b) (cell := cellB) hcell
    (fun z h => by rw [h] at hobj; cases hobj) hselP hmethM habM hkP hkPi (g := g) hg (argsL := argsL) (rest := rest) (hlen _ hsigM) hstack hdg
  rcases hK m meth c ⟨T.setVm vm₁, locs, cells, slots⟩ { g with stack := rest } (.invokevirtual index) mk (Value.ref b :: argsL).toArray X₁ hg hsize hdg hW (X₁.named hnamed) (hpre vm₁ X₁.warmed) with ⟨v, B, X', hpost, hsteps⟩ | ⟨q, B, X', hpost, hsteps⟩
  · exact Or.inl ⟨v, vm₁, B, X₁.warmed, X', hpost, fun target h => hstep₁ _ fun acts => by rw [doInvoke_state]; exact hsteps.trans h⟩
  · exact Or.inr ⟨q, vm₁, B, X₁.warmed, X', hpost, hstep₁ _ fun acts => by rw [doInvoke_state]; exact hsteps⟩
theorem vx_callS (X : Stand p l e R s m args below meth c T locs cells slots) (hexec : p.tables.exec = Jvm.exec) {own : String} {index : Nat} {y : MethodName} {bytes : ByteArray} {maxL : Nat} {ret : Option FieldType}
    (hown : s.vm.findClass own = some m.cls) (hlink : (Cond.methodLink own index y).before args s = true) (hstat : (Cond.static y).before args s = true) (hinit : (Cond.initialized y.cls).before args s = true)
    (hcode : (Cond.code y bytes maxL ret).before args s = true) (hy : y.cls ≠ "java/lang/invoke/MethodHandle" ∧ y.cls ≠ "java/lang/invoke/VarHandle")
    {W9 : Nat} {Pre : Pt → Array Value → Prop} {Post : Pt → Array Value → Option Value → Pt → Prop} {PostX : Pt → Array Value → Addr → Pt → Prop} (hK : vx_Back l R p e below s args y 3 W9 Pre Post PostX)
    {g : JFrame} (hg : g.method = m) (hsize : g.locals.size = c.maxLocals) {argsL rest : List Value} (hlen : ∀ sig, parseMethodDescriptor y.desc = some sig → argsL.length = sig.parameters.length)
    (hstack : g.stack = argsL.reverse ++ rest) (hW : 2 * g.monitorRoom + (rest.map fun v => v.category).sum ≤ W9) (hdg : decode c.code g.pc = .ok (.invokestatic index, 3))
    (hpre : ∀ vm₁, s.WarmedH vm₁ → Pre ⟨T.setVm vm₁, locs, cells, slots⟩ argsL.toArray) :
    (∃ (v : Option Value) (vm₁ : Vm) (B : Pt), s.WarmedH vm₁ ∧ Stand p l e R s m args below meth c B.U B.locs B.cells B.slots ∧ Post ⟨T.setVm vm₁, locs, cells, slots⟩ argsL.toArray v B ∧
      ∀ target, Steps p.tables e below (B.U.setTop { g with pc := g.pc + 3, stack := v.toList ++ rest }) target → Steps p.tables e below (T.setTop g) target) ∨
    (∃ (q : Addr) (vm₁ : Vm) (B : Pt), s.WarmedH vm₁ ∧ Stand p l e R s m args below meth c B.U B.locs B.cells B.slots ∧ PostX ⟨T.setVm vm₁, locs, cells, slots⟩ argsL.toArray q B ∧
      Steps p.tables e below (T.setTop g) ((B.U.setTop { g with stack := rest }).pushFrame (.throwing q))) := by
  obtain ⟨mk, hnamed⟩ := Cond.code_named hcode
  obtain ⟨methM, cM, hmethM, -, -, -, -, -, -, hsigM⟩ := Cond.code_spec hnamed hcode
  have hstatic : methM.isStatic = true := Cond.static_spec hnamed hmethM hstat
  obtain ⟨kP, hkP, -⟩ := className_of_methodNamed hnamed
  have hinitP : kP.init = .initialized := Cond.initialized_spec (findClass_of_methodNamed hnamed) hkP hinit
  obtain ⟨vm₁, X₁, hstep₁⟩ := X.invokestatic hexec hown hlink hnamed hmethM hstatic hkP hinitP hy (g := g) hg (argsL := argsL) (rest := rest) (hlen _ hsigM) hstack hdg
  rcases hK m meth c ⟨T.setVm vm₁, locs, cells, slots⟩ { g with stack := rest } (.invokestatic index) mk argsL.toArray X₁ hg hsize hdg hW (X₁.named hnamed) (hpre vm₁ X₁.warmed) with ⟨v, B, X', hpost, hsteps⟩ | ⟨q, B, X', hpost, hsteps⟩
  · exact Or.inl ⟨v, vm₁, B, X₁.warmed, X', hpost, fun target h => hstep₁ _ fun acts => by rw [doInvoke_state]; exact hsteps.trans h⟩
  · exact Or.inr ⟨q, vm₁, B, X₁.warmed, X', hpost, hstep₁ _ fun acts => by rw [doInvoke_state]; exact hsteps⟩
end Calls
theorem vx_cls {s : State} {T : State} {vm₁ : Vm} {E : String} {k : ClassId} (hW : s.WarmedH vm₁) (h : (T.setVm vm₁).vm.findClass E = some k) : s.vm.findClass E = some k := by
  have h1 : vm₁.findClass E = some k := h
  rw [hW.alike.findClass] at h1
  exact h1
/-- the method's frame g, with q thrown over it -/
def vx_W (p : Program) (l : Launch) (e : Env) (R : Room) (s : State) (m : MethodId) (args : Array Value) (below : List Frame) (meth : Method) (c : Code) (H : Heap) (locs : List Loc) (cells slots : Nat) (Q : State → Prop) (g : JFrame) (q : Addr) : Prop :=
  ∀ T : State, T.heap = H → Stand p l e R s m args below meth c T locs cells slots → ∃ t, Steps p.tables e below ((T.setTop g).pushFrame (.throwing q)) t ∧ Q t
def vx_Run (p : Program) (l : Launch) (e : Env) (R : Room) (s : State) (m : MethodId) (args : Array Value) (below : List Frame) (meth : Method) (c : Code) (H : Heap) (locs : List Loc) (cells slots mc ms : Nat) (g : JFrame) (rest : List Value) (Qa : State → Outcome → State → Prop) (XC : String → State → State → Prop) (free : Addr → Prop) : Prop :=
  ∀ T : State, T.heap = H → Stand p l e R s m args below meth c T locs cells slots →
    (∃ (v : Option Value) (st₀ t T' : State) (L : List Loc), st₀.heap = H ∧ Stand p l e R s m args below meth c T' (locs ++ L) (cells + mc) (slots + ms) ∧ (∀ q ∈ L, free q.base) ∧ T'.heap = t.heap ∧ T'.vm = t.vm ∧ Qa st₀ (.returned v) t ∧
      Goes p e below T g T' { g with pc := g.pc + 3, stack := v.toList ++ rest }) ∨
    (∃ (q : Addr) (st₀ t T' : State) (L : List Loc) (E : String) (ce : Cell), st₀.heap = H ∧ Stand p l e R s m args below meth c T' (locs ++ L) (cells + mc) (slots + ms) ∧ (∀ z ∈ L, free z.base) ∧ T'.heap = t.heap ∧ T'.vm = t.vm ∧ XC E st₀ t ∧ t.heap[q]? = some ce ∧ ce.vm = .none ∧ s.vm.findClass E = some ce.cls ∧
      Steps p.tables e below (T.setTop g) ((T'.setTop { g with stack := rest }).pushFrame (.throwing q)))
def vx_X {S : Type} (px : S → Prop) (B : String → S → State → Prop) (A : Nat → Prop) : String → State → State → Prop := fun E st t => ∃ u : S, px u ∧ B E u t ∧ va_F A st t
section Runs
variable {p : Program} {l : Launch} {e : Env} {R : Room} {s : State} {m : MethodId} {args : Array Value} {below : List Frame} {meth : Method} {c : Code} {H : Heap} {locs : List Loc} {cells slots : Nat}
variable {y : MethodName} {bytes cc : ByteArray} {maxL nL mc ms n index : Nat} {ret : Option FieldType} {ws : List Cond} {rm : Room} {Pc : Array Value → State → Prop} {Qc : Array Value → State → Outcome → State → Prop} {XC : String → State → State → Prop} {free : Addr → Prop} {Ts : List Cond} {own C : String} {b : Addr} {As rest : List Value} {g : JFrame}
theorem vx_callBack (cb : CallB R s args own index y bytes maxL ret ws rm mc ms n) (hM : vx_Met l y ws rm Pc Qc XC mc ms free) (hbl : FrameBlind Pc) : vx_Back l R p e below s args y 3 8 (PreOf R mc ms Pc) (PostOf Qc mc ms free) (vx_Post XC mc ms free) := by
  obtain ⟨hrc, hrs, hfr, hlo, hws, hcw, -, hini, -⟩ := cb
  exact vx_back (bytes := bytes) (maxL := maxL) (ret := ret) hM hbl hrc hrs hfr hlo hws hcw (fun a' U hW => word_at hW (Or.inl (by first | rfl | simp [Cond.onTables, Cond.keeps, Cond.steady])) hini)
theorem vx_runV (S : CallFix p m c cc nL s args Ts own) (hM : vx_Met l y ws rm Pc Qc XC mc ms free) (cw : CallW R s args own C index y bytes maxL ret ws rm mc ms n) (hp : PreV s H C b Pc As)
    (hg : g.method = m) (hn : As.length = n) (hsize : g.locals.size = nL) (hstack : g.stack = As.reverse ++ .ref b :: rest) (hW : 2 * g.monitorRoom + (rest.map fun v => v.category).sum ≤ 8) (hdg : decode cc g.pc = .ok (.invokevirtual index, 3)) (hf : cells + mc ≤ R.cells ∧ slots + ms ≤ R.slots) :
    vx_Run p l e R s m args below meth c H locs cells slots mc ms g rest (Qc (Value.ref b :: As).toArray) XC free := by
  have hK : vx_Back l R p e below s args y 3 8 (PreOf R mc ms Pc) (PostOf Qc mc ms free) (vx_Post XC mc ms free) := vx_callBack cw.1 hM hp.1
  obtain ⟨⟨-, -, -, -, -, -, hcode, -, hy, hlen, hl⟩, hin, hse⟩ := cw
  obtain ⟨hx, hb, hml, ho, -⟩ := S
  obtain ⟨-, ⟨cellB, hcB, hoB, hclB⟩, hPc⟩ := hp
  intro T hT X
  rcases vx_callV X hx (C := C) (bytes := bytes) (maxL := maxL) (ret := ret) ho hl hin hse hcode hy hK (by rw [hT]; exact hcB) hoB hclB hg (hsize.trans hml.symm) (argsL := As) (rest := rest) (fun sig h => hn.trans (hlen sig h)) hstack hW (by rw [hb]; exact hdg)
    (fun vm₁ hW₁ => ⟨hf.1, hf.2, hPc (T.setVm vm₁) hT hW₁⟩) with ⟨v, vm₁, ⟨U', l2, c2, s2⟩, hW₁, X', ⟨g', mk, t, L, e1, e2, hq, h1, hL, h2, h3⟩, st⟩ | ⟨q, vm₁, ⟨U', l2, c2, s2⟩, hW₁, X', ⟨g', mk, t, L, E, ce, e1, e2, hq, hce, hcv, hcl, h1, hL, h2, h3⟩, st⟩
  · dsimp only [Pt.U, Pt.locs, Pt.cells, Pt.slots] at X' e1 e2 h1 h2 h3 st
    subst h1; subst h2; subst h3
    exact Or.inl ⟨v, (T.setVm vm₁).calling g' mk (Value.ref b :: As).toArray, t, U', L, hT, X', hL, e1, e2, hq, st⟩
  · dsimp only [Pt.U, Pt.locs, Pt.cells, Pt.slots] at X' e1 e2 h1 h2 h3 st hcl
    subst h1; subst h2; subst h3
    exact Or.inr ⟨q, (T.setVm vm₁).calling g' mk (Value.ref b :: As).toArray, t, U', L, E, ce, hT, X', hL, e1, e2, hq, hce, hcv, vx_cls hW₁ hcl, st⟩
theorem vx_runS (S : CallFix p m c cc nL s args Ts own) (hM : vx_Met l y ws rm Pc Qc XC mc ms free) (cw : CallB R s args own index y bytes maxL ret ws rm mc ms n ∧ (Cond.static y).before args s = true) (hp : PreS s H Pc As)
    (hg : g.method = m) (hn : As.length = n) (hsize : g.locals.size = nL) (hstack : g.stack = As.reverse ++ rest) (hW : 2 * g.monitorRoom + (rest.map fun v => v.category).sum ≤ 8) (hdg : decode cc g.pc = .ok (.invokestatic index, 3)) (hf : cells + mc ≤ R.cells ∧ slots + ms ≤ R.slots) :
    vx_Run p l e R s m args below meth c H locs cells slots mc ms g rest (Qc As.toArray) XC free := by
  have hK : vx_Back l R p e below s args y 3 8 (PreOf R mc ms Pc) (PostOf Qc mc ms free) (vx_Post XC mc ms free) := vx_callBack cw.1 hM hp.1
  obtain ⟨⟨-, -, -, -, -, -, hcode, hini, hy, hlen, hl⟩, hstt⟩ := cw
  obtain ⟨hx, hb, hml, ho, -⟩ := S
  intro T hT X
  rcases vx_callS X hx (bytes := bytes) (maxL := maxL) (ret := ret) ho hl hstt hini hcode hy hK hg (hsize.trans hml.symm) (argsL := As) (rest := rest) (fun sig h => hn.trans (hlen sig h)) hstack hW (by rw [hb]; exact hdg)
    (fun vm₁ hW₁ => ⟨hf.1, hf.2, hp.2 (T.setVm vm₁) hT hW₁⟩) with ⟨v, vm₁, ⟨U', l2, c2, s2⟩, hW₁, X', ⟨g', mk, t, L, e1, e2, hq, h1, hL, h2, h3⟩, st⟩ | ⟨q, vm₁, ⟨U', l2, c2, s2⟩, hW₁, X', ⟨g', mk, t, L, E, ce, e1, e2, hq, hce, hcv, hcl, h1, hL, h2, h3⟩, st⟩
  · dsimp only [Pt.U, Pt.locs, Pt.cells, Pt.slots] at X' e1 e2 h1 h2 h3 st
    subst h1; subst h2; subst h3
    exact Or.inl ⟨v, (T.setVm vm₁).calling g' mk As.toArray, t, U', L, hT, X', hL, e1, e2, hq, st⟩
  · dsimp only [Pt.U, Pt.locs, Pt.cells, Pt.slots] at X' e1 e2 h1 h2 h3 st hcl
    subst h1; subst h2; subst h3
    exact Or.inr ⟨q, (T.setVm vm₁).calling g' mk As.toArray, t, U', L, E, ce, hT, X', hL, e1, e2, hq, hce, hcv, vx_cls hW₁ hcl, st⟩
end Runs
section Rows
variable {p : Program} {l : Launch} {e : Env} {R : Room} {s : State} {m : MethodId} {args : Array Value} {below : List Frame} {meth : Method} {c : Code} {H : Heap} {locs : List Loc} {cells slots : Nat} {Q : State → Prop}
variable {mc ms : Nat} {free : Addr → Prop} {A0 A1 : Nat → Prop} {H0 : Heap} {a : Array Value} {pc : Nat} {ls : Array Slot} {st0 rest : List Value}
theorem vx_keep {st₀ t T' : State} {L : List Loc} (h0 : st₀.heap = H) (e1 : T'.heap = t.heap) (hS : va_S A0 H0 H locs) (hA : ∀ q, q < H.size → A1 q → A0 q) (hf : ∀ q, free q → A0 q) (hL : ∀ q ∈ L, free q.base) (hF : va_F A1 st₀ t) :
    H.size ≤ T'.heap.size ∧ (∀ q : Nat, q < H.size → ¬ A1 q → T'.heap[q]? = H[q]?) ∧ va_S A0 H0 T'.heap (locs ++ L) := by
  obtain ⟨hz, hk⟩ := hF
  rw [h0] at hz hk
  exact ⟨by rw [e1]; exact hz, fun q h1 h2 => by rw [e1]; exact hk q h1 h2,
    ⟨Nat.le_trans hS.1 (by rw [e1]; exact hz), fun q h1 h2 => by rw [e1, hk q (Nat.lt_of_lt_of_le h1 hS.1) (fun z => h2 (hA q (Nat.lt_of_lt_of_le h1 hS.1) z))]; exact hS.2.1 q h1 h2, fun q hq => by
      rcases List.mem_append.mp hq with h | h
      · exact hS.2.2 q h
      · exact hf _ (hL q h)⟩⟩
theorem vx_calli {S SX : Type} {post : Int32 → S → Prop} {px : SX → Prop} {B : S → State → Prop} {BX : String → SX → State → Prop} {AX : Nat → Prop} (hr : vx_Run p l e R s m args below meth c H locs cells slots mc ms (F0 m pc ls st0) rest (va_Qi post B A1 a) (vx_X px BX AX) free) (hS : va_S A0 H0 H locs) (hA : ∀ q, q < H.size → A1 q → A0 q) (hf : ∀ q, free q → A0 q) (hAX : ∀ q, q < H.size → AX q → A0 q)
    (kx : ∀ (E : String) (ce : Cell) (q9 : Addr) (u : SX) (t : State) (H1 : Heap) (locs1 : List Loc), t.heap = H1 → s.vm.Alike t.vm → px u → BX E u t → H.size ≤ H1.size → (∀ q : Nat, q < H.size → ¬ AX q → H1[q]? = H[q]?) → va_S A0 H0 H1 locs1 → H1[q9]? = some ce → ce.vm = .none → s.vm.findClass E = some ce.cls → vx_W p l e R s m args below meth c H1 locs1 (cells + mc) (slots + ms) Q (F0 m pc ls rest) q9)
    (kk : ∀ (r : Int32) (u : S) (t : State) (H1 : Heap) (locs1 : List Loc), t.heap = H1 → s.vm.Alike t.vm → post r u → B u t → H.size ≤ H1.size → (∀ q : Nat, q < H.size → ¬ A1 q → H1[q]? = H[q]?) → va_S A0 H0 H1 locs1 → W p l e R s m args below meth c H1 locs1 (cells + mc) (slots + ms) Q (F0 m (pc + 3) ls (.int r :: rest))) : W p l e R s m args below meth c H locs cells slots Q (F0 m pc ls st0) := by
  intro T hT X
  rcases hr T hT X with ⟨v, st₀, t, T', L, h0, X', hL, e1, e2, ⟨⟨r, u, hv, hp, hb⟩, hF⟩, st⟩ | ⟨q, st₀, t, T', L, E, ce, h0, X', hL, e1, e2, ⟨u, hp, hb, hF⟩, hce, hcv, hcl, st⟩
  · cases hv
    obtain ⟨k1, k2, k3⟩ := vx_keep h0 e1 hS hA hf hL hF
    obtain ⟨t2, a1, b1⟩ := kk r u t T'.heap (locs ++ L) e1.symm (by rw [← e2]; exact X'.warmed.alike) hp hb k1 k2 k3 T' rfl X'
    exact ⟨t2, st t2 a1, b1⟩
  · obtain ⟨k1, k2, k3⟩ := vx_keep h0 e1 hS hAX hf hL hF
    obtain ⟨t2, a1, b1⟩ := kx E ce q u t T'.heap (locs ++ L) e1.symm (by rw [← e2]; exact X'.warmed.alike) hp hb k1 k2 k3 (by rw [e1]; exact hce) hcv hcl T' rfl X'
    exact ⟨t2, st.trans a1, b1⟩
theorem vx_calll {S SX : Type} {post : Int64 → S → Prop} {px : SX → Prop} {B : S → State → Prop} {BX : String → SX → State → Prop} {AX : Nat → Prop} (hr : vx_Run p l e R s m args below meth c H locs cells slots mc ms (F0 m pc ls st0) rest (va_Ql post B A1 a) (vx_X px BX AX) free) (hS : va_S A0 H0 H locs) (hA : ∀ q, q < H.size → A1 q → A0 q) (hf : ∀ q, free q → A0 q) (hAX : ∀ q, q < H.size → AX q → A0 q)
    (kx : ∀ (E : String) (ce : Cell) (q9 : Addr) (u : SX) (t : State) (H1 : Heap) (locs1 : List Loc), t.heap = H1 → s.vm.Alike t.vm → px u → BX E u t → H.size ≤ H1.size → (∀ q : Nat, q < H.size → ¬ AX q → H1[q]? = H[q]?) → va_S A0 H0 H1 locs1 → H1[q9]? = some ce → ce.vm = .none → s.vm.findClass E = some ce.cls → vx_W p l e R s m args below meth c H1 locs1 (cells + mc) (slots + ms) Q (F0 m pc ls rest) q9)
    (kk : ∀ (r : Int64) (u : S) (t : State) (H1 : Heap) (locs1 : List Loc), t.heap = H1 → s.vm.Alike t.vm → post r u → B u t → H.size ≤ H1.size → (∀ q : Nat, q < H.size → ¬ A1 q → H1[q]? = H[q]?) → va_S A0 H0 H1 locs1 → W p l e R s m args below meth c H1 locs1 (cells + mc) (slots + ms) Q (F0 m (pc + 3) ls (.long r :: rest))) : W p l e R s m args below meth c H locs cells slots Q (F0 m pc ls st0) := by
  intro T hT X
  rcases hr T hT X with ⟨v, st₀, t, T', L, h0, X', hL, e1, e2, ⟨⟨r, u, hv, hp, hb⟩, hF⟩, st⟩ | ⟨q, st₀, t, T', L, E, ce, h0, X', hL, e1, e2, ⟨u, hp, hb, hF⟩, hce, hcv, hcl, st⟩
  · cases hv
    obtain ⟨k1, k2, k3⟩ := vx_keep h0 e1 hS hA hf hL hF
    obtain ⟨t2, a1, b1⟩ := kk r u t T'.heap (locs ++ L) e1.symm (by rw [← e2]; exact X'.warmed.alike) hp hb k1 k2 k3 T' rfl X'
    exact ⟨t2, st t2 a1, b1⟩
  · obtain ⟨k1, k2, k3⟩ := vx_keep h0 e1 hS hAX hf hL hF
    obtain ⟨t2, a1, b1⟩ := kx E ce q u t T'.heap (locs ++ L) e1.symm (by rw [← e2]; exact X'.warmed.alike) hp hb k1 k2 k3 (by rw [e1]; exact hce) hcv hcl T' rfl X'
    exact ⟨t2, st.trans a1, b1⟩
theorem vx_callf {S SX : Type} {post : UInt32 → S → Prop} {px : SX → Prop} {B : S → State → Prop} {BX : String → SX → State → Prop} {AX : Nat → Prop} (hr : vx_Run p l e R s m args below meth c H locs cells slots mc ms (F0 m pc ls st0) rest (va_Qf post B A1 a) (vx_X px BX AX) free) (hS : va_S A0 H0 H locs) (hA : ∀ q, q < H.size → A1 q → A0 q) (hf : ∀ q, free q → A0 q) (hAX : ∀ q, q < H.size → AX q → A0 q)
    (kx : ∀ (E : String) (ce : Cell) (q9 : Addr) (u : SX) (t : State) (H1 : Heap) (locs1 : List Loc), t.heap = H1 → s.vm.Alike t.vm → px u → BX E u t → H.size ≤ H1.size → (∀ q : Nat, q < H.size → ¬ AX q → H1[q]? = H[q]?) → va_S A0 H0 H1 locs1 → H1[q9]? = some ce → ce.vm = .none → s.vm.findClass E = some ce.cls → vx_W p l e R s m args below meth c H1 locs1 (cells + mc) (slots + ms) Q (F0 m pc ls rest) q9)
    (kk : ∀ (r : UInt32) (u : S) (t : State) (H1 : Heap) (locs1 : List Loc), t.heap = H1 → s.vm.Alike t.vm → post r u → B u t → H.size ≤ H1.size → (∀ q : Nat, q < H.size → ¬ A1 q → H1[q]? = H[q]?) → va_S A0 H0 H1 locs1 → W p l e R s m args below meth c H1 locs1 (cells + mc) (slots + ms) Q (F0 m (pc + 3) ls (.float r :: rest))) : W p l e R s m args below meth c H locs cells slots Q (F0 m pc ls st0) := by
  intro T hT X
  rcases hr T hT X with ⟨v, st₀, t, T', L, h0, X', hL, e1, e2, ⟨⟨r, u, hv, hp, hb⟩, hF⟩, st⟩ | ⟨q, st₀, t, T', L, E, ce, h0, X', hL, e1, e2, ⟨u, hp, hb, hF⟩, hce, hcv, hcl, st⟩
  · cases hv
    obtain ⟨k1, k2, k3⟩ := vx_keep h0 e1 hS hA hf hL hF
    obtain ⟨t2, a1, b1⟩ := kk r u t T'.heap (locs ++ L) e1.symm (by rw [← e2]; exact X'.warmed.alike) hp hb k1 k2 k3 T' rfl X'
    exact ⟨t2, st t2 a1, b1⟩
  · obtain ⟨k1, k2, k3⟩ := vx_keep h0 e1 hS hAX hf hL hF
    obtain ⟨t2, a1, b1⟩ := kx E ce q u t T'.heap (locs ++ L) e1.symm (by rw [← e2]; exact X'.warmed.alike) hp hb k1 k2 k3 (by rw [e1]; exact hce) hcv hcl T' rfl X'
    exact ⟨t2, st.trans a1, b1⟩
theorem vx_calld {S SX : Type} {post : UInt64 → S → Prop} {px : SX → Prop} {B : S → State → Prop} {BX : String → SX → State → Prop} {AX : Nat → Prop} (hr : vx_Run p l e R s m args below meth c H locs cells slots mc ms (F0 m pc ls st0) rest (va_Qd post B A1 a) (vx_X px BX AX) free) (hS : va_S A0 H0 H locs) (hA : ∀ q, q < H.size → A1 q → A0 q) (hf : ∀ q, free q → A0 q) (hAX : ∀ q, q < H.size → AX q → A0 q)
    (kx : ∀ (E : String) (ce : Cell) (q9 : Addr) (u : SX) (t : State) (H1 : Heap) (locs1 : List Loc), t.heap = H1 → s.vm.Alike t.vm → px u → BX E u t → H.size ≤ H1.size → (∀ q : Nat, q < H.size → ¬ AX q → H1[q]? = H[q]?) → va_S A0 H0 H1 locs1 → H1[q9]? = some ce → ce.vm = .none → s.vm.findClass E = some ce.cls → vx_W p l e R s m args below meth c H1 locs1 (cells + mc) (slots + ms) Q (F0 m pc ls rest) q9)
    (kk : ∀ (r : UInt64) (u : S) (t : State) (H1 : Heap) (locs1 : List Loc), t.heap = H1 → s.vm.Alike t.vm → post r u → B u t → H.size ≤ H1.size → (∀ q : Nat, q < H.size → ¬ A1 q → H1[q]? = H[q]?) → va_S A0 H0 H1 locs1 → W p l e R s m args below meth c H1 locs1 (cells + mc) (slots + ms) Q (F0 m (pc + 3) ls (.double r :: rest))) : W p l e R s m args below meth c H locs cells slots Q (F0 m pc ls st0) := by
  intro T hT X
  rcases hr T hT X with ⟨v, st₀, t, T', L, h0, X', hL, e1, e2, ⟨⟨r, u, hv, hp, hb⟩, hF⟩, st⟩ | ⟨q, st₀, t, T', L, E, ce, h0, X', hL, e1, e2, ⟨u, hp, hb, hF⟩, hce, hcv, hcl, st⟩
  · cases hv
    obtain ⟨k1, k2, k3⟩ := vx_keep h0 e1 hS hA hf hL hF
    obtain ⟨t2, a1, b1⟩ := kk r u t T'.heap (locs ++ L) e1.symm (by rw [← e2]; exact X'.warmed.alike) hp hb k1 k2 k3 T' rfl X'
    exact ⟨t2, st t2 a1, b1⟩
  · obtain ⟨k1, k2, k3⟩ := vx_keep h0 e1 hS hAX hf hL hF
    obtain ⟨t2, a1, b1⟩ := kx E ce q u t T'.heap (locs ++ L) e1.symm (by rw [← e2]; exact X'.warmed.alike) hp hb k1 k2 k3 (by rw [e1]; exact hce) hcv hcl T' rfl X'
    exact ⟨t2, st.trans a1, b1⟩
theorem vx_callv {S SX : Type} {post : S → Prop} {px : SX → Prop} {B : S → State → Prop} {BX : String → SX → State → Prop} {AX : Nat → Prop} (hr : vx_Run p l e R s m args below meth c H locs cells slots mc ms (F0 m pc ls st0) rest (va_Qv post B A1 a) (vx_X px BX AX) free) (hS : va_S A0 H0 H locs) (hA : ∀ q, q < H.size → A1 q → A0 q) (hf : ∀ q, free q → A0 q) (hAX : ∀ q, q < H.size → AX q → A0 q)
    (kx : ∀ (E : String) (ce : Cell) (q9 : Addr) (u : SX) (t : State) (H1 : Heap) (locs1 : List Loc), t.heap = H1 → s.vm.Alike t.vm → px u → BX E u t → H.size ≤ H1.size → (∀ q : Nat, q < H.size → ¬ AX q → H1[q]? = H[q]?) → va_S A0 H0 H1 locs1 → H1[q9]? = some ce → ce.vm = .none → s.vm.findClass E = some ce.cls → vx_W p l e R s m args below meth c H1 locs1 (cells + mc) (slots + ms) Q (F0 m pc ls rest) q9)
    (kk : ∀ (u : S) (t : State) (H1 : Heap) (locs1 : List Loc), t.heap = H1 → s.vm.Alike t.vm → post u → B u t → H.size ≤ H1.size → (∀ q : Nat, q < H.size → ¬ A1 q → H1[q]? = H[q]?) → va_S A0 H0 H1 locs1 → W p l e R s m args below meth c H1 locs1 (cells + mc) (slots + ms) Q (F0 m (pc + 3) ls (rest))) : W p l e R s m args below meth c H locs cells slots Q (F0 m pc ls st0) := by
  intro T hT X
  rcases hr T hT X with ⟨v, st₀, t, T', L, h0, X', hL, e1, e2, ⟨⟨u, hv, hp, hb⟩, hF⟩, st⟩ | ⟨q, st₀, t, T', L, E, ce, h0, X', hL, e1, e2, ⟨u, hp, hb, hF⟩, hce, hcv, hcl, st⟩
  · cases hv
    obtain ⟨k1, k2, k3⟩ := vx_keep h0 e1 hS hA hf hL hF
    obtain ⟨t2, a1, b1⟩ := kk u t T'.heap (locs ++ L) e1.symm (by rw [← e2]; exact X'.warmed.alike) hp hb k1 k2 k3 T' rfl X'
    exact ⟨t2, st t2 a1, b1⟩
  · obtain ⟨k1, k2, k3⟩ := vx_keep h0 e1 hS hAX hf hL hF
    obtain ⟨t2, a1, b1⟩ := kx E ce q u t T'.heap (locs ++ L) e1.symm (by rw [← e2]; exact X'.warmed.alike) hp hb k1 k2 k3 (by rw [e1]; exact hce) hcv hcl T' rfl X'
    exact ⟨t2, st.trans a1, b1⟩
/-- caught by the row x of this method's table; the rows ahead don't take it -/
theorem vx_catch {own name : String} {E : String} {ce : Cell} {q : Addr} (hown : s.vm.findClass own = some m.cls) (pre : List ExceptionTableEntry) (x : ExceptionTableEntry) (suf : List ExceptionTableEntry) (hsplit : c.exceptionTable.toList = pre ++ x :: suf)
    (hpass : ∀ z ∈ pre, covers z pc = false ∨ (z.catchType ≠ 0 ∧ ∃ nm : String, (Cond.classLink own z.catchType nm).before args s = true ∧ va_Nc E nm s)) (hx : covers x pc = true) (h0 : x.catchType ≠ 0)
    (hlink : (Cond.classLink own x.catchType name).before args s = true) (hcast : (Cond.castable E name).before args s = true) (hcell : H[q]? = some ce) (hv : ce.vm = .none) (hcl : s.vm.findClass E = some ce.cls)
    (kk : W p l e R s m args below meth c H locs cells slots Q (F0 m x.handlerPc ls [.ref q])) : vx_W p l e R s m args below meth c H locs cells slots Q (F0 m pc ls rest) q := by
  intro T hT X
  have hpl : e.platform.magicAccessors = ({} : Platform).magicAccessors := by rw [X.admits.platform]
  obtain ⟨c3, c4, hc3, hc4, hasg⟩ := Cond.castable_spec hcast
  cases Option.some.inj (hc3.symm.trans hcl)
  obtain ⟨c5, hc5, hcl5⟩ := Cond.classLink_spec hown hlink e.platform hpl
  cases Option.some.inj (hc4.symm.trans hc5)
  obtain ⟨vm', X', st⟩ := X.thenCaughtThrough q (g := F0 m pc ls rest) rfl (Steps.refl _) (by rw [hT]; exact hcell) (by rw [hv]; rfl) (by obtain ⟨k9, h9, -⟩ := Vm.findClass_spec hcl; exact ⟨k9, h9⟩) pre x suf hsplit
    (fun z hz => by
      rcases hpass z hz with h | ⟨hz0, nm, hl1, hn1⟩
      · exact Or.inl h
      · obtain ⟨c6, hc6, hcl6⟩ := Cond.classLink_spec hown hl1 e.platform hpl
        obtain ⟨a8, b8, h1, h2, h3⟩ := hn1
        cases Option.some.inj (h1.symm.trans hcl)
        cases Option.some.inj (h2.symm.trans hc6)
        exact Or.inr ⟨hz0, _, hcl6, h3⟩) hx (Or.inr ⟨h0, c4, hcl5, hasg⟩)
  obtain ⟨t, a1, b1⟩ := kk (T.setVm vm') hT X'
  exact ⟨t, st.trans a1, b1⟩
end Rows
section Ends
variable {p : Program} {l : Launch} {e : Env} {R : Room} {s : State} {m : MethodId} {args : Array Value} {below : List Frame} {meth : Method} {c : Code} {H : Heap} {locs : List Loc} {cells slots : Nat} {Q : State → Prop}
variable {mc ms : Nat} {free : Addr → Prop} {A0 A1 : Nat → Prop} {H0 : Heap} {a : Array Value} {ls : Array Slot} {st0 rest : List Value}
variable {Qc : Array Value → State → Outcome → State → Prop} {XC : String → State → State → Prop}
/-- what a body that may throw owes at its end -/
def vx_MQ (below : List Frame) (Qc : Array Value → State → Outcome → State → Prop) (XC : String → State → State → Prop) (a : Array Value) (s : State) (mc ms : Nat) (free : Addr → Prop) : State → Prop := fun t =>
  ∃ o, t.status = .running ∧ Ended t below o ∧ vx_Q Qc XC mc ms free a s o t
theorem vx_ret {g : JFrame} {mc ms : Nat} (k : W p l e R s m args below meth c H locs cells slots (MQ below Qc args s mc ms free) g) : W p l e R s m args below meth c H locs cells slots (vx_MQ below Qc XC args s mc ms free) g := by
  intro T hT X
  obtain ⟨t, a1, o, b1, b2, b3, b4⟩ := k T hT X
  exact ⟨t, a1, o, b1, b2, Or.inl ⟨b3, b4⟩⟩
/-- not caught here: it goes on to the caller -/
theorem vx_widen {g : JFrame} {q : Addr} {k n : Nat} (h1 : cells ≤ k) (h2 : slots ≤ n) (kk : vx_W p l e R s m args below meth c H locs k n Q g q) : vx_W p l e R s m args below meth c H locs cells slots Q g q := fun T hT X => kk T hT (stand_widen X h1 h2)
theorem vx_out {pc : Nat} {E : String} {ce : Cell} {q : Addr} {mc ms : Nat} (hout : ∀ x ∈ c.exceptionTable.toList, covers x pc = false) (hlocks : meth.locks = false) (hcell : H[q]? = some ce) (hv : ce.vm = .none) (hcl : s.vm.findClass E = some ce.cls)
    (hx : ∀ t : State, t.heap = H → s.vm.Alike t.vm → XC E s t) (hf : ∀ z ∈ locs, free z.base) (hc : cells ≤ mc) (hs : slots ≤ ms) :
    vx_W p l e R s m args below meth c H locs cells slots (vx_MQ below Qc XC args s mc ms free) (F0 m pc ls rest) q := by
  intro T hT X
  obtain ⟨st1, hrun, hend, hW, hsm⟩ := X.leaveThrown q (g := F0 m pc ls rest) rfl rfl rfl hout hlocks
  have hcell9 : (T.setFrames (.throwing q :: below)).heap[q]? = some ce := by
    show T.heap[q]? = some ce
    rw [hT]; exact hcell
  exact ⟨_, st1, .threw q, hrun, hend, Or.inr ⟨q, rfl, E, ce, locs, hx _ hT hW.alike, hcell9, hv, hcl, hW, hsm.mono hc hs, hf⟩⟩
theorem vx_frame {U : State} {k n : Nat} (h : s.sameButNew ({ U with vm := s.vm } : State) locs k n) : s.heap.size ≤ U.heap.size ∧ ∀ q : Nat, q < s.heap.size → (∀ z ∈ locs, z.base ≠ q) → U.heap[q]? = s.heap[q]? := by
  obtain ⟨-, h2, -, -, -, h6⟩ := h
  refine ⟨h2, fun q hq hz => ?_⟩
  obtain ⟨c9, e1, e2, e3, e4⟩ := h6 q _ (Array.getElem?_eq_getElem hq)
  have hs : c9.slots = (s.heap[q]).slots := Array.ext_getElem? fun i => e4 i fun hm => hz _ hm rfl
  have h9 : c9 = s.heap[q] := by
    rw [hs] at e2
    exact e2
  have e5 : U.heap[q]? = some c9 := e1
  rw [e5, h9, Array.getElem?_eq_getElem hq]
/-- the words of a throw but the four that speak of the heap -/
def vx_no (w : Cond) : Bool := decide (w ≠ .isRef (.static Bundle.tN "UNASSIGNED_STACK" Bundle.steD)) && decide (w ≠ .isRef (.static Bundle.tN "SUPPRESSED_SENTINEL" Bundle.listD)) && decide (w ≠ .laysStatic Bundle.tN "UNASSIGNED_STACK" Bundle.steD) && decide (w ≠ .laysStatic Bundle.tN "SUPPRESSED_SENTINEL" Bundle.listD)
def vx_at0 (own : String) (ic : Nat) (X : String) (names : List String) : List Cond := (Bundle.ownAtoms0 own ic X names).filter vx_no
def vx_atS (own : String) (ic : Nat) (X : String) (names : List String) : List Cond := (Bundle.ownAtoms own ic X names).filter vx_no
/-- a word that the tables alone decide, or a good one -/
def vx_ot (w : Cond) : Bool := w.onTables || goodWord w
theorem vx_ot_at {args a' : Array Value} {s U : State} {w : Cond} (hW : s.WarmedH U.vm) (hvm : s.vm = U.vm) (hg : vx_ot w = true) (h : w.before args s = true) : w.before a' U = true := by
  simp only [vx_ot, Bool.or_eq_true] at hg
  rcases hg with hg | hg
  · exact va_tabs hg hvm h
  · exact word_at hW (good_of_word hg) h
/-- a list's words: the good ones out of the method's own list, the others by premises of their own -/
theorem vx_hat {args : Array Value} {s : State} {L B : List Cond} (h1 : ∀ w ∈ L.filter goodWord, w.before args s = true) (h2 : ∀ w ∈ L.filter (fun w => !goodWord w), w ∈ B) (h3 : ∀ w ∈ B, w.before args s = true) : ∀ w ∈ L, w.before args s = true := by
  intro w hw
  by_cases g : goodWord w = true
  · exact h1 w (List.mem_filter.mpr ⟨hw, g⟩)
  · refine h3 w (h2 w (List.mem_filter.mpr ⟨hw, ?_⟩))
    show (!goodWord w) = true
    cases hgw : goodWord w
    · rfl
    · exact absurd hgw g
theorem vx_c {args : Array Value} {s : State} {w : Cond} {B : List Cond} (h : w.before args s = true) (t : ∀ w ∈ B, w.before args s = true) : ∀ w' ∈ w :: B, w'.before args s = true := fun w' h' => (List.mem_cons.mp h').elim (fun e => by rw [e]; exact h) (t w')
theorem vx_n {args : Array Value} {s : State} : ∀ w ∈ ([] : List Cond), w.before args s = true := fun _ h => nomatch h
theorem vx_own {args : Array Value} {s : State} {L : List Cond} (h1 : ∀ w ∈ L.filter vx_no, w.before args s = true)
    (hU : (Cond.isRef (.static Bundle.tN "UNASSIGNED_STACK" Bundle.steD)).before args s = true) (hN : (Cond.isRef (.static Bundle.tN "SUPPRESSED_SENTINEL" Bundle.listD)).before args s = true)
    (lU : (Cond.laysStatic Bundle.tN "UNASSIGNED_STACK" Bundle.steD).before args s = true) (lN : (Cond.laysStatic Bundle.tN "SUPPRESSED_SENTINEL" Bundle.listD).before args s = true) : ∀ w ∈ L, w.before args s = true := by
  intro w hw
  by_cases e1 : w = .isRef (.static Bundle.tN "UNASSIGNED_STACK" Bundle.steD)
  · rw [e1]; exact hU
  · by_cases e2 : w = .isRef (.static Bundle.tN "SUPPRESSED_SENTINEL" Bundle.listD)
    · rw [e2]; exact hN
    · by_cases e3 : w = .laysStatic Bundle.tN "UNASSIGNED_STACK" Bundle.steD
      · rw [e3]; exact lU
      · by_cases e4 : w = .laysStatic Bundle.tN "SUPPRESSED_SENTINEL" Bundle.listD
        · rw [e4]; exact lN
        · exact h1 w (List.mem_filter.mpr ⟨hw, by unfold vx_no; rw [decide_eq_true e1, decide_eq_true e2, decide_eq_true e3, decide_eq_true e4]; rfl⟩)
/-- where a static field lies, its class's statics cell in H -/
def vx_L (C n d : String) (A : Nat → Prop) (U : State) (H : Heap) : Prop := ∃ (c : ClassId) (k : Class) (i : Nat) (f : Field) (a : Nat) (cell : Cell), U.vm.findClass C = some c ∧ U.fieldFound? C n d = some (c, k, i, f) ∧ f.isStatic = true ∧ k.statics = some a ∧ H[a]? = some cell ∧ cell.vm.isStatics = true ∧ cell.cls = c ∧ f.slot < cell.slots.size ∧ k.staticTypes[f.slot]? = some f.type ∧ ¬ A a
theorem vx_L.moved {C n d : String} {A : Nat → Prop} {u U : State} {H : Heap} (hvm : u.vm.Alike U.vm) (h : vx_L C n d A u H) : vx_L C n d A U H := by
  obtain ⟨c, k, i, f, a, cell, h1, h2, h3, h4, h5, h6, h7, h8, h9, h10⟩ := h
  obtain ⟨k', hi', he⟩ := State.fieldFound?_setVm hvm h2
  exact ⟨c, k', i, f, a, cell, by rw [hvm.findClass]; exact h1, hi', h3, by rw [he]; exact h4, h5, h6, h7, h8, by rw [he]; exact h9, h10⟩
theorem vx_L.kept {C n d : String} {A : Nat → Prop} {U : State} {H H1 : Heap} (h : vx_L C n d A U H) (hq : ∀ a : Nat, a < H.size → ¬ A a → H1[a]? = H[a]?) : vx_L C n d A U H1 := by
  obtain ⟨c, k, i, f, a, cell, h1, h2, h3, h4, h5, h6, h7, h8, h9, h10⟩ := h
  exact ⟨c, k, i, f, a, cell, h1, h2, h3, h4, by rw [hq a (Array.getElem?_eq_some_iff.mp h5).1 h10]; exact h5, h6, h7, h8, h9, h10⟩
theorem vx_L.narrow {C n d : String} {A B : Nat → Prop} {U : State} {H : Heap} (h : vx_L C n d A U H) (hAB : ∀ q, B q → A q) : vx_L C n d B U H := by
  obtain ⟨c, k, i, f, a, cell, h1, h2, h3, h4, h5, h6, h7, h8, h9, h10⟩ := h
  exact ⟨c, k, i, f, a, cell, h1, h2, h3, h4, h5, h6, h7, h8, h9, fun z => h10 (hAB _ z)⟩
theorem vx_L.word {C n d : String} {A : Nat → Prop} {s : State} {args : Array Value} (h : vx_L C n d A s s.heap) : (Cond.laysStatic C n d).before args s = true := by
  obtain ⟨c, k, i, f, a, cell, h1, h2, h3, h4, h5, h6, h7, h8, h9, -⟩ := h
  show (Cond.laysStatic C n d).holds args s none s [] = true
  exact Cond.laysStatic_of h1 h2 h3 h4 h5 h6 h7 h8 h9
/-- .. and what it holds: null or some reference -/
def vx_Zq (C n d : String) (A : Nat → Prop) (U : State) (H : Heap) : Prop := va_Zq C n d A U H ∧ vx_L C n d A U H
theorem vx_Zq.moved {C n d : String} {A : Nat → Prop} {u U : State} {H : Heap} (hvm : u.vm.Alike U.vm) (h : vx_Zq C n d A u H) : vx_Zq C n d A U H := ⟨va_Zq.moved hvm h.1, vx_L.moved hvm h.2⟩
theorem vx_Zq.kept {C n d : String} {A : Nat → Prop} {U : State} {H H1 : Heap} (h : vx_Zq C n d A U H) (hq : ∀ a : Nat, a < H.size → ¬ A a → H1[a]? = H[a]?) : vx_Zq C n d A U H1 := ⟨va_Zq.kept h.1 hq, vx_L.kept h.2 hq⟩
theorem vx_Zq.narrow {C n d : String} {A B : Nat → Prop} {U : State} {H : Heap} (h : vx_Zq C n d A U H) (hAB : ∀ q, B q → A q) : vx_Zq C n d B U H := ⟨va_Zq.narrow h.1 hAB, vx_L.narrow h.2 hAB⟩
theorem vx_Zqof {args : Array Value} {s : State} {C n d : String} {A : Nat → Prop} (hl : (Cond.laysStatic C n d).before args s = true) (hini : (Cond.initialized C).before args s = true) (h : (Cond.isRef (.static C n d)).before args s = true) (hA : ∀ a : Nat, a < s.heap.size → ¬ A a) : vx_Zq C n d A s s.heap := by
  refine ⟨va_Zqof hl hini h hA, ?_⟩
  obtain ⟨c, k, i, f, a, cell, h1, h2, h3, h4, h5, h6, h7, h8, h9⟩ := Cond.laysStatic_spec hl
  exact ⟨c, k, i, f, a, cell, h1, h2, h3, h4, h5, h6, h7, h8, h9, hA a (Array.getElem?_eq_some_iff.mp h5).1⟩
theorem vx_isRef {C n d : String} {v : Value} {A : Nat → Prop} {s : State} {args : Array Value} (h : va_Z C n d v A s s.heap) (hv : v.isRef = true) : (Cond.isRef (.static C n d)).before args s = true := by
  obtain ⟨cf, kf, fi, f, a, cell, h1, h2, h3, h4, h5, h6, h7, -⟩ := h
  have he : (Term.static C n d).eval args s none [] s = some v := by
    simp [Term.eval, State.fieldNamed?, h1, h2, h4, h5, h6, h7]
  simp only [Cond.before, Cond.holds, Cond.value, he]
  cases v <;> simp_all [Value.isRef]
theorem vx_isRefq {C n d : String} {A : Nat → Prop} {s : State} {args : Array Value} (h : va_Zq C n d A s s.heap) : (Cond.isRef (.static C n d)).before args s = true := by
  rcases h with h | ⟨t, h⟩
  · exact vx_isRef h rfl
  · exact vx_isRef h rfl
/-- the same frame, seen from here: as if the method were called anew in this heap -/
theorem vx_rebase {T : State} (X : Stand p l e R s m args below meth c T locs cells slots) {R' : Room} (hf : R'.frames ≤ R.frames) (hl : R'.locals ≤ R.locals) (hc : cells + R'.cells ≤ R.cells) (hs : slots + R'.slots ≤ R.slots) :
    Stand p l e R' ((T.setVm s.vm).setFrames (.invoking m args :: below)) m args below meth c T [] 0 0 := by
  have htop : (T.setVm s.vm).topJava?.isSome := X.here.top
  have hF : ((T.setVm s.vm).setFrames (.invoking m args :: below)).frames = .invoking m args :: below := State.frames_setFrames _ (State.cur_lt_of_top htop)
  obtain ⟨g₀, hg0⟩ := Option.isSome_iff_exists.mp htop
  obtain ⟨r, hr⟩ := State.topJava?_eq_some.mp hg0
  have hl9 : e.platform.stackLimits (T.setVm s.vm).me = e.platform.stackLimits s.me := X.limits
  have hb9 : (T.setVm s.vm).me.stackBytes = s.me.stackBytes := X.bytes
  refine ⟨X.admits, X.cas, X.clock, hF, ?_, X.hears, X.method, X.code, X.here, X.tail, X.warmed, ?_, ?_, ?_⟩
  · have h := X.room
    have hU : ((T.setVm s.vm).setFrames (.invoking m args :: below)).localsInUse = s.localsInUse := by
      rw [State.localsInUse_invoking hF (meth := meth) (c := c) X.method X.code, State.localsInUse_invoking X.frames X.method X.code]
    simp only [State.hasRoom, Bool.and_eq_true, decide_eq_true_eq] at h ⊢
    obtain ⟨⟨⟨⟨h1, h2, h3, h4, h5, h6⟩, h7⟩, h8⟩, h9⟩ := h
    rw [X.frames, List.length_cons] at h2 h3
    have q1 := X.heapSize
    have q2 := X.used
    simp only [hF, hU, List.length_cons, State.stackLimits_setFrames, State.stackBytes_setFrames, hl9, hb9]
    refine ⟨⟨⟨⟨by omega, by omega, by omega, by omega, by omega, h6⟩, ?_⟩, ?_⟩, X.book⟩
    · show T.heap.size + R'.cells ≤ e.platform.maxCells
      omega
    · show T.slotsUsed + R'.slots ≤ e.platform.maxSlots
      omega
  · rw [State.stackLimits_setFrames]; rfl
  · rw [State.stackBytes_setFrames]; rfl
  · refine ⟨?_, Nat.le_refl _, Nat.le_refl _, ?_, ?_, fun a c9 h9 => ⟨c9, h9, rfl, rfl, fun _ _ => rfl⟩⟩
    · obtain ⟨t, ht, -⟩ := State.frames_cons hr
      show T.setVm s.vm = { ((T.setVm s.vm).setFrames (.invoking m args :: below)).setFrames (T.setVm s.vm).frames with heap := T.heap, slotsUsed := T.slotsUsed }
      rw [State.setFrames_setFrames, State.setFrames_self ht]
      rfl
    · show T.slotsUsed = T.slotsUsed + ((T.heap.toList.drop T.heap.size).map (·.slots.size)).sum
      rw [List.drop_eq_nil_of_le (Nat.le_of_eq Array.length_toList)]
      rfl
    · show ((T.heap.toList.drop T.heap.size).map (·.slots.size)).sum ≤ 0
      rw [List.drop_eq_nil_of_le (Nat.le_of_eq Array.length_toList)]
      exact Nat.le_refl _
/-- 'throw new E()': new; dup; invokespecial; athrow -/
theorem vx_throw0 {cc : ByteArray} {pc : Nat} (hexec : p.tables.exec = Jvm.exec) (hb : c.code = cc) (hl : l.stackTraces = false) {own cls : String} {names : List String} {ik ic mc ms : Nat} {A : Nat → Prop}
    (hown : s.vm.findClass own = some m.cls) (hcls : Bundle.fit cls = true) (hnames : ∀ n ∈ names, Bundle.fit n = true)
    (hk : (Cond.classLink own ik cls).before args s = true) (hini : (Cond.initialized cls).before args s = true) (hat : ∀ w ∈ vx_at0 own ic cls names, w.before args s = true)
    (hgood : ∀ w ∈ Cond.classLink own ik cls :: Cond.initialized cls :: vx_at0 own ic cls names, vx_ot w = true)
    (hU : vx_Zq Bundle.tN "UNASSIGNED_STACK" Bundle.steD A s s.heap) (hN : vx_Zq Bundle.tN "SUPPRESSED_SENTINEL" Bundle.listD A s s.heap) (hS : va_S A s.heap H locs) (hsize : ls.size = c.maxLocals)
    (d0 : decode cc pc = .ok (.new ik, 3)) (d3 : decode cc (pc + 3) = .ok (.dup, 1)) (d4 : decode cc (pc + 4) = .ok (.invokespecial ic, 3)) (d7 : decode cc (pc + 7) = .ok (.athrow, 1))
    (hout : ∀ x ∈ c.exceptionTable.toList, covers x (pc + 7) = false)
    (hRframes : names.length + 3 < R.frames) (hRlocals : (rest.map fun v => v.category).sum + (13 * (names.length + 1) + 42) ≤ R.locals) (hRcells : cells + 1 ≤ R.cells) (hRslots : slots + 6 ≤ R.slots) (hlocks : meth.locks = false)
    (hx : ∀ t : State, s.vm.Alike t.vm → H.size ≤ t.heap.size → (∀ q : Nat, q < H.size → t.heap[q]? = H[q]?) → XC cls s t)
    (hf : ∀ z ∈ locs, free z.base) (hc : cells + 1 ≤ mc) (hs : slots + 6 ≤ ms) :
    W p l e R s m args below meth c H locs cells slots (vx_MQ below Qc XC args s mc ms free) (F0 m pc ls rest) := by
  intro T hT X
  have htr : e.platform.stackTraces = false := (show e.platform.stackTraces = l.stackTraces by rw [X.admits.platform]).trans hl
  have Y := vx_rebase X (R' := { frames := R.frames, locals := R.locals, cells := 1, slots := 6 }) (Nat.le_refl _) (Nat.le_refl _) hRcells hRslots
  obtain ⟨s', hA⟩ : ∃ z, z = (T.setVm s.vm).setFrames (.invoking m args :: below) := ⟨_, rfl⟩
  rw [← hA] at Y
  have hvm : s'.vm = s.vm := by rw [hA]; rfl
  have hhp : s'.heap = H := by rw [hA]; exact hT
  have hW0 : s.WarmedH s'.vm := by rw [hvm]; exact State.WarmedH.refl s
  have hat' : ∀ w ∈ vx_at0 own ic cls names, w.before args s' = true := fun w hw => vx_ot_at hW0 hvm.symm (hgood w (List.mem_cons_of_mem _ (List.mem_cons_of_mem _ hw))) (hat w hw)
  have hk' : (Cond.classLink own ik cls).before args s' = true := vx_ot_at hW0 hvm.symm (hgood _ List.mem_cons_self) hk
  have hini' : (Cond.initialized cls).before args s' = true := vx_ot_at hW0 hvm.symm (hgood _ (List.mem_cons_of_mem _ List.mem_cons_self)) hini
  have hU' : vx_Zq Bundle.tN "UNASSIGNED_STACK" Bundle.steD A s' s'.heap := by rw [hhp]; exact vx_Zq.moved hW0.alike (hU.kept hS.2.1)
  have hN' : vx_Zq Bundle.tN "SUPPRESSED_SENTINEL" Bundle.listD A s' s'.heap := by rw [hhp]; exact vx_Zq.moved hW0.alike (hN.kept hS.2.1)
  have h : ∀ w ∈ Bundle.ownAtoms0 own ic cls names, w.before args s' = true := vx_own hat' (vx_isRefq hU'.1) (vx_isRefq hN'.1) hU'.2.word hN'.2.word
  have hown' : s'.vm.findClass own = some m.cls := by rw [hvm]; exact hown
  have hins : (Cond.instantiable cls 6).before args s' = true := h _ (by simp [Bundle.ownAtoms0])
  obtain ⟨vm₁, cX, kX, hfX, hkX, -, -, X₁, st1⟩ := Y.newCold hexec (own := own) (C := cls) (index := ik) (n := 6) hown' hk' hins hini'
    (g := F0 m pc ls rest) rfl (by rw [hb]; exact d0) (Nat.le_refl _) (Nat.le_refl _)
  generalize hT1 : (T.setVm vm₁).pushCell { cls := cX, slots := kX.instanceTypes.map defaultValue, vm := .none } = T1 at X₁ st1
  have hcat : (Value.ref T.heap.size).category = 1 := rfl
  have hcellA : T1.heap[T.heap.size]? = some (freshCell cX kX) := by rw [← hT1]; exact State.heap_pushCell_size _ _
  have d3' : decode c.code (pc + 3) = .ok (.dup, 1) := by rw [hb]; exact d3
  obtain ⟨U, hsteps, hrun, hend, hW, hsame, ce, hce, hO⟩ := X₁.ctorThrow0 hexec htr (own := own) (cls := cls) (names := names) (ic := ic) hown' hcls hnames h (fun x hx => nomatch hx) hfX hkX hcellA (by rw [hhp, hT]; exact Nat.le_refl _)
    (g := { method := m, pc := pc + 4, locals := ls, stack := .ref T.heap.size :: .ref T.heap.size :: rest, locked := none }) rfl hsize rfl rfl (rest := rest) rfl
    (by rw [hb]; exact d4) (by rw [hb]; exact d7) hout hRframes (by simp only [List.map_cons, List.sum_cons, hcat]; omega) hlocks
  obtain ⟨f1, f2⟩ := vx_frame hsame
  rw [hhp] at f1 f2
  have hWs : s.WarmedH U.vm := State.WarmedH.trans hW0 hW
  have hcl : s.vm.findClass cls = some ce.cls := by
    have h9 := hO.cls
    rw [hvm] at h9
    exact h9
  have hall : s.sameButNew ({ U with vm := s.vm } : State) locs mc ms := by
    subst hA
    obtain ⟨e1, e2⟩ := hsame
    rw [State.setFrames_setFrames] at e1
    have h2 : (T.setVm s.vm).sameButNew ({ U with vm := s.vm } : State) [] (0 + 1) (0 + 6) := ⟨e1, e2⟩
    have h3 := X.same.trans h2
    rw [List.append_nil] at h3
    exact h3.mono hc hs
  refine ⟨U, ?_, .threw T.heap.size, hrun, hend, Or.inr ⟨T.heap.size, rfl, cls, ce, locs, hx U hWs.alike f1 (fun q hq => f2 q hq (fun z hz => nomatch hz)), hce, hO.vm, hcl, hWs, hall, hf⟩⟩
  refine st1 _ ?_
  show Steps p.tables e below (T1.setTop { method := m, pc := pc + 3, locals := ls, stack := .ref T.heap.size :: rest, locked := none }) _
  jvm_step X₁.here [X₁.here.top, hexec, d3', Value.category]
  exact hsteps
/-- 'throw new E("text")': new; dup; ldc; invokespecial; athrow -/
theorem vx_throwS {cc : ByteArray} {pc : Nat} (hexec : p.tables.exec = Jvm.exec) (hb : c.code = cc) (hl : l.stackTraces = false) {own cls text : String} {names : List String} {ik is ic mc ms sa : Nat} {A : Nat → Prop}
    (hown : s.vm.findClass own = some m.cls) (hcls : Bundle.fit cls = true) (hnames : ∀ n ∈ names, Bundle.fit n = true)
    (hk : (Cond.classLink own ik cls).before args s = true) (hini : (Cond.initialized cls).before args s = true) (hstr : vk_R own is text sa s) (hat : ∀ w ∈ vx_atS own ic cls names, w.before args s = true)
    (hgood : ∀ w ∈ Cond.classLink own ik cls :: Cond.initialized cls :: vx_atS own ic cls names, vx_ot w = true)
    (hU : vx_Zq Bundle.tN "UNASSIGNED_STACK" Bundle.steD A s s.heap) (hN : vx_Zq Bundle.tN "SUPPRESSED_SENTINEL" Bundle.listD A s s.heap) (hS : va_S A s.heap H locs) (hsize : ls.size = c.maxLocals)
    (d0 : decode cc pc = .ok (.new ik, 3)) (d3 : decode cc (pc + 3) = .ok (.dup, 1)) (d4 : decode cc (pc + 4) = .ok (.ldc is, 2)) (d6 : decode cc (pc + 6) = .ok (.invokespecial ic, 3)) (d9 : decode cc (pc + 9) = .ok (.athrow, 1))
    (hout : ∀ x ∈ c.exceptionTable.toList, covers x (pc + 9) = false)
    (hRframes : names.length + 3 < R.frames) (hRlocals : (rest.map fun v => v.category).sum + (13 * (names.length + 1) + 43) ≤ R.locals) (hRcells : cells + 1 ≤ R.cells) (hRslots : slots + 6 ≤ R.slots) (hlocks : meth.locks = false)
    (hx : ∀ t : State, s.vm.Alike t.vm → H.size ≤ t.heap.size → (∀ q : Nat, q < H.size → t.heap[q]? = H[q]?) → XC cls s t)
    (hf : ∀ z ∈ locs, free z.base) (hc : cells + 1 ≤ mc) (hs : slots + 6 ≤ ms) :
    W p l e R s m args below meth c H locs cells slots (vx_MQ below Qc XC args s mc ms free) (F0 m pc ls rest) := by
  intro T hT X
  have htr : e.platform.stackTraces = false := (show e.platform.stackTraces = l.stackTraces by rw [X.admits.platform]).trans hl
  have Y := vx_rebase X (R' := { frames := R.frames, locals := R.locals, cells := 1, slots := 6 }) (Nat.le_refl _) (Nat.le_refl _) hRcells hRslots
  obtain ⟨s', hA⟩ : ∃ z, z = (T.setVm s.vm).setFrames (.invoking m args :: below) := ⟨_, rfl⟩
  rw [← hA] at Y
  have hvm : s'.vm = s.vm := by rw [hA]; rfl
  have hhp : s'.heap = H := by rw [hA]; exact hT
  have hW0 : s.WarmedH s'.vm := by rw [hvm]; exact State.WarmedH.refl s
  have hat' : ∀ w ∈ vx_atS own ic cls names, w.before args s' = true := fun w hw => vx_ot_at hW0 hvm.symm (hgood w (List.mem_cons_of_mem _ (List.mem_cons_of_mem _ hw))) (hat w hw)
  have hk' : (Cond.classLink own ik cls).before args s' = true := vx_ot_at hW0 hvm.symm (hgood _ List.mem_cons_self) hk
  have hini' : (Cond.initialized cls).before args s' = true := vx_ot_at hW0 hvm.symm (hgood _ (List.mem_cons_of_mem _ List.mem_cons_self)) hini
  have hU' : vx_Zq Bundle.tN "UNASSIGNED_STACK" Bundle.steD A s' s'.heap := by rw [hhp]; exact vx_Zq.moved hW0.alike (hU.kept hS.2.1)
  have hN' : vx_Zq Bundle.tN "SUPPRESSED_SENTINEL" Bundle.listD A s' s'.heap := by rw [hhp]; exact vx_Zq.moved hW0.alike (hN.kept hS.2.1)
  have h : ∀ w ∈ Bundle.ownAtoms own ic cls names, w.before args s' = true := vx_own hat' (vx_isRefq hU'.1) (vx_isRefq hN'.1) hU'.2.word hN'.2.word
  have hown' : s'.vm.findClass own = some m.cls := by rw [hvm]; exact hown
  have hins : (Cond.instantiable cls 6).before args s' = true := h _ (by simp [Bundle.ownAtoms])
  obtain ⟨vm₁, cX, kX, hfX, hkX, -, -, X₁, st1⟩ := Y.newCold hexec (own := own) (C := cls) (index := ik) (n := 6) hown' hk' hins hini'
    (g := F0 m pc ls rest) rfl (by rw [hb]; exact d0) (Nat.le_refl _) (Nat.le_refl _)
  generalize hT1 : (T.setVm vm₁).pushCell { cls := cX, slots := kX.instanceTypes.map defaultValue, vm := .none } = T1 at X₁ st1
  have hcat : (Value.ref T.heap.size).category = 1 := rfl
  have hcellA : T1.heap[T.heap.size]? = some (freshCell cX kX) := by rw [← hT1]; exact State.heap_pushCell_size _ _
  have d3' : decode c.code (pc + 3) = .ok (.dup, 1) := by rw [hb]; exact d3
  have d4' : decode c.code (pc + 4) = .ok (.ldc is, 2) := by rw [hb]; exact d4
  have hstr' : vk_R own is text sa s' := vk_R.warm hW0 hstr
  obtain ⟨U, hsteps, hrun, hend, hW, hsame, ce, hce, hO⟩ := X₁.ctorThrowS hexec htr (own := own) (cls := cls) (names := names) (ic := ic) hown' hcls hnames h (fun x hx => nomatch hx) hfX hkX hcellA (by rw [hhp, hT]; exact Nat.le_refl _) (msg := .ref sa) rfl
    (g := { method := m, pc := pc + 6, locals := ls, stack := .ref sa :: .ref T.heap.size :: .ref T.heap.size :: rest, locked := none }) rfl hsize rfl rfl (rest := rest) rfl
    (by rw [hb]; exact d6) (by rw [hb]; exact d9) hout hRframes (by simp only [List.map_cons, List.sum_cons, hcat]; omega) hlocks
  obtain ⟨f1, f2⟩ := vx_frame hsame
  rw [hhp] at f1 f2
  have hWs : s.WarmedH U.vm := State.WarmedH.trans hW0 hW
  have hcl : s.vm.findClass cls = some ce.cls := by
    have h9 := hO.cls
    rw [hvm] at h9
    exact h9
  have hall : s.sameButNew ({ U with vm := s.vm } : State) locs mc ms := by
    subst hA
    obtain ⟨e1, e2⟩ := hsame
    rw [State.setFrames_setFrames] at e1
    have h2 : (T.setVm s.vm).sameButNew ({ U with vm := s.vm } : State) [] (0 + 1) (0 + 6) := ⟨e1, e2⟩
    have h3 := X.same.trans h2
    rw [List.append_nil] at h3
    exact h3.mono hc hs
  refine ⟨U, ?_, .threw T.heap.size, hrun, hend, Or.inr ⟨T.heap.size, rfl, cls, ce, locs, hx U hWs.alike f1 (fun q hq => f2 q hq (fun z hz => nomatch hz)), hce, hO.vm, hcl, hWs, hall, hf⟩⟩
  refine st1 _ ?_
  show Steps p.tables e below (T1.setTop { method := m, pc := pc + 3, locals := ls, stack := .ref T.heap.size :: rest, locked := none }) _
  jvm_step X₁.here [X₁.here.top, hexec, d3', Value.category]
  exact X₁.ldcString hexec (own := own) (text := text) (index := is) (a := sa) hown' hstr'.1 hstr'.2
    (g := { method := m, pc := pc + 4, locals := ls, stack := .ref T.heap.size :: .ref T.heap.size :: rest, locked := none }) rfl d4' _ hsteps
/-- 'throw new E("text")', the text by a wide index -/
theorem vx_throwSW {cc : ByteArray} {pc : Nat} (hexec : p.tables.exec = Jvm.exec) (hb : c.code = cc) (hl : l.stackTraces = false) {own cls text : String} {names : List String} {ik is ic mc ms sa : Nat} {A : Nat → Prop}
    (hown : s.vm.findClass own = some m.cls) (hcls : Bundle.fit cls = true) (hnames : ∀ n ∈ names, Bundle.fit n = true)
    (hk : (Cond.classLink own ik cls).before args s = true) (hini : (Cond.initialized cls).before args s = true) (hstr : vk_R own is text sa s) (hat : ∀ w ∈ vx_atS own ic cls names, w.before args s = true)
    (hgood : ∀ w ∈ Cond.classLink own ik cls :: Cond.initialized cls :: vx_atS own ic cls names, vx_ot w = true)
    (hU : vx_Zq Bundle.tN "UNASSIGNED_STACK" Bundle.steD A s s.heap) (hN : vx_Zq Bundle.tN "SUPPRESSED_SENTINEL" Bundle.listD A s s.heap) (hS : va_S A s.heap H locs) (hsize : ls.size = c.maxLocals)
    (d0 : decode cc pc = .ok (.new ik, 3)) (d3 : decode cc (pc + 3) = .ok (.dup, 1)) (d4 : decode cc (pc + 4) = .ok (.ldc_w is, 3)) (d7 : decode cc (pc + 7) = .ok (.invokespecial ic, 3)) (d10 : decode cc (pc + 10) = .ok (.athrow, 1))
    (hout : ∀ x ∈ c.exceptionTable.toList, covers x (pc + 10) = false)
    (hRframes : names.length + 3 < R.frames) (hRlocals : (rest.map fun v => v.category).sum + (13 * (names.length + 1) + 43) ≤ R.locals) (hRcells : cells + 1 ≤ R.cells) (hRslots : slots + 6 ≤ R.slots) (hlocks : meth.locks = false)
    (hx : ∀ t : State, s.vm.Alike t.vm → H.size ≤ t.heap.size → (∀ q : Nat, q < H.size → t.heap[q]? = H[q]?) → XC cls s t)
    (hf : ∀ z ∈ locs, free z.base) (hc : cells + 1 ≤ mc) (hs : slots + 6 ≤ ms) :
    W p l e R s m args below meth c H locs cells slots (vx_MQ below Qc XC args s mc ms free) (F0 m pc ls rest) := by
  intro T hT X
  have htr : e.platform.stackTraces = false := (show e.platform.stackTraces = l.stackTraces by rw [X.admits.platform]).trans hl
  have Y := vx_rebase X (R' := { frames := R.frames, locals := R.locals, cells := 1, slots := 6 }) (Nat.le_refl _) (Nat.le_refl _) hRcells hRslots
  obtain ⟨s', hA⟩ : ∃ z, z = (T.setVm s.vm).setFrames (.invoking m args :: below) := ⟨_, rfl⟩
  rw [← hA] at Y
  have hvm : s'.vm = s.vm := by rw [hA]; rfl
  have hhp : s'.heap = H := by rw [hA]; exact hT
  have hW0 : s.WarmedH s'.vm := by rw [hvm]; exact State.WarmedH.refl s
  have hat' : ∀ w ∈ vx_atS own ic cls names, w.before args s' = true := fun w hw => vx_ot_at hW0 hvm.symm (hgood w (List.mem_cons_of_mem _ (List.mem_cons_of_mem _ hw))) (hat w hw)
  have hk' : (Cond.classLink own ik cls).before args s' = true := vx_ot_at hW0 hvm.symm (hgood _ List.mem_cons_self) hk
  have hini' : (Cond.initialized cls).before args s' = true := vx_ot_at hW0 hvm.symm (hgood _ (List.mem_cons_of_mem _ List.mem_cons_self)) hini
  have hU' : vx_Zq Bundle.tN "UNASSIGNED_STACK" Bundle.steD A s' s'.heap := by rw [hhp]; exact vx_Zq.moved hW0.alike (hU.kept hS.2.1)
  have hN' : vx_Zq Bundle.tN "SUPPRESSED_SENTINEL" Bundle.listD A s' s'.heap := by rw [hhp]; exact vx_Zq.moved hW0.alike (hN.kept hS.2.1)
  have h : ∀ w ∈ Bundle.ownAtoms own ic cls names, w.before args s' = true := vx_own hat' (vx_isRefq hU'.1) (vx_isRefq hN'.1) hU'.2.word hN'.2.word
  have hown' : s'.vm.findClass own = some m.cls := by rw [hvm]; exact hown
  have hins : (Cond.instantiable cls 6).before args s' = true := h _ (by simp [Bundle.ownAtoms])
  obtain ⟨vm₁, cX, kX, hfX, hkX, -, -, X₁, st1⟩ := Y.newCold hexec (own := own) (C := cls) (index := ik) (n := 6) hown' hk' hins hini'
    (g := F0 m pc ls rest) rfl (by rw [hb]; exact d0) (Nat.le_refl _) (Nat.le_refl _)
  generalize hT1 : (T.setVm vm₁).pushCell { cls := cX, slots := kX.instanceTypes.map defaultValue, vm := .none } = T1 at X₁ st1
  have hcat : (Value.ref T.heap.size).category = 1 := rfl
  have hcellA : T1.heap[T.heap.size]? = some (freshCell cX kX) := by rw [← hT1]; exact State.heap_pushCell_size _ _
  have d3' : decode c.code (pc + 3) = .ok (.dup, 1) := by rw [hb]; exact d3
  have d4' : decode c.code (pc + 4) = .ok (.ldc_w is, 3) := by rw [hb]; exact d4
  have hstr' : vk_R own is text sa s' := vk_R.warm hW0 hstr
  obtain ⟨U, hsteps, hrun, hend, hW, hsame, ce, hce, hO⟩ := X₁.ctorThrowS hexec htr (own := own) (cls := cls) (names := names) (ic := ic) hown' hcls hnames h (fun x hx => nomatch hx) hfX hkX hcellA (by rw [hhp, hT]; exact Nat.le_refl _) (msg := .ref sa) rfl
    (g := { method := m, pc := pc + 7, locals := ls, stack := .ref sa :: .ref T.heap.size :: .ref T.heap.size :: rest, locked := none }) rfl hsize rfl rfl (rest := rest) rfl
    (by rw [hb]; exact d7) (by rw [hb]; exact d10) hout hRframes (by simp only [List.map_cons, List.sum_cons, hcat]; omega) hlocks
  obtain ⟨f1, f2⟩ := vx_frame hsame
  rw [hhp] at f1 f2
  have hWs : s.WarmedH U.vm := State.WarmedH.trans hW0 hW
  have hcl : s.vm.findClass cls = some ce.cls := by
    have h9 := hO.cls
    rw [hvm] at h9
    exact h9
  have hall : s.sameButNew ({ U with vm := s.vm } : State) locs mc ms := by
    subst hA
    obtain ⟨e1, e2⟩ := hsame
    rw [State.setFrames_setFrames] at e1
    have h2 : (T.setVm s.vm).sameButNew ({ U with vm := s.vm } : State) [] (0 + 1) (0 + 6) := ⟨e1, e2⟩
    have h3 := X.same.trans h2
    rw [List.append_nil] at h3
    exact h3.mono hc hs
  refine ⟨U, ?_, .threw T.heap.size, hrun, hend, Or.inr ⟨T.heap.size, rfl, cls, ce, locs, hx U hWs.alike f1 (fun q hq => f2 q hq (fun z hz => nomatch hz)), hce, hO.vm, hcl, hWs, hall, hf⟩⟩
  refine st1 _ ?_
  show Steps p.tables e below (T1.setTop { method := m, pc := pc + 3, locals := ls, stack := .ref T.heap.size :: rest, locked := none }) _
  jvm_step X₁.here [X₁.here.top, hexec, d3', Value.category]
  exact X₁.ldcStringW hexec (own := own) (text := text) (index := is) (a := sa) hown' hstr'.1 hstr'.2
    (g := { method := m, pc := pc + 4, locals := ls, stack := .ref T.heap.size :: .ref T.heap.size :: rest, locked := none }) rfl d4' _ hsteps
end Ends
section Bodies
variable {l : Launch}
theorem vx_ofW {y : MethodName} {ws ws' : List Cond} {rm : Room} {Pc : Array Value → State → Prop} {Qc : Array Value → State → Outcome → State → Prop} {XC : String → State → State → Prop} {mc ms : Nat} {free : Addr → Prop} {cc : ByteArray} {maxL : Nat} {ret : Option FieldType}
    (hy : plainName y.cls = true) (hw : ws = Cond.code y cc maxL ret :: ws')
    (body : ∀ p e s m args below meth c s₁, BodyLoose p l y (headSpec ws rm) cc maxL ret e s m args below meth c s₁ → c.maxLocals = maxL → (∀ x ∈ c.exceptionTable.toList, False) → Pc args s →
      W p l e (headSpec ws rm).room s m args below meth c s.heap [] 0 0 (vx_MQ below Qc XC args s mc ms free) (entryFrame m args maxL)) : vx_Met l y ws rm Pc Qc XC mc ms free := by
  refine MetFree.of_bodyS (code := cc) (maxLocals := maxL) (ret := ret) hy ?_ ?_
  · intro args s m h hn
    obtain ⟨meth, c, h1, h2, h3, h4, h5, h6, -, -⟩ := Cond.code_spec hn (atoms_spec (ws := ws) h _ (by rw [hw]; exact List.mem_cons_self))
    exact ⟨meth, c, h1, h2, h3, h4, h5, h6⟩
  · intro p e s m args below meth c s₁ B hml hP _
    have hh0 : s₁.heap = s.heap := by rw [B.state]; rfl
    have ht : ∀ x ∈ c.exceptionTable.toList, False := by
      obtain ⟨meth9, c9, h1, h2, -, -, -, -, h7, -⟩ := Cond.code_spec B.named (atoms_spec (ws := ws) B.pre _ (by rw [hw]; exact List.mem_cons_self))
      cases Option.some.inj (h1.symm.trans B.method)
      cases Option.some.inj (h2.symm.trans (Stand.of_body B).code)
      intro x hx
      rw [Array.isEmpty_iff.mp h7] at hx
      cases hx
    obtain ⟨t, a1, o, b1, b2, b3⟩ := body p e s m args below meth c s₁ B hml ht hP s₁ hh0 (Stand.of_body B)
    exact ⟨t, o, a1, b1, b2, b3⟩
/-- the table of a body with handlers -/
theorem vx_table {p : Program} {x y : MethodName} {S : Spec} {cc bytes : ByteArray} {maxL maxL' : Nat} {ret ret' : Option FieldType} {e : Env} {s s₁ : State} {m : MethodId} {args : Array Value} {below : List Frame} {meth : Method} {c : Code} {hh : List (Nat × Nat × Nat × Nat)}
    (B : BodyLoose p l y S cc maxL ret e s m args below meth c s₁) (h : (Cond.codeWith y bytes maxL' ret' hh).before args s = true) : c.exceptionTable.toList = tableOf hh := by
  obtain ⟨m9, meth9, c9, hn9, h1, h2, -, -, h6, -⟩ := Cond.codeWith_spec h
  cases Option.some.inj (hn9.symm.trans B.named)
  cases Option.some.inj (h1.symm.trans B.method)
  cases Option.some.inj (h2.symm.trans (Stand.of_body B).code)
  rw [← h6, table_eq]
end Bodies
end VXA
/-! ===== END ===== -/
/-! ===== BEGIN a static call of a method with an exception table ===== -/
section VXS
variable {p : Program} {l : Launch} {e : Env} {R : Room} {s : State} {m : MethodId} {args : Array Value} {below : List Frame} {meth : Method} {c : Code} {T : State} {H : Heap} {locs : List Loc} {cells slots : Nat}
abbrev vx_CSW (R : Room) (s : State) (args : Array Value) (own : String) (index : Nat) (y : MethodName) (bytes : ByteArray) (maxL : Nat) (ret : Option FieldType) (hh : List (Nat × Nat × Nat × Nat)) (ws : List Cond) (rm : Room) (mc ms n : Nat) : Prop :=
  (rm.cells = mc ∧ rm.slots = ms ∧ rm.frames + 1 ≤ R.frames ∧ 8 + (maxL + 11) + rm.locals ≤ R.locals ∧ (∀ w ∈ ws, ∀ (a' : Array Value) (U : State), s.WarmedH U.vm → w.before a' U = true) ∧ Cond.codeWith y bytes maxL ret hh ∈ ws) ∧
  (Cond.codeWith y bytes maxL ret hh).before args s = true ∧ (Cond.initialized y.cls).before args s = true ∧ (y.cls ≠ "java/lang/invoke/MethodHandle" ∧ y.cls ≠ "java/lang/invoke/VarHandle") ∧
  (∀ sig, parseMethodDescriptor y.desc = some sig → n = sig.parameters.length) ∧ (Cond.methodLink own index y).before args s = true ∧ (Cond.static y).before args s = true
theorem vx_cwSW {own : String} {index maxL mc ms : Nat} {y : MethodName} {bytes : ByteArray} {ret : Option FieldType} {hh : List (Nat × Nat × Nat × Nat)} {Ts ws ws' : List Cond} {rm : Room} (n : Nat) (ht : ∀ w ∈ Ts, w.before args s = true) (hT : GoodIn Ts (va_wsS own index y ws)) (hw : ws = Cond.codeWith y bytes maxL ret hh :: ws') (hrc : rm.cells = mc) (hrs : rm.slots = ms)
    (hd : y.cls ≠ "java/lang/invoke/MethodHandle" ∧ y.cls ≠ "java/lang/invoke/VarHandle" ∧ (parseMethodDescriptor y.desc).map (fun d => d.parameters.length) = some n) (hR : rm.frames + 1 ≤ R.frames ∧ 8 + (maxL + 11) + rm.locals ≤ R.locals) :
    vx_CSW R s args own index y bytes maxL ret hh ws rm mc ms n := by
  have ok : ∀ w ∈ va_wsS own index y ws, w.before args s = true := fun w h => ht w (hT w h).1
  have hG : GoodIn Ts ws := fun w h => hT w (by unfold va_wsS; exact List.mem_append_right _ h)
  have hc : Cond.codeWith y bytes maxL ret hh ∈ ws := by rw [hw]; exact List.mem_cons_self
  refine ⟨⟨hrc, hrs, hR.1, hR.2, pay_in ht hG, hc⟩, ht _ (hG _ hc).1, ok _ (by simp [va_wsS]), ⟨hd.1, hd.2.1⟩, fun sig h => ?_, ok _ (by simp [va_wsS]), ok _ (by simp [va_wsS])⟩
  have h2 := hd.2.2
  rw [h] at h2
  exact (Option.some.inj h2).symm
theorem vx_callSW (X : Stand p l e R s m args below meth c T locs cells slots) (hexec : p.tables.exec = Jvm.exec) {own : String} {index : Nat} {y : MethodName} {bytes : ByteArray} {maxL : Nat} {ret : Option FieldType} {hh : List (Nat × Nat × Nat × Nat)}
    (hown : s.vm.findClass own = some m.cls) (hlink : (Cond.methodLink own index y).before args s = true) (hstat : (Cond.static y).before args s = true) (hinit : (Cond.initialized y.cls).before args s = true)
    (hcode : (Cond.codeWith y bytes maxL ret hh).before args s = true) (hy : y.cls ≠ "java/lang/invoke/MethodHandle" ∧ y.cls ≠ "java/lang/invoke/VarHandle")
    {W9 : Nat} {Pre : Pt → Array Value → Prop} {Post : Pt → Array Value → Option Value → Pt → Prop} (hK : Back l R p e below s args y 3 W9 Pre Post)
    {g : JFrame} (hg : g.method = m) (hsize : g.locals.size = c.maxLocals) {argsL rest : List Value} (hlen : ∀ sig, parseMethodDescriptor y.desc = some sig → argsL.length = sig.parameters.length)
    (hstack : g.stack = argsL.reverse ++ rest) (hW : 2 * g.monitorRoom + (rest.map fun v => v.category).sum ≤ W9) (hdg : decode c.code g.pc = .ok (.invokestatic index, 3))
    (hpre : ∀ vm₁, s.WarmedH vm₁ → Pre ⟨T.setVm vm₁, locs, cells, slots⟩ argsL.toArray) :
    ∃ (v : Option Value) (vm₁ : Vm) (B : Pt), s.WarmedH vm₁ ∧ Stand p l e R s m args below meth c B.U B.locs B.cells B.slots ∧ Post ⟨T.setVm vm₁, locs, cells, slots⟩ argsL.toArray v B ∧
      ∀ target, Steps p.tables e below (B.U.setTop { g with pc := g.pc + 3, stack := v.toList ++ rest }) target → Steps p.tables e below (T.setTop g) target := by
  obtain ⟨mk, methM, cM, hnamed, hmethM, -, -, -, -, -, -, hsigM⟩ := Cond.codeWith_spec hcode
  have hstatic : methM.isStatic = true := Cond.static_spec hnamed hmethM hstat
  obtain ⟨kP, hkP, -⟩ := className_of_methodNamed hnamed
  have hinitP : kP.init = .initialized := Cond.initialized_spec (findClass_of_methodNamed hnamed) hkP hinit
  obtain ⟨vm₁, X₁, hstep₁⟩ := X.invokestatic hexec hown hlink hnamed hmethM hstatic hkP hinitP hy (g := g) hg (argsL := argsL) (rest := rest) (hlen _ hsigM) hstack hdg
  obtain ⟨v, B, X', hpost, hsteps⟩ := hK m meth c ⟨T.setVm vm₁, locs, cells, slots⟩ { g with stack := rest } (.invokestatic index) mk argsL.toArray X₁ hg hsize hdg hW (X₁.named hnamed) (hpre vm₁ X₁.warmed)
  exact ⟨v, vm₁, B, X₁.warmed, X', hpost, fun target h => hstep₁ _ fun acts => by rw [doInvoke_state]; exact hsteps.trans h⟩
theorem vx_runSW {y : MethodName} {bytes cc : ByteArray} {maxL nL mc ms n index : Nat} {ret : Option FieldType} {hh : List (Nat × Nat × Nat × Nat)} {ws : List Cond} {rm : Room} {Pc : Array Value → State → Prop} {Qc : Array Value → State → Outcome → State → Prop} {free : Addr → Prop} {Ts : List Cond} {own : String} {As rest : List Value} {g : JFrame}
    (S : CallFix p m c cc nL s args Ts own) (hM : Met l y ws rm Pc Qc mc ms free) (cw : vx_CSW R s args own index y bytes maxL ret hh ws rm mc ms n) (hp : PreS s H Pc As)
    (hg : g.method = m) (hn : As.length = n) (hsize : g.locals.size = nL) (hstack : g.stack = As.reverse ++ rest) (hW : 2 * g.monitorRoom + (rest.map fun v => v.category).sum ≤ 8) (hdg : decode cc g.pc = .ok (.invokestatic index, 3)) (hf : cells + mc ≤ R.cells ∧ slots + ms ≤ R.slots) :
    va_Run p l e R s m args below meth c H locs cells slots mc ms g rest (Qc As.toArray) (free) := by
  obtain ⟨⟨hrc, hrs, hfr, hlo, hws, hcw⟩, hcode, hini, hy, hlen, hl, hstt⟩ := cw
  have hK : Back l R p e below s args y 3 8 (PreOf R mc ms Pc) (PostOf Qc mc ms free) := va_backW (hh := hh) (bytes := bytes) (maxL := maxL) (ret := ret) hM hp.1 hrc hrs hfr hlo hws hcw (fun a' U hW => word_at hW (Or.inl (by first | rfl | simp [Cond.onTables, Cond.keeps, Cond.steady])) hini)
  obtain ⟨hx, hb, hml, ho, -⟩ := S
  intro T hT X
  obtain ⟨v, vm₁, ⟨U', l2, c2, s2⟩, hW₁, X', ⟨g', mk, t, L, e1, e2, hq, h1, hL, h2, h3⟩, st⟩ := vx_callSW X hx (hh := hh) (bytes := bytes) (maxL := maxL) (ret := ret) ho hl hstt hini hcode hy hK hg (hsize.trans hml.symm) (argsL := As) (rest := rest) (fun sig h => hn.trans (hlen sig h)) hstack hW (by rw [hb]; exact hdg)
    (fun vm₁ hW₁ => ⟨hf.1, hf.2, hp.2 (T.setVm vm₁) hT hW₁⟩)
  dsimp only [Pt.U, Pt.locs, Pt.cells, Pt.slots] at X' e1 e2 h1 h2 h3 st
  subst h1; subst h2; subst h3
  exact ⟨v, (T.setVm vm₁).calling g' mk As.toArray, t, U', L, hT, X', hL, e1, e2, hq, st⟩
/-- not caught here, past rows that name other classes: it goes on to the caller -/
theorem vx_outP {p : Program} {l : Launch} {e : Env} {R : Room} {s : State} {m : MethodId} {args : Array Value} {below : List Frame} {meth : Method} {c : Code} {H : Heap} {locs : List Loc} {cells slots : Nat} {free : Addr → Prop} {ls : Array Slot} {rest : List Value} {Qc : Array Value → State → Outcome → State → Prop} {XC : String → State → State → Prop}
    {pc : Nat} {own E : String} {ce : Cell} {q : Addr} {mc ms : Nat} (hown : s.vm.findClass own = some m.cls) (hlocks : meth.locks = false)
    (hpass : ∀ z ∈ c.exceptionTable.toList, covers z pc = false ∨ (z.catchType ≠ 0 ∧ ∃ nm : String, (Cond.classLink own z.catchType nm).before args s = true ∧ va_Nc E nm s)) (hcell : H[q]? = some ce) (hv : ce.vm = .none) (hcl : s.vm.findClass E = some ce.cls)
    (hx : ∀ t : State, t.heap = H → s.vm.Alike t.vm → XC E s t) (hf : ∀ z ∈ locs, free z.base) (hc : cells ≤ mc) (hs : slots ≤ ms) :
    vx_W p l e R s m args below meth c H locs cells slots (vx_MQ below Qc XC args s mc ms free) (F0 m pc ls rest) q := by
  intro T hT X
  have hpl : e.platform.magicAccessors = ({} : Platform).magicAccessors := by rw [X.admits.platform]
  obtain ⟨vm', hW', X', st⟩ := X.outThrough hlocks q (g := F0 m pc ls rest) rfl rfl rfl (cell := ce) (by rw [hT]; exact hcell) (by rw [hv]; rfl)
    (by obtain ⟨k9, h9, -⟩ := Vm.findClass_spec hcl; exact ⟨k9, h9⟩) (fun z hz => by
      rcases hpass z hz with h | ⟨hz0, nm, hl1, hn1⟩
      · exact Or.inl h
      · obtain ⟨c6, hc6, hcl6⟩ := Cond.classLink_spec hown hl1 e.platform hpl
        obtain ⟨a8, b8, h1, h2, h3⟩ := hn1
        cases Option.some.inj (h1.symm.trans hcl)
        cases Option.some.inj (h2.symm.trans hc6)
        exact Or.inr ⟨hz0, _, hcl6, h3⟩)
  obtain ⟨g₀, hfr⟩ := X'.frames_eq
  have hcell9 : ((T.setVm vm').setFrames (.throwing q :: below)).heap[q]? = some ce := by
    show T.heap[q]? = some ce
    rw [hT]; exact hcell
  have hend : Ended ((T.setVm vm').setFrames (.throwing q :: below)) below (.threw q) := State.frames_setFrames _ (State.cur_lt_of_frames hfr)
  refine ⟨(T.setVm vm').setFrames (.throwing q :: below), ?_, .threw q, X'.here.running, hend, Or.inr ⟨q, rfl, E, ce, locs, hx _ hT (X'.ends _).1.alike, hcell9, hv, hcl, (X'.ends _).1, (X'.ends _).2.mono hc hs, hf⟩⟩
  rw [X.pushThrowing_eq]
  exact st
/-- a thing of a world lies in the heap -/
theorem vx_lt {D : va_G} {cl : List vw_C} {ws : va_W} {H1 : Heap} (h : va_P D cl ws H1) {k : Nat} {q : Nat × va_E} (hk : ws[k]? = some q) : q.1 < H1.size := (h k q hk).lt
end VXS
/-! ===== END ===== -/
/-! ===== BEGIN methods with a table of their own: called by a name, returning or throwing ===== -/
section VXH
/-! vx_backW, vx_callVX, vx_callSX, vx_callVW, vx_runVW, vx_runVX, vx_runSX, vx_ofWH follow the same proofs as their sisters above (Free/Laws.lean, Shelf42/LK1.lean); vx_outP calls Shelf42/NT130.lean (outThrough). -/
section
variable {l : Launch} {R : Room} {p : Program} {e : Env} {below : List Frame} {s : State} {sargs : Array Value} {y : MethodName} {len W9 : Nat}
theorem vx_backW {ws : List Cond} {rm : Room} {Pc : Array Value → State → Prop} {Qc : Array Value → State → Outcome → State → Prop} {XC : String → State → State → Prop} {mc ms : Nat} {free : Addr → Prop} {bytes : ByteArray} {maxL : Nat} {ret : Option FieldType} {hh : List (Nat × Nat × Nat × Nat)}
    (hM : vx_Met l y ws rm Pc Qc XC mc ms free) (hblind : FrameBlind Pc) (hrc : rm.cells = mc) (hrs : rm.slots = ms)
    (hframes : rm.frames + 1 ≤ R.frames) (hlocals : W9 + (maxL + 11) + rm.locals ≤ R.locals)
    (hws : ∀ w ∈ ws, ∀ a' U, s.WarmedH U.vm → w.before a' U = true) (hcode : Cond.codeWith y bytes maxL ret hh ∈ ws) (hinit : ∀ a' U, s.WarmedH U.vm → (Cond.initialized y.cls).before a' U = true) :
    vx_Back l R p e below s sargs y len W9 (PreOf R mc ms Pc) (PostOf Qc mc ms free) (vx_Post XC mc ms free) := by
  intro m meth c A g ig mk a X hg hsize hdg hW hn hp
  have h1 : (headSpec ws rm).pre.before a A.U = true := atoms_intro fun w hw => hws w hw _ _ X.warmed
  have h2 : (Cond.codeWith y bytes maxL ret hh).before a A.U = true := hws _ hcode _ _ X.warmed
  have h3 : (Cond.initialized y.cls).before a A.U = true := hinit _ _ X.warmed
  have h4 : A.cells + (headSpec ws rm).room.cells ≤ R.cells := by rw [show (headSpec ws rm).room.cells = mc from hrc]; exact hp.1
  have h5 : A.slots + (headSpec ws rm).room.slots ≤ R.slots := by rw [show (headSpec ws rm).room.slots = ms from hrs]; exact hp.2.1
  have hPc : Pc a (A.U.calling g mk a) := hblind _ _ _ _ hp.2.2
  obtain ⟨U, Ls, c0, s0⟩ := A
  dsimp only [Pt.U, Pt.locs, Pt.cells, Pt.slots] at h1 h2 h3 h4 h5 X hn hPc ⊢
  obtain ⟨m9, methY, cY, hn9, hmY, hcY, -, hlY, -⟩ := Cond.codeWith_spec h2
  cases Option.some.inj (hn9.symm.trans hn)
  obtain ⟨kY, hkY, -⟩ := className_of_methodNamed hn
  have hinitY : kY.init = .initialized := Cond.initialized_spec (findClass_of_methodNamed hn) hkY h3
  have h : At U g.method c below := by rw [hg]; exact X.here
  have hlocals9 : W9 + (maxL + 11) + (headSpec ws rm).room.locals ≤ R.locals := hlocals
  have happ : (headSpec ws rm).appliesLoose y e.platform (U.calling g mk a) = true :=
    Spec.appliesLoose_calling (g := g) h hdg hn hkY hinitY
      (X.room_calling (g := g) (R' := (headSpec ws rm).room) hsize hmY hcY hframes (by rw [hlY]; omega) h4 h5) h1
  obtain ⟨mid, hmid⟩ := h.above
  have hfr : (U.setTop g).frames = (.java g :: mid) ++ below := by rw [State.frames_setTop' g h.top, hmid]; rfl
  obtain ⟨o, s₂, hsteps, -, hend, hq⟩ := Steps.callFree hM p X.admits X.cas X.clock (acts := []) hfr happ hPc trivial
  have hq' : vx_Q Qc XC mc ms free a (U.calling g mk a) o s₂ := hq
  rw [State.frames_setTop' g h.top] at hend
  obtain ⟨g₀, hg0⟩ := Option.isSome_iff_exists.mp h.top
  obtain ⟨r, hr⟩ := State.topJava?_eq_some.mp hg0
  have hr' : (({ U with heap := s₂.heap, slotsUsed := s₂.slotsUsed } : State).setVm s₂.vm).frames = .java g₀ :: r := hr
  rcases hq' with ⟨hqc, L, hfe, hL⟩ | ⟨q, rfl, E, ce, L, hx, hce, hcv, hcl, hW₂, hsm, hL⟩
  · obtain ⟨⟨v, rfl⟩, hW₂, e2, q2, q3, q4, q5, q6⟩ := id hfe
    have e3 : s₂ = ({ (U.calling g mk a).setFrames s₂.frames with heap := s₂.heap, slotsUsed := s₂.slotsUsed } : State).setVm s₂.vm := by
      have : s₂ = ({ s₂ with vm := (U.calling g mk a).vm } : State).setVm s₂.vm := rfl
      rw [e2] at this
      exact this
    obtain ⟨c₂, i₂, len₂, hc₂, hd₂, hf₂⟩ := hend
    have hW' : U.WarmedH s₂.vm := hW₂
    have hcc : c₂ = c := by
      have h1 : s₂.code? g.method = U.code? g.method := by
        rw [State.code?_eq, State.code?_eq, hW'.alike.method?]
      exact Option.some.inj (hc₂.symm.trans (h1.trans h.code))
    subst hcc
    have hlen : len₂ = len := by rw [hdg] at hd₂; cases hd₂; rfl
    subst hlen
    have hs₂ : s₂ = (({ U with heap := s₂.heap, slotsUsed := s₂.slotsUsed } : State).setVm s₂.vm).setTop { g with pc := g.pc + len₂, stack := v.toList ++ g.stack } := by
      refine e3.trans ?_
      rw [hf₂, State.calling_eq h.top, State.setFrames_setFrames, State.setTop_of_frames _ hr', hr]
      rfl
    have hsame : U.sameButNew ({ U with heap := s₂.heap, slotsUsed := s₂.slotsUsed } : State) L mc ms := by
      refine ⟨?_, q2, q3, q4, q5, q6⟩
      obtain ⟨t, ht, -⟩ := State.frames_cons hr
      show ({ U with heap := s₂.heap, slotsUsed := s₂.slotsUsed } : State) = { U.setFrames U.frames with heap := s₂.heap, slotsUsed := s₂.slotsUsed }
      rw [State.setFrames_self ht]
    subst hg
    refine Or.inl ⟨v, ⟨(({ U with heap := s₂.heap, slotsUsed := s₂.slotsUsed } : State).setVm s₂.vm), Ls ++ L, c0 + mc, s0 + ms⟩,
      ⟨X.admits, X.cas, X.clock, X.frames, X.room, X.hears, X.method, X.code, (X.here.setHeapUsed s₂.heap s₂.slotsUsed).setVm hW'.alike, X.tail, State.WarmedH.trans X.warmed hW', X.limits, X.bytes, X.same.trans (hsame.setVm s.vm)⟩,
      ⟨g, mk, s₂, L, rfl, rfl, hqc, rfl, hL, rfl, rfl⟩, ?_⟩
    show Steps p.tables e below _ ((({ U with heap := s₂.heap, slotsUsed := s₂.slotsUsed } : State).setVm s₂.vm).setTop { g with pc := g.pc + len₂, stack := v.toList ++ g.stack })
    rw [← hs₂]
    exact hsteps
  · obtain ⟨e2, q2, q3, q4, q5, q6⟩ := id hsm
    have e3 : s₂ = ({ (U.calling g mk a).setFrames s₂.frames with heap := s₂.heap, slotsUsed := s₂.slotsUsed } : State).setVm s₂.vm := by
      have : s₂ = ({ s₂ with vm := (U.calling g mk a).vm } : State).setVm s₂.vm := rfl
      rw [e2] at this
      exact this
    have hf₂ : s₂.frames = .throwing q :: .java g :: U.frames.tail := hend
    have hW' : U.WarmedH s₂.vm := hW₂
    have hs₂ : s₂ = ((({ U with heap := s₂.heap, slotsUsed := s₂.slotsUsed } : State).setVm s₂.vm).setTop g).pushFrame (.throwing q) := by
      refine e3.trans ?_
      rw [hf₂, State.calling_eq h.top, State.setFrames_setFrames, State.pushFrame, State.frames_setTop _ hr', State.setTop_of_frames _ hr', State.setFrames_setFrames, hr]
      rfl
    have hsame : U.sameButNew ({ U with heap := s₂.heap, slotsUsed := s₂.slotsUsed } : State) L mc ms := by
      refine ⟨?_, q2, q3, q4, q5, q6⟩
      obtain ⟨t, ht, -⟩ := State.frames_cons hr
      show ({ U with heap := s₂.heap, slotsUsed := s₂.slotsUsed } : State) = { U.setFrames U.frames with heap := s₂.heap, slotsUsed := s₂.slotsUsed }
      rw [State.setFrames_self ht]
    subst hg
    refine Or.inr ⟨q, ⟨(({ U with heap := s₂.heap, slotsUsed := s₂.slotsUsed } : State).setVm s₂.vm), Ls ++ L, c0 + mc, s0 + ms⟩,
      ⟨X.admits, X.cas, X.clock, X.frames, X.room, X.hears, X.method, X.code, (X.here.setHeapUsed s₂.heap s₂.slotsUsed).setVm hW'.alike, X.tail, State.WarmedH.trans X.warmed hW', X.limits, X.bytes, X.same.trans (hsame.setVm s.vm)⟩,
      ⟨g, mk, s₂, L, E, ce, rfl, rfl, hx, hce, hcv, hcl, rfl, hL, rfl, rfl⟩, ?_⟩
    show Steps p.tables e below _ (((({ U with heap := s₂.heap, slotsUsed := s₂.slotsUsed } : State).setVm s₂.vm).setTop g).pushFrame (.throwing q))
    rw [← hs₂]
    exact hsteps
end
variable {p : Program} {l : Launch} {e : Env} {R : Room} {s : State} {m : MethodId} {args : Array Value} {below : List Frame} {meth : Method} {c : Code} {T : State} {H : Heap} {locs : List Loc} {cells slots : Nat}
theorem vx_callVX (X : Stand p l e R s m args below meth c T locs cells slots) (hexec : p.tables.exec = Jvm.exec) {own C : String} {index : Nat} {y : MethodName} {bytes : ByteArray} {maxL : Nat} {ret : Option FieldType} {hh : List (Nat × Nat × Nat × Nat)}
    (hown : s.vm.findClass own = some m.cls) (hlink : (Cond.methodLink own index y).before args s = true) (hinst : (Cond.instanceMethod y).before args s = true) (hsel : (Cond.selects C y y).before args s = true)
    (hcode : (Cond.codeWith y bytes maxL ret hh).before args s = true) (hy : y.cls ≠ "java/lang/invoke/MethodHandle" ∧ y.cls ≠ "java/lang/invoke/VarHandle")
    {W9 : Nat} {Pre : Pt → Array Value → Prop} {Post : Pt → Array Value → Option Value → Pt → Prop} {PostX : Pt → Array Value → Addr → Pt → Prop} (hK : vx_Back l R p e below s args y 3 W9 Pre Post PostX)
    {b : Addr} {cellB : Cell} (hcell : T.heap[b]? = some cellB) (hobj : cellB.vm.isStatics = false) (hcls : s.vm.findClass C = some cellB.cls)
    {g : JFrame} (hg : g.method = m) (hsize : g.locals.size = c.maxLocals) {argsL rest : List Value} (hlen : ∀ sig, parseMethodDescriptor y.desc = some sig → argsL.length = sig.parameters.length)
    (hstack : g.stack = argsL.reverse ++ .ref b :: rest) (hW : 2 * g.monitorRoom + (rest.map fun v => v.category).sum ≤ W9) (hdg : decode c.code g.pc = .ok (.invokevirtual index, 3))
    (hpre : ∀ vm₁, s.WarmedH vm₁ → Pre ⟨T.setVm vm₁, locs, cells, slots⟩ (Value.ref b :: argsL).toArray) :
    (∃ (v : Option Value) (vm₁ : Vm) (B : Pt), s.WarmedH vm₁ ∧ Stand p l e R s m args below meth c B.U B.locs B.cells B.slots ∧ Post ⟨T.setVm vm₁, locs, cells, slots⟩ (Value.ref b :: argsL).toArray v B ∧
      ∀ target, Steps p.tables e below (B.U.setTop { g with pc := g.pc + 3, stack := v.toList ++ rest }) target → Steps p.tables e below (T.setTop g) target) ∨
    (∃ (q : Addr) (vm₁ : Vm) (B : Pt), s.WarmedH vm₁ ∧ Stand p l e R s m args below meth c B.U B.locs B.cells B.slots ∧ PostX ⟨T.setVm vm₁, locs, cells, slots⟩ (Value.ref b :: argsL).toArray q B ∧
      Steps p.tables e below (T.setTop g) ((B.U.setTop { g with stack := rest }).pushFrame (.throwing q))) := by
  obtain ⟨mk, methM, hnamed, hmethM, hstM, habM⟩ := Cond.instanceMethod_spec hinst
  obtain ⟨m8, methM', cM, hn8, hmethM', -, -, -, -, -, -, hsigM⟩ := Cond.codeWith_spec hcode
  cases Option.some.inj (hn8.symm.trans hnamed)
  cases hmethM.symm.trans hmethM'
  obtain ⟨c2, r2, m2, q1, q2, q3, q4, kP, hkP, hkPi⟩ := Cond.selects_spec hsel
  cases hcls.symm.trans q1
  cases (State.methodFound?_of_named hnamed hy).symm.trans q2
  cases hnamed.symm.trans q3
  have hselP : selectMethod e.platform s.vm cellB.cls mk = .method mk := by rw [Launch.admits_selectMethod X.admits]; exact q4
  obtain ⟨vm₁, X₁, hstep₁⟩ := X.invokevirtual hexec hown hlink hnamed hmethM hstM hkP hkPi hy (a := b) (cell := cellB) hcell
    (fun z h => by rw [h] at hobj; cases hobj) hselP hmethM habM hkP hkPi (g := g) hg (argsL := argsL) (rest := rest) (hlen _ hsigM) hstack hdg
  rcases hK m meth c ⟨T.setVm vm₁, locs, cells, slots⟩ { g with stack := rest } (.invokevirtual index) mk (Value.ref b :: argsL).toArray X₁ hg hsize hdg hW (X₁.named hnamed) (hpre vm₁ X₁.warmed) with ⟨v, B, X', hpost, hsteps⟩ | ⟨q, B, X', hpost, hsteps⟩
  · exact Or.inl ⟨v, vm₁, B, X₁.warmed, X', hpost, fun target h => hstep₁ _ fun acts => by rw [doInvoke_state]; exact hsteps.trans h⟩
  · exact Or.inr ⟨q, vm₁, B, X₁.warmed, X', hpost, hstep₁ _ fun acts => by rw [doInvoke_state]; exact hsteps⟩
theorem vx_callSX (X : Stand p l e R s m args below meth c T locs cells slots) (hexec : p.tables.exec = Jvm.exec) {own : String} {index : Nat} {y : MethodName} {bytes : ByteArray} {maxL : Nat} {ret : Option FieldType} {hh : List (Nat × Nat × Nat × Nat)}
    (hown : s.vm.findClass own = some m.cls) (hlink : (Cond.methodLink own index y).before args s = true) (hstat : (Cond.static y).before args s = true) (hinit : (Cond.initialized y.cls).before args s = true)
    (hcode : (Cond.codeWith y bytes maxL ret hh).before args s = true) (hy : y.cls ≠ "java/lang/invoke/MethodHandle" ∧ y.cls ≠ "java/lang/invoke/VarHandle")
    {W9 : Nat} {Pre : Pt → Array Value → Prop} {Post : Pt → Array Value → Option Value → Pt → Prop} {PostX : Pt → Array Value → Addr → Pt → Prop} (hK : vx_Back l R p e below s args y 3 W9 Pre Post PostX)
    {g : JFrame} (hg : g.method = m) (hsize : g.locals.size = c.maxLocals) {argsL rest : List Value} (hlen : ∀ sig, parseMethodDescriptor y.desc = some sig → argsL.length = sig.parameters.length)
    (hstack : g.stack = argsL.reverse ++ rest) (hW : 2 * g.monitorRoom + (rest.map fun v => v.category).sum ≤ W9) (hdg : decode c.code g.pc = .ok (.invokestatic index, 3))
    (hpre : ∀ vm₁, s.WarmedH vm₁ → Pre ⟨T.setVm vm₁, locs, cells, slots⟩ argsL.toArray) :
    (∃ (v : Option Value) (vm₁ : Vm) (B : Pt), s.WarmedH vm₁ ∧ Stand p l e R s m args below meth c B.U B.locs B.cells B.slots ∧ Post ⟨T.setVm vm₁, locs, cells, slots⟩ argsL.toArray v B ∧
      ∀ target, Steps p.tables e below (B.U.setTop { g with pc := g.pc + 3, stack := v.toList ++ rest }) target → Steps p.tables e below (T.setTop g) target) ∨
    (∃ (q : Addr) (vm₁ : Vm) (B : Pt), s.WarmedH vm₁ ∧ Stand p l e R s m args below meth c B.U B.locs B.cells B.slots ∧ PostX ⟨T.setVm vm₁, locs, cells, slots⟩ argsL.toArray q B ∧
      Steps p.tables e below (T.setTop g) ((B.U.setTop { g with stack := rest }).pushFrame (.throwing q))) := by
  obtain ⟨mk, methM, cM, hnamed, hmethM, -, -, -, -, -, -, hsigM⟩ := Cond.codeWith_spec hcode
  have hstatic : methM.isStatic = true := Cond.static_spec hnamed hmethM hstat
  obtain ⟨kP, hkP, -⟩ := className_of_methodNamed hnamed
  have hinitP : kP.init = .initialized := Cond.initialized_spec (findClass_of_methodNamed hnamed) hkP hinit
  obtain ⟨vm₁, X₁, hstep₁⟩ := X.invokestatic hexec hown hlink hnamed hmethM hstatic hkP hinitP hy (g := g) hg (argsL := argsL) (rest := rest) (hlen _ hsigM) hstack hdg
  rcases hK m meth c ⟨T.setVm vm₁, locs, cells, slots⟩ { g with stack := rest } (.invokestatic index) mk argsL.toArray X₁ hg hsize hdg hW (X₁.named hnamed) (hpre vm₁ X₁.warmed) with ⟨v, B, X', hpost, hsteps⟩ | ⟨q, B, X', hpost, hsteps⟩
  · exact Or.inl ⟨v, vm₁, B, X₁.warmed, X', hpost, fun target h => hstep₁ _ fun acts => by rw [doInvoke_state]; exact hsteps.trans h⟩
  · exact Or.inr ⟨q, vm₁, B, X₁.warmed, X', hpost, hstep₁ _ fun acts => by rw [doInvoke_state]; exact hsteps⟩
theorem vx_callVW (X : Stand p l e R s m args below meth c T locs cells slots) (hexec : p.tables.exec = Jvm.exec) {own C : String} {index : Nat} {y : MethodName} {bytes : ByteArray} {maxL : Nat} {ret : Option FieldType} {hh : List (Nat × Nat × Nat × Nat)}
    (hown : s.vm.findClass own = some m.cls) (hlink : (Cond.methodLink own index y).before args s = true) (hinst : (Cond.instanceMethod y).before args s = true) (hsel : (Cond.selects C y y).before args s = true)
    (hcode : (Cond.codeWith y bytes maxL ret hh).before args s = true) (hy : y.cls ≠ "java/lang/invoke/MethodHandle" ∧ y.cls ≠ "java/lang/invoke/VarHandle")
    {W9 : Nat} {Pre : Pt → Array Value → Prop} {Post : Pt → Array Value → Option Value → Pt → Prop} (hK : Back l R p e below s args y 3 W9 Pre Post)
    {b : Addr} {cellB : Cell} (hcell : T.heap[b]? = some cellB) (hobj : cellB.vm.isStatics = false) (hcls : s.vm.findClass C = some cellB.cls)
    {g : JFrame} (hg : g.method = m) (hsize : g.locals.size = c.maxLocals) {argsL rest : List Value} (hlen : ∀ sig, parseMethodDescriptor y.desc = some sig → argsL.length = sig.parameters.length)
    (hstack : g.stack = argsL.reverse ++ .ref b :: rest) (hW : 2 * g.monitorRoom + (rest.map fun v => v.category).sum ≤ W9) (hdg : decode c.code g.pc = .ok (.invokevirtual index, 3))
    (hpre : ∀ vm₁, s.WarmedH vm₁ → Pre ⟨T.setVm vm₁, locs, cells, slots⟩ (Value.ref b :: argsL).toArray) :
    ∃ (v : Option Value) (vm₁ : Vm) (B : Pt), s.WarmedH vm₁ ∧ Stand p l e R s m args below meth c B.U B.locs B.cells B.slots ∧ Post ⟨T.setVm vm₁, locs, cells, slots⟩ (Value.ref b :: argsL).toArray v B ∧
      ∀ target, Steps p.tables e below (B.U.setTop { g with pc := g.pc + 3, stack := v.toList ++ rest }) target → Steps p.tables e below (T.setTop g) target := by
  obtain ⟨mk, methM, hnamed, hmethM, hstM, habM⟩ := Cond.instanceMethod_spec hinst
  obtain ⟨m8, methM', cM, hn8, hmethM', -, -, -, -, -, -, hsigM⟩ := Cond.codeWith_spec hcode
  cases Option.some.inj (hn8.symm.trans hnamed)
  cases hmethM.symm.trans hmethM'
  obtain ⟨c2, r2, m2, q1, q2, q3, q4, kP, hkP, hkPi⟩ := Cond.selects_spec hsel
  cases hcls.symm.trans q1
  cases (State.methodFound?_of_named hnamed hy).symm.trans q2
  cases hnamed.symm.trans q3
  have hselP : selectMethod e.platform s.vm cellB.cls mk = .method mk := by rw [Launch.admits_selectMethod X.admits]; exact q4
  obtain ⟨vm₁, X₁, hstep₁⟩ := X.invokevirtual hexec hown hlink hnamed hmethM hstM hkP hkPi hy (a := b) (cell := cellB) hcell
    (fun z h => by rw [h] at hobj; cases hobj) hselP hmethM habM hkP hkPi (g := g) hg (argsL := argsL) (rest := rest) (hlen _ hsigM) hstack hdg
  obtain ⟨v, B, X', hpost, hsteps⟩ := hK m meth c ⟨T.setVm vm₁, locs, cells, slots⟩ { g with stack := rest } (.invokevirtual index) mk (Value.ref b :: argsL).toArray X₁ hg hsize hdg hW (X₁.named hnamed) (hpre vm₁ X₁.warmed)
  exact ⟨v, vm₁, B, X₁.warmed, X', hpost, fun target h => hstep₁ _ fun acts => by rw [doInvoke_state]; exact hsteps.trans h⟩
abbrev vx_CVW (R : Room) (s : State) (args : Array Value) (own C : String) (index : Nat) (y : MethodName) (bytes : ByteArray) (maxL : Nat) (ret : Option FieldType) (hh : List (Nat × Nat × Nat × Nat)) (ws : List Cond) (rm : Room) (mc ms n : Nat) : Prop :=
  (rm.cells = mc ∧ rm.slots = ms ∧ rm.frames + 1 ≤ R.frames ∧ 8 + (maxL + 11) + rm.locals ≤ R.locals ∧ (∀ w ∈ ws, ∀ (a' : Array Value) (U : State), s.WarmedH U.vm → w.before a' U = true) ∧ Cond.codeWith y bytes maxL ret hh ∈ ws) ∧
  (Cond.codeWith y bytes maxL ret hh).before args s = true ∧ (Cond.initialized y.cls).before args s = true ∧ (y.cls ≠ "java/lang/invoke/MethodHandle" ∧ y.cls ≠ "java/lang/invoke/VarHandle") ∧
  (∀ sig, parseMethodDescriptor y.desc = some sig → n = sig.parameters.length) ∧ (Cond.methodLink own index y).before args s = true ∧ (Cond.instanceMethod y).before args s = true ∧ (Cond.selects C y y).before args s = true
theorem vx_cwVW {own C : String} {index maxL mc ms : Nat} {y : MethodName} {bytes : ByteArray} {ret : Option FieldType} {hh : List (Nat × Nat × Nat × Nat)} {Ts ws ws' : List Cond} {rm : Room} (n : Nat) (ht : ∀ w ∈ Ts, w.before args s = true) (hT : GoodIn Ts (wsV own index C y ws)) (hw : ws = Cond.codeWith y bytes maxL ret hh :: ws') (hrc : rm.cells = mc) (hrs : rm.slots = ms)
    (hd : y.cls = C ∧ y.cls ≠ "java/lang/invoke/MethodHandle" ∧ y.cls ≠ "java/lang/invoke/VarHandle" ∧ (parseMethodDescriptor y.desc).map (fun d => d.parameters.length) = some n) (hR : rm.frames + 1 ≤ R.frames ∧ 8 + (maxL + 11) + rm.locals ≤ R.locals) :
    vx_CVW R s args own C index y bytes maxL ret hh ws rm mc ms n := by
  obtain ⟨hC, hd⟩ := hd
  subst hC
  have ok : ∀ w ∈ wsV own index y.cls y ws, w.before args s = true := fun w h => ht w (hT w h).1
  have hG : GoodIn Ts ws := fun w h => hT w (by unfold wsV; exact List.mem_append_right _ h)
  have hc : Cond.codeWith y bytes maxL ret hh ∈ ws := by rw [hw]; exact List.mem_cons_self
  refine ⟨⟨hrc, hrs, hR.1, hR.2, pay_in ht hG, hc⟩, ht _ (hG _ hc).1, ok _ (by simp [wsV]), ⟨hd.1, hd.2.1⟩, fun sig h => ?_, ok _ (by simp [wsV]), ok _ (by simp [wsV]), ok _ (by simp [wsV])⟩
  have h2 := hd.2.2
  rw [h] at h2
  exact (Option.some.inj h2).symm
theorem vx_runVW {y : MethodName} {bytes cc : ByteArray} {maxL nL mc ms n index : Nat} {ret : Option FieldType} {hh : List (Nat × Nat × Nat × Nat)} {ws : List Cond} {rm : Room} {Pc : Array Value → State → Prop} {Qc : Array Value → State → Outcome → State → Prop} {free : Addr → Prop} {Ts : List Cond} {own C : String} {b : Addr} {As rest : List Value} {g : JFrame}
    (S : CallFix p m c cc nL s args Ts own) (hM : Met l y ws rm Pc Qc mc ms free) (cw : vx_CVW R s args own C index y bytes maxL ret hh ws rm mc ms n) (hp : PreV s H C b Pc As)
    (hg : g.method = m) (hn : As.length = n) (hsize : g.locals.size = nL) (hstack : g.stack = As.reverse ++ .ref b :: rest) (hW : 2 * g.monitorRoom + (rest.map fun v => v.category).sum ≤ 8) (hdg : decode cc g.pc = .ok (.invokevirtual index, 3)) (hf : cells + mc ≤ R.cells ∧ slots + ms ≤ R.slots) :
    va_Run p l e R s m args below meth c H locs cells slots mc ms g rest (Qc (Value.ref b :: As).toArray) free := by
  obtain ⟨⟨hrc, hrs, hfr, hlo, hws, hcw⟩, hcode, hini, hy, hlen, hl, hin, hse⟩ := cw
  have hK : Back l R p e below s args y 3 8 (PreOf R mc ms Pc) (PostOf Qc mc ms free) := va_backW (hh := hh) (bytes := bytes) (maxL := maxL) (ret := ret) hM hp.1 hrc hrs hfr hlo hws hcw (fun a' U hW => word_at hW (Or.inl (by first | rfl | simp [Cond.onTables, Cond.keeps, Cond.steady])) hini)
  obtain ⟨hx, hb, hml, ho, -⟩ := S
  obtain ⟨-, ⟨cellB, hcB, hoB, hclB⟩, hPc⟩ := hp
  intro T hT X
  obtain ⟨v, vm₁, ⟨U', l2, c2, s2⟩, hW₁, X', ⟨g', mk, t, L, e1, e2, hq, h1, hL, h2, h3⟩, st⟩ := vx_callVW X hx (C := C) (hh := hh) (bytes := bytes) (maxL := maxL) (ret := ret) ho hl hin hse hcode hy hK (by rw [hT]; exact hcB) hoB hclB hg (hsize.trans hml.symm) (argsL := As) (rest := rest) (fun sig h => hn.trans (hlen sig h)) hstack hW (by rw [hb]; exact hdg)
    (fun vm₁ hW₁ => ⟨hf.1, hf.2, hPc (T.setVm vm₁) hT hW₁⟩)
  dsimp only [Pt.U, Pt.locs, Pt.cells, Pt.slots] at X' e1 e2 h1 h2 h3 st
  subst h1; subst h2; subst h3
  exact ⟨v, (T.setVm vm₁).calling g' mk (Value.ref b :: As).toArray, t, U', L, hT, X', hL, e1, e2, hq, st⟩
section
variable {y : MethodName} {bytes cc : ByteArray} {maxL nL mc ms n index : Nat} {ret : Option FieldType} {ws : List Cond} {rm : Room} {Pc : Array Value → State → Prop} {Qc : Array Value → State → Outcome → State → Prop} {XC : String → State → State → Prop} {free : Addr → Prop} {Ts : List Cond} {own C : String} {b : Addr} {As rest : List Value} {g : JFrame}
theorem vx_runVX {hh : List (Nat × Nat × Nat × Nat)} (S : CallFix p m c cc nL s args Ts own) (hM : vx_Met l y ws rm Pc Qc XC mc ms free) (cw : vx_CVW R s args own C index y bytes maxL ret hh ws rm mc ms n) (hp : PreV s H C b Pc As)
    (hg : g.method = m) (hn : As.length = n) (hsize : g.locals.size = nL) (hstack : g.stack = As.reverse ++ .ref b :: rest) (hW : 2 * g.monitorRoom + (rest.map fun v => v.category).sum ≤ 8) (hdg : decode cc g.pc = .ok (.invokevirtual index, 3)) (hf : cells + mc ≤ R.cells ∧ slots + ms ≤ R.slots) :
    vx_Run p l e R s m args below meth c H locs cells slots mc ms g rest (Qc (Value.ref b :: As).toArray) XC free := by
  obtain ⟨⟨hrc, hrs, hfr, hlo, hws, hcw⟩, hcode, hini, hy, hlen, hl, hin, hse⟩ := cw
  have hK : vx_Back l R p e below s args y 3 8 (PreOf R mc ms Pc) (PostOf Qc mc ms free) (vx_Post XC mc ms free) := vx_backW (hh := hh) (bytes := bytes) (maxL := maxL) (ret := ret) hM hp.1 hrc hrs hfr hlo hws hcw (fun a' U hW => word_at hW (Or.inl (by first | rfl | simp [Cond.onTables, Cond.keeps, Cond.steady])) hini)
  obtain ⟨hx, hb, hml, ho, -⟩ := S
  obtain ⟨-, ⟨cellB, hcB, hoB, hclB⟩, hPc⟩ := hp
  intro T hT X
  rcases vx_callVX X hx (C := C) (hh := hh) (bytes := bytes) (maxL := maxL) (ret := ret) ho hl hin hse hcode hy hK (by rw [hT]; exact hcB) hoB hclB hg (hsize.trans hml.symm) (argsL := As) (rest := rest) (fun sig h => hn.trans (hlen sig h)) hstack hW (by rw [hb]; exact hdg)
    (fun vm₁ hW₁ => ⟨hf.1, hf.2, hPc (T.setVm vm₁) hT hW₁⟩) with ⟨v, vm₁, ⟨U', l2, c2, s2⟩, hW₁, X', ⟨g', mk, t, L, e1, e2, hq, h1, hL, h2, h3⟩, st⟩ | ⟨q, vm₁, ⟨U', l2, c2, s2⟩, hW₁, X', ⟨g', mk, t, L, E, ce, e1, e2, hq, hce, hcv, hcl, h1, hL, h2, h3⟩, st⟩
  · dsimp only [Pt.U, Pt.locs, Pt.cells, Pt.slots] at X' e1 e2 h1 h2 h3 st
    subst h1; subst h2; subst h3
    exact Or.inl ⟨v, (T.setVm vm₁).calling g' mk (Value.ref b :: As).toArray, t, U', L, hT, X', hL, e1, e2, hq, st⟩
  · dsimp only [Pt.U, Pt.locs, Pt.cells, Pt.slots] at X' e1 e2 h1 h2 h3 st hcl
    subst h1; subst h2; subst h3
    exact Or.inr ⟨q, (T.setVm vm₁).calling g' mk (Value.ref b :: As).toArray, t, U', L, E, ce, hT, X', hL, e1, e2, hq, hce, hcv, vx_cls hW₁ hcl, st⟩
theorem vx_runSX {hh : List (Nat × Nat × Nat × Nat)} (S : CallFix p m c cc nL s args Ts own) (hM : vx_Met l y ws rm Pc Qc XC mc ms free) (cw : vx_CSW R s args own index y bytes maxL ret hh ws rm mc ms n) (hp : PreS s H Pc As)
    (hg : g.method = m) (hn : As.length = n) (hsize : g.locals.size = nL) (hstack : g.stack = As.reverse ++ rest) (hW : 2 * g.monitorRoom + (rest.map fun v => v.category).sum ≤ 8) (hdg : decode cc g.pc = .ok (.invokestatic index, 3)) (hf : cells + mc ≤ R.cells ∧ slots + ms ≤ R.slots) :
    vx_Run p l e R s m args below meth c H locs cells slots mc ms g rest (Qc As.toArray) XC free := by
  obtain ⟨⟨hrc, hrs, hfr, hlo, hws, hcw⟩, hcode, hini, hy, hlen, hl, hstt⟩ := cw
  have hK : vx_Back l R p e below s args y 3 8 (PreOf R mc ms Pc) (PostOf Qc mc ms free) (vx_Post XC mc ms free) := vx_backW (hh := hh) (bytes := bytes) (maxL := maxL) (ret := ret) hM hp.1 hrc hrs hfr hlo hws hcw (fun a' U hW => word_at hW (Or.inl (by first | rfl | simp [Cond.onTables, Cond.keeps, Cond.steady])) hini)
  obtain ⟨hx, hb, hml, ho, -⟩ := S
  intro T hT X
  rcases vx_callSX X hx (hh := hh) (bytes := bytes) (maxL := maxL) (ret := ret) ho hl hstt hini hcode hy hK hg (hsize.trans hml.symm) (argsL := As) (rest := rest) (fun sig h => hn.trans (hlen sig h)) hstack hW (by rw [hb]; exact hdg)
    (fun vm₁ hW₁ => ⟨hf.1, hf.2, hp.2 (T.setVm vm₁) hT hW₁⟩) with ⟨v, vm₁, ⟨U', l2, c2, s2⟩, hW₁, X', ⟨g', mk, t, L, e1, e2, hq, h1, hL, h2, h3⟩, st⟩ | ⟨q, vm₁, ⟨U', l2, c2, s2⟩, hW₁, X', ⟨g', mk, t, L, E, ce, e1, e2, hq, hce, hcv, hcl, h1, hL, h2, h3⟩, st⟩
  · dsimp only [Pt.U, Pt.locs, Pt.cells, Pt.slots] at X' e1 e2 h1 h2 h3 st
    subst h1; subst h2; subst h3
    exact Or.inl ⟨v, (T.setVm vm₁).calling g' mk As.toArray, t, U', L, hT, X', hL, e1, e2, hq, st⟩
  · dsimp only [Pt.U, Pt.locs, Pt.cells, Pt.slots] at X' e1 e2 h1 h2 h3 st hcl
    subst h1; subst h2; subst h3
    exact Or.inr ⟨q, (T.setVm vm₁).calling g' mk As.toArray, t, U', L, E, ce, hT, X', hL, e1, e2, hq, hce, hcv, vx_cls hW₁ hcl, st⟩
end
end VXH
theorem vx_ofWH {l : Launch} {y : MethodName} {ws ws' : List Cond} {rm : Room} {Pc : Array Value → State → Prop} {Qc : Array Value → State → Outcome → State → Prop} {XC : String → State → State → Prop} {mc ms : Nat} {free : Addr → Prop} {cc : ByteArray} {maxL : Nat} {ret : Option FieldType} {hh : List (Nat × Nat × Nat × Nat)}
    (hy : plainName y.cls = true) (hw : ws = Cond.codeWith y cc maxL ret hh :: ws')
    (body : ∀ p e s m args below meth c s₁, BodyLoose p l y (headSpec ws rm) cc maxL ret e s m args below meth c s₁ → c.maxLocals = maxL → Pc args s →
      W p l e (headSpec ws rm).room s m args below meth c s.heap [] 0 0 (vx_MQ below Qc XC args s mc ms free) (entryFrame m args maxL)) : vx_Met l y ws rm Pc Qc XC mc ms free := by
  refine MetFree.of_bodyS (code := cc) (maxLocals := maxL) (ret := ret) hy ?_ ?_
  · intro args s m h hn
    obtain ⟨m9, meth, c, hn9, h1, h2, h3, h4, -, h5, h6, -⟩ := Cond.codeWith_spec (atoms_spec (ws := ws) h _ (by rw [hw]; exact List.mem_cons_self))
    cases hn.symm.trans hn9
    exact ⟨meth, c, h1, h2, h3, h4, h5, h6⟩
  · intro p e s m args below meth c s₁ B hml hP _
    have hh0 : s₁.heap = s.heap := by rw [B.state]; rfl
    obtain ⟨t, a1, o, b1, b2, b3⟩ := body p e s m args below meth c s₁ B hml hP s₁ hh0 (Stand.of_body B)
    exact ⟨t, o, a1, b1, b2, b3⟩
/-! ===== END ===== -/
end
section
def RX0 : String := "SusuRing$Circle"
def TX0 : u_T := fun k => match k with
  | 0 => ("SusuRing$Circle", "sum", "I", true)
  | 1 => ("SusuRing$Circle", "way", "I", true)
  | 2 => ("SusuRing$Circle", "places", "Ljava/util/ArrayList;", true)
  | 3 => ("SusuRing$Circle", "order", "Ljava/util/ArrayList;", true)
  | 4 => ("SusuRing$Circle", "started", "Z", false)
  | 5 => ("SusuRing$Circle", "box", "I", false)
  | 6 => ("SusuRing$Circle", "meetings", "I", false)
  | _ => ("SusuRing$Circle", "rounds", "I", false)
def tyX0 : Nat → FieldType := fun k => match k with
  | 0 => .int
  | 1 => .int
  | 2 => .object "java/util/ArrayList"
  | 3 => .object "java/util/ArrayList"
  | 4 => .boolean
  | 5 => .int
  | 6 => .int
  | _ => .int
abbrev wsX00 : List Cond := u_ws RX0 TX0 8
theorem nmX0 : ∀ a, a < 8 → ∀ b, b < 8 → a ≠ b → (TX0 a).2.1 ≠ (TX0 b).2.1 := by decide +kernel
theorem tyX0_ok : ∀ k, k < 8 → parseFieldDescriptor (TX0 k).2.2.1 = some (tyX0 k) := by decide +kernel
abbrev cX0_init : ByteArray := prog_2_method_1_code
def yX0_init : MethodName := ⟨RX0, "<init>", "(II)V"⟩
abbrev cX0_hasOrder : ByteArray := prog_2_method_2_code
def yX0_hasOrder : MethodName := ⟨RX0, "hasOrder", "()Z"⟩
abbrev cX0_indexOf : ByteArray := prog_2_method_3_code
def yX0_indexOf : MethodName := ⟨RX0, "indexOf", "(LSusuRing$Person;)I"⟩
abbrev cX0_placeOf : ByteArray := prog_2_method_4_code
def yX0_placeOf : MethodName := ⟨RX0, "placeOf", "(LSusuRing$Person;)LSusuRing$Place;"⟩
abbrev cX0_makeOrder : ByteArray := prog_2_method_5_code
def yX0_makeOrder : MethodName := ⟨RX0, "makeOrder", "(I)V"⟩
abbrev cX0_drawn : ByteArray := prog_2_method_6_code
def yX0_drawn : MethodName := ⟨RX0, "drawn", "(II)I"⟩
abbrev cX0_eldest : ByteArray := prog_2_method_7_code
def yX0_eldest : MethodName := ⟨RX0, "eldest", "(I)I"⟩
abbrev cX0_upNext : ByteArray := prog_2_method_8_code
def yX0_upNext : MethodName := ⟨RX0, "upNext", "()LSusuRing$Place;"⟩
abbrev cX0_firstInOrder : ByteArray := prog_2_method_9_code
def yX0_firstInOrder : MethodName := ⟨RX0, "firstInOrder", "()LSusuRing$Place;"⟩
abbrev cX0_greatest : ByteArray := prog_2_method_10_code
def yX0_greatest : MethodName := ⟨RX0, "greatest", "()LSusuRing$Place;"⟩
abbrev cX0_collect : ByteArray := prog_2_method_11_code
def yX0_collect : MethodName := ⟨RX0, "collect", "(Z)V"⟩
abbrev cX0_payOut : ByteArray := prog_2_method_12_code
def yX0_payOut : MethodName := ⟨RX0, "payOut", "(LSusuRing$Place;)V"⟩
abbrev cX0_giveOut : ByteArray := prog_2_method_13_code
def yX0_giveOut : MethodName := ⟨RX0, "giveOut", "(LSusuRing$Place;I)V"⟩
abbrev cX0_clearBids : ByteArray := prog_2_method_14_code
def yX0_clearBids : MethodName := ⟨RX0, "clearBids", "()V"⟩
abbrev cX0_endRoundIfAllHadTurns : ByteArray := prog_2_method_15_code
def yX0_endRoundIfAllHadTurns : MethodName := ⟨RX0, "endRoundIfAllHadTurns", "()V"⟩
abbrev cX0_removePlace : ByteArray := prog_2_method_16_code
def yX0_removePlace : MethodName := ⟨RX0, "removePlace", "(LSusuRing$Place;)V"⟩
abbrev cX0_removeFrom : ByteArray := prog_2_method_17_code
def yX0_removeFrom : MethodName := ⟨RX0, "removeFrom", "(Ljava/util/ArrayList;LSusuRing$Place;)V"⟩
abbrev cX0_passOn : ByteArray := prog_2_method_18_code
def yX0_passOn : MethodName := ⟨RX0, "passOn", "(LSusuRing$Person;LSusuRing$Person;)Z"⟩
def RX1 : String := "SusuRing$Person"
def TX1 : u_T := fun k => match k with
  | 0 => ("SusuRing$Person", "number", "I", true)
  | 1 => ("SusuRing$Person", "age", "I", true)
  | 2 => ("SusuRing$Person", "name", "I", true)
  | 3 => ("SusuRing$Person", "notes", "[I", true)
  | 4 => ("SusuRing$Person", "purse", "I", false)
  | 5 => ("SusuRing$Person", "shares", "I", false)
  | 6 => ("SusuRing$Person", "debt", "I", false)
  | 7 => ("SusuRing$Person", "loanMonths", "I", false)
  | 8 => ("SusuRing$Person", "first", "LSusuRing$Person;", false)
  | 9 => ("SusuRing$Person", "second", "LSusuRing$Person;", false)
  | 10 => ("SusuRing$Person", "paidBack", "I", false)
  | 11 => ("SusuRing$Person", "truth", "I", false)
  | _ => ("SusuRing$Person", "dead", "Z", false)
def tyX1 : Nat → FieldType := fun k => match k with
  | 0 => .int
  | 1 => .int
  | 2 => .int
  | 3 => .array .int
  | 4 => .int
  | 5 => .int
  | 6 => .int
  | 7 => .int
  | 8 => .object "SusuRing$Person"
  | 9 => .object "SusuRing$Person"
  | 10 => .int
  | 11 => .int
  | _ => .boolean
abbrev wsX10 : List Cond := u_ws RX1 TX1 13
theorem nmX1 : ∀ a, a < 13 → ∀ b, b < 13 → a ≠ b → (TX1 a).2.1 ≠ (TX1 b).2.1 := by decide +kernel
theorem tyX1_ok : ∀ k, k < 13 → parseFieldDescriptor (TX1 k).2.2.1 = some (tyX1 k) := by decide +kernel
abbrev cX1_init : ByteArray := prog_3_method_1_code
def yX1_init : MethodName := ⟨RX1, "<init>", "(III)V"⟩
abbrev cX1_hasShare : ByteArray := prog_3_method_2_code
def yX1_hasShare : MethodName := ⟨RX1, "hasShare", "()Z"⟩
abbrev cX1_hasLoan : ByteArray := prog_3_method_3_code
def yX1_hasLoan : MethodName := ⟨RX1, "hasLoan", "()Z"⟩
abbrev cX1_isOfHouse : ByteArray := prog_3_method_4_code
def yX1_isOfHouse : MethodName := ⟨RX1, "isOfHouse", "(LSusuRing$Person;)Z"⟩
abbrev cX1_payIn : ByteArray := prog_3_method_5_code
def yX1_payIn : MethodName := ⟨RX1, "payIn", "(I)V"⟩
abbrev cX1_getOut : ByteArray := prog_3_method_6_code
def yX1_getOut : MethodName := ⟨RX1, "getOut", "(I)V"⟩
abbrev cX1_takeLoan : ByteArray := prog_3_method_7_code
def yX1_takeLoan : MethodName := ⟨RX1, "takeLoan", "(ILSusuRing$Person;LSusuRing$Person;)V"⟩
abbrev cX1_ageLoan : ByteArray := prog_3_method_8_code
def yX1_ageLoan : MethodName := ⟨RX1, "ageLoan", "()V"⟩
abbrev cX1_bequeath : ByteArray := prog_3_method_9_code
def yX1_bequeath : MethodName := ⟨RX1, "bequeath", "(LSusuRing$Person;)V"⟩
def RX2 : String := "SusuRing$Place"
def TX2 : u_T := fun k => match k with
  | 0 => ("SusuRing$Place", "holder", "LSusuRing$Person;", false)
  | 1 => ("SusuRing$Place", "arrears", "I", false)
  | 2 => ("SusuRing$Place", "need", "I", false)
  | 3 => ("SusuRing$Place", "bid", "I", false)
  | 4 => ("SusuRing$Place", "paidIn", "I", false)
  | _ => ("SusuRing$Place", "hadTurn", "Z", false)
def tyX2 : Nat → FieldType := fun k => match k with
  | 0 => .object "SusuRing$Person"
  | 1 => .int
  | 2 => .int
  | 3 => .int
  | 4 => .int
  | _ => .boolean
abbrev wsX20 : List Cond := u_ws RX2 TX2 6
theorem nmX2 : ∀ a, a < 6 → ∀ b, b < 6 → a ≠ b → (TX2 a).2.1 ≠ (TX2 b).2.1 := by decide +kernel
theorem tyX2_ok : ∀ k, k < 6 → parseFieldDescriptor (TX2 k).2.2.1 = some (tyX2 k) := by decide +kernel
abbrev cX2_init : ByteArray := prog_4_method_1_code
def yX2_init : MethodName := ⟨RX2, "<init>", "(LSusuRing$Person;)V"⟩
abbrev cX2_changeNeed : ByteArray := prog_4_method_2_code
def yX2_changeNeed : MethodName := ⟨RX2, "changeNeed", "(I)I"⟩
abbrev cX2_changeBid : ByteArray := prog_4_method_3_code
def yX2_changeBid : MethodName := ⟨RX2, "changeBid", "(I)I"⟩
abbrev cX2_rank : ByteArray := prog_4_method_4_code
def yX2_rank : MethodName := ⟨RX2, "rank", "(I)I"⟩
def RX3 : String := "SusuRing"
def TX3 : u_T := fun k => match k with
  | 0 => ("SusuRing", "people", "Ljava/util/ArrayList;", true)
  | 1 => ("SusuRing", "circles", "Ljava/util/ArrayList;", true)
  | 2 => ("SusuRing", "fundCash", "I", false)
  | _ => ("SusuRing", "earned", "I", false)
def tyX3 : Nat → FieldType := fun k => match k with
  | 0 => .object "java/util/ArrayList"
  | 1 => .object "java/util/ArrayList"
  | 2 => .int
  | _ => .int
abbrev wsX30 : List Cond := u_ws RX3 TX3 4
theorem nmX3 : ∀ a, a < 4 → ∀ b, b < 4 → a ≠ b → (TX3 a).2.1 ≠ (TX3 b).2.1 := by decide +kernel
theorem tyX3_ok : ∀ k, k < 4 → parseFieldDescriptor (TX3 k).2.2.1 = some (tyX3 k) := by decide +kernel
abbrev cX3_init : ByteArray := prog_1_method_1_code
def yX3_init : MethodName := ⟨RX3, "<init>", "()V"⟩
abbrev cX3_person : ByteArray := prog_1_method_2_code
def yX3_person : MethodName := ⟨RX3, "person", "(II)I"⟩
abbrev cX3_earn : ByteArray := prog_1_method_3_code
def yX3_earn : MethodName := ⟨RX3, "earn", "(II)I"⟩
abbrev cX3_die : ByteArray := prog_1_method_4_code
def yX3_die : MethodName := ⟨RX3, "die", "(II)I"⟩
abbrev cX3_circle : ByteArray := prog_1_method_5_code
def yX3_circle : MethodName := ⟨RX3, "circle", "(II)I"⟩
abbrev cX3_enter : ByteArray := prog_1_method_6_code
def yX3_enter : MethodName := ⟨RX3, "enter", "(II)I"⟩
abbrev cX3_start : ByteArray := prog_1_method_7_code
def yX3_start : MethodName := ⟨RX3, "start", "(II)I"⟩
abbrev cX3_want : ByteArray := prog_1_method_8_code
def yX3_want : MethodName := ⟨RX3, "want", "(IIIZ)I"⟩
abbrev cX3_meet : ByteArray := prog_1_method_9_code
def yX3_meet : MethodName := ⟨RX3, "meet", "(IZ)I"⟩
abbrev cX3_leave : ByteArray := prog_1_method_10_code
def yX3_leave : MethodName := ⟨RX3, "leave", "(II)I"⟩
abbrev cX3_buy : ByteArray := prog_1_method_11_code
def yX3_buy : MethodName := ⟨RX3, "buy", "(II)I"⟩
abbrev cX3_borrow : ByteArray := prog_1_method_12_code
def yX3_borrow : MethodName := ⟨RX3, "borrow", "(IIII)I"⟩
abbrev cX3_repay : ByteArray := prog_1_method_13_code
def yX3_repay : MethodName := ⟨RX3, "repay", "(II)I"⟩
abbrev cX3_month : ByteArray := prog_1_method_14_code
def yX3_month : MethodName := ⟨RX3, "month", "(Z)I"⟩
abbrev cX3_feast : ByteArray := prog_1_method_15_code
def yX3_feast : MethodName := ⟨RX3, "feast", "()I"⟩
abbrev cX3_note : ByteArray := prog_1_method_16_code
def yX3_note : MethodName := ⟨RX3, "note", "(III)I"⟩
abbrev cX3_audit : ByteArray := prog_1_method_17_code
def yX3_audit : MethodName := ⟨RX3, "audit", "(I)I"⟩
abbrev cX3_of : ByteArray := prog_1_method_18_code
def yX3_of : MethodName := ⟨RX3, "of", "(II)I"⟩
abbrev cX3_member : ByteArray := prog_1_method_19_code
def yX3_member : MethodName := ⟨RX3, "member", "(III)I"⟩
abbrev cX3_ofCircle : ByteArray := prog_1_method_20_code
def yX3_ofCircle : MethodName := ⟨RX3, "ofCircle", "(II)I"⟩
abbrev cX3_cash : ByteArray := prog_1_method_21_code
def yX3_cash : MethodName := ⟨RX3, "cash", "()I"⟩
abbrev cX3_coins : ByteArray := prog_1_method_22_code
def yX3_coins : MethodName := ⟨RX3, "coins", "()I"⟩
abbrev cX3_personAt : ByteArray := prog_1_method_23_code
def yX3_personAt : MethodName := ⟨RX3, "personAt", "(I)LSusuRing$Person;"⟩
abbrev cX3_circleAt : ByteArray := prog_1_method_24_code
def yX3_circleAt : MethodName := ⟨RX3, "circleAt", "(I)LSusuRing$Circle;"⟩
abbrev cX3_checkRange : ByteArray := prog_1_method_25_code
def yX3_checkRange : MethodName := ⟨RX3, "checkRange", "(III)V"⟩
abbrev cX3_numberAt : ByteArray := prog_1_method_26_code
def yX3_numberAt : MethodName := ⟨RX3, "numberAt", "(LSusuRing$Place;)I"⟩
abbrev cX3_payFund : ByteArray := prog_1_method_27_code
def yX3_payFund : MethodName := ⟨RX3, "payFund", "(LSusuRing$Person;I)V"⟩
abbrev cX3_highestLoan : ByteArray := prog_1_method_28_code
def yX3_highestLoan : MethodName := ⟨RX3, "highestLoan", "(LSusuRing$Person;)I"⟩
abbrev cX3_houseDebts : ByteArray := prog_1_method_29_code
def yX3_houseDebts : MethodName := ⟨RX3, "houseDebts", "(LSusuRing$Person;)I"⟩
abbrev cX3_houseSize : ByteArray := prog_1_method_30_code
def yX3_houseSize : MethodName := ⟨RX3, "houseSize", "(LSusuRing$Person;)I"⟩
abbrev cX3_defaultLoan : ByteArray := prog_1_method_31_code
def yX3_defaultLoan : MethodName := ⟨RX3, "defaultLoan", "(LSusuRing$Person;)V"⟩
abbrev cX3_payForOther : ByteArray := prog_1_method_32_code
def yX3_payForOther : MethodName := ⟨RX3, "payForOther", "(LSusuRing$Person;I)V"⟩
def RX4 : String := "SusuRingModel"
def TX4 : u_T := fun k => match k with
  | _ => ("", "", "", false)
def tyX4 : Nat → FieldType := fun k => match k with
  | _ => .int
abbrev wsX40 : List Cond := u_ws RX4 TX4 0
theorem nmX4 : ∀ a, a < 0 → ∀ b, b < 0 → a ≠ b → (TX4 a).2.1 ≠ (TX4 b).2.1 := by decide +kernel
theorem tyX4_ok : ∀ k, k < 0 → parseFieldDescriptor (TX4 k).2.2.1 = some (tyX4 k) := by decide +kernel
def RJx145de : String := "java/io/Serializable"
def TJx145de : u_T := fun k => match k with
  | _ => ("", "", "", false)
def tyJx145de : Nat → FieldType := fun k => match k with
  | _ => .int
abbrev wsJx145de0 : List Cond := u_ws RJx145de TJx145de 0
theorem nmJx145de : ∀ a, a < 0 → ∀ b, b < 0 → a ≠ b → (TJx145de a).2.1 ≠ (TJx145de b).2.1 := by decide +kernel
theorem tyJx145de_ok : ∀ k, k < 0 → parseFieldDescriptor (TJx145de k).2.2.1 = some (tyJx145de k) := by decide +kernel
def RJx8e188 : String := "java/lang/Cloneable"
def TJx8e188 : u_T := fun k => match k with
  | _ => ("", "", "", false)
def tyJx8e188 : Nat → FieldType := fun k => match k with
  | _ => .int
abbrev wsJx8e1880 : List Cond := u_ws RJx8e188 TJx8e188 0
theorem nmJx8e188 : ∀ a, a < 0 → ∀ b, b < 0 → a ≠ b → (TJx8e188 a).2.1 ≠ (TJx8e188 b).2.1 := by decide +kernel
theorem tyJx8e188_ok : ∀ k, k < 0 → parseFieldDescriptor (TJx8e188 k).2.2.1 = some (tyJx8e188 k) := by decide +kernel
def RJxab1ab : String := "java/lang/Iterable"
def TJxab1ab : u_T := fun k => match k with
  | _ => ("", "", "", false)
def tyJxab1ab : Nat → FieldType := fun k => match k with
  | _ => .int
abbrev wsJxab1ab0 : List Cond := u_ws RJxab1ab TJxab1ab 0
theorem nmJxab1ab : ∀ a, a < 0 → ∀ b, b < 0 → a ≠ b → (TJxab1ab a).2.1 ≠ (TJxab1ab b).2.1 := by decide +kernel
theorem tyJxab1ab_ok : ∀ k, k < 0 → parseFieldDescriptor (TJxab1ab k).2.2.1 = some (tyJxab1ab k) := by decide +kernel
def RJ9 : String := "java/lang/Math"
def TJ9 : u_T := fun k => match k with
  | _ => ("", "", "", false)
def tyJ9 : Nat → FieldType := fun k => match k with
  | _ => .int
abbrev wsJ90 : List Cond := u_ws RJ9 TJ9 0
theorem nmJ9 : ∀ a, a < 0 → ∀ b, b < 0 → a ≠ b → (TJ9 a).2.1 ≠ (TJ9 b).2.1 := by decide +kernel
theorem tyJ9_ok : ∀ k, k < 0 → parseFieldDescriptor (TJ9 k).2.2.1 = some (tyJ9 k) := by decide +kernel
abbrev cJ9_max_7cf53 : ByteArray := prog_14_method_65_code
def yJ9_max_7cf53 : MethodName := ⟨RJ9, "max", "(II)I"⟩
abbrev cJ9_min_7cf53 : ByteArray := prog_14_method_69_code
def yJ9_min_7cf53 : MethodName := ⟨RJ9, "min", "(II)I"⟩
def RJ0 : String := "java/lang/String"
def TJ0 : u_T := fun k => match k with
  | _ => ("", "", "", false)
def tyJ0 : Nat → FieldType := fun k => match k with
  | _ => .int
abbrev wsJ00 : List Cond := u_ws RJ0 TJ0 0
theorem nmJ0 : ∀ a, a < 0 → ∀ b, b < 0 → a ≠ b → (TJ0 a).2.1 ≠ (TJ0 b).2.1 := by decide +kernel
theorem tyJ0_ok : ∀ k, k < 0 → parseFieldDescriptor (TJ0 k).2.2.1 = some (tyJ0 k) := by decide +kernel
def RJ10 : String := "java/lang/System"
def TJ10 : u_T := fun k => match k with
  | _ => ("", "", "", false)
def tyJ10 : Nat → FieldType := fun k => match k with
  | _ => .int
abbrev wsJ100 : List Cond := u_ws RJ10 TJ10 0
theorem nmJ10 : ∀ a, a < 0 → ∀ b, b < 0 → a ≠ b → (TJ10 a).2.1 ≠ (TJ10 b).2.1 := by decide +kernel
theorem tyJ10_ok : ∀ k, k < 0 → parseFieldDescriptor (TJ10 k).2.2.1 = some (tyJ10 k) := by decide +kernel
def RJxa1e45 : String := "java/util/AbstractCollection"
def TJxa1e45 : u_T := fun k => match k with
  | _ => ("", "", "", false)
def tyJxa1e45 : Nat → FieldType := fun k => match k with
  | _ => .int
abbrev wsJxa1e450 : List Cond := u_ws RJxa1e45 TJxa1e45 0
theorem nmJxa1e45 : ∀ a, a < 0 → ∀ b, b < 0 → a ≠ b → (TJxa1e45 a).2.1 ≠ (TJxa1e45 b).2.1 := by decide +kernel
theorem tyJxa1e45_ok : ∀ k, k < 0 → parseFieldDescriptor (TJxa1e45 k).2.2.1 = some (tyJxa1e45 k) := by decide +kernel
abbrev cJxa1e45_init_da8c8 : ByteArray := prog_19_method_1_code
def yJxa1e45_init_da8c8 : MethodName := ⟨RJxa1e45, "<init>", "()V"⟩
def RJxc12de : String := "java/util/AbstractList"
def TJxc12de : u_T := fun k => match k with
  | _ => ("", "", "", false)
def tyJxc12de : Nat → FieldType := fun k => match k with
  | _ => .int
abbrev wsJxc12de0 : List Cond := u_ws RJxc12de TJxc12de 0
theorem nmJxc12de : ∀ a, a < 0 → ∀ b, b < 0 → a ≠ b → (TJxc12de a).2.1 ≠ (TJxc12de b).2.1 := by decide +kernel
theorem tyJxc12de_ok : ∀ k, k < 0 → parseFieldDescriptor (TJxc12de k).2.2.1 = some (tyJxc12de k) := by decide +kernel
abbrev cJxc12de_init_da8c8 : ByteArray := prog_20_method_1_code
def yJxc12de_init_da8c8 : MethodName := ⟨RJxc12de, "<init>", "()V"⟩
def RJx4a65c : String := "java/util/ArrayList"
def TJx4a65c : u_T := fun k => match k with
  | 0 => ("java/util/AbstractList", "modCount", "I", false)
  | 1 => ("java/util/ArrayList", "elementData", "[Ljava/lang/Object;", false)
  | _ => ("java/util/ArrayList", "size", "I", false)
def tyJx4a65c : Nat → FieldType := fun k => match k with
  | 0 => .int
  | 1 => .array (.object "java/lang/Object")
  | _ => .int
abbrev wsJx4a65c0 : List Cond := u_ws RJx4a65c TJx4a65c 3
theorem nmJx4a65c : ∀ a, a < 3 → ∀ b, b < 3 → a ≠ b → (TJx4a65c a).2.1 ≠ (TJx4a65c b).2.1 := by decide +kernel
theorem tyJx4a65c_ok : ∀ k, k < 3 → parseFieldDescriptor (TJx4a65c k).2.2.1 = some (tyJx4a65c k) := by decide +kernel
abbrev cJx4a65c_init_da8c8 : ByteArray := prog_21_method_2_code
def yJx4a65c_init_da8c8 : MethodName := ⟨RJx4a65c, "<init>", "()V"⟩
abbrev cJx4a65c_grow_92f84 : ByteArray := prog_21_method_6_code
def yJx4a65c_grow_92f84 : MethodName := ⟨RJx4a65c, "grow", "(I)[Ljava/lang/Object;"⟩
abbrev cJx4a65c_grow_d5877 : ByteArray := prog_21_method_7_code
def yJx4a65c_grow_d5877 : MethodName := ⟨RJx4a65c, "grow", "()[Ljava/lang/Object;"⟩
abbrev cJx4a65c_size_8abf5 : ByteArray := prog_21_method_8_code
def yJx4a65c_size_8abf5 : MethodName := ⟨RJx4a65c, "size", "()I"⟩
abbrev cJx4a65c_isEmpty_aae02 : ByteArray := prog_21_method_9_code
def yJx4a65c_isEmpty_aae02 : MethodName := ⟨RJx4a65c, "isEmpty", "()Z"⟩
abbrev cJx4a65c_elementData_915e3 : ByteArray := prog_21_method_18_code
def yJx4a65c_elementData_915e3 : MethodName := ⟨RJx4a65c, "elementData", "(I)Ljava/lang/Object;"⟩
abbrev cJx4a65c_get_915e3 : ByteArray := prog_21_method_20_code
def yJx4a65c_get_915e3 : MethodName := ⟨RJx4a65c, "get", "(I)Ljava/lang/Object;"⟩
abbrev cJx4a65c_add_72be8 : ByteArray := prog_21_method_24_code
def yJx4a65c_add_72be8 : MethodName := ⟨RJx4a65c, "add", "(Ljava/lang/Object;[Ljava/lang/Object;I)V"⟩
abbrev cJx4a65c_add_9ea2d : ByteArray := prog_21_method_25_code
def yJx4a65c_add_9ea2d : MethodName := ⟨RJx4a65c, "add", "(Ljava/lang/Object;)Z"⟩
abbrev cJx4a65c_add_7a177 : ByteArray := prog_21_method_26_code
def yJx4a65c_add_7a177 : MethodName := ⟨RJx4a65c, "add", "(ILjava/lang/Object;)V"⟩
abbrev cJx4a65c_remove_915e3 : ByteArray := prog_21_method_29_code
def yJx4a65c_remove_915e3 : MethodName := ⟨RJx4a65c, "remove", "(I)Ljava/lang/Object;"⟩
abbrev cJx4a65c_fastRemove_b59b0 : ByteArray := prog_21_method_39_code
def yJx4a65c_fastRemove_b59b0 : MethodName := ⟨RJx4a65c, "fastRemove", "([Ljava/lang/Object;I)V"⟩
abbrev cJx4a65c_rangeCheckForAdd_d00df : ByteArray := prog_21_method_45_code
def yJx4a65c_rangeCheckForAdd_d00df : MethodName := ⟨RJx4a65c, "rangeCheckForAdd", "(I)V"⟩
def RJ7 : String := "java/util/Arrays"
def TJ7 : u_T := fun k => match k with
  | _ => ("", "", "", false)
def tyJ7 : Nat → FieldType := fun k => match k with
  | _ => .int
abbrev wsJ70 : List Cond := u_ws RJ7 TJ7 0
theorem nmJ7 : ∀ a, a < 0 → ∀ b, b < 0 → a ≠ b → (TJ7 a).2.1 ≠ (TJ7 b).2.1 := by decide +kernel
theorem tyJ7_ok : ∀ k, k < 0 → parseFieldDescriptor (TJ7 k).2.2.1 = some (tyJ7 k) := by decide +kernel
abbrev cJ7_copyOf_1904c : ByteArray := prog_22_method_119_code
def yJ7_copyOf_1904c : MethodName := ⟨RJ7, "copyOf", "([Ljava/lang/Object;I)[Ljava/lang/Object;"⟩
abbrev cJ7_copyOf_6403c : ByteArray := prog_22_method_120_code
def yJ7_copyOf_6403c : MethodName := ⟨RJ7, "copyOf", "([Ljava/lang/Object;ILjava/lang/Class;)[Ljava/lang/Object;"⟩
def RJx5ef63 : String := "java/util/Collection"
def TJx5ef63 : u_T := fun k => match k with
  | _ => ("", "", "", false)
def tyJx5ef63 : Nat → FieldType := fun k => match k with
  | _ => .int
abbrev wsJx5ef630 : List Cond := u_ws RJx5ef63 TJx5ef63 0
theorem nmJx5ef63 : ∀ a, a < 0 → ∀ b, b < 0 → a ≠ b → (TJx5ef63 a).2.1 ≠ (TJx5ef63 b).2.1 := by decide +kernel
theorem tyJx5ef63_ok : ∀ k, k < 0 → parseFieldDescriptor (TJx5ef63 k).2.2.1 = some (tyJx5ef63 k) := by decide +kernel
def RJxbd725 : String := "java/util/List"
def TJxbd725 : u_T := fun k => match k with
  | _ => ("", "", "", false)
def tyJxbd725 : Nat → FieldType := fun k => match k with
  | _ => .int
abbrev wsJxbd7250 : List Cond := u_ws RJxbd725 TJxbd725 0
theorem nmJxbd725 : ∀ a, a < 0 → ∀ b, b < 0 → a ≠ b → (TJxbd725 a).2.1 ≠ (TJxbd725 b).2.1 := by decide +kernel
theorem tyJxbd725_ok : ∀ k, k < 0 → parseFieldDescriptor (TJxbd725 k).2.2.1 = some (tyJxbd725 k) := by decide +kernel
def RJ15 : String := "java/util/Objects"
def TJ15 : u_T := fun k => match k with
  | _ => ("", "", "", false)
def tyJ15 : Nat → FieldType := fun k => match k with
  | _ => .int
abbrev wsJ150 : List Cond := u_ws RJ15 TJ15 0
theorem nmJ15 : ∀ a, a < 0 → ∀ b, b < 0 → a ≠ b → (TJ15 a).2.1 ≠ (TJ15 b).2.1 := by decide +kernel
theorem tyJ15_ok : ∀ k, k < 0 → parseFieldDescriptor (TJ15 k).2.2.1 = some (tyJ15 k) := by decide +kernel
abbrev cJ15_checkIndex_7cf53 : ByteArray := prog_25_method_17_code
def yJ15_checkIndex_7cf53 : MethodName := ⟨RJ15, "checkIndex", "(II)I"⟩
def RJxf0a74 : String := "java/util/RandomAccess"
def TJxf0a74 : u_T := fun k => match k with
  | _ => ("", "", "", false)
def tyJxf0a74 : Nat → FieldType := fun k => match k with
  | _ => .int
abbrev wsJxf0a740 : List Cond := u_ws RJxf0a74 TJxf0a74 0
theorem nmJxf0a74 : ∀ a, a < 0 → ∀ b, b < 0 → a ≠ b → (TJxf0a74 a).2.1 ≠ (TJxf0a74 b).2.1 := by decide +kernel
theorem tyJxf0a74_ok : ∀ k, k < 0 → parseFieldDescriptor (TJxf0a74 k).2.2.1 = some (tyJxf0a74 k) := by decide +kernel
def RJxa66e6 : String := "java/util/SequencedCollection"
def TJxa66e6 : u_T := fun k => match k with
  | _ => ("", "", "", false)
def tyJxa66e6 : Nat → FieldType := fun k => match k with
  | _ => .int
abbrev wsJxa66e60 : List Cond := u_ws RJxa66e6 TJxa66e6 0
theorem nmJxa66e6 : ∀ a, a < 0 → ∀ b, b < 0 → a ≠ b → (TJxa66e6 a).2.1 ≠ (TJxa66e6 b).2.1 := by decide +kernel
theorem tyJxa66e6_ok : ∀ k, k < 0 → parseFieldDescriptor (TJxa66e6 k).2.2.1 = some (tyJxa66e6 k) := by decide +kernel
def RJ8 : String := "jdk/internal/util/ArraysSupport"
def TJ8 : u_T := fun k => match k with
  | _ => ("", "", "", false)
def tyJ8 : Nat → FieldType := fun k => match k with
  | _ => .int
abbrev wsJ80 : List Cond := u_ws RJ8 TJ8 0
theorem nmJ8 : ∀ a, a < 0 → ∀ b, b < 0 → a ≠ b → (TJ8 a).2.1 ≠ (TJ8 b).2.1 := by decide +kernel
theorem tyJ8_ok : ∀ k, k < 0 → parseFieldDescriptor (TJ8 k).2.2.1 = some (tyJ8 k) := by decide +kernel
abbrev cJ8_newLength_cabcc : ByteArray := prog_28_method_27_code
def yJ8_newLength_cabcc : MethodName := ⟨RJ8, "newLength", "(III)I"⟩
abbrev cJ8_hugeLength_7cf53 : ByteArray := prog_28_method_28_code
def yJ8_hugeLength_7cf53 : MethodName := ⟨RJ8, "hugeLength", "(II)I"⟩
def RJ3 : String := "jdk/internal/util/Preconditions"
def TJ3 : u_T := fun k => match k with
  | _ => ("", "", "", false)
def tyJ3 : Nat → FieldType := fun k => match k with
  | _ => .int
abbrev wsJ30 : List Cond := u_ws RJ3 TJ3 0
theorem nmJ3 : ∀ a, a < 0 → ∀ b, b < 0 → a ≠ b → (TJ3 a).2.1 ≠ (TJ3 b).2.1 := by decide +kernel
theorem tyJ3_ok : ∀ k, k < 0 → parseFieldDescriptor (TJ3 k).2.2.1 = some (tyJ3 k) := by decide +kernel
abbrev cJ3_checkIndex_8e157 : ByteArray := prog_29_method_11_code
def yJ3_checkIndex_8e157 : MethodName := ⟨RJ3, "checkIndex", "(IILjava/util/function/BiFunction;)I"⟩
def RL : String := "SusuRingLaw"
abbrev cL_drawn : ByteArray := method_2_code
def yL_drawn : MethodName := ⟨RL, "drawn", "([III)I"⟩
abbrev cL_isEarn : ByteArray := method_3_code
def yL_isEarn : MethodName := ⟨RL, "isEarn", "(LSusuRing;II)Z"⟩
abbrev cL_isDie : ByteArray := method_4_code
def yL_isDie : MethodName := ⟨RL, "isDie", "(LSusuRing;II)Z"⟩
abbrev cL_isEnter : ByteArray := method_5_code
def yL_isEnter : MethodName := ⟨RL, "isEnter", "(LSusuRing;II)Z"⟩
abbrev cL_isStart : ByteArray := method_6_code
def yL_isStart : MethodName := ⟨RL, "isStart", "(LSusuRing;II)Z"⟩
abbrev cL_isWant : ByteArray := method_7_code
def yL_isWant : MethodName := ⟨RL, "isWant", "(LSusuRing;IIIZ)Z"⟩
abbrev cL_meets : ByteArray := method_8_code
def yL_meets : MethodName := ⟨RL, "meets", "(LSusuRing;IZ)I"⟩
abbrev cL_leaves : ByteArray := method_9_code
def yL_leaves : MethodName := ⟨RL, "leaves", "(LSusuRing;II)I"⟩
abbrev cL_isBuy : ByteArray := method_10_code
def yL_isBuy : MethodName := ⟨RL, "isBuy", "(LSusuRing;II)Z"⟩
abbrev cL_isBorrow : ByteArray := method_11_code
def yL_isBorrow : MethodName := ⟨RL, "isBorrow", "(LSusuRing;IIII)Z"⟩
abbrev cL_isRepay : ByteArray := method_12_code
def yL_isRepay : MethodName := ⟨RL, "isRepay", "(LSusuRing;II)Z"⟩
abbrev cL_feasts : ByteArray := method_13_code
def yL_feasts : MethodName := ⟨RL, "feasts", "(LSusuRing;)I"⟩
abbrev cL_house : ByteArray := method_14_code
def yL_house : MethodName := ⟨RL, "house", "(LSusuRing;[III)I"⟩
abbrev cL_isWell : ByteArray := method_15_code
def yL_isWell : MethodName := ⟨RL, "isWell", "(LSusuRing;I)Z"⟩
abbrev cL_law : ByteArray := code
def yL_law : MethodName := ⟨RL, "law", "([I)Z"⟩
theorem dX0_init_0 : decode cX0_init 0 = .ok (.aload_n 0, 1) := by decide +kernel
theorem dX0_init_1 : decode cX0_init 1 = .ok (.invokespecial 3, 3) := by decide +kernel
theorem dX0_init_4 : decode cX0_init 4 = .ok (.aload_n 0, 1) := by decide +kernel
theorem dX0_init_5 : decode cX0_init 5 = .ok (.iload_n 1, 1) := by decide +kernel
theorem dX0_init_6 : decode cX0_init 6 = .ok (.putfield 9, 3) := by decide +kernel
theorem dX0_init_9 : decode cX0_init 9 = .ok (.aload_n 0, 1) := by decide +kernel
theorem dX0_init_10 : decode cX0_init 10 = .ok (.iload_n 2, 1) := by decide +kernel
theorem dX0_init_11 : decode cX0_init 11 = .ok (.putfield 15, 3) := by decide +kernel
theorem dX0_init_14 : decode cX0_init 14 = .ok (.aload_n 0, 1) := by decide +kernel
theorem dX0_init_15 : decode cX0_init 15 = .ok (.new 18, 3) := by decide +kernel
theorem dX0_init_18 : decode cX0_init 18 = .ok (.dup, 1) := by decide +kernel
theorem dX0_init_19 : decode cX0_init 19 = .ok (.invokespecial 20, 3) := by decide +kernel
theorem dX0_init_22 : decode cX0_init 22 = .ok (.putfield 21, 3) := by decide +kernel
theorem dX0_init_25 : decode cX0_init 25 = .ok (.aload_n 0, 1) := by decide +kernel
theorem dX0_init_26 : decode cX0_init 26 = .ok (.new 18, 3) := by decide +kernel
theorem dX0_init_29 : decode cX0_init 29 = .ok (.dup, 1) := by decide +kernel
theorem dX0_init_30 : decode cX0_init 30 = .ok (.invokespecial 20, 3) := by decide +kernel
theorem dX0_init_33 : decode cX0_init 33 = .ok (.putfield 25, 3) := by decide +kernel
theorem dX0_init_36 : decode cX0_init 36 = .ok (.return_, 1) := by decide +kernel
theorem dX0_hasOrder_0 : decode cX0_hasOrder 0 = .ok (.aload_n 0, 1) := by decide +kernel
theorem dX0_hasOrder_1 : decode cX0_hasOrder 1 = .ok (.getfield 15, 3) := by decide +kernel
theorem dX0_hasOrder_4 : decode cX0_hasOrder 4 = .ok (.ifCond .eq 11, 3) := by decide +kernel
theorem dX0_hasOrder_7 : decode cX0_hasOrder 7 = .ok (.aload_n 0, 1) := by decide +kernel
theorem dX0_hasOrder_8 : decode cX0_hasOrder 8 = .ok (.getfield 15, 3) := by decide +kernel
theorem dX0_hasOrder_11 : decode cX0_hasOrder 11 = .ok (.iconst 1, 1) := by decide +kernel
theorem dX0_hasOrder_12 : decode cX0_hasOrder 12 = .ok (.if_icmp .ne 7, 3) := by decide +kernel
theorem dX0_hasOrder_15 : decode cX0_hasOrder 15 = .ok (.iconst 1, 1) := by decide +kernel
theorem dX0_hasOrder_16 : decode cX0_hasOrder 16 = .ok (.goto 4, 3) := by decide +kernel
theorem dX0_hasOrder_19 : decode cX0_hasOrder 19 = .ok (.iconst 0, 1) := by decide +kernel
theorem dX0_hasOrder_20 : decode cX0_hasOrder 20 = .ok (.ireturn, 1) := by decide +kernel
theorem dX0_indexOf_0 : decode cX0_indexOf 0 = .ok (.iconst 0, 1) := by decide +kernel
theorem dX0_indexOf_1 : decode cX0_indexOf 1 = .ok (.istore_n 2, 1) := by decide +kernel
theorem dX0_indexOf_2 : decode cX0_indexOf 2 = .ok (.iload_n 2, 1) := by decide +kernel
theorem dX0_indexOf_3 : decode cX0_indexOf 3 = .ok (.aload_n 0, 1) := by decide +kernel
theorem dX0_indexOf_4 : decode cX0_indexOf 4 = .ok (.getfield 21, 3) := by decide +kernel
theorem dX0_indexOf_7 : decode cX0_indexOf 7 = .ok (.invokevirtual 28, 3) := by decide +kernel
theorem dX0_indexOf_10 : decode cX0_indexOf 10 = .ok (.if_icmp .ge 29, 3) := by decide +kernel
theorem dX0_indexOf_13 : decode cX0_indexOf 13 = .ok (.aload_n 0, 1) := by decide +kernel
theorem dX0_indexOf_14 : decode cX0_indexOf 14 = .ok (.getfield 21, 3) := by decide +kernel
theorem dX0_indexOf_17 : decode cX0_indexOf 17 = .ok (.iload_n 2, 1) := by decide +kernel
theorem dX0_indexOf_18 : decode cX0_indexOf 18 = .ok (.invokevirtual 32, 3) := by decide +kernel
theorem dX0_indexOf_21 : decode cX0_indexOf 21 = .ok (.checkcast 36, 3) := by decide +kernel
theorem dX0_indexOf_24 : decode cX0_indexOf 24 = .ok (.getfield 38, 3) := by decide +kernel
theorem dX0_indexOf_27 : decode cX0_indexOf 27 = .ok (.aload_n 1, 1) := by decide +kernel
theorem dX0_indexOf_28 : decode cX0_indexOf 28 = .ok (.if_acmp .ne 5, 3) := by decide +kernel
theorem dX0_indexOf_31 : decode cX0_indexOf 31 = .ok (.iload_n 2, 1) := by decide +kernel
theorem dX0_indexOf_32 : decode cX0_indexOf 32 = .ok (.ireturn, 1) := by decide +kernel
theorem dX0_indexOf_33 : decode cX0_indexOf 33 = .ok (.iinc 2 1, 3) := by decide +kernel
theorem dX0_indexOf_36 : decode cX0_indexOf 36 = .ok (.goto (-34), 3) := by decide +kernel
theorem dX0_indexOf_39 : decode cX0_indexOf 39 = .ok (.iconst (-1), 1) := by decide +kernel
theorem dX0_indexOf_40 : decode cX0_indexOf 40 = .ok (.ireturn, 1) := by decide +kernel
theorem dX0_placeOf_0 : decode cX0_placeOf 0 = .ok (.aload_n 0, 1) := by decide +kernel
theorem dX0_placeOf_1 : decode cX0_placeOf 1 = .ok (.aload_n 1, 1) := by decide +kernel
theorem dX0_placeOf_2 : decode cX0_placeOf 2 = .ok (.invokevirtual 42, 3) := by decide +kernel
theorem dX0_placeOf_5 : decode cX0_placeOf 5 = .ok (.istore_n 2, 1) := by decide +kernel
theorem dX0_placeOf_6 : decode cX0_placeOf 6 = .ok (.iload_n 2, 1) := by decide +kernel
theorem dX0_placeOf_7 : decode cX0_placeOf 7 = .ok (.ifCond .lt 28, 3) := by decide +kernel
theorem dX0_placeOf_10 : decode cX0_placeOf 10 = .ok (.iload_n 2, 1) := by decide +kernel
theorem dX0_placeOf_11 : decode cX0_placeOf 11 = .ok (.aload_n 0, 1) := by decide +kernel
theorem dX0_placeOf_12 : decode cX0_placeOf 12 = .ok (.getfield 21, 3) := by decide +kernel
theorem dX0_placeOf_15 : decode cX0_placeOf 15 = .ok (.invokevirtual 28, 3) := by decide +kernel
theorem dX0_placeOf_18 : decode cX0_placeOf 18 = .ok (.if_icmp .ge 17, 3) := by decide +kernel
theorem dX0_placeOf_21 : decode cX0_placeOf 21 = .ok (.aload_n 0, 1) := by decide +kernel
theorem dX0_placeOf_22 : decode cX0_placeOf 22 = .ok (.getfield 21, 3) := by decide +kernel
theorem dX0_placeOf_25 : decode cX0_placeOf 25 = .ok (.iload_n 2, 1) := by decide +kernel
theorem dX0_placeOf_26 : decode cX0_placeOf 26 = .ok (.invokevirtual 32, 3) := by decide +kernel
theorem dX0_placeOf_29 : decode cX0_placeOf 29 = .ok (.checkcast 36, 3) := by decide +kernel
theorem dX0_placeOf_32 : decode cX0_placeOf 32 = .ok (.goto 4, 3) := by decide +kernel
theorem dX0_placeOf_35 : decode cX0_placeOf 35 = .ok (.aconst_null, 1) := by decide +kernel
theorem dX0_placeOf_36 : decode cX0_placeOf 36 = .ok (.areturn, 1) := by decide +kernel
theorem dX0_makeOrder_0 : decode cX0_makeOrder 0 = .ok (.iconst 0, 1) := by decide +kernel
theorem dX0_makeOrder_1 : decode cX0_makeOrder 1 = .ok (.istore_n 2, 1) := by decide +kernel
theorem dX0_makeOrder_2 : decode cX0_makeOrder 2 = .ok (.iload_n 2, 1) := by decide +kernel
theorem dX0_makeOrder_3 : decode cX0_makeOrder 3 = .ok (.aload_n 0, 1) := by decide +kernel
theorem dX0_makeOrder_4 : decode cX0_makeOrder 4 = .ok (.getfield 21, 3) := by decide +kernel
theorem dX0_makeOrder_7 : decode cX0_makeOrder 7 = .ok (.invokevirtual 28, 3) := by decide +kernel
theorem dX0_makeOrder_10 : decode cX0_makeOrder 10 = .ok (.if_icmp .ge 35, 3) := by decide +kernel
theorem dX0_makeOrder_13 : decode cX0_makeOrder 13 = .ok (.aload_n 0, 1) := by decide +kernel
theorem dX0_makeOrder_14 : decode cX0_makeOrder 14 = .ok (.invokevirtual 46, 3) := by decide +kernel
theorem dX0_makeOrder_17 : decode cX0_makeOrder 17 = .ok (.ifCond .eq 28, 3) := by decide +kernel
theorem dX0_makeOrder_20 : decode cX0_makeOrder 20 = .ok (.aload_n 0, 1) := by decide +kernel
theorem dX0_makeOrder_21 : decode cX0_makeOrder 21 = .ok (.getfield 25, 3) := by decide +kernel
theorem dX0_makeOrder_24 : decode cX0_makeOrder 24 = .ok (.aload_n 0, 1) := by decide +kernel
theorem dX0_makeOrder_25 : decode cX0_makeOrder 25 = .ok (.getfield 21, 3) := by decide +kernel
theorem dX0_makeOrder_28 : decode cX0_makeOrder 28 = .ok (.iload_n 2, 1) := by decide +kernel
theorem dX0_makeOrder_29 : decode cX0_makeOrder 29 = .ok (.invokevirtual 32, 3) := by decide +kernel
theorem dX0_makeOrder_32 : decode cX0_makeOrder 32 = .ok (.checkcast 36, 3) := by decide +kernel
theorem dX0_makeOrder_35 : decode cX0_makeOrder 35 = .ok (.invokevirtual 50, 3) := by decide +kernel
theorem dX0_makeOrder_38 : decode cX0_makeOrder 38 = .ok (.pop, 1) := by decide +kernel
theorem dX0_makeOrder_39 : decode cX0_makeOrder 39 = .ok (.iinc 2 1, 3) := by decide +kernel
theorem dX0_makeOrder_42 : decode cX0_makeOrder 42 = .ok (.goto (-40), 3) := by decide +kernel
theorem dX0_makeOrder_45 : decode cX0_makeOrder 45 = .ok (.aload_n 0, 1) := by decide +kernel
theorem dX0_makeOrder_46 : decode cX0_makeOrder 46 = .ok (.getfield 25, 3) := by decide +kernel
theorem dX0_makeOrder_49 : decode cX0_makeOrder 49 = .ok (.invokevirtual 28, 3) := by decide +kernel
theorem dX0_makeOrder_52 : decode cX0_makeOrder 52 = .ok (.istore_n 2, 1) := by decide +kernel
theorem dX0_makeOrder_53 : decode cX0_makeOrder 53 = .ok (.iconst 0, 1) := by decide +kernel
theorem dX0_makeOrder_54 : decode cX0_makeOrder 54 = .ok (.istore_n 3, 1) := by decide +kernel
theorem dX0_makeOrder_55 : decode cX0_makeOrder 55 = .ok (.iload_n 3, 1) := by decide +kernel
theorem dX0_makeOrder_56 : decode cX0_makeOrder 56 = .ok (.iload_n 2, 1) := by decide +kernel
theorem dX0_makeOrder_57 : decode cX0_makeOrder 57 = .ok (.if_icmp .ge 84, 3) := by decide +kernel
theorem dX0_makeOrder_60 : decode cX0_makeOrder 60 = .ok (.aload_n 0, 1) := by decide +kernel
theorem dX0_makeOrder_61 : decode cX0_makeOrder 61 = .ok (.getfield 15, 3) := by decide +kernel
theorem dX0_makeOrder_64 : decode cX0_makeOrder 64 = .ok (.ifCond .ne 12, 3) := by decide +kernel
theorem dX0_makeOrder_67 : decode cX0_makeOrder 67 = .ok (.aload_n 0, 1) := by decide +kernel
theorem dX0_makeOrder_68 : decode cX0_makeOrder 68 = .ok (.iload_n 1, 1) := by decide +kernel
theorem dX0_makeOrder_69 : decode cX0_makeOrder 69 = .ok (.iload_n 3, 1) := by decide +kernel
theorem dX0_makeOrder_70 : decode cX0_makeOrder 70 = .ok (.invokevirtual 54, 3) := by decide +kernel
theorem dX0_makeOrder_73 : decode cX0_makeOrder 73 = .ok (.goto 8, 3) := by decide +kernel
theorem dX0_makeOrder_76 : decode cX0_makeOrder 76 = .ok (.aload_n 0, 1) := by decide +kernel
theorem dX0_makeOrder_77 : decode cX0_makeOrder 77 = .ok (.iload_n 3, 1) := by decide +kernel
theorem dX0_makeOrder_78 : decode cX0_makeOrder 78 = .ok (.invokevirtual 58, 3) := by decide +kernel
theorem dX0_makeOrder_81 : decode cX0_makeOrder 81 = .ok (.istore 4, 2) := by decide +kernel
theorem dX0_makeOrder_83 : decode cX0_makeOrder 83 = .ok (.iload 4, 2) := by decide +kernel
theorem dX0_makeOrder_85 : decode cX0_makeOrder 85 = .ok (.iload_n 3, 1) := by decide +kernel
theorem dX0_makeOrder_86 : decode cX0_makeOrder 86 = .ok (.if_icmp .lt 49, 3) := by decide +kernel
theorem dX0_makeOrder_89 : decode cX0_makeOrder 89 = .ok (.iload 4, 2) := by decide +kernel
theorem dX0_makeOrder_91 : decode cX0_makeOrder 91 = .ok (.aload_n 0, 1) := by decide +kernel
theorem dX0_makeOrder_92 : decode cX0_makeOrder 92 = .ok (.getfield 25, 3) := by decide +kernel
theorem dX0_makeOrder_95 : decode cX0_makeOrder 95 = .ok (.invokevirtual 28, 3) := by decide +kernel
theorem dX0_makeOrder_98 : decode cX0_makeOrder 98 = .ok (.if_icmp .ge 37, 3) := by decide +kernel
theorem dX0_makeOrder_101 : decode cX0_makeOrder 101 = .ok (.aload_n 0, 1) := by decide +kernel
theorem dX0_makeOrder_102 : decode cX0_makeOrder 102 = .ok (.getfield 25, 3) := by decide +kernel
theorem dX0_makeOrder_105 : decode cX0_makeOrder 105 = .ok (.iload 4, 2) := by decide +kernel
theorem dX0_makeOrder_107 : decode cX0_makeOrder 107 = .ok (.invokevirtual 32, 3) := by decide +kernel
theorem dX0_makeOrder_110 : decode cX0_makeOrder 110 = .ok (.checkcast 36, 3) := by decide +kernel
theorem dX0_makeOrder_113 : decode cX0_makeOrder 113 = .ok (.astore 5, 2) := by decide +kernel
theorem dX0_makeOrder_115 : decode cX0_makeOrder 115 = .ok (.aload_n 0, 1) := by decide +kernel
theorem dX0_makeOrder_116 : decode cX0_makeOrder 116 = .ok (.getfield 25, 3) := by decide +kernel
theorem dX0_makeOrder_119 : decode cX0_makeOrder 119 = .ok (.iload 4, 2) := by decide +kernel
theorem dX0_makeOrder_121 : decode cX0_makeOrder 121 = .ok (.invokevirtual 62, 3) := by decide +kernel
theorem dX0_makeOrder_124 : decode cX0_makeOrder 124 = .ok (.pop, 1) := by decide +kernel
theorem dX0_makeOrder_125 : decode cX0_makeOrder 125 = .ok (.aload_n 0, 1) := by decide +kernel
theorem dX0_makeOrder_126 : decode cX0_makeOrder 126 = .ok (.getfield 25, 3) := by decide +kernel
theorem dX0_makeOrder_129 : decode cX0_makeOrder 129 = .ok (.iload_n 3, 1) := by decide +kernel
theorem dX0_makeOrder_130 : decode cX0_makeOrder 130 = .ok (.aload 5, 2) := by decide +kernel
theorem dX0_makeOrder_132 : decode cX0_makeOrder 132 = .ok (.invokevirtual 65, 3) := by decide +kernel
theorem dX0_makeOrder_135 : decode cX0_makeOrder 135 = .ok (.iinc 3 1, 3) := by decide +kernel
theorem dX0_makeOrder_138 : decode cX0_makeOrder 138 = .ok (.goto (-83), 3) := by decide +kernel
theorem dX0_makeOrder_141 : decode cX0_makeOrder 141 = .ok (.return_, 1) := by decide +kernel
theorem dX0_drawn_0 : decode cX0_drawn 0 = .ok (.aload_n 0, 1) := by decide +kernel
theorem dX0_drawn_1 : decode cX0_drawn 1 = .ok (.getfield 25, 3) := by decide +kernel
theorem dX0_drawn_4 : decode cX0_drawn 4 = .ok (.invokevirtual 28, 3) := by decide +kernel
theorem dX0_drawn_7 : decode cX0_drawn 7 = .ok (.iload_n 2, 1) := by decide +kernel
theorem dX0_drawn_8 : decode cX0_drawn 8 = .ok (.isub, 1) := by decide +kernel
theorem dX0_drawn_9 : decode cX0_drawn 9 = .ok (.istore_n 3, 1) := by decide +kernel
theorem dX0_drawn_10 : decode cX0_drawn 10 = .ok (.iload_n 3, 1) := by decide +kernel
theorem dX0_drawn_11 : decode cX0_drawn 11 = .ok (.ifCond .le 16, 3) := by decide +kernel
theorem dX0_drawn_14 : decode cX0_drawn 14 = .ok (.iload_n 2, 1) := by decide +kernel
theorem dX0_drawn_15 : decode cX0_drawn 15 = .ok (.iload_n 1, 1) := by decide +kernel
theorem dX0_drawn_16 : decode cX0_drawn 16 = .ok (.bipush 31, 2) := by decide +kernel
theorem dX0_drawn_18 : decode cX0_drawn 18 = .ok (.iload_n 2, 1) := by decide +kernel
theorem dX0_drawn_19 : decode cX0_drawn 19 = .ok (.imul, 1) := by decide +kernel
theorem dX0_drawn_20 : decode cX0_drawn 20 = .ok (.iadd, 1) := by decide +kernel
theorem dX0_drawn_21 : decode cX0_drawn 21 = .ok (.iload_n 3, 1) := by decide +kernel
theorem dX0_drawn_22 : decode cX0_drawn 22 = .ok (.irem, 1) := by decide +kernel
theorem dX0_drawn_23 : decode cX0_drawn 23 = .ok (.iadd, 1) := by decide +kernel
theorem dX0_drawn_24 : decode cX0_drawn 24 = .ok (.goto 4, 3) := by decide +kernel
theorem dX0_drawn_27 : decode cX0_drawn 27 = .ok (.iload_n 2, 1) := by decide +kernel
theorem dX0_drawn_28 : decode cX0_drawn 28 = .ok (.ireturn, 1) := by decide +kernel
theorem dX0_eldest_0 : decode cX0_eldest 0 = .ok (.iload_n 1, 1) := by decide +kernel
theorem dX0_eldest_1 : decode cX0_eldest 1 = .ok (.istore_n 2, 1) := by decide +kernel
theorem dX0_eldest_2 : decode cX0_eldest 2 = .ok (.iconst 0, 1) := by decide +kernel
theorem dX0_eldest_3 : decode cX0_eldest 3 = .ok (.istore_n 3, 1) := by decide +kernel
theorem dX0_eldest_4 : decode cX0_eldest 4 = .ok (.iload_n 1, 1) := by decide +kernel
theorem dX0_eldest_5 : decode cX0_eldest 5 = .ok (.istore 4, 2) := by decide +kernel
theorem dX0_eldest_7 : decode cX0_eldest 7 = .ok (.iload 4, 2) := by decide +kernel
theorem dX0_eldest_9 : decode cX0_eldest 9 = .ok (.aload_n 0, 1) := by decide +kernel
theorem dX0_eldest_10 : decode cX0_eldest 10 = .ok (.getfield 25, 3) := by decide +kernel
theorem dX0_eldest_13 : decode cX0_eldest 13 = .ok (.invokevirtual 28, 3) := by decide +kernel
theorem dX0_eldest_16 : decode cX0_eldest 16 = .ok (.if_icmp .ge 41, 3) := by decide +kernel
theorem dX0_eldest_19 : decode cX0_eldest 19 = .ok (.aload_n 0, 1) := by decide +kernel
theorem dX0_eldest_20 : decode cX0_eldest 20 = .ok (.getfield 25, 3) := by decide +kernel
theorem dX0_eldest_23 : decode cX0_eldest 23 = .ok (.iload 4, 2) := by decide +kernel
theorem dX0_eldest_25 : decode cX0_eldest 25 = .ok (.invokevirtual 32, 3) := by decide +kernel
theorem dX0_eldest_28 : decode cX0_eldest 28 = .ok (.checkcast 36, 3) := by decide +kernel
theorem dX0_eldest_31 : decode cX0_eldest 31 = .ok (.getfield 38, 3) := by decide +kernel
theorem dX0_eldest_34 : decode cX0_eldest 34 = .ok (.getfield 68, 3) := by decide +kernel
theorem dX0_eldest_37 : decode cX0_eldest 37 = .ok (.istore 5, 2) := by decide +kernel
theorem dX0_eldest_39 : decode cX0_eldest 39 = .ok (.iload 5, 2) := by decide +kernel
theorem dX0_eldest_41 : decode cX0_eldest 41 = .ok (.iload_n 3, 1) := by decide +kernel
theorem dX0_eldest_42 : decode cX0_eldest 42 = .ok (.if_icmp .le 9, 3) := by decide +kernel
theorem dX0_eldest_45 : decode cX0_eldest 45 = .ok (.iload 4, 2) := by decide +kernel
theorem dX0_eldest_47 : decode cX0_eldest 47 = .ok (.istore_n 2, 1) := by decide +kernel
theorem dX0_eldest_48 : decode cX0_eldest 48 = .ok (.iload 5, 2) := by decide +kernel
theorem dX0_eldest_50 : decode cX0_eldest 50 = .ok (.istore_n 3, 1) := by decide +kernel
theorem dX0_eldest_51 : decode cX0_eldest 51 = .ok (.iinc 4 1, 3) := by decide +kernel
theorem dX0_eldest_54 : decode cX0_eldest 54 = .ok (.goto (-47), 3) := by decide +kernel
theorem dX0_eldest_57 : decode cX0_eldest 57 = .ok (.iload_n 2, 1) := by decide +kernel
theorem dX0_eldest_58 : decode cX0_eldest 58 = .ok (.ireturn, 1) := by decide +kernel
theorem dX0_upNext_0 : decode cX0_upNext 0 = .ok (.aload_n 0, 1) := by decide +kernel
theorem dX0_upNext_1 : decode cX0_upNext 1 = .ok (.invokevirtual 46, 3) := by decide +kernel
theorem dX0_upNext_4 : decode cX0_upNext 4 = .ok (.ifCond .eq 10, 3) := by decide +kernel
theorem dX0_upNext_7 : decode cX0_upNext 7 = .ok (.aload_n 0, 1) := by decide +kernel
theorem dX0_upNext_8 : decode cX0_upNext 8 = .ok (.invokevirtual 73, 3) := by decide +kernel
theorem dX0_upNext_11 : decode cX0_upNext 11 = .ok (.goto 7, 3) := by decide +kernel
theorem dX0_upNext_14 : decode cX0_upNext 14 = .ok (.aload_n 0, 1) := by decide +kernel
theorem dX0_upNext_15 : decode cX0_upNext 15 = .ok (.invokevirtual 77, 3) := by decide +kernel
theorem dX0_upNext_18 : decode cX0_upNext 18 = .ok (.areturn, 1) := by decide +kernel
theorem dX0_firstInOrder_0 : decode cX0_firstInOrder 0 = .ok (.iconst 0, 1) := by decide +kernel
theorem dX0_firstInOrder_1 : decode cX0_firstInOrder 1 = .ok (.istore_n 1, 1) := by decide +kernel
theorem dX0_firstInOrder_2 : decode cX0_firstInOrder 2 = .ok (.iload_n 1, 1) := by decide +kernel
theorem dX0_firstInOrder_3 : decode cX0_firstInOrder 3 = .ok (.aload_n 0, 1) := by decide +kernel
theorem dX0_firstInOrder_4 : decode cX0_firstInOrder 4 = .ok (.getfield 25, 3) := by decide +kernel
theorem dX0_firstInOrder_7 : decode cX0_firstInOrder 7 = .ok (.invokevirtual 28, 3) := by decide +kernel
theorem dX0_firstInOrder_10 : decode cX0_firstInOrder 10 = .ok (.if_icmp .ge 38, 3) := by decide +kernel
theorem dX0_firstInOrder_13 : decode cX0_firstInOrder 13 = .ok (.aload_n 0, 1) := by decide +kernel
theorem dX0_firstInOrder_14 : decode cX0_firstInOrder 14 = .ok (.getfield 25, 3) := by decide +kernel
theorem dX0_firstInOrder_17 : decode cX0_firstInOrder 17 = .ok (.iload_n 1, 1) := by decide +kernel
theorem dX0_firstInOrder_18 : decode cX0_firstInOrder 18 = .ok (.invokevirtual 32, 3) := by decide +kernel
theorem dX0_firstInOrder_21 : decode cX0_firstInOrder 21 = .ok (.checkcast 36, 3) := by decide +kernel
theorem dX0_firstInOrder_24 : decode cX0_firstInOrder 24 = .ok (.getfield 80, 3) := by decide +kernel
theorem dX0_firstInOrder_27 : decode cX0_firstInOrder 27 = .ok (.ifCond .ne 15, 3) := by decide +kernel
theorem dX0_firstInOrder_30 : decode cX0_firstInOrder 30 = .ok (.aload_n 0, 1) := by decide +kernel
theorem dX0_firstInOrder_31 : decode cX0_firstInOrder 31 = .ok (.getfield 25, 3) := by decide +kernel
theorem dX0_firstInOrder_34 : decode cX0_firstInOrder 34 = .ok (.iload_n 1, 1) := by decide +kernel
theorem dX0_firstInOrder_35 : decode cX0_firstInOrder 35 = .ok (.invokevirtual 32, 3) := by decide +kernel
theorem dX0_firstInOrder_38 : decode cX0_firstInOrder 38 = .ok (.checkcast 36, 3) := by decide +kernel
theorem dX0_firstInOrder_41 : decode cX0_firstInOrder 41 = .ok (.areturn, 1) := by decide +kernel
theorem dX0_firstInOrder_42 : decode cX0_firstInOrder 42 = .ok (.iinc 1 1, 3) := by decide +kernel
theorem dX0_firstInOrder_45 : decode cX0_firstInOrder 45 = .ok (.goto (-43), 3) := by decide +kernel
theorem dX0_firstInOrder_48 : decode cX0_firstInOrder 48 = .ok (.aconst_null, 1) := by decide +kernel
theorem dX0_firstInOrder_49 : decode cX0_firstInOrder 49 = .ok (.areturn, 1) := by decide +kernel
theorem dX0_greatest_0 : decode cX0_greatest 0 = .ok (.aconst_null, 1) := by decide +kernel
theorem dX0_greatest_1 : decode cX0_greatest 1 = .ok (.astore_n 1, 1) := by decide +kernel
theorem dX0_greatest_2 : decode cX0_greatest 2 = .ok (.iconst 0, 1) := by decide +kernel
theorem dX0_greatest_3 : decode cX0_greatest 3 = .ok (.istore_n 2, 1) := by decide +kernel
theorem dX0_greatest_4 : decode cX0_greatest 4 = .ok (.iload_n 2, 1) := by decide +kernel
theorem dX0_greatest_5 : decode cX0_greatest 5 = .ok (.aload_n 0, 1) := by decide +kernel
theorem dX0_greatest_6 : decode cX0_greatest 6 = .ok (.getfield 21, 3) := by decide +kernel
theorem dX0_greatest_9 : decode cX0_greatest 9 = .ok (.invokevirtual 28, 3) := by decide +kernel
theorem dX0_greatest_12 : decode cX0_greatest 12 = .ok (.if_icmp .ge 53, 3) := by decide +kernel
theorem dX0_greatest_15 : decode cX0_greatest 15 = .ok (.aload_n 0, 1) := by decide +kernel
theorem dX0_greatest_16 : decode cX0_greatest 16 = .ok (.getfield 21, 3) := by decide +kernel
theorem dX0_greatest_19 : decode cX0_greatest 19 = .ok (.iload_n 2, 1) := by decide +kernel
theorem dX0_greatest_20 : decode cX0_greatest 20 = .ok (.invokevirtual 32, 3) := by decide +kernel
theorem dX0_greatest_23 : decode cX0_greatest 23 = .ok (.checkcast 36, 3) := by decide +kernel
theorem dX0_greatest_26 : decode cX0_greatest 26 = .ok (.astore_n 3, 1) := by decide +kernel
theorem dX0_greatest_27 : decode cX0_greatest 27 = .ok (.aload_n 3, 1) := by decide +kernel
theorem dX0_greatest_28 : decode cX0_greatest 28 = .ok (.getfield 80, 3) := by decide +kernel
theorem dX0_greatest_31 : decode cX0_greatest 31 = .ok (.ifCond .ne 28, 3) := by decide +kernel
theorem dX0_greatest_34 : decode cX0_greatest 34 = .ok (.aload_n 1, 1) := by decide +kernel
theorem dX0_greatest_35 : decode cX0_greatest 35 = .ok (.ifnull 22, 3) := by decide +kernel
theorem dX0_greatest_38 : decode cX0_greatest 38 = .ok (.aload_n 3, 1) := by decide +kernel
theorem dX0_greatest_39 : decode cX0_greatest 39 = .ok (.aload_n 0, 1) := by decide +kernel
theorem dX0_greatest_40 : decode cX0_greatest 40 = .ok (.getfield 15, 3) := by decide +kernel
theorem dX0_greatest_43 : decode cX0_greatest 43 = .ok (.invokevirtual 84, 3) := by decide +kernel
theorem dX0_greatest_46 : decode cX0_greatest 46 = .ok (.aload_n 1, 1) := by decide +kernel
theorem dX0_greatest_47 : decode cX0_greatest 47 = .ok (.aload_n 0, 1) := by decide +kernel
theorem dX0_greatest_48 : decode cX0_greatest 48 = .ok (.getfield 15, 3) := by decide +kernel
theorem dX0_greatest_51 : decode cX0_greatest 51 = .ok (.invokevirtual 84, 3) := by decide +kernel
theorem dX0_greatest_54 : decode cX0_greatest 54 = .ok (.if_icmp .le 5, 3) := by decide +kernel
theorem dX0_greatest_57 : decode cX0_greatest 57 = .ok (.aload_n 3, 1) := by decide +kernel
theorem dX0_greatest_58 : decode cX0_greatest 58 = .ok (.astore_n 1, 1) := by decide +kernel
theorem dX0_greatest_59 : decode cX0_greatest 59 = .ok (.iinc 2 1, 3) := by decide +kernel
theorem dX0_greatest_62 : decode cX0_greatest 62 = .ok (.goto (-58), 3) := by decide +kernel
theorem dX0_greatest_65 : decode cX0_greatest 65 = .ok (.aload_n 1, 1) := by decide +kernel
theorem dX0_greatest_66 : decode cX0_greatest 66 = .ok (.areturn, 1) := by decide +kernel
theorem dX0_collect_0 : decode cX0_collect 0 = .ok (.iconst 0, 1) := by decide +kernel
theorem dX0_collect_1 : decode cX0_collect 1 = .ok (.istore_n 2, 1) := by decide +kernel
theorem dX0_collect_2 : decode cX0_collect 2 = .ok (.iload_n 2, 1) := by decide +kernel
theorem dX0_collect_3 : decode cX0_collect 3 = .ok (.aload_n 0, 1) := by decide +kernel
theorem dX0_collect_4 : decode cX0_collect 4 = .ok (.getfield 21, 3) := by decide +kernel
theorem dX0_collect_7 : decode cX0_collect 7 = .ok (.invokevirtual 28, 3) := by decide +kernel
theorem dX0_collect_10 : decode cX0_collect 10 = .ok (.if_icmp .ge 113, 3) := by decide +kernel
theorem dX0_collect_13 : decode cX0_collect 13 = .ok (.aload_n 0, 1) := by decide +kernel
theorem dX0_collect_14 : decode cX0_collect 14 = .ok (.getfield 21, 3) := by decide +kernel
theorem dX0_collect_17 : decode cX0_collect 17 = .ok (.iload_n 2, 1) := by decide +kernel
theorem dX0_collect_18 : decode cX0_collect 18 = .ok (.invokevirtual 32, 3) := by decide +kernel
theorem dX0_collect_21 : decode cX0_collect 21 = .ok (.checkcast 36, 3) := by decide +kernel
theorem dX0_collect_24 : decode cX0_collect 24 = .ok (.astore_n 3, 1) := by decide +kernel
theorem dX0_collect_25 : decode cX0_collect 25 = .ok (.aload_n 0, 1) := by decide +kernel
theorem dX0_collect_26 : decode cX0_collect 26 = .ok (.getfield 9, 3) := by decide +kernel
theorem dX0_collect_29 : decode cX0_collect 29 = .ok (.aload_n 3, 1) := by decide +kernel
theorem dX0_collect_30 : decode cX0_collect 30 = .ok (.getfield 87, 3) := by decide +kernel
theorem dX0_collect_33 : decode cX0_collect 33 = .ok (.iadd, 1) := by decide +kernel
theorem dX0_collect_34 : decode cX0_collect 34 = .ok (.istore 4, 2) := by decide +kernel
theorem dX0_collect_36 : decode cX0_collect 36 = .ok (.iload 4, 2) := by decide +kernel
theorem dX0_collect_38 : decode cX0_collect 38 = .ok (.aload_n 3, 1) := by decide +kernel
theorem dX0_collect_39 : decode cX0_collect 39 = .ok (.getfield 38, 3) := by decide +kernel
theorem dX0_collect_42 : decode cX0_collect 42 = .ok (.getfield 90, 3) := by decide +kernel
theorem dX0_collect_45 : decode cX0_collect 45 = .ok (.invokestatic 93, 3) := by decide +kernel
theorem dX0_collect_48 : decode cX0_collect 48 = .ok (.istore 5, 2) := by decide +kernel
theorem dX0_collect_50 : decode cX0_collect 50 = .ok (.aload_n 3, 1) := by decide +kernel
theorem dX0_collect_51 : decode cX0_collect 51 = .ok (.getfield 38, 3) := by decide +kernel
theorem dX0_collect_54 : decode cX0_collect 54 = .ok (.iload 5, 2) := by decide +kernel
theorem dX0_collect_56 : decode cX0_collect 56 = .ok (.invokevirtual 98, 3) := by decide +kernel
theorem dX0_collect_59 : decode cX0_collect 59 = .ok (.aload_n 3, 1) := by decide +kernel
theorem dX0_collect_60 : decode cX0_collect 60 = .ok (.dup, 1) := by decide +kernel
theorem dX0_collect_61 : decode cX0_collect 61 = .ok (.getfield 102, 3) := by decide +kernel
theorem dX0_collect_64 : decode cX0_collect 64 = .ok (.iload 5, 2) := by decide +kernel
theorem dX0_collect_66 : decode cX0_collect 66 = .ok (.iadd, 1) := by decide +kernel
theorem dX0_collect_67 : decode cX0_collect 67 = .ok (.putfield 102, 3) := by decide +kernel
theorem dX0_collect_70 : decode cX0_collect 70 = .ok (.aload_n 0, 1) := by decide +kernel
theorem dX0_collect_71 : decode cX0_collect 71 = .ok (.dup, 1) := by decide +kernel
theorem dX0_collect_72 : decode cX0_collect 72 = .ok (.getfield 105, 3) := by decide +kernel
theorem dX0_collect_75 : decode cX0_collect 75 = .ok (.iload 5, 2) := by decide +kernel
theorem dX0_collect_77 : decode cX0_collect 77 = .ok (.iadd, 1) := by decide +kernel
theorem dX0_collect_78 : decode cX0_collect 78 = .ok (.putfield 105, 3) := by decide +kernel
theorem dX0_collect_81 : decode cX0_collect 81 = .ok (.aload_n 3, 1) := by decide +kernel
theorem dX0_collect_82 : decode cX0_collect 82 = .ok (.iload 4, 2) := by decide +kernel
theorem dX0_collect_84 : decode cX0_collect 84 = .ok (.iload 5, 2) := by decide +kernel
theorem dX0_collect_86 : decode cX0_collect 86 = .ok (.isub, 1) := by decide +kernel
theorem dX0_collect_87 : decode cX0_collect 87 = .ok (.putfield 87, 3) := by decide +kernel
theorem dX0_collect_90 : decode cX0_collect 90 = .ok (.aload_n 3, 1) := by decide +kernel
theorem dX0_collect_91 : decode cX0_collect 91 = .ok (.getfield 87, 3) := by decide +kernel
theorem dX0_collect_94 : decode cX0_collect 94 = .ok (.ifCond .le 23, 3) := by decide +kernel
theorem dX0_collect_97 : decode cX0_collect 97 = .ok (.iload_n 1, 1) := by decide +kernel
theorem dX0_collect_98 : decode cX0_collect 98 = .ok (.ifCond .ne 19, 3) := by decide +kernel
theorem dX0_collect_101 : decode cX0_collect 101 = .ok (.aload_n 3, 1) := by decide +kernel
theorem dX0_collect_102 : decode cX0_collect 102 = .ok (.dup, 1) := by decide +kernel
theorem dX0_collect_103 : decode cX0_collect 103 = .ok (.getfield 87, 3) := by decide +kernel
theorem dX0_collect_106 : decode cX0_collect 106 = .ok (.aload_n 0, 1) := by decide +kernel
theorem dX0_collect_107 : decode cX0_collect 107 = .ok (.getfield 9, 3) := by decide +kernel
theorem dX0_collect_110 : decode cX0_collect 110 = .ok (.bipush 10, 2) := by decide +kernel
theorem dX0_collect_112 : decode cX0_collect 112 = .ok (.idiv, 1) := by decide +kernel
theorem dX0_collect_113 : decode cX0_collect 113 = .ok (.iadd, 1) := by decide +kernel
theorem dX0_collect_114 : decode cX0_collect 114 = .ok (.putfield 87, 3) := by decide +kernel
theorem dX0_collect_117 : decode cX0_collect 117 = .ok (.iinc 2 1, 3) := by decide +kernel
theorem dX0_collect_120 : decode cX0_collect 120 = .ok (.goto (-118), 3) := by decide +kernel
theorem dX0_collect_123 : decode cX0_collect 123 = .ok (.return_, 1) := by decide +kernel
theorem dX0_payOut_0 : decode cX0_payOut 0 = .ok (.aload_n 1, 1) := by decide +kernel
theorem dX0_payOut_1 : decode cX0_payOut 1 = .ok (.ifnonnull 4, 3) := by decide +kernel
theorem dX0_payOut_4 : decode cX0_payOut 4 = .ok (.return_, 1) := by decide +kernel
theorem dX0_payOut_5 : decode cX0_payOut 5 = .ok (.aload_n 0, 1) := by decide +kernel
theorem dX0_payOut_6 : decode cX0_payOut 6 = .ok (.getfield 105, 3) := by decide +kernel
theorem dX0_payOut_9 : decode cX0_payOut 9 = .ok (.aload_n 0, 1) := by decide +kernel
theorem dX0_payOut_10 : decode cX0_payOut 10 = .ok (.getfield 9, 3) := by decide +kernel
theorem dX0_payOut_13 : decode cX0_payOut 13 = .ok (.aload_n 0, 1) := by decide +kernel
theorem dX0_payOut_14 : decode cX0_payOut 14 = .ok (.getfield 21, 3) := by decide +kernel
theorem dX0_payOut_17 : decode cX0_payOut 17 = .ok (.invokevirtual 28, 3) := by decide +kernel
theorem dX0_payOut_20 : decode cX0_payOut 20 = .ok (.imul, 1) := by decide +kernel
theorem dX0_payOut_21 : decode cX0_payOut 21 = .ok (.invokestatic 93, 3) := by decide +kernel
theorem dX0_payOut_24 : decode cX0_payOut 24 = .ok (.istore_n 2, 1) := by decide +kernel
theorem dX0_payOut_25 : decode cX0_payOut 25 = .ok (.aload_n 0, 1) := by decide +kernel
theorem dX0_payOut_26 : decode cX0_payOut 26 = .ok (.getfield 15, 3) := by decide +kernel
theorem dX0_payOut_29 : decode cX0_payOut 29 = .ok (.iconst 3, 1) := by decide +kernel
theorem dX0_payOut_30 : decode cX0_payOut 30 = .ok (.if_icmp .ne 16, 3) := by decide +kernel
theorem dX0_payOut_33 : decode cX0_payOut 33 = .ok (.aload_n 1, 1) := by decide +kernel
theorem dX0_payOut_34 : decode cX0_payOut 34 = .ok (.getfield 108, 3) := by decide +kernel
theorem dX0_payOut_37 : decode cX0_payOut 37 = .ok (.iload_n 2, 1) := by decide +kernel
theorem dX0_payOut_38 : decode cX0_payOut 38 = .ok (.iconst 2, 1) := by decide +kernel
theorem dX0_payOut_39 : decode cX0_payOut 39 = .ok (.idiv, 1) := by decide +kernel
theorem dX0_payOut_40 : decode cX0_payOut 40 = .ok (.invokestatic 93, 3) := by decide +kernel
theorem dX0_payOut_43 : decode cX0_payOut 43 = .ok (.goto 4, 3) := by decide +kernel
theorem dX0_payOut_46 : decode cX0_payOut 46 = .ok (.iconst 0, 1) := by decide +kernel
theorem dX0_payOut_47 : decode cX0_payOut 47 = .ok (.istore_n 3, 1) := by decide +kernel
theorem dX0_payOut_48 : decode cX0_payOut 48 = .ok (.aload_n 0, 1) := by decide +kernel
theorem dX0_payOut_49 : decode cX0_payOut 49 = .ok (.getfield 21, 3) := by decide +kernel
theorem dX0_payOut_52 : decode cX0_payOut 52 = .ok (.invokevirtual 28, 3) := by decide +kernel
theorem dX0_payOut_55 : decode cX0_payOut 55 = .ok (.iconst 1, 1) := by decide +kernel
theorem dX0_payOut_56 : decode cX0_payOut 56 = .ok (.isub, 1) := by decide +kernel
theorem dX0_payOut_57 : decode cX0_payOut 57 = .ok (.istore 4, 2) := by decide +kernel
theorem dX0_payOut_59 : decode cX0_payOut 59 = .ok (.iload 4, 2) := by decide +kernel
theorem dX0_payOut_61 : decode cX0_payOut 61 = .ok (.ifCond .le 10, 3) := by decide +kernel
theorem dX0_payOut_64 : decode cX0_payOut 64 = .ok (.iload_n 3, 1) := by decide +kernel
theorem dX0_payOut_65 : decode cX0_payOut 65 = .ok (.iload 4, 2) := by decide +kernel
theorem dX0_payOut_67 : decode cX0_payOut 67 = .ok (.idiv, 1) := by decide +kernel
theorem dX0_payOut_68 : decode cX0_payOut 68 = .ok (.goto 4, 3) := by decide +kernel
theorem dX0_payOut_71 : decode cX0_payOut 71 = .ok (.iconst 0, 1) := by decide +kernel
theorem dX0_payOut_72 : decode cX0_payOut 72 = .ok (.istore 5, 2) := by decide +kernel
theorem dX0_payOut_74 : decode cX0_payOut 74 = .ok (.iconst 0, 1) := by decide +kernel
theorem dX0_payOut_75 : decode cX0_payOut 75 = .ok (.istore 6, 2) := by decide +kernel
theorem dX0_payOut_77 : decode cX0_payOut 77 = .ok (.iload 6, 2) := by decide +kernel
theorem dX0_payOut_79 : decode cX0_payOut 79 = .ok (.aload_n 0, 1) := by decide +kernel
theorem dX0_payOut_80 : decode cX0_payOut 80 = .ok (.getfield 21, 3) := by decide +kernel
theorem dX0_payOut_83 : decode cX0_payOut 83 = .ok (.invokevirtual 28, 3) := by decide +kernel
theorem dX0_payOut_86 : decode cX0_payOut 86 = .ok (.if_icmp .ge 43, 3) := by decide +kernel
theorem dX0_payOut_89 : decode cX0_payOut 89 = .ok (.aload_n 0, 1) := by decide +kernel
theorem dX0_payOut_90 : decode cX0_payOut 90 = .ok (.getfield 21, 3) := by decide +kernel
theorem dX0_payOut_93 : decode cX0_payOut 93 = .ok (.iload 6, 2) := by decide +kernel
theorem dX0_payOut_95 : decode cX0_payOut 95 = .ok (.invokevirtual 32, 3) := by decide +kernel
theorem dX0_payOut_98 : decode cX0_payOut 98 = .ok (.checkcast 36, 3) := by decide +kernel
theorem dX0_payOut_101 : decode cX0_payOut 101 = .ok (.astore 7, 2) := by decide +kernel
theorem dX0_payOut_103 : decode cX0_payOut 103 = .ok (.aload_n 0, 1) := by decide +kernel
theorem dX0_payOut_104 : decode cX0_payOut 104 = .ok (.aload 7, 2) := by decide +kernel
theorem dX0_payOut_106 : decode cX0_payOut 106 = .ok (.aload 7, 2) := by decide +kernel
theorem dX0_payOut_108 : decode cX0_payOut 108 = .ok (.aload_n 1, 1) := by decide +kernel
theorem dX0_payOut_109 : decode cX0_payOut 109 = .ok (.if_acmp .ne 9, 3) := by decide +kernel
theorem dX0_payOut_112 : decode cX0_payOut 112 = .ok (.iload_n 2, 1) := by decide +kernel
theorem dX0_payOut_113 : decode cX0_payOut 113 = .ok (.iload_n 3, 1) := by decide +kernel
theorem dX0_payOut_114 : decode cX0_payOut 114 = .ok (.isub, 1) := by decide +kernel
theorem dX0_payOut_115 : decode cX0_payOut 115 = .ok (.goto 5, 3) := by decide +kernel
theorem dX0_payOut_118 : decode cX0_payOut 118 = .ok (.iload 5, 2) := by decide +kernel
theorem dX0_payOut_120 : decode cX0_payOut 120 = .ok (.invokevirtual 111, 3) := by decide +kernel
theorem dX0_payOut_123 : decode cX0_payOut 123 = .ok (.iinc 6 1, 3) := by decide +kernel
theorem dX0_payOut_126 : decode cX0_payOut 126 = .ok (.goto (-49), 3) := by decide +kernel
theorem dX0_payOut_129 : decode cX0_payOut 129 = .ok (.aload_n 1, 1) := by decide +kernel
theorem dX0_payOut_130 : decode cX0_payOut 130 = .ok (.iconst 1, 1) := by decide +kernel
theorem dX0_payOut_131 : decode cX0_payOut 131 = .ok (.putfield 80, 3) := by decide +kernel
theorem dX0_payOut_134 : decode cX0_payOut 134 = .ok (.return_, 1) := by decide +kernel
theorem dX0_giveOut_0 : decode cX0_giveOut 0 = .ok (.aload_n 0, 1) := by decide +kernel
theorem dX0_giveOut_1 : decode cX0_giveOut 1 = .ok (.dup, 1) := by decide +kernel
theorem dX0_giveOut_2 : decode cX0_giveOut 2 = .ok (.getfield 105, 3) := by decide +kernel
theorem dX0_giveOut_5 : decode cX0_giveOut 5 = .ok (.iload_n 2, 1) := by decide +kernel
theorem dX0_giveOut_6 : decode cX0_giveOut 6 = .ok (.isub, 1) := by decide +kernel
theorem dX0_giveOut_7 : decode cX0_giveOut 7 = .ok (.putfield 105, 3) := by decide +kernel
theorem dX0_giveOut_10 : decode cX0_giveOut 10 = .ok (.aload_n 1, 1) := by decide +kernel
theorem dX0_giveOut_11 : decode cX0_giveOut 11 = .ok (.getfield 38, 3) := by decide +kernel
theorem dX0_giveOut_14 : decode cX0_giveOut 14 = .ok (.iload_n 2, 1) := by decide +kernel
theorem dX0_giveOut_15 : decode cX0_giveOut 15 = .ok (.invokevirtual 115, 3) := by decide +kernel
theorem dX0_giveOut_18 : decode cX0_giveOut 18 = .ok (.return_, 1) := by decide +kernel
theorem dX0_clearBids_0 : decode cX0_clearBids 0 = .ok (.iconst 0, 1) := by decide +kernel
theorem dX0_clearBids_1 : decode cX0_clearBids 1 = .ok (.istore_n 1, 1) := by decide +kernel
theorem dX0_clearBids_2 : decode cX0_clearBids 2 = .ok (.iload_n 1, 1) := by decide +kernel
theorem dX0_clearBids_3 : decode cX0_clearBids 3 = .ok (.aload_n 0, 1) := by decide +kernel
theorem dX0_clearBids_4 : decode cX0_clearBids 4 = .ok (.getfield 21, 3) := by decide +kernel
theorem dX0_clearBids_7 : decode cX0_clearBids 7 = .ok (.invokevirtual 28, 3) := by decide +kernel
theorem dX0_clearBids_10 : decode cX0_clearBids 10 = .ok (.if_icmp .ge 24, 3) := by decide +kernel
theorem dX0_clearBids_13 : decode cX0_clearBids 13 = .ok (.aload_n 0, 1) := by decide +kernel
theorem dX0_clearBids_14 : decode cX0_clearBids 14 = .ok (.getfield 21, 3) := by decide +kernel
theorem dX0_clearBids_17 : decode cX0_clearBids 17 = .ok (.iload_n 1, 1) := by decide +kernel
theorem dX0_clearBids_18 : decode cX0_clearBids 18 = .ok (.invokevirtual 32, 3) := by decide +kernel
theorem dX0_clearBids_21 : decode cX0_clearBids 21 = .ok (.checkcast 36, 3) := by decide +kernel
theorem dX0_clearBids_24 : decode cX0_clearBids 24 = .ok (.iconst 0, 1) := by decide +kernel
theorem dX0_clearBids_25 : decode cX0_clearBids 25 = .ok (.putfield 108, 3) := by decide +kernel
theorem dX0_clearBids_28 : decode cX0_clearBids 28 = .ok (.iinc 1 1, 3) := by decide +kernel
theorem dX0_clearBids_31 : decode cX0_clearBids 31 = .ok (.goto (-29), 3) := by decide +kernel
theorem dX0_clearBids_34 : decode cX0_clearBids 34 = .ok (.return_, 1) := by decide +kernel
theorem dX0_endRoundIfAllHadTurns_0 : decode cX0_endRoundIfAllHadTurns 0 = .ok (.aload_n 0, 1) := by decide +kernel
theorem dX0_endRoundIfAllHadTurns_1 : decode cX0_endRoundIfAllHadTurns 1 = .ok (.getfield 21, 3) := by decide +kernel
theorem dX0_endRoundIfAllHadTurns_4 : decode cX0_endRoundIfAllHadTurns 4 = .ok (.invokevirtual 118, 3) := by decide +kernel
theorem dX0_endRoundIfAllHadTurns_7 : decode cX0_endRoundIfAllHadTurns 7 = .ok (.ifCond .eq 4, 3) := by decide +kernel
theorem dX0_endRoundIfAllHadTurns_10 : decode cX0_endRoundIfAllHadTurns 10 = .ok (.return_, 1) := by decide +kernel
theorem dX0_endRoundIfAllHadTurns_11 : decode cX0_endRoundIfAllHadTurns 11 = .ok (.iconst 0, 1) := by decide +kernel
theorem dX0_endRoundIfAllHadTurns_12 : decode cX0_endRoundIfAllHadTurns 12 = .ok (.istore_n 1, 1) := by decide +kernel
theorem dX0_endRoundIfAllHadTurns_13 : decode cX0_endRoundIfAllHadTurns 13 = .ok (.iload_n 1, 1) := by decide +kernel
theorem dX0_endRoundIfAllHadTurns_14 : decode cX0_endRoundIfAllHadTurns 14 = .ok (.aload_n 0, 1) := by decide +kernel
theorem dX0_endRoundIfAllHadTurns_15 : decode cX0_endRoundIfAllHadTurns 15 = .ok (.getfield 21, 3) := by decide +kernel
theorem dX0_endRoundIfAllHadTurns_18 : decode cX0_endRoundIfAllHadTurns 18 = .ok (.invokevirtual 28, 3) := by decide +kernel
theorem dX0_endRoundIfAllHadTurns_21 : decode cX0_endRoundIfAllHadTurns 21 = .ok (.if_icmp .ge 27, 3) := by decide +kernel
theorem dX0_endRoundIfAllHadTurns_24 : decode cX0_endRoundIfAllHadTurns 24 = .ok (.aload_n 0, 1) := by decide +kernel
theorem dX0_endRoundIfAllHadTurns_25 : decode cX0_endRoundIfAllHadTurns 25 = .ok (.getfield 21, 3) := by decide +kernel
theorem dX0_endRoundIfAllHadTurns_28 : decode cX0_endRoundIfAllHadTurns 28 = .ok (.iload_n 1, 1) := by decide +kernel
theorem dX0_endRoundIfAllHadTurns_29 : decode cX0_endRoundIfAllHadTurns 29 = .ok (.invokevirtual 32, 3) := by decide +kernel
theorem dX0_endRoundIfAllHadTurns_32 : decode cX0_endRoundIfAllHadTurns 32 = .ok (.checkcast 36, 3) := by decide +kernel
theorem dX0_endRoundIfAllHadTurns_35 : decode cX0_endRoundIfAllHadTurns 35 = .ok (.getfield 80, 3) := by decide +kernel
theorem dX0_endRoundIfAllHadTurns_38 : decode cX0_endRoundIfAllHadTurns 38 = .ok (.ifCond .ne 4, 3) := by decide +kernel
theorem dX0_endRoundIfAllHadTurns_41 : decode cX0_endRoundIfAllHadTurns 41 = .ok (.return_, 1) := by decide +kernel
theorem dX0_endRoundIfAllHadTurns_42 : decode cX0_endRoundIfAllHadTurns 42 = .ok (.iinc 1 1, 3) := by decide +kernel
theorem dX0_endRoundIfAllHadTurns_45 : decode cX0_endRoundIfAllHadTurns 45 = .ok (.goto (-32), 3) := by decide +kernel
theorem dX0_endRoundIfAllHadTurns_48 : decode cX0_endRoundIfAllHadTurns 48 = .ok (.iconst 0, 1) := by decide +kernel
theorem dX0_endRoundIfAllHadTurns_49 : decode cX0_endRoundIfAllHadTurns 49 = .ok (.istore_n 1, 1) := by decide +kernel
theorem dX0_endRoundIfAllHadTurns_50 : decode cX0_endRoundIfAllHadTurns 50 = .ok (.iload_n 1, 1) := by decide +kernel
theorem dX0_endRoundIfAllHadTurns_51 : decode cX0_endRoundIfAllHadTurns 51 = .ok (.aload_n 0, 1) := by decide +kernel
theorem dX0_endRoundIfAllHadTurns_52 : decode cX0_endRoundIfAllHadTurns 52 = .ok (.getfield 21, 3) := by decide +kernel
theorem dX0_endRoundIfAllHadTurns_55 : decode cX0_endRoundIfAllHadTurns 55 = .ok (.invokevirtual 28, 3) := by decide +kernel
theorem dX0_endRoundIfAllHadTurns_58 : decode cX0_endRoundIfAllHadTurns 58 = .ok (.if_icmp .ge 39, 3) := by decide +kernel
theorem dX0_endRoundIfAllHadTurns_61 : decode cX0_endRoundIfAllHadTurns 61 = .ok (.aload_n 0, 1) := by decide +kernel
theorem dX0_endRoundIfAllHadTurns_62 : decode cX0_endRoundIfAllHadTurns 62 = .ok (.getfield 21, 3) := by decide +kernel
theorem dX0_endRoundIfAllHadTurns_65 : decode cX0_endRoundIfAllHadTurns 65 = .ok (.iload_n 1, 1) := by decide +kernel
theorem dX0_endRoundIfAllHadTurns_66 : decode cX0_endRoundIfAllHadTurns 66 = .ok (.invokevirtual 32, 3) := by decide +kernel
theorem dX0_endRoundIfAllHadTurns_69 : decode cX0_endRoundIfAllHadTurns 69 = .ok (.checkcast 36, 3) := by decide +kernel
theorem dX0_endRoundIfAllHadTurns_72 : decode cX0_endRoundIfAllHadTurns 72 = .ok (.iconst 0, 1) := by decide +kernel
theorem dX0_endRoundIfAllHadTurns_73 : decode cX0_endRoundIfAllHadTurns 73 = .ok (.putfield 80, 3) := by decide +kernel
theorem dX0_endRoundIfAllHadTurns_76 : decode cX0_endRoundIfAllHadTurns 76 = .ok (.aload_n 0, 1) := by decide +kernel
theorem dX0_endRoundIfAllHadTurns_77 : decode cX0_endRoundIfAllHadTurns 77 = .ok (.getfield 21, 3) := by decide +kernel
theorem dX0_endRoundIfAllHadTurns_80 : decode cX0_endRoundIfAllHadTurns 80 = .ok (.iload_n 1, 1) := by decide +kernel
theorem dX0_endRoundIfAllHadTurns_81 : decode cX0_endRoundIfAllHadTurns 81 = .ok (.invokevirtual 32, 3) := by decide +kernel
theorem dX0_endRoundIfAllHadTurns_84 : decode cX0_endRoundIfAllHadTurns 84 = .ok (.checkcast 36, 3) := by decide +kernel
theorem dX0_endRoundIfAllHadTurns_87 : decode cX0_endRoundIfAllHadTurns 87 = .ok (.iconst 0, 1) := by decide +kernel
theorem dX0_endRoundIfAllHadTurns_88 : decode cX0_endRoundIfAllHadTurns 88 = .ok (.putfield 102, 3) := by decide +kernel
theorem dX0_endRoundIfAllHadTurns_91 : decode cX0_endRoundIfAllHadTurns 91 = .ok (.iinc 1 1, 3) := by decide +kernel
theorem dX0_endRoundIfAllHadTurns_94 : decode cX0_endRoundIfAllHadTurns 94 = .ok (.goto (-44), 3) := by decide +kernel
theorem dX0_endRoundIfAllHadTurns_97 : decode cX0_endRoundIfAllHadTurns 97 = .ok (.aload_n 0, 1) := by decide +kernel
theorem dX0_endRoundIfAllHadTurns_98 : decode cX0_endRoundIfAllHadTurns 98 = .ok (.dup, 1) := by decide +kernel
theorem dX0_endRoundIfAllHadTurns_99 : decode cX0_endRoundIfAllHadTurns 99 = .ok (.getfield 121, 3) := by decide +kernel
theorem dX0_endRoundIfAllHadTurns_102 : decode cX0_endRoundIfAllHadTurns 102 = .ok (.iconst 1, 1) := by decide +kernel
theorem dX0_endRoundIfAllHadTurns_103 : decode cX0_endRoundIfAllHadTurns 103 = .ok (.iadd, 1) := by decide +kernel
theorem dX0_endRoundIfAllHadTurns_104 : decode cX0_endRoundIfAllHadTurns 104 = .ok (.putfield 121, 3) := by decide +kernel
theorem dX0_endRoundIfAllHadTurns_107 : decode cX0_endRoundIfAllHadTurns 107 = .ok (.return_, 1) := by decide +kernel
theorem dX0_removePlace_0 : decode cX0_removePlace 0 = .ok (.aload_n 0, 1) := by decide +kernel
theorem dX0_removePlace_1 : decode cX0_removePlace 1 = .ok (.getfield 21, 3) := by decide +kernel
theorem dX0_removePlace_4 : decode cX0_removePlace 4 = .ok (.aload_n 1, 1) := by decide +kernel
theorem dX0_removePlace_5 : decode cX0_removePlace 5 = .ok (.invokestatic 124, 3) := by decide +kernel
theorem dX0_removePlace_8 : decode cX0_removePlace 8 = .ok (.aload_n 0, 1) := by decide +kernel
theorem dX0_removePlace_9 : decode cX0_removePlace 9 = .ok (.getfield 25, 3) := by decide +kernel
theorem dX0_removePlace_12 : decode cX0_removePlace 12 = .ok (.aload_n 1, 1) := by decide +kernel
theorem dX0_removePlace_13 : decode cX0_removePlace 13 = .ok (.invokestatic 124, 3) := by decide +kernel
theorem dX0_removePlace_16 : decode cX0_removePlace 16 = .ok (.aload_n 0, 1) := by decide +kernel
theorem dX0_removePlace_17 : decode cX0_removePlace 17 = .ok (.invokevirtual 128, 3) := by decide +kernel
theorem dX0_removePlace_20 : decode cX0_removePlace 20 = .ok (.return_, 1) := by decide +kernel
theorem dX0_removeFrom_0 : decode cX0_removeFrom 0 = .ok (.iconst 0, 1) := by decide +kernel
theorem dX0_removeFrom_1 : decode cX0_removeFrom 1 = .ok (.istore_n 2, 1) := by decide +kernel
theorem dX0_removeFrom_2 : decode cX0_removeFrom 2 = .ok (.iload_n 2, 1) := by decide +kernel
theorem dX0_removeFrom_3 : decode cX0_removeFrom 3 = .ok (.aload_n 0, 1) := by decide +kernel
theorem dX0_removeFrom_4 : decode cX0_removeFrom 4 = .ok (.invokevirtual 28, 3) := by decide +kernel
theorem dX0_removeFrom_7 : decode cX0_removeFrom 7 = .ok (.if_icmp .ge 25, 3) := by decide +kernel
theorem dX0_removeFrom_10 : decode cX0_removeFrom 10 = .ok (.aload_n 0, 1) := by decide +kernel
theorem dX0_removeFrom_11 : decode cX0_removeFrom 11 = .ok (.iload_n 2, 1) := by decide +kernel
theorem dX0_removeFrom_12 : decode cX0_removeFrom 12 = .ok (.invokevirtual 32, 3) := by decide +kernel
theorem dX0_removeFrom_15 : decode cX0_removeFrom 15 = .ok (.aload_n 1, 1) := by decide +kernel
theorem dX0_removeFrom_16 : decode cX0_removeFrom 16 = .ok (.if_acmp .ne 10, 3) := by decide +kernel
theorem dX0_removeFrom_19 : decode cX0_removeFrom 19 = .ok (.aload_n 0, 1) := by decide +kernel
theorem dX0_removeFrom_20 : decode cX0_removeFrom 20 = .ok (.iload_n 2, 1) := by decide +kernel
theorem dX0_removeFrom_21 : decode cX0_removeFrom 21 = .ok (.invokevirtual 62, 3) := by decide +kernel
theorem dX0_removeFrom_24 : decode cX0_removeFrom 24 = .ok (.pop, 1) := by decide +kernel
theorem dX0_removeFrom_25 : decode cX0_removeFrom 25 = .ok (.return_, 1) := by decide +kernel
theorem dX0_removeFrom_26 : decode cX0_removeFrom 26 = .ok (.iinc 2 1, 3) := by decide +kernel
theorem dX0_removeFrom_29 : decode cX0_removeFrom 29 = .ok (.goto (-27), 3) := by decide +kernel
theorem dX0_removeFrom_32 : decode cX0_removeFrom 32 = .ok (.return_, 1) := by decide +kernel
theorem dX0_passOn_0 : decode cX0_passOn 0 = .ok (.aload_n 0, 1) := by decide +kernel
theorem dX0_passOn_1 : decode cX0_passOn 1 = .ok (.aload_n 1, 1) := by decide +kernel
theorem dX0_passOn_2 : decode cX0_passOn 2 = .ok (.invokevirtual 131, 3) := by decide +kernel
theorem dX0_passOn_5 : decode cX0_passOn 5 = .ok (.astore_n 3, 1) := by decide +kernel
theorem dX0_passOn_6 : decode cX0_passOn 6 = .ok (.aload_n 3, 1) := by decide +kernel
theorem dX0_passOn_7 : decode cX0_passOn 7 = .ok (.ifnonnull 5, 3) := by decide +kernel
theorem dX0_passOn_10 : decode cX0_passOn 10 = .ok (.iconst 0, 1) := by decide +kernel
theorem dX0_passOn_11 : decode cX0_passOn 11 = .ok (.ireturn, 1) := by decide +kernel
theorem dX0_passOn_12 : decode cX0_passOn 12 = .ok (.aload_n 0, 1) := by decide +kernel
theorem dX0_passOn_13 : decode cX0_passOn 13 = .ok (.aload_n 2, 1) := by decide +kernel
theorem dX0_passOn_14 : decode cX0_passOn 14 = .ok (.invokevirtual 131, 3) := by decide +kernel
theorem dX0_passOn_17 : decode cX0_passOn 17 = .ok (.astore 4, 2) := by decide +kernel
theorem dX0_passOn_19 : decode cX0_passOn 19 = .ok (.aload 4, 2) := by decide +kernel
theorem dX0_passOn_21 : decode cX0_passOn 21 = .ok (.ifnonnull 10, 3) := by decide +kernel
theorem dX0_passOn_24 : decode cX0_passOn 24 = .ok (.aload_n 3, 1) := by decide +kernel
theorem dX0_passOn_25 : decode cX0_passOn 25 = .ok (.aload_n 2, 1) := by decide +kernel
theorem dX0_passOn_26 : decode cX0_passOn 26 = .ok (.putfield 38, 3) := by decide +kernel
theorem dX0_passOn_29 : decode cX0_passOn 29 = .ok (.iconst 1, 1) := by decide +kernel
theorem dX0_passOn_30 : decode cX0_passOn 30 = .ok (.ireturn, 1) := by decide +kernel
theorem dX0_passOn_31 : decode cX0_passOn 31 = .ok (.aload 4, 2) := by decide +kernel
theorem dX0_passOn_33 : decode cX0_passOn 33 = .ok (.dup, 1) := by decide +kernel
theorem dX0_passOn_34 : decode cX0_passOn 34 = .ok (.getfield 87, 3) := by decide +kernel
theorem dX0_passOn_37 : decode cX0_passOn 37 = .ok (.aload_n 3, 1) := by decide +kernel
theorem dX0_passOn_38 : decode cX0_passOn 38 = .ok (.getfield 87, 3) := by decide +kernel
theorem dX0_passOn_41 : decode cX0_passOn 41 = .ok (.iadd, 1) := by decide +kernel
theorem dX0_passOn_42 : decode cX0_passOn 42 = .ok (.putfield 87, 3) := by decide +kernel
theorem dX0_passOn_45 : decode cX0_passOn 45 = .ok (.aload_n 0, 1) := by decide +kernel
theorem dX0_passOn_46 : decode cX0_passOn 46 = .ok (.aload_n 3, 1) := by decide +kernel
theorem dX0_passOn_47 : decode cX0_passOn 47 = .ok (.invokevirtual 135, 3) := by decide +kernel
theorem dX0_passOn_50 : decode cX0_passOn 50 = .ok (.iconst 0, 1) := by decide +kernel
theorem dX0_passOn_51 : decode cX0_passOn 51 = .ok (.ireturn, 1) := by decide +kernel
theorem dX1_init_0 : decode cX1_init 0 = .ok (.aload_n 0, 1) := by decide +kernel
theorem dX1_init_1 : decode cX1_init 1 = .ok (.invokespecial 3, 3) := by decide +kernel
theorem dX1_init_4 : decode cX1_init 4 = .ok (.aload_n 0, 1) := by decide +kernel
theorem dX1_init_5 : decode cX1_init 5 = .ok (.iload_n 1, 1) := by decide +kernel
theorem dX1_init_6 : decode cX1_init 6 = .ok (.putfield 9, 3) := by decide +kernel
theorem dX1_init_9 : decode cX1_init 9 = .ok (.aload_n 0, 1) := by decide +kernel
theorem dX1_init_10 : decode cX1_init 10 = .ok (.iload_n 2, 1) := by decide +kernel
theorem dX1_init_11 : decode cX1_init 11 = .ok (.putfield 15, 3) := by decide +kernel
theorem dX1_init_14 : decode cX1_init 14 = .ok (.aload_n 0, 1) := by decide +kernel
theorem dX1_init_15 : decode cX1_init 15 = .ok (.iload_n 3, 1) := by decide +kernel
theorem dX1_init_16 : decode cX1_init 16 = .ok (.putfield 18, 3) := by decide +kernel
theorem dX1_init_19 : decode cX1_init 19 = .ok (.aload_n 0, 1) := by decide +kernel
theorem dX1_init_20 : decode cX1_init 20 = .ok (.iconst 3, 1) := by decide +kernel
theorem dX1_init_21 : decode cX1_init 21 = .ok (.newarray .int, 2) := by decide +kernel
theorem dX1_init_23 : decode cX1_init 23 = .ok (.putfield 21, 3) := by decide +kernel
theorem dX1_init_26 : decode cX1_init 26 = .ok (.return_, 1) := by decide +kernel
theorem dX1_hasShare_0 : decode cX1_hasShare 0 = .ok (.aload_n 0, 1) := by decide +kernel
theorem dX1_hasShare_1 : decode cX1_hasShare 1 = .ok (.getfield 25, 3) := by decide +kernel
theorem dX1_hasShare_4 : decode cX1_hasShare 4 = .ok (.ifCond .ne 14, 3) := by decide +kernel
theorem dX1_hasShare_7 : decode cX1_hasShare 7 = .ok (.aload_n 0, 1) := by decide +kernel
theorem dX1_hasShare_8 : decode cX1_hasShare 8 = .ok (.getfield 29, 3) := by decide +kernel
theorem dX1_hasShare_11 : decode cX1_hasShare 11 = .ok (.ifCond .le 7, 3) := by decide +kernel
theorem dX1_hasShare_14 : decode cX1_hasShare 14 = .ok (.iconst 1, 1) := by decide +kernel
theorem dX1_hasShare_15 : decode cX1_hasShare 15 = .ok (.goto 4, 3) := by decide +kernel
theorem dX1_hasShare_18 : decode cX1_hasShare 18 = .ok (.iconst 0, 1) := by decide +kernel
theorem dX1_hasShare_19 : decode cX1_hasShare 19 = .ok (.ireturn, 1) := by decide +kernel
theorem dX1_hasLoan_0 : decode cX1_hasLoan 0 = .ok (.aload_n 0, 1) := by decide +kernel
theorem dX1_hasLoan_1 : decode cX1_hasLoan 1 = .ok (.getfield 32, 3) := by decide +kernel
theorem dX1_hasLoan_4 : decode cX1_hasLoan 4 = .ok (.ifCond .le 7, 3) := by decide +kernel
theorem dX1_hasLoan_7 : decode cX1_hasLoan 7 = .ok (.iconst 1, 1) := by decide +kernel
theorem dX1_hasLoan_8 : decode cX1_hasLoan 8 = .ok (.goto 4, 3) := by decide +kernel
theorem dX1_hasLoan_11 : decode cX1_hasLoan 11 = .ok (.iconst 0, 1) := by decide +kernel
theorem dX1_hasLoan_12 : decode cX1_hasLoan 12 = .ok (.ireturn, 1) := by decide +kernel
theorem dX1_isOfHouse_0 : decode cX1_isOfHouse 0 = .ok (.aload_n 0, 1) := by decide +kernel
theorem dX1_isOfHouse_1 : decode cX1_isOfHouse 1 = .ok (.getfield 18, 3) := by decide +kernel
theorem dX1_isOfHouse_4 : decode cX1_isOfHouse 4 = .ok (.istore_n 2, 1) := by decide +kernel
theorem dX1_isOfHouse_5 : decode cX1_isOfHouse 5 = .ok (.aload_n 1, 1) := by decide +kernel
theorem dX1_isOfHouse_6 : decode cX1_isOfHouse 6 = .ok (.getfield 18, 3) := by decide +kernel
theorem dX1_isOfHouse_9 : decode cX1_isOfHouse 9 = .ok (.istore_n 3, 1) := by decide +kernel
theorem dX1_isOfHouse_10 : decode cX1_isOfHouse 10 = .ok (.iconst 0, 1) := by decide +kernel
theorem dX1_isOfHouse_11 : decode cX1_isOfHouse 11 = .ok (.istore 4, 2) := by decide +kernel
theorem dX1_isOfHouse_13 : decode cX1_isOfHouse 13 = .ok (.iconst 0, 1) := by decide +kernel
theorem dX1_isOfHouse_14 : decode cX1_isOfHouse 14 = .ok (.istore 5, 2) := by decide +kernel
theorem dX1_isOfHouse_16 : decode cX1_isOfHouse 16 = .ok (.iload 5, 2) := by decide +kernel
theorem dX1_isOfHouse_18 : decode cX1_isOfHouse 18 = .ok (.iconst 5, 1) := by decide +kernel
theorem dX1_isOfHouse_19 : decode cX1_isOfHouse 19 = .ok (.if_icmp .ge 33, 3) := by decide +kernel
theorem dX1_isOfHouse_22 : decode cX1_isOfHouse 22 = .ok (.iload_n 2, 1) := by decide +kernel
theorem dX1_isOfHouse_23 : decode cX1_isOfHouse 23 = .ok (.bipush 10, 2) := by decide +kernel
theorem dX1_isOfHouse_25 : decode cX1_isOfHouse 25 = .ok (.irem, 1) := by decide +kernel
theorem dX1_isOfHouse_26 : decode cX1_isOfHouse 26 = .ok (.iload_n 3, 1) := by decide +kernel
theorem dX1_isOfHouse_27 : decode cX1_isOfHouse 27 = .ok (.bipush 10, 2) := by decide +kernel
theorem dX1_isOfHouse_29 : decode cX1_isOfHouse 29 = .ok (.irem, 1) := by decide +kernel
theorem dX1_isOfHouse_30 : decode cX1_isOfHouse 30 = .ok (.if_icmp .eq 6, 3) := by decide +kernel
theorem dX1_isOfHouse_33 : decode cX1_isOfHouse 33 = .ok (.iinc 4 1, 3) := by decide +kernel
theorem dX1_isOfHouse_36 : decode cX1_isOfHouse 36 = .ok (.iload_n 2, 1) := by decide +kernel
theorem dX1_isOfHouse_37 : decode cX1_isOfHouse 37 = .ok (.bipush 10, 2) := by decide +kernel
theorem dX1_isOfHouse_39 : decode cX1_isOfHouse 39 = .ok (.idiv, 1) := by decide +kernel
theorem dX1_isOfHouse_40 : decode cX1_isOfHouse 40 = .ok (.istore_n 2, 1) := by decide +kernel
theorem dX1_isOfHouse_41 : decode cX1_isOfHouse 41 = .ok (.iload_n 3, 1) := by decide +kernel
theorem dX1_isOfHouse_42 : decode cX1_isOfHouse 42 = .ok (.bipush 10, 2) := by decide +kernel
theorem dX1_isOfHouse_44 : decode cX1_isOfHouse 44 = .ok (.idiv, 1) := by decide +kernel
theorem dX1_isOfHouse_45 : decode cX1_isOfHouse 45 = .ok (.istore_n 3, 1) := by decide +kernel
theorem dX1_isOfHouse_46 : decode cX1_isOfHouse 46 = .ok (.iinc 5 1, 3) := by decide +kernel
theorem dX1_isOfHouse_49 : decode cX1_isOfHouse 49 = .ok (.goto (-33), 3) := by decide +kernel
theorem dX1_isOfHouse_52 : decode cX1_isOfHouse 52 = .ok (.iload 4, 2) := by decide +kernel
theorem dX1_isOfHouse_54 : decode cX1_isOfHouse 54 = .ok (.iconst 1, 1) := by decide +kernel
theorem dX1_isOfHouse_55 : decode cX1_isOfHouse 55 = .ok (.if_icmp .gt 7, 3) := by decide +kernel
theorem dX1_isOfHouse_58 : decode cX1_isOfHouse 58 = .ok (.iconst 1, 1) := by decide +kernel
theorem dX1_isOfHouse_59 : decode cX1_isOfHouse 59 = .ok (.goto 4, 3) := by decide +kernel
theorem dX1_isOfHouse_62 : decode cX1_isOfHouse 62 = .ok (.iconst 0, 1) := by decide +kernel
theorem dX1_isOfHouse_63 : decode cX1_isOfHouse 63 = .ok (.ireturn, 1) := by decide +kernel
theorem dX1_payIn_0 : decode cX1_payIn 0 = .ok (.aload_n 0, 1) := by decide +kernel
theorem dX1_payIn_1 : decode cX1_payIn 1 = .ok (.dup, 1) := by decide +kernel
theorem dX1_payIn_2 : decode cX1_payIn 2 = .ok (.getfield 35, 3) := by decide +kernel
theorem dX1_payIn_5 : decode cX1_payIn 5 = .ok (.iload_n 1, 1) := by decide +kernel
theorem dX1_payIn_6 : decode cX1_payIn 6 = .ok (.isub, 1) := by decide +kernel
theorem dX1_payIn_7 : decode cX1_payIn 7 = .ok (.putfield 35, 3) := by decide +kernel
theorem dX1_payIn_10 : decode cX1_payIn 10 = .ok (.aload_n 0, 1) := by decide +kernel
theorem dX1_payIn_11 : decode cX1_payIn 11 = .ok (.dup, 1) := by decide +kernel
theorem dX1_payIn_12 : decode cX1_payIn 12 = .ok (.getfield 38, 3) := by decide +kernel
theorem dX1_payIn_15 : decode cX1_payIn 15 = .ok (.iload_n 1, 1) := by decide +kernel
theorem dX1_payIn_16 : decode cX1_payIn 16 = .ok (.iadd, 1) := by decide +kernel
theorem dX1_payIn_17 : decode cX1_payIn 17 = .ok (.putfield 38, 3) := by decide +kernel
theorem dX1_payIn_20 : decode cX1_payIn 20 = .ok (.return_, 1) := by decide +kernel
theorem dX1_getOut_0 : decode cX1_getOut 0 = .ok (.aload_n 0, 1) := by decide +kernel
theorem dX1_getOut_1 : decode cX1_getOut 1 = .ok (.dup, 1) := by decide +kernel
theorem dX1_getOut_2 : decode cX1_getOut 2 = .ok (.getfield 35, 3) := by decide +kernel
theorem dX1_getOut_5 : decode cX1_getOut 5 = .ok (.iload_n 1, 1) := by decide +kernel
theorem dX1_getOut_6 : decode cX1_getOut 6 = .ok (.iadd, 1) := by decide +kernel
theorem dX1_getOut_7 : decode cX1_getOut 7 = .ok (.putfield 35, 3) := by decide +kernel
theorem dX1_getOut_10 : decode cX1_getOut 10 = .ok (.aload_n 0, 1) := by decide +kernel
theorem dX1_getOut_11 : decode cX1_getOut 11 = .ok (.dup, 1) := by decide +kernel
theorem dX1_getOut_12 : decode cX1_getOut 12 = .ok (.getfield 38, 3) := by decide +kernel
theorem dX1_getOut_15 : decode cX1_getOut 15 = .ok (.iload_n 1, 1) := by decide +kernel
theorem dX1_getOut_16 : decode cX1_getOut 16 = .ok (.isub, 1) := by decide +kernel
theorem dX1_getOut_17 : decode cX1_getOut 17 = .ok (.putfield 38, 3) := by decide +kernel
theorem dX1_getOut_20 : decode cX1_getOut 20 = .ok (.return_, 1) := by decide +kernel
theorem dX1_takeLoan_0 : decode cX1_takeLoan 0 = .ok (.aload_n 0, 1) := by decide +kernel
theorem dX1_takeLoan_1 : decode cX1_takeLoan 1 = .ok (.iload_n 1, 1) := by decide +kernel
theorem dX1_takeLoan_2 : decode cX1_takeLoan 2 = .ok (.putfield 32, 3) := by decide +kernel
theorem dX1_takeLoan_5 : decode cX1_takeLoan 5 = .ok (.aload_n 0, 1) := by decide +kernel
theorem dX1_takeLoan_6 : decode cX1_takeLoan 6 = .ok (.iconst 0, 1) := by decide +kernel
theorem dX1_takeLoan_7 : decode cX1_takeLoan 7 = .ok (.putfield 41, 3) := by decide +kernel
theorem dX1_takeLoan_10 : decode cX1_takeLoan 10 = .ok (.aload_n 0, 1) := by decide +kernel
theorem dX1_takeLoan_11 : decode cX1_takeLoan 11 = .ok (.aload_n 2, 1) := by decide +kernel
theorem dX1_takeLoan_12 : decode cX1_takeLoan 12 = .ok (.putfield 44, 3) := by decide +kernel
theorem dX1_takeLoan_15 : decode cX1_takeLoan 15 = .ok (.aload_n 0, 1) := by decide +kernel
theorem dX1_takeLoan_16 : decode cX1_takeLoan 16 = .ok (.aload_n 3, 1) := by decide +kernel
theorem dX1_takeLoan_17 : decode cX1_takeLoan 17 = .ok (.putfield 48, 3) := by decide +kernel
theorem dX1_takeLoan_20 : decode cX1_takeLoan 20 = .ok (.aload_n 0, 1) := by decide +kernel
theorem dX1_takeLoan_21 : decode cX1_takeLoan 21 = .ok (.iload_n 1, 1) := by decide +kernel
theorem dX1_takeLoan_22 : decode cX1_takeLoan 22 = .ok (.invokevirtual 51, 3) := by decide +kernel
theorem dX1_takeLoan_25 : decode cX1_takeLoan 25 = .ok (.return_, 1) := by decide +kernel
theorem dX1_ageLoan_0 : decode cX1_ageLoan 0 = .ok (.aload_n 0, 1) := by decide +kernel
theorem dX1_ageLoan_1 : decode cX1_ageLoan 1 = .ok (.dup, 1) := by decide +kernel
theorem dX1_ageLoan_2 : decode cX1_ageLoan 2 = .ok (.getfield 32, 3) := by decide +kernel
theorem dX1_ageLoan_5 : decode cX1_ageLoan 5 = .ok (.aload_n 0, 1) := by decide +kernel
theorem dX1_ageLoan_6 : decode cX1_ageLoan 6 = .ok (.getfield 32, 3) := by decide +kernel
theorem dX1_ageLoan_9 : decode cX1_ageLoan 9 = .ok (.bipush 19, 2) := by decide +kernel
theorem dX1_ageLoan_11 : decode cX1_ageLoan 11 = .ok (.iadd, 1) := by decide +kernel
theorem dX1_ageLoan_12 : decode cX1_ageLoan 12 = .ok (.bipush 20, 2) := by decide +kernel
theorem dX1_ageLoan_14 : decode cX1_ageLoan 14 = .ok (.idiv, 1) := by decide +kernel
theorem dX1_ageLoan_15 : decode cX1_ageLoan 15 = .ok (.iadd, 1) := by decide +kernel
theorem dX1_ageLoan_16 : decode cX1_ageLoan 16 = .ok (.putfield 32, 3) := by decide +kernel
theorem dX1_ageLoan_19 : decode cX1_ageLoan 19 = .ok (.aload_n 0, 1) := by decide +kernel
theorem dX1_ageLoan_20 : decode cX1_ageLoan 20 = .ok (.dup, 1) := by decide +kernel
theorem dX1_ageLoan_21 : decode cX1_ageLoan 21 = .ok (.getfield 41, 3) := by decide +kernel
theorem dX1_ageLoan_24 : decode cX1_ageLoan 24 = .ok (.iconst 1, 1) := by decide +kernel
theorem dX1_ageLoan_25 : decode cX1_ageLoan 25 = .ok (.iadd, 1) := by decide +kernel
theorem dX1_ageLoan_26 : decode cX1_ageLoan 26 = .ok (.putfield 41, 3) := by decide +kernel
theorem dX1_ageLoan_29 : decode cX1_ageLoan 29 = .ok (.return_, 1) := by decide +kernel
theorem dX1_bequeath_0 : decode cX1_bequeath 0 = .ok (.aload_n 1, 1) := by decide +kernel
theorem dX1_bequeath_1 : decode cX1_bequeath 1 = .ok (.dup, 1) := by decide +kernel
theorem dX1_bequeath_2 : decode cX1_bequeath 2 = .ok (.getfield 35, 3) := by decide +kernel
theorem dX1_bequeath_5 : decode cX1_bequeath 5 = .ok (.aload_n 0, 1) := by decide +kernel
theorem dX1_bequeath_6 : decode cX1_bequeath 6 = .ok (.getfield 35, 3) := by decide +kernel
theorem dX1_bequeath_9 : decode cX1_bequeath 9 = .ok (.iadd, 1) := by decide +kernel
theorem dX1_bequeath_10 : decode cX1_bequeath 10 = .ok (.putfield 35, 3) := by decide +kernel
theorem dX1_bequeath_13 : decode cX1_bequeath 13 = .ok (.aload_n 1, 1) := by decide +kernel
theorem dX1_bequeath_14 : decode cX1_bequeath 14 = .ok (.dup, 1) := by decide +kernel
theorem dX1_bequeath_15 : decode cX1_bequeath 15 = .ok (.getfield 29, 3) := by decide +kernel
theorem dX1_bequeath_18 : decode cX1_bequeath 18 = .ok (.aload_n 0, 1) := by decide +kernel
theorem dX1_bequeath_19 : decode cX1_bequeath 19 = .ok (.getfield 29, 3) := by decide +kernel
theorem dX1_bequeath_22 : decode cX1_bequeath 22 = .ok (.iadd, 1) := by decide +kernel
theorem dX1_bequeath_23 : decode cX1_bequeath 23 = .ok (.putfield 29, 3) := by decide +kernel
theorem dX1_bequeath_26 : decode cX1_bequeath 26 = .ok (.aload_n 1, 1) := by decide +kernel
theorem dX1_bequeath_27 : decode cX1_bequeath 27 = .ok (.invokevirtual 55, 3) := by decide +kernel
theorem dX1_bequeath_30 : decode cX1_bequeath 30 = .ok (.ifCond .ne 27, 3) := by decide +kernel
theorem dX1_bequeath_33 : decode cX1_bequeath 33 = .ok (.aload_n 1, 1) := by decide +kernel
theorem dX1_bequeath_34 : decode cX1_bequeath 34 = .ok (.aload_n 0, 1) := by decide +kernel
theorem dX1_bequeath_35 : decode cX1_bequeath 35 = .ok (.getfield 41, 3) := by decide +kernel
theorem dX1_bequeath_38 : decode cX1_bequeath 38 = .ok (.putfield 41, 3) := by decide +kernel
theorem dX1_bequeath_41 : decode cX1_bequeath 41 = .ok (.aload_n 1, 1) := by decide +kernel
theorem dX1_bequeath_42 : decode cX1_bequeath 42 = .ok (.aload_n 0, 1) := by decide +kernel
theorem dX1_bequeath_43 : decode cX1_bequeath 43 = .ok (.getfield 44, 3) := by decide +kernel
theorem dX1_bequeath_46 : decode cX1_bequeath 46 = .ok (.putfield 44, 3) := by decide +kernel
theorem dX1_bequeath_49 : decode cX1_bequeath 49 = .ok (.aload_n 1, 1) := by decide +kernel
theorem dX1_bequeath_50 : decode cX1_bequeath 50 = .ok (.aload_n 0, 1) := by decide +kernel
theorem dX1_bequeath_51 : decode cX1_bequeath 51 = .ok (.getfield 48, 3) := by decide +kernel
theorem dX1_bequeath_54 : decode cX1_bequeath 54 = .ok (.putfield 48, 3) := by decide +kernel
theorem dX1_bequeath_57 : decode cX1_bequeath 57 = .ok (.aload_n 1, 1) := by decide +kernel
theorem dX1_bequeath_58 : decode cX1_bequeath 58 = .ok (.dup, 1) := by decide +kernel
theorem dX1_bequeath_59 : decode cX1_bequeath 59 = .ok (.getfield 32, 3) := by decide +kernel
theorem dX1_bequeath_62 : decode cX1_bequeath 62 = .ok (.aload_n 0, 1) := by decide +kernel
theorem dX1_bequeath_63 : decode cX1_bequeath 63 = .ok (.getfield 32, 3) := by decide +kernel
theorem dX1_bequeath_66 : decode cX1_bequeath 66 = .ok (.iadd, 1) := by decide +kernel
theorem dX1_bequeath_67 : decode cX1_bequeath 67 = .ok (.putfield 32, 3) := by decide +kernel
theorem dX1_bequeath_70 : decode cX1_bequeath 70 = .ok (.aload_n 0, 1) := by decide +kernel
theorem dX1_bequeath_71 : decode cX1_bequeath 71 = .ok (.iconst 0, 1) := by decide +kernel
theorem dX1_bequeath_72 : decode cX1_bequeath 72 = .ok (.putfield 35, 3) := by decide +kernel
theorem dX1_bequeath_75 : decode cX1_bequeath 75 = .ok (.aload_n 0, 1) := by decide +kernel
theorem dX1_bequeath_76 : decode cX1_bequeath 76 = .ok (.iconst 0, 1) := by decide +kernel
theorem dX1_bequeath_77 : decode cX1_bequeath 77 = .ok (.putfield 29, 3) := by decide +kernel
theorem dX1_bequeath_80 : decode cX1_bequeath 80 = .ok (.aload_n 0, 1) := by decide +kernel
theorem dX1_bequeath_81 : decode cX1_bequeath 81 = .ok (.iconst 0, 1) := by decide +kernel
theorem dX1_bequeath_82 : decode cX1_bequeath 82 = .ok (.putfield 32, 3) := by decide +kernel
theorem dX1_bequeath_85 : decode cX1_bequeath 85 = .ok (.aload_n 0, 1) := by decide +kernel
theorem dX1_bequeath_86 : decode cX1_bequeath 86 = .ok (.iconst 1, 1) := by decide +kernel
theorem dX1_bequeath_87 : decode cX1_bequeath 87 = .ok (.putfield 25, 3) := by decide +kernel
theorem dX1_bequeath_90 : decode cX1_bequeath 90 = .ok (.return_, 1) := by decide +kernel
theorem dX2_init_0 : decode cX2_init 0 = .ok (.aload_n 0, 1) := by decide +kernel
theorem dX2_init_1 : decode cX2_init 1 = .ok (.invokespecial 3, 3) := by decide +kernel
theorem dX2_init_4 : decode cX2_init 4 = .ok (.aload_n 0, 1) := by decide +kernel
theorem dX2_init_5 : decode cX2_init 5 = .ok (.aload_n 1, 1) := by decide +kernel
theorem dX2_init_6 : decode cX2_init 6 = .ok (.putfield 9, 3) := by decide +kernel
theorem dX2_init_9 : decode cX2_init 9 = .ok (.return_, 1) := by decide +kernel
theorem dX2_changeNeed_0 : decode cX2_changeNeed 0 = .ok (.aload_n 0, 1) := by decide +kernel
theorem dX2_changeNeed_1 : decode cX2_changeNeed 1 = .ok (.getfield 15, 3) := by decide +kernel
theorem dX2_changeNeed_4 : decode cX2_changeNeed 4 = .ok (.istore_n 2, 1) := by decide +kernel
theorem dX2_changeNeed_5 : decode cX2_changeNeed 5 = .ok (.aload_n 0, 1) := by decide +kernel
theorem dX2_changeNeed_6 : decode cX2_changeNeed 6 = .ok (.iload_n 1, 1) := by decide +kernel
theorem dX2_changeNeed_7 : decode cX2_changeNeed 7 = .ok (.putfield 15, 3) := by decide +kernel
theorem dX2_changeNeed_10 : decode cX2_changeNeed 10 = .ok (.iload_n 2, 1) := by decide +kernel
theorem dX2_changeNeed_11 : decode cX2_changeNeed 11 = .ok (.ireturn, 1) := by decide +kernel
theorem dX2_changeBid_0 : decode cX2_changeBid 0 = .ok (.aload_n 0, 1) := by decide +kernel
theorem dX2_changeBid_1 : decode cX2_changeBid 1 = .ok (.getfield 19, 3) := by decide +kernel
theorem dX2_changeBid_4 : decode cX2_changeBid 4 = .ok (.istore_n 2, 1) := by decide +kernel
theorem dX2_changeBid_5 : decode cX2_changeBid 5 = .ok (.aload_n 0, 1) := by decide +kernel
theorem dX2_changeBid_6 : decode cX2_changeBid 6 = .ok (.iload_n 1, 1) := by decide +kernel
theorem dX2_changeBid_7 : decode cX2_changeBid 7 = .ok (.putfield 19, 3) := by decide +kernel
theorem dX2_changeBid_10 : decode cX2_changeBid 10 = .ok (.iload_n 2, 1) := by decide +kernel
theorem dX2_changeBid_11 : decode cX2_changeBid 11 = .ok (.ireturn, 1) := by decide +kernel
theorem dX2_rank_0 : decode cX2_rank 0 = .ok (.iload_n 1, 1) := by decide +kernel
theorem dX2_rank_1 : decode cX2_rank 1 = .ok (.iconst 2, 1) := by decide +kernel
theorem dX2_rank_2 : decode cX2_rank 2 = .ok (.if_icmp .ne 10, 3) := by decide +kernel
theorem dX2_rank_5 : decode cX2_rank 5 = .ok (.aload_n 0, 1) := by decide +kernel
theorem dX2_rank_6 : decode cX2_rank 6 = .ok (.getfield 15, 3) := by decide +kernel
theorem dX2_rank_9 : decode cX2_rank 9 = .ok (.goto 7, 3) := by decide +kernel
theorem dX2_rank_12 : decode cX2_rank 12 = .ok (.aload_n 0, 1) := by decide +kernel
theorem dX2_rank_13 : decode cX2_rank 13 = .ok (.getfield 19, 3) := by decide +kernel
theorem dX2_rank_16 : decode cX2_rank 16 = .ok (.ireturn, 1) := by decide +kernel
theorem dX3_init_0 : decode cX3_init 0 = .ok (.aload_n 0, 1) := by decide +kernel
theorem dX3_init_1 : decode cX3_init 1 = .ok (.invokespecial 1, 3) := by decide +kernel
theorem dX3_init_4 : decode cX3_init 4 = .ok (.aload_n 0, 1) := by decide +kernel
theorem dX3_init_5 : decode cX3_init 5 = .ok (.new 7, 3) := by decide +kernel
theorem dX3_init_8 : decode cX3_init 8 = .ok (.dup, 1) := by decide +kernel
theorem dX3_init_9 : decode cX3_init 9 = .ok (.invokespecial 9, 3) := by decide +kernel
theorem dX3_init_12 : decode cX3_init 12 = .ok (.putfield 10, 3) := by decide +kernel
theorem dX3_init_15 : decode cX3_init 15 = .ok (.aload_n 0, 1) := by decide +kernel
theorem dX3_init_16 : decode cX3_init 16 = .ok (.new 7, 3) := by decide +kernel
theorem dX3_init_19 : decode cX3_init 19 = .ok (.dup, 1) := by decide +kernel
theorem dX3_init_20 : decode cX3_init 20 = .ok (.invokespecial 9, 3) := by decide +kernel
theorem dX3_init_23 : decode cX3_init 23 = .ok (.putfield 16, 3) := by decide +kernel
theorem dX3_init_26 : decode cX3_init 26 = .ok (.return_, 1) := by decide +kernel
theorem dX3_person_0 : decode cX3_person 0 = .ok (.iload_n 1, 1) := by decide +kernel
theorem dX3_person_1 : decode cX3_person 1 = .ok (.iconst 1, 1) := by decide +kernel
theorem dX3_person_2 : decode cX3_person 2 = .ok (.bipush 120, 2) := by decide +kernel
theorem dX3_person_4 : decode cX3_person 4 = .ok (.invokestatic 19, 3) := by decide +kernel
theorem dX3_person_7 : decode cX3_person 7 = .ok (.iload_n 2, 1) := by decide +kernel
theorem dX3_person_8 : decode cX3_person 8 = .ok (.iconst 0, 1) := by decide +kernel
theorem dX3_person_9 : decode cX3_person 9 = .ok (.ldc 23, 2) := by decide +kernel
theorem dX3_person_11 : decode cX3_person 11 = .ok (.invokestatic 19, 3) := by decide +kernel
theorem dX3_person_14 : decode cX3_person 14 = .ok (.aload_n 0, 1) := by decide +kernel
theorem dX3_person_15 : decode cX3_person 15 = .ok (.getfield 10, 3) := by decide +kernel
theorem dX3_person_18 : decode cX3_person 18 = .ok (.invokevirtual 24, 3) := by decide +kernel
theorem dX3_person_21 : decode cX3_person 21 = .ok (.bipush 16, 2) := by decide +kernel
theorem dX3_person_23 : decode cX3_person 23 = .ok (.if_icmp .lt 13, 3) := by decide +kernel
theorem dX3_person_26 : decode cX3_person 26 = .ok (.new 28, 3) := by decide +kernel
theorem dX3_person_29 : decode cX3_person 29 = .ok (.dup, 1) := by decide +kernel
theorem dX3_person_30 : decode cX3_person 30 = .ok (.ldc 30, 2) := by decide +kernel
theorem dX3_person_32 : decode cX3_person 32 = .ok (.invokespecial 32, 3) := by decide +kernel
theorem dX3_person_35 : decode cX3_person 35 = .ok (.athrow, 1) := by decide +kernel
theorem dX3_person_36 : decode cX3_person 36 = .ok (.new 35, 3) := by decide +kernel
theorem dX3_person_39 : decode cX3_person 39 = .ok (.dup, 1) := by decide +kernel
theorem dX3_person_40 : decode cX3_person 40 = .ok (.aload_n 0, 1) := by decide +kernel
theorem dX3_person_41 : decode cX3_person 41 = .ok (.getfield 10, 3) := by decide +kernel
theorem dX3_person_44 : decode cX3_person 44 = .ok (.invokevirtual 24, 3) := by decide +kernel
theorem dX3_person_47 : decode cX3_person 47 = .ok (.iload_n 1, 1) := by decide +kernel
theorem dX3_person_48 : decode cX3_person 48 = .ok (.iload_n 2, 1) := by decide +kernel
theorem dX3_person_49 : decode cX3_person 49 = .ok (.invokespecial 37, 3) := by decide +kernel
theorem dX3_person_52 : decode cX3_person 52 = .ok (.astore_n 3, 1) := by decide +kernel
theorem dX3_person_53 : decode cX3_person 53 = .ok (.aload_n 0, 1) := by decide +kernel
theorem dX3_person_54 : decode cX3_person 54 = .ok (.getfield 10, 3) := by decide +kernel
theorem dX3_person_57 : decode cX3_person 57 = .ok (.aload_n 3, 1) := by decide +kernel
theorem dX3_person_58 : decode cX3_person 58 = .ok (.invokevirtual 39, 3) := by decide +kernel
theorem dX3_person_61 : decode cX3_person 61 = .ok (.pop, 1) := by decide +kernel
theorem dX3_person_62 : decode cX3_person 62 = .ok (.aload_n 3, 1) := by decide +kernel
theorem dX3_person_63 : decode cX3_person 63 = .ok (.getfield 43, 3) := by decide +kernel
theorem dX3_person_66 : decode cX3_person 66 = .ok (.ireturn, 1) := by decide +kernel
theorem dX3_earn_0 : decode cX3_earn 0 = .ok (.aload_n 0, 1) := by decide +kernel
theorem dX3_earn_1 : decode cX3_earn 1 = .ok (.iload_n 1, 1) := by decide +kernel
theorem dX3_earn_2 : decode cX3_earn 2 = .ok (.invokevirtual 47, 3) := by decide +kernel
theorem dX3_earn_5 : decode cX3_earn 5 = .ok (.astore_n 3, 1) := by decide +kernel
theorem dX3_earn_6 : decode cX3_earn 6 = .ok (.iload_n 2, 1) := by decide +kernel
theorem dX3_earn_7 : decode cX3_earn 7 = .ok (.sipush (-10000), 3) := by decide +kernel
theorem dX3_earn_10 : decode cX3_earn 10 = .ok (.sipush 10000, 3) := by decide +kernel
theorem dX3_earn_13 : decode cX3_earn 13 = .ok (.invokestatic 19, 3) := by decide +kernel
theorem dX3_earn_16 : decode cX3_earn 16 = .ok (.aload_n 3, 1) := by decide +kernel
theorem dX3_earn_17 : decode cX3_earn 17 = .ok (.getfield 51, 3) := by decide +kernel
theorem dX3_earn_20 : decode cX3_earn 20 = .ok (.iload_n 2, 1) := by decide +kernel
theorem dX3_earn_21 : decode cX3_earn 21 = .ok (.iadd, 1) := by decide +kernel
theorem dX3_earn_22 : decode cX3_earn 22 = .ok (.istore 4, 2) := by decide +kernel
theorem dX3_earn_24 : decode cX3_earn 24 = .ok (.aload_n 3, 1) := by decide +kernel
theorem dX3_earn_25 : decode cX3_earn 25 = .ok (.getfield 54, 3) := by decide +kernel
theorem dX3_earn_28 : decode cX3_earn 28 = .ok (.ifCond .ne 15, 3) := by decide +kernel
theorem dX3_earn_31 : decode cX3_earn 31 = .ok (.iload 4, 2) := by decide +kernel
theorem dX3_earn_33 : decode cX3_earn 33 = .ok (.ifCond .lt 10, 3) := by decide +kernel
theorem dX3_earn_36 : decode cX3_earn 36 = .ok (.iload 4, 2) := by decide +kernel
theorem dX3_earn_38 : decode cX3_earn 38 = .ok (.ldc 58, 2) := by decide +kernel
theorem dX3_earn_40 : decode cX3_earn 40 = .ok (.if_icmp .le 13, 3) := by decide +kernel
theorem dX3_earn_43 : decode cX3_earn 43 = .ok (.new 28, 3) := by decide +kernel
theorem dX3_earn_46 : decode cX3_earn 46 = .ok (.dup, 1) := by decide +kernel
theorem dX3_earn_47 : decode cX3_earn 47 = .ok (.ldc 59, 2) := by decide +kernel
theorem dX3_earn_49 : decode cX3_earn 49 = .ok (.invokespecial 32, 3) := by decide +kernel
theorem dX3_earn_52 : decode cX3_earn 52 = .ok (.athrow, 1) := by decide +kernel
theorem dX3_earn_53 : decode cX3_earn 53 = .ok (.aload_n 3, 1) := by decide +kernel
theorem dX3_earn_54 : decode cX3_earn 54 = .ok (.iload 4, 2) := by decide +kernel
theorem dX3_earn_56 : decode cX3_earn 56 = .ok (.putfield 51, 3) := by decide +kernel
theorem dX3_earn_59 : decode cX3_earn 59 = .ok (.aload_n 0, 1) := by decide +kernel
theorem dX3_earn_60 : decode cX3_earn 60 = .ok (.dup, 1) := by decide +kernel
theorem dX3_earn_61 : decode cX3_earn 61 = .ok (.getfield 61, 3) := by decide +kernel
theorem dX3_earn_64 : decode cX3_earn 64 = .ok (.iload_n 2, 1) := by decide +kernel
theorem dX3_earn_65 : decode cX3_earn 65 = .ok (.iadd, 1) := by decide +kernel
theorem dX3_earn_66 : decode cX3_earn 66 = .ok (.putfield 61, 3) := by decide +kernel
theorem dX3_earn_69 : decode cX3_earn 69 = .ok (.iload 4, 2) := by decide +kernel
theorem dX3_earn_71 : decode cX3_earn 71 = .ok (.ireturn, 1) := by decide +kernel
theorem dX3_die_0 : decode cX3_die 0 = .ok (.aload_n 0, 1) := by decide +kernel
theorem dX3_die_1 : decode cX3_die 1 = .ok (.iload_n 1, 1) := by decide +kernel
theorem dX3_die_2 : decode cX3_die 2 = .ok (.invokevirtual 47, 3) := by decide +kernel
theorem dX3_die_5 : decode cX3_die 5 = .ok (.astore_n 3, 1) := by decide +kernel
theorem dX3_die_6 : decode cX3_die 6 = .ok (.aload_n 0, 1) := by decide +kernel
theorem dX3_die_7 : decode cX3_die 7 = .ok (.iload_n 2, 1) := by decide +kernel
theorem dX3_die_8 : decode cX3_die 8 = .ok (.invokevirtual 47, 3) := by decide +kernel
theorem dX3_die_11 : decode cX3_die 11 = .ok (.astore 4, 2) := by decide +kernel
theorem dX3_die_13 : decode cX3_die 13 = .ok (.iload_n 1, 1) := by decide +kernel
theorem dX3_die_14 : decode cX3_die 14 = .ok (.iload_n 2, 1) := by decide +kernel
theorem dX3_die_15 : decode cX3_die 15 = .ok (.if_icmp .ne 13, 3) := by decide +kernel
theorem dX3_die_18 : decode cX3_die 18 = .ok (.new 64, 3) := by decide +kernel
theorem dX3_die_21 : decode cX3_die 21 = .ok (.dup, 1) := by decide +kernel
theorem dX3_die_22 : decode cX3_die 22 = .ok (.ldc 66, 2) := by decide +kernel
theorem dX3_die_24 : decode cX3_die 24 = .ok (.invokespecial 68, 3) := by decide +kernel
theorem dX3_die_27 : decode cX3_die 27 = .ok (.athrow, 1) := by decide +kernel
theorem dX3_die_28 : decode cX3_die 28 = .ok (.aload_n 3, 1) := by decide +kernel
theorem dX3_die_29 : decode cX3_die 29 = .ok (.getfield 54, 3) := by decide +kernel
theorem dX3_die_32 : decode cX3_die 32 = .ok (.ifCond .ne 26, 3) := by decide +kernel
theorem dX3_die_35 : decode cX3_die 35 = .ok (.aload 4, 2) := by decide +kernel
theorem dX3_die_37 : decode cX3_die 37 = .ok (.getfield 54, 3) := by decide +kernel
theorem dX3_die_40 : decode cX3_die 40 = .ok (.ifCond .ne 18, 3) := by decide +kernel
theorem dX3_die_43 : decode cX3_die 43 = .ok (.aload_n 3, 1) := by decide +kernel
theorem dX3_die_44 : decode cX3_die 44 = .ok (.getfield 69, 3) := by decide +kernel
theorem dX3_die_47 : decode cX3_die 47 = .ok (.aload 4, 2) := by decide +kernel
theorem dX3_die_49 : decode cX3_die 49 = .ok (.getfield 69, 3) := by decide +kernel
theorem dX3_die_52 : decode cX3_die 52 = .ok (.iadd, 1) := by decide +kernel
theorem dX3_die_53 : decode cX3_die 53 = .ok (.bipush 100, 2) := by decide +kernel
theorem dX3_die_55 : decode cX3_die 55 = .ok (.if_icmp .le 13, 3) := by decide +kernel
theorem dX3_die_58 : decode cX3_die 58 = .ok (.new 28, 3) := by decide +kernel
theorem dX3_die_61 : decode cX3_die 61 = .ok (.dup, 1) := by decide +kernel
theorem dX3_die_62 : decode cX3_die 62 = .ok (.ldc 72, 2) := by decide +kernel
theorem dX3_die_64 : decode cX3_die 64 = .ok (.invokespecial 32, 3) := by decide +kernel
theorem dX3_die_67 : decode cX3_die 67 = .ok (.athrow, 1) := by decide +kernel
theorem dX3_die_68 : decode cX3_die 68 = .ok (.aload_n 3, 1) := by decide +kernel
theorem dX3_die_69 : decode cX3_die 69 = .ok (.aload 4, 2) := by decide +kernel
theorem dX3_die_71 : decode cX3_die 71 = .ok (.invokevirtual 74, 3) := by decide +kernel
theorem dX3_die_74 : decode cX3_die 74 = .ok (.iconst 0, 1) := by decide +kernel
theorem dX3_die_75 : decode cX3_die 75 = .ok (.istore 5, 2) := by decide +kernel
theorem dX3_die_77 : decode cX3_die 77 = .ok (.iconst 0, 1) := by decide +kernel
theorem dX3_die_78 : decode cX3_die 78 = .ok (.istore 6, 2) := by decide +kernel
theorem dX3_die_80 : decode cX3_die 80 = .ok (.iload 6, 2) := by decide +kernel
theorem dX3_die_82 : decode cX3_die 82 = .ok (.aload_n 0, 1) := by decide +kernel
theorem dX3_die_83 : decode cX3_die 83 = .ok (.getfield 16, 3) := by decide +kernel
theorem dX3_die_86 : decode cX3_die 86 = .ok (.invokevirtual 24, 3) := by decide +kernel
theorem dX3_die_89 : decode cX3_die 89 = .ok (.if_icmp .ge 33, 3) := by decide +kernel
theorem dX3_die_92 : decode cX3_die 92 = .ok (.aload_n 0, 1) := by decide +kernel
theorem dX3_die_93 : decode cX3_die 93 = .ok (.getfield 16, 3) := by decide +kernel
theorem dX3_die_96 : decode cX3_die 96 = .ok (.iload 6, 2) := by decide +kernel
theorem dX3_die_98 : decode cX3_die 98 = .ok (.invokevirtual 78, 3) := by decide +kernel
theorem dX3_die_101 : decode cX3_die 101 = .ok (.checkcast 82, 3) := by decide +kernel
theorem dX3_die_104 : decode cX3_die 104 = .ok (.aload_n 3, 1) := by decide +kernel
theorem dX3_die_105 : decode cX3_die 105 = .ok (.aload 4, 2) := by decide +kernel
theorem dX3_die_107 : decode cX3_die 107 = .ok (.invokevirtual 84, 3) := by decide +kernel
theorem dX3_die_110 : decode cX3_die 110 = .ok (.ifCond .eq 6, 3) := by decide +kernel
theorem dX3_die_113 : decode cX3_die 113 = .ok (.iinc 5 1, 3) := by decide +kernel
theorem dX3_die_116 : decode cX3_die 116 = .ok (.iinc 6 1, 3) := by decide +kernel
theorem dX3_die_119 : decode cX3_die 119 = .ok (.goto (-39), 3) := by decide +kernel
theorem dX3_die_122 : decode cX3_die 122 = .ok (.iload 5, 2) := by decide +kernel
theorem dX3_die_124 : decode cX3_die 124 = .ok (.ireturn, 1) := by decide +kernel
theorem dX3_circle_0 : decode cX3_circle 0 = .ok (.iload_n 1, 1) := by decide +kernel
theorem dX3_circle_1 : decode cX3_circle 1 = .ok (.iconst 1, 1) := by decide +kernel
theorem dX3_circle_2 : decode cX3_circle 2 = .ok (.sipush 1000, 3) := by decide +kernel
theorem dX3_circle_5 : decode cX3_circle 5 = .ok (.invokestatic 19, 3) := by decide +kernel
theorem dX3_circle_8 : decode cX3_circle 8 = .ok (.iload_n 2, 1) := by decide +kernel
theorem dX3_circle_9 : decode cX3_circle 9 = .ok (.iconst 0, 1) := by decide +kernel
theorem dX3_circle_10 : decode cX3_circle 10 = .ok (.iconst 3, 1) := by decide +kernel
theorem dX3_circle_11 : decode cX3_circle 11 = .ok (.invokestatic 19, 3) := by decide +kernel
theorem dX3_circle_14 : decode cX3_circle 14 = .ok (.aload_n 0, 1) := by decide +kernel
theorem dX3_circle_15 : decode cX3_circle 15 = .ok (.getfield 16, 3) := by decide +kernel
theorem dX3_circle_18 : decode cX3_circle 18 = .ok (.invokevirtual 24, 3) := by decide +kernel
theorem dX3_circle_21 : decode cX3_circle 21 = .ok (.iconst 4, 1) := by decide +kernel
theorem dX3_circle_22 : decode cX3_circle 22 = .ok (.if_icmp .lt 13, 3) := by decide +kernel
theorem dX3_circle_25 : decode cX3_circle 25 = .ok (.new 28, 3) := by decide +kernel
theorem dX3_circle_28 : decode cX3_circle 28 = .ok (.dup, 1) := by decide +kernel
theorem dX3_circle_29 : decode cX3_circle 29 = .ok (.ldc 88, 2) := by decide +kernel
theorem dX3_circle_31 : decode cX3_circle 31 = .ok (.invokespecial 32, 3) := by decide +kernel
theorem dX3_circle_34 : decode cX3_circle 34 = .ok (.athrow, 1) := by decide +kernel
theorem dX3_circle_35 : decode cX3_circle 35 = .ok (.aload_n 0, 1) := by decide +kernel
theorem dX3_circle_36 : decode cX3_circle 36 = .ok (.getfield 16, 3) := by decide +kernel
theorem dX3_circle_39 : decode cX3_circle 39 = .ok (.new 82, 3) := by decide +kernel
theorem dX3_circle_42 : decode cX3_circle 42 = .ok (.dup, 1) := by decide +kernel
theorem dX3_circle_43 : decode cX3_circle 43 = .ok (.iload_n 1, 1) := by decide +kernel
theorem dX3_circle_44 : decode cX3_circle 44 = .ok (.iload_n 2, 1) := by decide +kernel
theorem dX3_circle_45 : decode cX3_circle 45 = .ok (.invokespecial 90, 3) := by decide +kernel
theorem dX3_circle_48 : decode cX3_circle 48 = .ok (.invokevirtual 39, 3) := by decide +kernel
theorem dX3_circle_51 : decode cX3_circle 51 = .ok (.pop, 1) := by decide +kernel
theorem dX3_circle_52 : decode cX3_circle 52 = .ok (.aload_n 0, 1) := by decide +kernel
theorem dX3_circle_53 : decode cX3_circle 53 = .ok (.getfield 16, 3) := by decide +kernel
theorem dX3_circle_56 : decode cX3_circle 56 = .ok (.invokevirtual 24, 3) := by decide +kernel
theorem dX3_circle_59 : decode cX3_circle 59 = .ok (.iconst 1, 1) := by decide +kernel
theorem dX3_circle_60 : decode cX3_circle 60 = .ok (.isub, 1) := by decide +kernel
theorem dX3_circle_61 : decode cX3_circle 61 = .ok (.ireturn, 1) := by decide +kernel
theorem dX3_enter_0 : decode cX3_enter 0 = .ok (.aload_n 0, 1) := by decide +kernel
theorem dX3_enter_1 : decode cX3_enter 1 = .ok (.iload_n 1, 1) := by decide +kernel
theorem dX3_enter_2 : decode cX3_enter 2 = .ok (.invokevirtual 93, 3) := by decide +kernel
theorem dX3_enter_5 : decode cX3_enter 5 = .ok (.astore_n 3, 1) := by decide +kernel
theorem dX3_enter_6 : decode cX3_enter 6 = .ok (.aload_n 0, 1) := by decide +kernel
theorem dX3_enter_7 : decode cX3_enter 7 = .ok (.iload_n 2, 1) := by decide +kernel
theorem dX3_enter_8 : decode cX3_enter 8 = .ok (.invokevirtual 47, 3) := by decide +kernel
theorem dX3_enter_11 : decode cX3_enter 11 = .ok (.astore 4, 2) := by decide +kernel
theorem dX3_enter_13 : decode cX3_enter 13 = .ok (.aload_n 3, 1) := by decide +kernel
theorem dX3_enter_14 : decode cX3_enter 14 = .ok (.getfield 97, 3) := by decide +kernel
theorem dX3_enter_17 : decode cX3_enter 17 = .ok (.ifCond .ne 15, 3) := by decide +kernel
theorem dX3_enter_20 : decode cX3_enter 20 = .ok (.aload_n 3, 1) := by decide +kernel
theorem dX3_enter_21 : decode cX3_enter 21 = .ok (.getfield 100, 3) := by decide +kernel
theorem dX3_enter_24 : decode cX3_enter 24 = .ok (.invokevirtual 24, 3) := by decide +kernel
theorem dX3_enter_27 : decode cX3_enter 27 = .ok (.bipush 10, 2) := by decide +kernel
theorem dX3_enter_29 : decode cX3_enter 29 = .ok (.if_icmp .lt 13, 3) := by decide +kernel
theorem dX3_enter_32 : decode cX3_enter 32 = .ok (.new 28, 3) := by decide +kernel
theorem dX3_enter_35 : decode cX3_enter 35 = .ok (.dup, 1) := by decide +kernel
theorem dX3_enter_36 : decode cX3_enter 36 = .ok (.ldc 103, 2) := by decide +kernel
theorem dX3_enter_38 : decode cX3_enter 38 = .ok (.invokespecial 32, 3) := by decide +kernel
theorem dX3_enter_41 : decode cX3_enter 41 = .ok (.athrow, 1) := by decide +kernel
theorem dX3_enter_42 : decode cX3_enter 42 = .ok (.aload 4, 2) := by decide +kernel
theorem dX3_enter_44 : decode cX3_enter 44 = .ok (.getfield 54, 3) := by decide +kernel
theorem dX3_enter_47 : decode cX3_enter 47 = .ok (.ifCond .ne 12, 3) := by decide +kernel
theorem dX3_enter_50 : decode cX3_enter 50 = .ok (.aload_n 3, 1) := by decide +kernel
theorem dX3_enter_51 : decode cX3_enter 51 = .ok (.aload 4, 2) := by decide +kernel
theorem dX3_enter_53 : decode cX3_enter 53 = .ok (.invokevirtual 105, 3) := by decide +kernel
theorem dX3_enter_56 : decode cX3_enter 56 = .ok (.ifnull 13, 3) := by decide +kernel
theorem dX3_enter_59 : decode cX3_enter 59 = .ok (.new 28, 3) := by decide +kernel
theorem dX3_enter_62 : decode cX3_enter 62 = .ok (.dup, 1) := by decide +kernel
theorem dX3_enter_63 : decode cX3_enter 63 = .ok (.ldc 109, 2) := by decide +kernel
theorem dX3_enter_65 : decode cX3_enter 65 = .ok (.invokespecial 32, 3) := by decide +kernel
theorem dX3_enter_68 : decode cX3_enter 68 = .ok (.athrow, 1) := by decide +kernel
theorem dX3_enter_69 : decode cX3_enter 69 = .ok (.aload_n 3, 1) := by decide +kernel
theorem dX3_enter_70 : decode cX3_enter 70 = .ok (.getfield 100, 3) := by decide +kernel
theorem dX3_enter_73 : decode cX3_enter 73 = .ok (.new 111, 3) := by decide +kernel
theorem dX3_enter_76 : decode cX3_enter 76 = .ok (.dup, 1) := by decide +kernel
theorem dX3_enter_77 : decode cX3_enter 77 = .ok (.aload 4, 2) := by decide +kernel
theorem dX3_enter_79 : decode cX3_enter 79 = .ok (.invokespecial 113, 3) := by decide +kernel
theorem dX3_enter_82 : decode cX3_enter 82 = .ok (.invokevirtual 39, 3) := by decide +kernel
theorem dX3_enter_85 : decode cX3_enter 85 = .ok (.pop, 1) := by decide +kernel
theorem dX3_enter_86 : decode cX3_enter 86 = .ok (.aload_n 3, 1) := by decide +kernel
theorem dX3_enter_87 : decode cX3_enter 87 = .ok (.getfield 100, 3) := by decide +kernel
theorem dX3_enter_90 : decode cX3_enter 90 = .ok (.invokevirtual 24, 3) := by decide +kernel
theorem dX3_enter_93 : decode cX3_enter 93 = .ok (.ireturn, 1) := by decide +kernel
theorem dX3_start_0 : decode cX3_start 0 = .ok (.aload_n 0, 1) := by decide +kernel
theorem dX3_start_1 : decode cX3_start 1 = .ok (.iload_n 1, 1) := by decide +kernel
theorem dX3_start_2 : decode cX3_start 2 = .ok (.invokevirtual 93, 3) := by decide +kernel
theorem dX3_start_5 : decode cX3_start 5 = .ok (.astore_n 3, 1) := by decide +kernel
theorem dX3_start_6 : decode cX3_start 6 = .ok (.iload_n 2, 1) := by decide +kernel
theorem dX3_start_7 : decode cX3_start 7 = .ok (.iconst 0, 1) := by decide +kernel
theorem dX3_start_8 : decode cX3_start 8 = .ok (.sipush 9999, 3) := by decide +kernel
theorem dX3_start_11 : decode cX3_start 11 = .ok (.invokestatic 19, 3) := by decide +kernel
theorem dX3_start_14 : decode cX3_start 14 = .ok (.aload_n 3, 1) := by decide +kernel
theorem dX3_start_15 : decode cX3_start 15 = .ok (.getfield 97, 3) := by decide +kernel
theorem dX3_start_18 : decode cX3_start 18 = .ok (.ifCond .ne 14, 3) := by decide +kernel
theorem dX3_start_21 : decode cX3_start 21 = .ok (.aload_n 3, 1) := by decide +kernel
theorem dX3_start_22 : decode cX3_start 22 = .ok (.getfield 100, 3) := by decide +kernel
theorem dX3_start_25 : decode cX3_start 25 = .ok (.invokevirtual 24, 3) := by decide +kernel
theorem dX3_start_28 : decode cX3_start 28 = .ok (.iconst 2, 1) := by decide +kernel
theorem dX3_start_29 : decode cX3_start 29 = .ok (.if_icmp .ge 13, 3) := by decide +kernel
theorem dX3_start_32 : decode cX3_start 32 = .ok (.new 28, 3) := by decide +kernel
theorem dX3_start_35 : decode cX3_start 35 = .ok (.dup, 1) := by decide +kernel
theorem dX3_start_36 : decode cX3_start 36 = .ok (.ldc 115, 2) := by decide +kernel
theorem dX3_start_38 : decode cX3_start 38 = .ok (.invokespecial 32, 3) := by decide +kernel
theorem dX3_start_41 : decode cX3_start 41 = .ok (.athrow, 1) := by decide +kernel
theorem dX3_start_42 : decode cX3_start 42 = .ok (.aload_n 3, 1) := by decide +kernel
theorem dX3_start_43 : decode cX3_start 43 = .ok (.iconst 1, 1) := by decide +kernel
theorem dX3_start_44 : decode cX3_start 44 = .ok (.putfield 97, 3) := by decide +kernel
theorem dX3_start_47 : decode cX3_start 47 = .ok (.aload_n 3, 1) := by decide +kernel
theorem dX3_start_48 : decode cX3_start 48 = .ok (.iload_n 2, 1) := by decide +kernel
theorem dX3_start_49 : decode cX3_start 49 = .ok (.invokevirtual 117, 3) := by decide +kernel
theorem dX3_start_52 : decode cX3_start 52 = .ok (.aload_n 3, 1) := by decide +kernel
theorem dX3_start_53 : decode cX3_start 53 = .ok (.invokevirtual 121, 3) := by decide +kernel
theorem dX3_start_56 : decode cX3_start 56 = .ok (.ifCond .eq 13, 3) := by decide +kernel
theorem dX3_start_59 : decode cX3_start 59 = .ok (.aload_n 3, 1) := by decide +kernel
theorem dX3_start_60 : decode cX3_start 60 = .ok (.invokevirtual 125, 3) := by decide +kernel
theorem dX3_start_63 : decode cX3_start 63 = .ok (.invokestatic 129, 3) := by decide +kernel
theorem dX3_start_66 : decode cX3_start 66 = .ok (.goto 4, 3) := by decide +kernel
theorem dX3_start_69 : decode cX3_start 69 = .ok (.iconst (-1), 1) := by decide +kernel
theorem dX3_start_70 : decode cX3_start 70 = .ok (.ireturn, 1) := by decide +kernel
theorem dX3_want_0 : decode cX3_want 0 = .ok (.aload_n 0, 1) := by decide +kernel
theorem dX3_want_1 : decode cX3_want 1 = .ok (.iload_n 1, 1) := by decide +kernel
theorem dX3_want_2 : decode cX3_want 2 = .ok (.invokevirtual 93, 3) := by decide +kernel
theorem dX3_want_5 : decode cX3_want 5 = .ok (.astore 5, 2) := by decide +kernel
theorem dX3_want_7 : decode cX3_want 7 = .ok (.aload_n 0, 1) := by decide +kernel
theorem dX3_want_8 : decode cX3_want 8 = .ok (.iload_n 2, 1) := by decide +kernel
theorem dX3_want_9 : decode cX3_want 9 = .ok (.invokevirtual 47, 3) := by decide +kernel
theorem dX3_want_12 : decode cX3_want 12 = .ok (.astore 6, 2) := by decide +kernel
theorem dX3_want_14 : decode cX3_want 14 = .ok (.iload_n 3, 1) := by decide +kernel
theorem dX3_want_15 : decode cX3_want 15 = .ok (.iconst 0, 1) := by decide +kernel
theorem dX3_want_16 : decode cX3_want 16 = .ok (.sipush 10000, 3) := by decide +kernel
theorem dX3_want_19 : decode cX3_want 19 = .ok (.invokestatic 19, 3) := by decide +kernel
theorem dX3_want_22 : decode cX3_want 22 = .ok (.aload 5, 2) := by decide +kernel
theorem dX3_want_24 : decode cX3_want 24 = .ok (.aload 6, 2) := by decide +kernel
theorem dX3_want_26 : decode cX3_want 26 = .ok (.invokevirtual 105, 3) := by decide +kernel
theorem dX3_want_29 : decode cX3_want 29 = .ok (.astore 7, 2) := by decide +kernel
theorem dX3_want_31 : decode cX3_want 31 = .ok (.aload 7, 2) := by decide +kernel
theorem dX3_want_33 : decode cX3_want 33 = .ok (.ifnonnull 13, 3) := by decide +kernel
theorem dX3_want_36 : decode cX3_want 36 = .ok (.new 28, 3) := by decide +kernel
theorem dX3_want_39 : decode cX3_want 39 = .ok (.dup, 1) := by decide +kernel
theorem dX3_want_40 : decode cX3_want 40 = .ok (.ldc 133, 2) := by decide +kernel
theorem dX3_want_42 : decode cX3_want 42 = .ok (.invokespecial 32, 3) := by decide +kernel
theorem dX3_want_45 : decode cX3_want 45 = .ok (.athrow, 1) := by decide +kernel
theorem dX3_want_46 : decode cX3_want 46 = .ok (.iload 4, 2) := by decide +kernel
theorem dX3_want_48 : decode cX3_want 48 = .ok (.ifCond .eq 12, 3) := by decide +kernel
theorem dX3_want_51 : decode cX3_want 51 = .ok (.aload 7, 2) := by decide +kernel
theorem dX3_want_53 : decode cX3_want 53 = .ok (.iload_n 3, 1) := by decide +kernel
theorem dX3_want_54 : decode cX3_want 54 = .ok (.invokevirtual 135, 3) := by decide +kernel
theorem dX3_want_57 : decode cX3_want 57 = .ok (.goto 9, 3) := by decide +kernel
theorem dX3_want_60 : decode cX3_want 60 = .ok (.aload 7, 2) := by decide +kernel
theorem dX3_want_62 : decode cX3_want 62 = .ok (.iload_n 3, 1) := by decide +kernel
theorem dX3_want_63 : decode cX3_want 63 = .ok (.invokevirtual 139, 3) := by decide +kernel
theorem dX3_want_66 : decode cX3_want 66 = .ok (.ireturn, 1) := by decide +kernel
theorem dX3_meet_0 : decode cX3_meet 0 = .ok (.aload_n 0, 1) := by decide +kernel
theorem dX3_meet_1 : decode cX3_meet 1 = .ok (.iload_n 1, 1) := by decide +kernel
theorem dX3_meet_2 : decode cX3_meet 2 = .ok (.invokevirtual 93, 3) := by decide +kernel
theorem dX3_meet_5 : decode cX3_meet 5 = .ok (.astore_n 3, 1) := by decide +kernel
theorem dX3_meet_6 : decode cX3_meet 6 = .ok (.aload_n 3, 1) := by decide +kernel
theorem dX3_meet_7 : decode cX3_meet 7 = .ok (.getfield 97, 3) := by decide +kernel
theorem dX3_meet_10 : decode cX3_meet 10 = .ok (.ifCond .eq 14, 3) := by decide +kernel
theorem dX3_meet_13 : decode cX3_meet 13 = .ok (.aload_n 3, 1) := by decide +kernel
theorem dX3_meet_14 : decode cX3_meet 14 = .ok (.getfield 100, 3) := by decide +kernel
theorem dX3_meet_17 : decode cX3_meet 17 = .ok (.invokevirtual 24, 3) := by decide +kernel
theorem dX3_meet_20 : decode cX3_meet 20 = .ok (.iconst 2, 1) := by decide +kernel
theorem dX3_meet_21 : decode cX3_meet 21 = .ok (.if_icmp .ge 13, 3) := by decide +kernel
theorem dX3_meet_24 : decode cX3_meet 24 = .ok (.new 28, 3) := by decide +kernel
theorem dX3_meet_27 : decode cX3_meet 27 = .ok (.dup, 1) := by decide +kernel
theorem dX3_meet_28 : decode cX3_meet 28 = .ok (.ldc 142, 2) := by decide +kernel
theorem dX3_meet_30 : decode cX3_meet 30 = .ok (.invokespecial 32, 3) := by decide +kernel
theorem dX3_meet_33 : decode cX3_meet 33 = .ok (.athrow, 1) := by decide +kernel
theorem dX3_meet_34 : decode cX3_meet 34 = .ok (.aload_n 3, 1) := by decide +kernel
theorem dX3_meet_35 : decode cX3_meet 35 = .ok (.iload_n 2, 1) := by decide +kernel
theorem dX3_meet_36 : decode cX3_meet 36 = .ok (.invokevirtual 144, 3) := by decide +kernel
theorem dX3_meet_39 : decode cX3_meet 39 = .ok (.aload_n 3, 1) := by decide +kernel
theorem dX3_meet_40 : decode cX3_meet 40 = .ok (.invokevirtual 125, 3) := by decide +kernel
theorem dX3_meet_43 : decode cX3_meet 43 = .ok (.astore 4, 2) := by decide +kernel
theorem dX3_meet_45 : decode cX3_meet 45 = .ok (.aload_n 3, 1) := by decide +kernel
theorem dX3_meet_46 : decode cX3_meet 46 = .ok (.aload 4, 2) := by decide +kernel
theorem dX3_meet_48 : decode cX3_meet 48 = .ok (.invokevirtual 148, 3) := by decide +kernel
theorem dX3_meet_51 : decode cX3_meet 51 = .ok (.aload_n 3, 1) := by decide +kernel
theorem dX3_meet_52 : decode cX3_meet 52 = .ok (.dup, 1) := by decide +kernel
theorem dX3_meet_53 : decode cX3_meet 53 = .ok (.getfield 152, 3) := by decide +kernel
theorem dX3_meet_56 : decode cX3_meet 56 = .ok (.iconst 1, 1) := by decide +kernel
theorem dX3_meet_57 : decode cX3_meet 57 = .ok (.iadd, 1) := by decide +kernel
theorem dX3_meet_58 : decode cX3_meet 58 = .ok (.putfield 152, 3) := by decide +kernel
theorem dX3_meet_61 : decode cX3_meet 61 = .ok (.aload_n 3, 1) := by decide +kernel
theorem dX3_meet_62 : decode cX3_meet 62 = .ok (.invokevirtual 155, 3) := by decide +kernel
theorem dX3_meet_65 : decode cX3_meet 65 = .ok (.aload_n 3, 1) := by decide +kernel
theorem dX3_meet_66 : decode cX3_meet 66 = .ok (.invokevirtual 158, 3) := by decide +kernel
theorem dX3_meet_69 : decode cX3_meet 69 = .ok (.aload 4, 2) := by decide +kernel
theorem dX3_meet_71 : decode cX3_meet 71 = .ok (.invokestatic 129, 3) := by decide +kernel
theorem dX3_meet_74 : decode cX3_meet 74 = .ok (.ireturn, 1) := by decide +kernel
theorem dX3_leave_0 : decode cX3_leave 0 = .ok (.aload_n 0, 1) := by decide +kernel
theorem dX3_leave_1 : decode cX3_leave 1 = .ok (.iload_n 1, 1) := by decide +kernel
theorem dX3_leave_2 : decode cX3_leave 2 = .ok (.invokevirtual 93, 3) := by decide +kernel
theorem dX3_leave_5 : decode cX3_leave 5 = .ok (.astore_n 3, 1) := by decide +kernel
theorem dX3_leave_6 : decode cX3_leave 6 = .ok (.aload_n 0, 1) := by decide +kernel
theorem dX3_leave_7 : decode cX3_leave 7 = .ok (.iload_n 2, 1) := by decide +kernel
theorem dX3_leave_8 : decode cX3_leave 8 = .ok (.invokevirtual 47, 3) := by decide +kernel
theorem dX3_leave_11 : decode cX3_leave 11 = .ok (.astore 4, 2) := by decide +kernel
theorem dX3_leave_13 : decode cX3_leave 13 = .ok (.aload_n 3, 1) := by decide +kernel
theorem dX3_leave_14 : decode cX3_leave 14 = .ok (.aload 4, 2) := by decide +kernel
theorem dX3_leave_16 : decode cX3_leave 16 = .ok (.invokevirtual 105, 3) := by decide +kernel
theorem dX3_leave_19 : decode cX3_leave 19 = .ok (.astore 5, 2) := by decide +kernel
theorem dX3_leave_21 : decode cX3_leave 21 = .ok (.aload 5, 2) := by decide +kernel
theorem dX3_leave_23 : decode cX3_leave 23 = .ok (.ifnull 19, 3) := by decide +kernel
theorem dX3_leave_26 : decode cX3_leave 26 = .ok (.aload 5, 2) := by decide +kernel
theorem dX3_leave_28 : decode cX3_leave 28 = .ok (.getfield 161, 3) := by decide +kernel
theorem dX3_leave_31 : decode cX3_leave 31 = .ok (.ifCond .ne 11, 3) := by decide +kernel
theorem dX3_leave_34 : decode cX3_leave 34 = .ok (.aload 5, 2) := by decide +kernel
theorem dX3_leave_36 : decode cX3_leave 36 = .ok (.getfield 164, 3) := by decide +kernel
theorem dX3_leave_39 : decode cX3_leave 39 = .ok (.ifCond .le 13, 3) := by decide +kernel
theorem dX3_leave_42 : decode cX3_leave 42 = .ok (.new 28, 3) := by decide +kernel
theorem dX3_leave_45 : decode cX3_leave 45 = .ok (.dup, 1) := by decide +kernel
theorem dX3_leave_46 : decode cX3_leave 46 = .ok (.ldc 167, 2) := by decide +kernel
theorem dX3_leave_48 : decode cX3_leave 48 = .ok (.invokespecial 32, 3) := by decide +kernel
theorem dX3_leave_51 : decode cX3_leave 51 = .ok (.athrow, 1) := by decide +kernel
theorem dX3_leave_52 : decode cX3_leave 52 = .ok (.aload 5, 2) := by decide +kernel
theorem dX3_leave_54 : decode cX3_leave 54 = .ok (.getfield 169, 3) := by decide +kernel
theorem dX3_leave_57 : decode cX3_leave 57 = .ok (.aload_n 3, 1) := by decide +kernel
theorem dX3_leave_58 : decode cX3_leave 58 = .ok (.getfield 172, 3) := by decide +kernel
theorem dX3_leave_61 : decode cX3_leave 61 = .ok (.invokestatic 175, 3) := by decide +kernel
theorem dX3_leave_64 : decode cX3_leave 64 = .ok (.istore 6, 2) := by decide +kernel
theorem dX3_leave_66 : decode cX3_leave 66 = .ok (.aload_n 3, 1) := by decide +kernel
theorem dX3_leave_67 : decode cX3_leave 67 = .ok (.aload 5, 2) := by decide +kernel
theorem dX3_leave_69 : decode cX3_leave 69 = .ok (.iload 6, 2) := by decide +kernel
theorem dX3_leave_71 : decode cX3_leave 71 = .ok (.invokevirtual 181, 3) := by decide +kernel
theorem dX3_leave_74 : decode cX3_leave 74 = .ok (.aload_n 3, 1) := by decide +kernel
theorem dX3_leave_75 : decode cX3_leave 75 = .ok (.aload 5, 2) := by decide +kernel
theorem dX3_leave_77 : decode cX3_leave 77 = .ok (.invokevirtual 185, 3) := by decide +kernel
theorem dX3_leave_80 : decode cX3_leave 80 = .ok (.iload 6, 2) := by decide +kernel
theorem dX3_leave_82 : decode cX3_leave 82 = .ok (.ireturn, 1) := by decide +kernel
theorem dX3_buy_0 : decode cX3_buy 0 = .ok (.aload_n 0, 1) := by decide +kernel
theorem dX3_buy_1 : decode cX3_buy 1 = .ok (.iload_n 1, 1) := by decide +kernel
theorem dX3_buy_2 : decode cX3_buy 2 = .ok (.invokevirtual 47, 3) := by decide +kernel
theorem dX3_buy_5 : decode cX3_buy 5 = .ok (.astore_n 3, 1) := by decide +kernel
theorem dX3_buy_6 : decode cX3_buy 6 = .ok (.iload_n 2, 1) := by decide +kernel
theorem dX3_buy_7 : decode cX3_buy 7 = .ok (.iconst 1, 1) := by decide +kernel
theorem dX3_buy_8 : decode cX3_buy 8 = .ok (.bipush 100, 2) := by decide +kernel
theorem dX3_buy_10 : decode cX3_buy 10 = .ok (.invokestatic 19, 3) := by decide +kernel
theorem dX3_buy_13 : decode cX3_buy 13 = .ok (.iload_n 2, 1) := by decide +kernel
theorem dX3_buy_14 : decode cX3_buy 14 = .ok (.bipush 10, 2) := by decide +kernel
theorem dX3_buy_16 : decode cX3_buy 16 = .ok (.imul, 1) := by decide +kernel
theorem dX3_buy_17 : decode cX3_buy 17 = .ok (.istore 4, 2) := by decide +kernel
theorem dX3_buy_19 : decode cX3_buy 19 = .ok (.aload_n 3, 1) := by decide +kernel
theorem dX3_buy_20 : decode cX3_buy 20 = .ok (.getfield 54, 3) := by decide +kernel
theorem dX3_buy_23 : decode cX3_buy 23 = .ok (.ifCond .ne 23, 3) := by decide +kernel
theorem dX3_buy_26 : decode cX3_buy 26 = .ok (.aload_n 3, 1) := by decide +kernel
theorem dX3_buy_27 : decode cX3_buy 27 = .ok (.getfield 69, 3) := by decide +kernel
theorem dX3_buy_30 : decode cX3_buy 30 = .ok (.iload_n 2, 1) := by decide +kernel
theorem dX3_buy_31 : decode cX3_buy 31 = .ok (.iadd, 1) := by decide +kernel
theorem dX3_buy_32 : decode cX3_buy 32 = .ok (.bipush 100, 2) := by decide +kernel
theorem dX3_buy_34 : decode cX3_buy 34 = .ok (.if_icmp .gt 12, 3) := by decide +kernel
theorem dX3_buy_37 : decode cX3_buy 37 = .ok (.aload_n 3, 1) := by decide +kernel
theorem dX3_buy_38 : decode cX3_buy 38 = .ok (.getfield 51, 3) := by decide +kernel
theorem dX3_buy_41 : decode cX3_buy 41 = .ok (.iload 4, 2) := by decide +kernel
theorem dX3_buy_43 : decode cX3_buy 43 = .ok (.if_icmp .ge 13, 3) := by decide +kernel
theorem dX3_buy_46 : decode cX3_buy 46 = .ok (.new 28, 3) := by decide +kernel
theorem dX3_buy_49 : decode cX3_buy 49 = .ok (.dup, 1) := by decide +kernel
theorem dX3_buy_50 : decode cX3_buy 50 = .ok (.ldc 188, 2) := by decide +kernel
theorem dX3_buy_52 : decode cX3_buy 52 = .ok (.invokespecial 32, 3) := by decide +kernel
theorem dX3_buy_55 : decode cX3_buy 55 = .ok (.athrow, 1) := by decide +kernel
theorem dX3_buy_56 : decode cX3_buy 56 = .ok (.aload_n 3, 1) := by decide +kernel
theorem dX3_buy_57 : decode cX3_buy 57 = .ok (.dup, 1) := by decide +kernel
theorem dX3_buy_58 : decode cX3_buy 58 = .ok (.getfield 69, 3) := by decide +kernel
theorem dX3_buy_61 : decode cX3_buy 61 = .ok (.iload_n 2, 1) := by decide +kernel
theorem dX3_buy_62 : decode cX3_buy 62 = .ok (.iadd, 1) := by decide +kernel
theorem dX3_buy_63 : decode cX3_buy 63 = .ok (.putfield 69, 3) := by decide +kernel
theorem dX3_buy_66 : decode cX3_buy 66 = .ok (.aload_n 0, 1) := by decide +kernel
theorem dX3_buy_67 : decode cX3_buy 67 = .ok (.aload_n 3, 1) := by decide +kernel
theorem dX3_buy_68 : decode cX3_buy 68 = .ok (.iload 4, 2) := by decide +kernel
theorem dX3_buy_70 : decode cX3_buy 70 = .ok (.invokevirtual 190, 3) := by decide +kernel
theorem dX3_buy_73 : decode cX3_buy 73 = .ok (.aload_n 3, 1) := by decide +kernel
theorem dX3_buy_74 : decode cX3_buy 74 = .ok (.getfield 69, 3) := by decide +kernel
theorem dX3_buy_77 : decode cX3_buy 77 = .ok (.ireturn, 1) := by decide +kernel
theorem dX3_borrow_0 : decode cX3_borrow 0 = .ok (.aload_n 0, 1) := by decide +kernel
theorem dX3_borrow_1 : decode cX3_borrow 1 = .ok (.iload_n 1, 1) := by decide +kernel
theorem dX3_borrow_2 : decode cX3_borrow 2 = .ok (.invokevirtual 47, 3) := by decide +kernel
theorem dX3_borrow_5 : decode cX3_borrow 5 = .ok (.astore 5, 2) := by decide +kernel
theorem dX3_borrow_7 : decode cX3_borrow 7 = .ok (.aload_n 0, 1) := by decide +kernel
theorem dX3_borrow_8 : decode cX3_borrow 8 = .ok (.iload_n 3, 1) := by decide +kernel
theorem dX3_borrow_9 : decode cX3_borrow 9 = .ok (.invokevirtual 47, 3) := by decide +kernel
theorem dX3_borrow_12 : decode cX3_borrow 12 = .ok (.astore 6, 2) := by decide +kernel
theorem dX3_borrow_14 : decode cX3_borrow 14 = .ok (.aload_n 0, 1) := by decide +kernel
theorem dX3_borrow_15 : decode cX3_borrow 15 = .ok (.iload 4, 2) := by decide +kernel
theorem dX3_borrow_17 : decode cX3_borrow 17 = .ok (.invokevirtual 47, 3) := by decide +kernel
theorem dX3_borrow_20 : decode cX3_borrow 20 = .ok (.astore 7, 2) := by decide +kernel
theorem dX3_borrow_22 : decode cX3_borrow 22 = .ok (.iload_n 1, 1) := by decide +kernel
theorem dX3_borrow_23 : decode cX3_borrow 23 = .ok (.iload_n 3, 1) := by decide +kernel
theorem dX3_borrow_24 : decode cX3_borrow 24 = .ok (.if_icmp .eq 15, 3) := by decide +kernel
theorem dX3_borrow_27 : decode cX3_borrow 27 = .ok (.iload_n 1, 1) := by decide +kernel
theorem dX3_borrow_28 : decode cX3_borrow 28 = .ok (.iload 4, 2) := by decide +kernel
theorem dX3_borrow_30 : decode cX3_borrow 30 = .ok (.if_icmp .eq 9, 3) := by decide +kernel
theorem dX3_borrow_33 : decode cX3_borrow 33 = .ok (.iload_n 3, 1) := by decide +kernel
theorem dX3_borrow_34 : decode cX3_borrow 34 = .ok (.iload 4, 2) := by decide +kernel
theorem dX3_borrow_36 : decode cX3_borrow 36 = .ok (.if_icmp .ne 13, 3) := by decide +kernel
theorem dX3_borrow_39 : decode cX3_borrow 39 = .ok (.new 64, 3) := by decide +kernel
theorem dX3_borrow_42 : decode cX3_borrow 42 = .ok (.dup, 1) := by decide +kernel
theorem dX3_borrow_43 : decode cX3_borrow 43 = .ok (.ldc 194, 2) := by decide +kernel
theorem dX3_borrow_45 : decode cX3_borrow 45 = .ok (.invokespecial 68, 3) := by decide +kernel
theorem dX3_borrow_48 : decode cX3_borrow 48 = .ok (.athrow, 1) := by decide +kernel
theorem dX3_borrow_49 : decode cX3_borrow 49 = .ok (.iload_n 2, 1) := by decide +kernel
theorem dX3_borrow_50 : decode cX3_borrow 50 = .ok (.iconst 1, 1) := by decide +kernel
theorem dX3_borrow_51 : decode cX3_borrow 51 = .ok (.sipush 1000, 3) := by decide +kernel
theorem dX3_borrow_54 : decode cX3_borrow 54 = .ok (.invokestatic 19, 3) := by decide +kernel
theorem dX3_borrow_57 : decode cX3_borrow 57 = .ok (.aload 5, 2) := by decide +kernel
theorem dX3_borrow_59 : decode cX3_borrow 59 = .ok (.invokevirtual 196, 3) := by decide +kernel
theorem dX3_borrow_62 : decode cX3_borrow 62 = .ok (.ifCond .eq 19, 3) := by decide +kernel
theorem dX3_borrow_65 : decode cX3_borrow 65 = .ok (.aload 6, 2) := by decide +kernel
theorem dX3_borrow_67 : decode cX3_borrow 67 = .ok (.invokevirtual 196, 3) := by decide +kernel
theorem dX3_borrow_70 : decode cX3_borrow 70 = .ok (.ifCond .eq 11, 3) := by decide +kernel
theorem dX3_borrow_73 : decode cX3_borrow 73 = .ok (.aload 7, 2) := by decide +kernel
theorem dX3_borrow_75 : decode cX3_borrow 75 = .ok (.invokevirtual 196, 3) := by decide +kernel
theorem dX3_borrow_78 : decode cX3_borrow 78 = .ok (.ifCond .ne 13, 3) := by decide +kernel
theorem dX3_borrow_81 : decode cX3_borrow 81 = .ok (.new 28, 3) := by decide +kernel
theorem dX3_borrow_84 : decode cX3_borrow 84 = .ok (.dup, 1) := by decide +kernel
theorem dX3_borrow_85 : decode cX3_borrow 85 = .ok (.ldc 199, 2) := by decide +kernel
theorem dX3_borrow_87 : decode cX3_borrow 87 = .ok (.invokespecial 32, 3) := by decide +kernel
theorem dX3_borrow_90 : decode cX3_borrow 90 = .ok (.athrow, 1) := by decide +kernel
theorem dX3_borrow_91 : decode cX3_borrow 91 = .ok (.aload 5, 2) := by decide +kernel
theorem dX3_borrow_93 : decode cX3_borrow 93 = .ok (.invokevirtual 201, 3) := by decide +kernel
theorem dX3_borrow_96 : decode cX3_borrow 96 = .ok (.ifCond .ne 21, 3) := by decide +kernel
theorem dX3_borrow_99 : decode cX3_borrow 99 = .ok (.iload_n 2, 1) := by decide +kernel
theorem dX3_borrow_100 : decode cX3_borrow 100 = .ok (.aload_n 0, 1) := by decide +kernel
theorem dX3_borrow_101 : decode cX3_borrow 101 = .ok (.aload 5, 2) := by decide +kernel
theorem dX3_borrow_103 : decode cX3_borrow 103 = .ok (.invokevirtual 204, 3) := by decide +kernel
theorem dX3_borrow_106 : decode cX3_borrow 106 = .ok (.if_icmp .gt 11, 3) := by decide +kernel
theorem dX3_borrow_109 : decode cX3_borrow 109 = .ok (.iload_n 2, 1) := by decide +kernel
theorem dX3_borrow_110 : decode cX3_borrow 110 = .ok (.aload_n 0, 1) := by decide +kernel
theorem dX3_borrow_111 : decode cX3_borrow 111 = .ok (.getfield 208, 3) := by decide +kernel
theorem dX3_borrow_114 : decode cX3_borrow 114 = .ok (.if_icmp .le 13, 3) := by decide +kernel
theorem dX3_borrow_117 : decode cX3_borrow 117 = .ok (.new 28, 3) := by decide +kernel
theorem dX3_borrow_120 : decode cX3_borrow 120 = .ok (.dup, 1) := by decide +kernel
theorem dX3_borrow_121 : decode cX3_borrow 121 = .ok (.ldc 211, 2) := by decide +kernel
theorem dX3_borrow_123 : decode cX3_borrow 123 = .ok (.invokespecial 32, 3) := by decide +kernel
theorem dX3_borrow_126 : decode cX3_borrow 126 = .ok (.athrow, 1) := by decide +kernel
theorem dX3_borrow_127 : decode cX3_borrow 127 = .ok (.aload 5, 2) := by decide +kernel
theorem dX3_borrow_129 : decode cX3_borrow 129 = .ok (.iload_n 2, 1) := by decide +kernel
theorem dX3_borrow_130 : decode cX3_borrow 130 = .ok (.aload 6, 2) := by decide +kernel
theorem dX3_borrow_132 : decode cX3_borrow 132 = .ok (.aload 7, 2) := by decide +kernel
theorem dX3_borrow_134 : decode cX3_borrow 134 = .ok (.invokevirtual 213, 3) := by decide +kernel
theorem dX3_borrow_137 : decode cX3_borrow 137 = .ok (.aload_n 0, 1) := by decide +kernel
theorem dX3_borrow_138 : decode cX3_borrow 138 = .ok (.dup, 1) := by decide +kernel
theorem dX3_borrow_139 : decode cX3_borrow 139 = .ok (.getfield 208, 3) := by decide +kernel
theorem dX3_borrow_142 : decode cX3_borrow 142 = .ok (.iload_n 2, 1) := by decide +kernel
theorem dX3_borrow_143 : decode cX3_borrow 143 = .ok (.isub, 1) := by decide +kernel
theorem dX3_borrow_144 : decode cX3_borrow 144 = .ok (.putfield 208, 3) := by decide +kernel
theorem dX3_borrow_147 : decode cX3_borrow 147 = .ok (.aload 5, 2) := by decide +kernel
theorem dX3_borrow_149 : decode cX3_borrow 149 = .ok (.getfield 51, 3) := by decide +kernel
theorem dX3_borrow_152 : decode cX3_borrow 152 = .ok (.ireturn, 1) := by decide +kernel
theorem dX3_repay_0 : decode cX3_repay 0 = .ok (.aload_n 0, 1) := by decide +kernel
theorem dX3_repay_1 : decode cX3_repay 1 = .ok (.iload_n 1, 1) := by decide +kernel
theorem dX3_repay_2 : decode cX3_repay 2 = .ok (.invokevirtual 47, 3) := by decide +kernel
theorem dX3_repay_5 : decode cX3_repay 5 = .ok (.astore_n 3, 1) := by decide +kernel
theorem dX3_repay_6 : decode cX3_repay 6 = .ok (.iload_n 2, 1) := by decide +kernel
theorem dX3_repay_7 : decode cX3_repay 7 = .ok (.iconst 1, 1) := by decide +kernel
theorem dX3_repay_8 : decode cX3_repay 8 = .ok (.sipush 10000, 3) := by decide +kernel
theorem dX3_repay_11 : decode cX3_repay 11 = .ok (.invokestatic 19, 3) := by decide +kernel
theorem dX3_repay_14 : decode cX3_repay 14 = .ok (.iload_n 2, 1) := by decide +kernel
theorem dX3_repay_15 : decode cX3_repay 15 = .ok (.aload_n 3, 1) := by decide +kernel
theorem dX3_repay_16 : decode cX3_repay 16 = .ok (.getfield 217, 3) := by decide +kernel
theorem dX3_repay_19 : decode cX3_repay 19 = .ok (.invokestatic 175, 3) := by decide +kernel
theorem dX3_repay_22 : decode cX3_repay 22 = .ok (.istore 4, 2) := by decide +kernel
theorem dX3_repay_24 : decode cX3_repay 24 = .ok (.aload_n 3, 1) := by decide +kernel
theorem dX3_repay_25 : decode cX3_repay 25 = .ok (.invokevirtual 201, 3) := by decide +kernel
theorem dX3_repay_28 : decode cX3_repay 28 = .ok (.ifCond .eq 12, 3) := by decide +kernel
theorem dX3_repay_31 : decode cX3_repay 31 = .ok (.aload_n 3, 1) := by decide +kernel
theorem dX3_repay_32 : decode cX3_repay 32 = .ok (.getfield 51, 3) := by decide +kernel
theorem dX3_repay_35 : decode cX3_repay 35 = .ok (.iload 4, 2) := by decide +kernel
theorem dX3_repay_37 : decode cX3_repay 37 = .ok (.if_icmp .ge 13, 3) := by decide +kernel
theorem dX3_repay_40 : decode cX3_repay 40 = .ok (.new 28, 3) := by decide +kernel
theorem dX3_repay_43 : decode cX3_repay 43 = .ok (.dup, 1) := by decide +kernel
theorem dX3_repay_44 : decode cX3_repay 44 = .ok (.ldc 220, 2) := by decide +kernel
theorem dX3_repay_46 : decode cX3_repay 46 = .ok (.invokespecial 32, 3) := by decide +kernel
theorem dX3_repay_49 : decode cX3_repay 49 = .ok (.athrow, 1) := by decide +kernel
theorem dX3_repay_50 : decode cX3_repay 50 = .ok (.aload_n 0, 1) := by decide +kernel
theorem dX3_repay_51 : decode cX3_repay 51 = .ok (.aload_n 3, 1) := by decide +kernel
theorem dX3_repay_52 : decode cX3_repay 52 = .ok (.iload 4, 2) := by decide +kernel
theorem dX3_repay_54 : decode cX3_repay 54 = .ok (.invokevirtual 190, 3) := by decide +kernel
theorem dX3_repay_57 : decode cX3_repay 57 = .ok (.aload_n 3, 1) := by decide +kernel
theorem dX3_repay_58 : decode cX3_repay 58 = .ok (.dup, 1) := by decide +kernel
theorem dX3_repay_59 : decode cX3_repay 59 = .ok (.getfield 217, 3) := by decide +kernel
theorem dX3_repay_62 : decode cX3_repay 62 = .ok (.iload 4, 2) := by decide +kernel
theorem dX3_repay_64 : decode cX3_repay 64 = .ok (.isub, 1) := by decide +kernel
theorem dX3_repay_65 : decode cX3_repay 65 = .ok (.putfield 217, 3) := by decide +kernel
theorem dX3_repay_68 : decode cX3_repay 68 = .ok (.aload_n 3, 1) := by decide +kernel
theorem dX3_repay_69 : decode cX3_repay 69 = .ok (.invokevirtual 201, 3) := by decide +kernel
theorem dX3_repay_72 : decode cX3_repay 72 = .ok (.ifCond .ne 13, 3) := by decide +kernel
theorem dX3_repay_75 : decode cX3_repay 75 = .ok (.aload_n 3, 1) := by decide +kernel
theorem dX3_repay_76 : decode cX3_repay 76 = .ok (.dup, 1) := by decide +kernel
theorem dX3_repay_77 : decode cX3_repay 77 = .ok (.getfield 222, 3) := by decide +kernel
theorem dX3_repay_80 : decode cX3_repay 80 = .ok (.iconst 1, 1) := by decide +kernel
theorem dX3_repay_81 : decode cX3_repay 81 = .ok (.iadd, 1) := by decide +kernel
theorem dX3_repay_82 : decode cX3_repay 82 = .ok (.putfield 222, 3) := by decide +kernel
theorem dX3_repay_85 : decode cX3_repay 85 = .ok (.aload_n 3, 1) := by decide +kernel
theorem dX3_repay_86 : decode cX3_repay 86 = .ok (.getfield 217, 3) := by decide +kernel
theorem dX3_repay_89 : decode cX3_repay 89 = .ok (.ireturn, 1) := by decide +kernel
theorem dX3_month_0 : decode cX3_month 0 = .ok (.iload_n 1, 1) := by decide +kernel
theorem dX3_month_1 : decode cX3_month 1 = .ok (.ifCond .eq 5, 3) := by decide +kernel
theorem dX3_month_4 : decode cX3_month 4 = .ok (.iconst 0, 1) := by decide +kernel
theorem dX3_month_5 : decode cX3_month 5 = .ok (.ireturn, 1) := by decide +kernel
theorem dX3_month_6 : decode cX3_month 6 = .ok (.iconst 0, 1) := by decide +kernel
theorem dX3_month_7 : decode cX3_month 7 = .ok (.istore_n 2, 1) := by decide +kernel
theorem dX3_month_8 : decode cX3_month 8 = .ok (.iconst 0, 1) := by decide +kernel
theorem dX3_month_9 : decode cX3_month 9 = .ok (.istore_n 3, 1) := by decide +kernel
theorem dX3_month_10 : decode cX3_month 10 = .ok (.iload_n 3, 1) := by decide +kernel
theorem dX3_month_11 : decode cX3_month 11 = .ok (.aload_n 0, 1) := by decide +kernel
theorem dX3_month_12 : decode cX3_month 12 = .ok (.getfield 10, 3) := by decide +kernel
theorem dX3_month_15 : decode cX3_month 15 = .ok (.invokevirtual 24, 3) := by decide +kernel
theorem dX3_month_18 : decode cX3_month 18 = .ok (.if_icmp .ge 54, 3) := by decide +kernel
theorem dX3_month_21 : decode cX3_month 21 = .ok (.aload_n 0, 1) := by decide +kernel
theorem dX3_month_22 : decode cX3_month 22 = .ok (.getfield 10, 3) := by decide +kernel
theorem dX3_month_25 : decode cX3_month 25 = .ok (.iload_n 3, 1) := by decide +kernel
theorem dX3_month_26 : decode cX3_month 26 = .ok (.invokevirtual 78, 3) := by decide +kernel
theorem dX3_month_29 : decode cX3_month 29 = .ok (.checkcast 35, 3) := by decide +kernel
theorem dX3_month_32 : decode cX3_month 32 = .ok (.astore 4, 2) := by decide +kernel
theorem dX3_month_34 : decode cX3_month 34 = .ok (.aload 4, 2) := by decide +kernel
theorem dX3_month_36 : decode cX3_month 36 = .ok (.invokevirtual 201, 3) := by decide +kernel
theorem dX3_month_39 : decode cX3_month 39 = .ok (.ifCond .eq 27, 3) := by decide +kernel
theorem dX3_month_42 : decode cX3_month 42 = .ok (.aload 4, 2) := by decide +kernel
theorem dX3_month_44 : decode cX3_month 44 = .ok (.invokevirtual 225, 3) := by decide +kernel
theorem dX3_month_47 : decode cX3_month 47 = .ok (.aload 4, 2) := by decide +kernel
theorem dX3_month_49 : decode cX3_month 49 = .ok (.getfield 228, 3) := by decide +kernel
theorem dX3_month_52 : decode cX3_month 52 = .ok (.bipush 6, 2) := by decide +kernel
theorem dX3_month_54 : decode cX3_month 54 = .ok (.if_icmp .le 12, 3) := by decide +kernel
theorem dX3_month_57 : decode cX3_month 57 = .ok (.aload_n 0, 1) := by decide +kernel
theorem dX3_month_58 : decode cX3_month 58 = .ok (.aload 4, 2) := by decide +kernel
theorem dX3_month_60 : decode cX3_month 60 = .ok (.invokevirtual 231, 3) := by decide +kernel
theorem dX3_month_63 : decode cX3_month 63 = .ok (.iinc 2 1, 3) := by decide +kernel
theorem dX3_month_66 : decode cX3_month 66 = .ok (.iinc 3 1, 3) := by decide +kernel
theorem dX3_month_69 : decode cX3_month 69 = .ok (.goto (-59), 3) := by decide +kernel
theorem dX3_month_72 : decode cX3_month 72 = .ok (.iload_n 2, 1) := by decide +kernel
theorem dX3_month_73 : decode cX3_month 73 = .ok (.ireturn, 1) := by decide +kernel
theorem dX3_feast_0 : decode cX3_feast 0 = .ok (.iconst 0, 1) := by decide +kernel
theorem dX3_feast_1 : decode cX3_feast 1 = .ok (.istore_n 1, 1) := by decide +kernel
theorem dX3_feast_2 : decode cX3_feast 2 = .ok (.iconst 0, 1) := by decide +kernel
theorem dX3_feast_3 : decode cX3_feast 3 = .ok (.istore_n 2, 1) := by decide +kernel
theorem dX3_feast_4 : decode cX3_feast 4 = .ok (.iconst 0, 1) := by decide +kernel
theorem dX3_feast_5 : decode cX3_feast 5 = .ok (.istore_n 3, 1) := by decide +kernel
theorem dX3_feast_6 : decode cX3_feast 6 = .ok (.iload_n 3, 1) := by decide +kernel
theorem dX3_feast_7 : decode cX3_feast 7 = .ok (.aload_n 0, 1) := by decide +kernel
theorem dX3_feast_8 : decode cX3_feast 8 = .ok (.getfield 10, 3) := by decide +kernel
theorem dX3_feast_11 : decode cX3_feast 11 = .ok (.invokevirtual 24, 3) := by decide +kernel
theorem dX3_feast_14 : decode cX3_feast 14 = .ok (.if_icmp .ge 53, 3) := by decide +kernel
theorem dX3_feast_17 : decode cX3_feast 17 = .ok (.iload_n 1, 1) := by decide +kernel
theorem dX3_feast_18 : decode cX3_feast 18 = .ok (.aload_n 0, 1) := by decide +kernel
theorem dX3_feast_19 : decode cX3_feast 19 = .ok (.getfield 10, 3) := by decide +kernel
theorem dX3_feast_22 : decode cX3_feast 22 = .ok (.iload_n 3, 1) := by decide +kernel
theorem dX3_feast_23 : decode cX3_feast 23 = .ok (.invokevirtual 78, 3) := by decide +kernel
theorem dX3_feast_26 : decode cX3_feast 26 = .ok (.checkcast 35, 3) := by decide +kernel
theorem dX3_feast_29 : decode cX3_feast 29 = .ok (.getfield 69, 3) := by decide +kernel
theorem dX3_feast_32 : decode cX3_feast 32 = .ok (.iadd, 1) := by decide +kernel
theorem dX3_feast_33 : decode cX3_feast 33 = .ok (.istore_n 1, 1) := by decide +kernel
theorem dX3_feast_34 : decode cX3_feast 34 = .ok (.iload_n 2, 1) := by decide +kernel
theorem dX3_feast_35 : decode cX3_feast 35 = .ok (.ifCond .ne 20, 3) := by decide +kernel
theorem dX3_feast_38 : decode cX3_feast 38 = .ok (.aload_n 0, 1) := by decide +kernel
theorem dX3_feast_39 : decode cX3_feast 39 = .ok (.getfield 10, 3) := by decide +kernel
theorem dX3_feast_42 : decode cX3_feast 42 = .ok (.iload_n 3, 1) := by decide +kernel
theorem dX3_feast_43 : decode cX3_feast 43 = .ok (.invokevirtual 78, 3) := by decide +kernel
theorem dX3_feast_46 : decode cX3_feast 46 = .ok (.checkcast 35, 3) := by decide +kernel
theorem dX3_feast_49 : decode cX3_feast 49 = .ok (.invokevirtual 201, 3) := by decide +kernel
theorem dX3_feast_52 : decode cX3_feast 52 = .ok (.ifCond .eq 7, 3) := by decide +kernel
theorem dX3_feast_55 : decode cX3_feast 55 = .ok (.iconst 1, 1) := by decide +kernel
theorem dX3_feast_56 : decode cX3_feast 56 = .ok (.goto 4, 3) := by decide +kernel
theorem dX3_feast_59 : decode cX3_feast 59 = .ok (.iconst 0, 1) := by decide +kernel
theorem dX3_feast_60 : decode cX3_feast 60 = .ok (.istore_n 2, 1) := by decide +kernel
theorem dX3_feast_61 : decode cX3_feast 61 = .ok (.iinc 3 1, 3) := by decide +kernel
theorem dX3_feast_64 : decode cX3_feast 64 = .ok (.goto (-58), 3) := by decide +kernel
theorem dX3_feast_67 : decode cX3_feast 67 = .ok (.iload_n 1, 1) := by decide +kernel
theorem dX3_feast_68 : decode cX3_feast 68 = .ok (.ifCond .le 7, 3) := by decide +kernel
theorem dX3_feast_71 : decode cX3_feast 71 = .ok (.iload_n 2, 1) := by decide +kernel
theorem dX3_feast_72 : decode cX3_feast 72 = .ok (.ifCond .eq 13, 3) := by decide +kernel
theorem dX3_feast_75 : decode cX3_feast 75 = .ok (.new 28, 3) := by decide +kernel
theorem dX3_feast_78 : decode cX3_feast 78 = .ok (.dup, 1) := by decide +kernel
theorem dX3_feast_79 : decode cX3_feast 79 = .ok (.ldc 234, 2) := by decide +kernel
theorem dX3_feast_81 : decode cX3_feast 81 = .ok (.invokespecial 32, 3) := by decide +kernel
theorem dX3_feast_84 : decode cX3_feast 84 = .ok (.athrow, 1) := by decide +kernel
theorem dX3_feast_85 : decode cX3_feast 85 = .ok (.aload_n 0, 1) := by decide +kernel
theorem dX3_feast_86 : decode cX3_feast 86 = .ok (.getfield 208, 3) := by decide +kernel
theorem dX3_feast_89 : decode cX3_feast 89 = .ok (.iload_n 1, 1) := by decide +kernel
theorem dX3_feast_90 : decode cX3_feast 90 = .ok (.idiv, 1) := by decide +kernel
theorem dX3_feast_91 : decode cX3_feast 91 = .ok (.istore_n 3, 1) := by decide +kernel
theorem dX3_feast_92 : decode cX3_feast 92 = .ok (.iconst 0, 1) := by decide +kernel
theorem dX3_feast_93 : decode cX3_feast 93 = .ok (.istore 4, 2) := by decide +kernel
theorem dX3_feast_95 : decode cX3_feast 95 = .ok (.iload 4, 2) := by decide +kernel
theorem dX3_feast_97 : decode cX3_feast 97 = .ok (.aload_n 0, 1) := by decide +kernel
theorem dX3_feast_98 : decode cX3_feast 98 = .ok (.getfield 10, 3) := by decide +kernel
theorem dX3_feast_101 : decode cX3_feast 101 = .ok (.invokevirtual 24, 3) := by decide +kernel
theorem dX3_feast_104 : decode cX3_feast 104 = .ok (.if_icmp .ge 57, 3) := by decide +kernel
theorem dX3_feast_107 : decode cX3_feast 107 = .ok (.aload_n 0, 1) := by decide +kernel
theorem dX3_feast_108 : decode cX3_feast 108 = .ok (.getfield 10, 3) := by decide +kernel
theorem dX3_feast_111 : decode cX3_feast 111 = .ok (.iload 4, 2) := by decide +kernel
theorem dX3_feast_113 : decode cX3_feast 113 = .ok (.invokevirtual 78, 3) := by decide +kernel
theorem dX3_feast_116 : decode cX3_feast 116 = .ok (.checkcast 35, 3) := by decide +kernel
theorem dX3_feast_119 : decode cX3_feast 119 = .ok (.astore 5, 2) := by decide +kernel
theorem dX3_feast_121 : decode cX3_feast 121 = .ok (.aload_n 0, 1) := by decide +kernel
theorem dX3_feast_122 : decode cX3_feast 122 = .ok (.dup, 1) := by decide +kernel
theorem dX3_feast_123 : decode cX3_feast 123 = .ok (.getfield 208, 3) := by decide +kernel
theorem dX3_feast_126 : decode cX3_feast 126 = .ok (.iload_n 3, 1) := by decide +kernel
theorem dX3_feast_127 : decode cX3_feast 127 = .ok (.aload 5, 2) := by decide +kernel
theorem dX3_feast_129 : decode cX3_feast 129 = .ok (.getfield 69, 3) := by decide +kernel
theorem dX3_feast_132 : decode cX3_feast 132 = .ok (.imul, 1) := by decide +kernel
theorem dX3_feast_133 : decode cX3_feast 133 = .ok (.isub, 1) := by decide +kernel
theorem dX3_feast_134 : decode cX3_feast 134 = .ok (.putfield 208, 3) := by decide +kernel
theorem dX3_feast_137 : decode cX3_feast 137 = .ok (.aload 5, 2) := by decide +kernel
theorem dX3_feast_139 : decode cX3_feast 139 = .ok (.iload_n 3, 1) := by decide +kernel
theorem dX3_feast_140 : decode cX3_feast 140 = .ok (.aload 5, 2) := by decide +kernel
theorem dX3_feast_142 : decode cX3_feast 142 = .ok (.getfield 69, 3) := by decide +kernel
theorem dX3_feast_145 : decode cX3_feast 145 = .ok (.imul, 1) := by decide +kernel
theorem dX3_feast_146 : decode cX3_feast 146 = .ok (.invokevirtual 236, 3) := by decide +kernel
theorem dX3_feast_149 : decode cX3_feast 149 = .ok (.aload 5, 2) := by decide +kernel
theorem dX3_feast_151 : decode cX3_feast 151 = .ok (.iconst 0, 1) := by decide +kernel
theorem dX3_feast_152 : decode cX3_feast 152 = .ok (.putfield 69, 3) := by decide +kernel
theorem dX3_feast_155 : decode cX3_feast 155 = .ok (.iinc 4 1, 3) := by decide +kernel
theorem dX3_feast_158 : decode cX3_feast 158 = .ok (.goto (-63), 3) := by decide +kernel
theorem dX3_feast_161 : decode cX3_feast 161 = .ok (.iload_n 3, 1) := by decide +kernel
theorem dX3_feast_162 : decode cX3_feast 162 = .ok (.ireturn, 1) := by decide +kernel
theorem dX3_note_0 : decode cX3_note 0 = .ok (.iload_n 1, 1) := by decide +kernel
theorem dX3_note_1 : decode cX3_note 1 = .ok (.ifCond .lt 8, 3) := by decide +kernel
theorem dX3_note_4 : decode cX3_note 4 = .ok (.iload_n 1, 1) := by decide +kernel
theorem dX3_note_5 : decode cX3_note 5 = .ok (.iconst 3, 1) := by decide +kernel
theorem dX3_note_6 : decode cX3_note 6 = .ok (.if_icmp .lt 13, 3) := by decide +kernel
theorem dX3_note_9 : decode cX3_note 9 = .ok (.new 239, 3) := by decide +kernel
theorem dX3_note_12 : decode cX3_note 12 = .ok (.dup, 1) := by decide +kernel
theorem dX3_note_13 : decode cX3_note 13 = .ok (.ldc 241, 2) := by decide +kernel
theorem dX3_note_15 : decode cX3_note 15 = .ok (.invokespecial 243, 3) := by decide +kernel
theorem dX3_note_18 : decode cX3_note 18 = .ok (.athrow, 1) := by decide +kernel
theorem dX3_note_19 : decode cX3_note 19 = .ok (.aload_n 0, 1) := by decide +kernel
theorem dX3_note_20 : decode cX3_note 20 = .ok (.iload_n 2, 1) := by decide +kernel
theorem dX3_note_21 : decode cX3_note 21 = .ok (.invokevirtual 47, 3) := by decide +kernel
theorem dX3_note_24 : decode cX3_note 24 = .ok (.astore 4, 2) := by decide +kernel
theorem dX3_note_26 : decode cX3_note 26 = .ok (.iload_n 3, 1) := by decide +kernel
theorem dX3_note_27 : decode cX3_note 27 = .ok (.sipush (-10000), 3) := by decide +kernel
theorem dX3_note_30 : decode cX3_note 30 = .ok (.sipush 10000, 3) := by decide +kernel
theorem dX3_note_33 : decode cX3_note 33 = .ok (.invokestatic 19, 3) := by decide +kernel
theorem dX3_note_36 : decode cX3_note 36 = .ok (.aload 4, 2) := by decide +kernel
theorem dX3_note_38 : decode cX3_note 38 = .ok (.getfield 244, 3) := by decide +kernel
theorem dX3_note_41 : decode cX3_note 41 = .ok (.iload_n 1, 1) := by decide +kernel
theorem dX3_note_42 : decode cX3_note 42 = .ok (.dup2, 1) := by decide +kernel
theorem dX3_note_43 : decode cX3_note 43 = .ok (.iaload, 1) := by decide +kernel
theorem dX3_note_44 : decode cX3_note 44 = .ok (.iload_n 3, 1) := by decide +kernel
theorem dX3_note_45 : decode cX3_note 45 = .ok (.iadd, 1) := by decide +kernel
theorem dX3_note_46 : decode cX3_note 46 = .ok (.iastore, 1) := by decide +kernel
theorem dX3_note_47 : decode cX3_note 47 = .ok (.aload 4, 2) := by decide +kernel
theorem dX3_note_49 : decode cX3_note 49 = .ok (.getfield 244, 3) := by decide +kernel
theorem dX3_note_52 : decode cX3_note 52 = .ok (.iload_n 1, 1) := by decide +kernel
theorem dX3_note_53 : decode cX3_note 53 = .ok (.iaload, 1) := by decide +kernel
theorem dX3_note_54 : decode cX3_note 54 = .ok (.ireturn, 1) := by decide +kernel
theorem dX3_audit_0 : decode cX3_audit 0 = .ok (.iload_n 1, 1) := by decide +kernel
theorem dX3_audit_1 : decode cX3_audit 1 = .ok (.ifCond .lt 8, 3) := by decide +kernel
theorem dX3_audit_4 : decode cX3_audit 4 = .ok (.iload_n 1, 1) := by decide +kernel
theorem dX3_audit_5 : decode cX3_audit 5 = .ok (.iconst 3, 1) := by decide +kernel
theorem dX3_audit_6 : decode cX3_audit 6 = .ok (.if_icmp .lt 13, 3) := by decide +kernel
theorem dX3_audit_9 : decode cX3_audit 9 = .ok (.new 239, 3) := by decide +kernel
theorem dX3_audit_12 : decode cX3_audit 12 = .ok (.dup, 1) := by decide +kernel
theorem dX3_audit_13 : decode cX3_audit 13 = .ok (.ldc 241, 2) := by decide +kernel
theorem dX3_audit_15 : decode cX3_audit 15 = .ok (.invokespecial 243, 3) := by decide +kernel
theorem dX3_audit_18 : decode cX3_audit 18 = .ok (.athrow, 1) := by decide +kernel
theorem dX3_audit_19 : decode cX3_audit 19 = .ok (.iconst 0, 1) := by decide +kernel
theorem dX3_audit_20 : decode cX3_audit 20 = .ok (.istore_n 2, 1) := by decide +kernel
theorem dX3_audit_21 : decode cX3_audit 21 = .ok (.iload_n 2, 1) := by decide +kernel
theorem dX3_audit_22 : decode cX3_audit 22 = .ok (.aload_n 0, 1) := by decide +kernel
theorem dX3_audit_23 : decode cX3_audit 23 = .ok (.getfield 10, 3) := by decide +kernel
theorem dX3_audit_26 : decode cX3_audit 26 = .ok (.invokevirtual 24, 3) := by decide +kernel
theorem dX3_audit_29 : decode cX3_audit 29 = .ok (.if_icmp .ge 39, 3) := by decide +kernel
theorem dX3_audit_32 : decode cX3_audit 32 = .ok (.aload_n 0, 1) := by decide +kernel
theorem dX3_audit_33 : decode cX3_audit 33 = .ok (.getfield 10, 3) := by decide +kernel
theorem dX3_audit_36 : decode cX3_audit 36 = .ok (.iload_n 2, 1) := by decide +kernel
theorem dX3_audit_37 : decode cX3_audit 37 = .ok (.invokevirtual 78, 3) := by decide +kernel
theorem dX3_audit_40 : decode cX3_audit 40 = .ok (.checkcast 35, 3) := by decide +kernel
theorem dX3_audit_43 : decode cX3_audit 43 = .ok (.astore_n 3, 1) := by decide +kernel
theorem dX3_audit_44 : decode cX3_audit 44 = .ok (.aload_n 3, 1) := by decide +kernel
theorem dX3_audit_45 : decode cX3_audit 45 = .ok (.getfield 244, 3) := by decide +kernel
theorem dX3_audit_48 : decode cX3_audit 48 = .ok (.iload_n 1, 1) := by decide +kernel
theorem dX3_audit_49 : decode cX3_audit 49 = .ok (.iaload, 1) := by decide +kernel
theorem dX3_audit_50 : decode cX3_audit 50 = .ok (.aload_n 3, 1) := by decide +kernel
theorem dX3_audit_51 : decode cX3_audit 51 = .ok (.getfield 248, 3) := by decide +kernel
theorem dX3_audit_54 : decode cX3_audit 54 = .ok (.if_icmp .eq 8, 3) := by decide +kernel
theorem dX3_audit_57 : decode cX3_audit 57 = .ok (.aload_n 3, 1) := by decide +kernel
theorem dX3_audit_58 : decode cX3_audit 58 = .ok (.getfield 43, 3) := by decide +kernel
theorem dX3_audit_61 : decode cX3_audit 61 = .ok (.ireturn, 1) := by decide +kernel
theorem dX3_audit_62 : decode cX3_audit 62 = .ok (.iinc 2 1, 3) := by decide +kernel
theorem dX3_audit_65 : decode cX3_audit 65 = .ok (.goto (-44), 3) := by decide +kernel
theorem dX3_audit_68 : decode cX3_audit 68 = .ok (.iconst (-1), 1) := by decide +kernel
theorem dX3_audit_69 : decode cX3_audit 69 = .ok (.ireturn, 1) := by decide +kernel
theorem dX3_of_0 : decode cX3_of 0 = .ok (.aload_n 0, 1) := by decide +kernel
theorem dX3_of_1 : decode cX3_of 1 = .ok (.iload_n 1, 1) := by decide +kernel
theorem dX3_of_2 : decode cX3_of 2 = .ok (.invokevirtual 47, 3) := by decide +kernel
theorem dX3_of_5 : decode cX3_of 5 = .ok (.astore_n 3, 1) := by decide +kernel
theorem dX3_of_6 : decode cX3_of 6 = .ok (.iload_n 2, 1) := by decide +kernel
theorem dX3_of_7 : decode cX3_of 7 = .ok (.iconst 0, 1) := by decide +kernel
theorem dX3_of_8 : decode cX3_of 8 = .ok (.bipush 6, 2) := by decide +kernel
theorem dX3_of_10 : decode cX3_of 10 = .ok (.invokestatic 19, 3) := by decide +kernel
theorem dX3_of_13 : decode cX3_of 13 = .ok (.iload_n 2, 1) := by decide +kernel
theorem dX3_of_14 : decode cX3_of 14 = .ok (.tableswitch 76 0 5 #[38, 43, 48, 53, 58, 63], 38) := by decide +kernel
theorem dX3_of_52 : decode cX3_of 52 = .ok (.aload_n 3, 1) := by decide +kernel
theorem dX3_of_53 : decode cX3_of 53 = .ok (.getfield 51, 3) := by decide +kernel
theorem dX3_of_56 : decode cX3_of 56 = .ok (.ireturn, 1) := by decide +kernel
theorem dX3_of_57 : decode cX3_of 57 = .ok (.aload_n 3, 1) := by decide +kernel
theorem dX3_of_58 : decode cX3_of 58 = .ok (.getfield 69, 3) := by decide +kernel
theorem dX3_of_61 : decode cX3_of 61 = .ok (.ireturn, 1) := by decide +kernel
theorem dX3_of_62 : decode cX3_of 62 = .ok (.aload_n 3, 1) := by decide +kernel
theorem dX3_of_63 : decode cX3_of 63 = .ok (.getfield 217, 3) := by decide +kernel
theorem dX3_of_66 : decode cX3_of 66 = .ok (.ireturn, 1) := by decide +kernel
theorem dX3_of_67 : decode cX3_of 67 = .ok (.aload_n 3, 1) := by decide +kernel
theorem dX3_of_68 : decode cX3_of 68 = .ok (.getfield 222, 3) := by decide +kernel
theorem dX3_of_71 : decode cX3_of 71 = .ok (.ireturn, 1) := by decide +kernel
theorem dX3_of_72 : decode cX3_of 72 = .ok (.aload_n 3, 1) := by decide +kernel
theorem dX3_of_73 : decode cX3_of 73 = .ok (.getfield 248, 3) := by decide +kernel
theorem dX3_of_76 : decode cX3_of 76 = .ok (.ireturn, 1) := by decide +kernel
theorem dX3_of_77 : decode cX3_of 77 = .ok (.aload_n 3, 1) := by decide +kernel
theorem dX3_of_78 : decode cX3_of 78 = .ok (.getfield 54, 3) := by decide +kernel
theorem dX3_of_81 : decode cX3_of 81 = .ok (.ifCond .eq 7, 3) := by decide +kernel
theorem dX3_of_84 : decode cX3_of 84 = .ok (.iconst 0, 1) := by decide +kernel
theorem dX3_of_85 : decode cX3_of 85 = .ok (.goto 4, 3) := by decide +kernel
theorem dX3_of_88 : decode cX3_of 88 = .ok (.iconst 1, 1) := by decide +kernel
theorem dX3_of_89 : decode cX3_of 89 = .ok (.ireturn, 1) := by decide +kernel
theorem dX3_of_90 : decode cX3_of 90 = .ok (.aload_n 0, 1) := by decide +kernel
theorem dX3_of_91 : decode cX3_of 91 = .ok (.aload_n 3, 1) := by decide +kernel
theorem dX3_of_92 : decode cX3_of 92 = .ok (.invokevirtual 251, 3) := by decide +kernel
theorem dX3_of_95 : decode cX3_of 95 = .ok (.ireturn, 1) := by decide +kernel
theorem dX3_member_0 : decode cX3_member 0 = .ok (.aload_n 0, 1) := by decide +kernel
theorem dX3_member_1 : decode cX3_member 1 = .ok (.iload_n 1, 1) := by decide +kernel
theorem dX3_member_2 : decode cX3_member 2 = .ok (.invokevirtual 93, 3) := by decide +kernel
theorem dX3_member_5 : decode cX3_member 5 = .ok (.astore 4, 2) := by decide +kernel
theorem dX3_member_7 : decode cX3_member 7 = .ok (.aload_n 0, 1) := by decide +kernel
theorem dX3_member_8 : decode cX3_member 8 = .ok (.iload_n 2, 1) := by decide +kernel
theorem dX3_member_9 : decode cX3_member 9 = .ok (.invokevirtual 47, 3) := by decide +kernel
theorem dX3_member_12 : decode cX3_member 12 = .ok (.astore 5, 2) := by decide +kernel
theorem dX3_member_14 : decode cX3_member 14 = .ok (.iload_n 3, 1) := by decide +kernel
theorem dX3_member_15 : decode cX3_member 15 = .ok (.iconst 0, 1) := by decide +kernel
theorem dX3_member_16 : decode cX3_member 16 = .ok (.iconst 3, 1) := by decide +kernel
theorem dX3_member_17 : decode cX3_member 17 = .ok (.invokestatic 19, 3) := by decide +kernel
theorem dX3_member_20 : decode cX3_member 20 = .ok (.aload 4, 2) := by decide +kernel
theorem dX3_member_22 : decode cX3_member 22 = .ok (.aload 5, 2) := by decide +kernel
theorem dX3_member_24 : decode cX3_member 24 = .ok (.invokevirtual 105, 3) := by decide +kernel
theorem dX3_member_27 : decode cX3_member 27 = .ok (.astore 6, 2) := by decide +kernel
theorem dX3_member_29 : decode cX3_member 29 = .ok (.aload 6, 2) := by decide +kernel
theorem dX3_member_31 : decode cX3_member 31 = .ok (.ifnonnull 5, 3) := by decide +kernel
theorem dX3_member_34 : decode cX3_member 34 = .ok (.iconst (-1), 1) := by decide +kernel
theorem dX3_member_35 : decode cX3_member 35 = .ok (.ireturn, 1) := by decide +kernel
theorem dX3_member_36 : decode cX3_member 36 = .ok (.iload_n 3, 1) := by decide +kernel
theorem dX3_member_37 : decode cX3_member 37 = .ok (.tableswitch 53 0 2 #[27, 33, 47], 27) := by decide +kernel
theorem dX3_member_64 : decode cX3_member 64 = .ok (.aload 6, 2) := by decide +kernel
theorem dX3_member_66 : decode cX3_member 66 = .ok (.getfield 164, 3) := by decide +kernel
theorem dX3_member_69 : decode cX3_member 69 = .ok (.ireturn, 1) := by decide +kernel
theorem dX3_member_70 : decode cX3_member 70 = .ok (.aload 6, 2) := by decide +kernel
theorem dX3_member_72 : decode cX3_member 72 = .ok (.getfield 161, 3) := by decide +kernel
theorem dX3_member_75 : decode cX3_member 75 = .ok (.ifCond .eq 7, 3) := by decide +kernel
theorem dX3_member_78 : decode cX3_member 78 = .ok (.iconst 1, 1) := by decide +kernel
theorem dX3_member_79 : decode cX3_member 79 = .ok (.goto 4, 3) := by decide +kernel
theorem dX3_member_82 : decode cX3_member 82 = .ok (.iconst 0, 1) := by decide +kernel
theorem dX3_member_83 : decode cX3_member 83 = .ok (.ireturn, 1) := by decide +kernel
theorem dX3_member_84 : decode cX3_member 84 = .ok (.aload 6, 2) := by decide +kernel
theorem dX3_member_86 : decode cX3_member 86 = .ok (.getfield 169, 3) := by decide +kernel
theorem dX3_member_89 : decode cX3_member 89 = .ok (.ireturn, 1) := by decide +kernel
theorem dX3_member_90 : decode cX3_member 90 = .ok (.aload 4, 2) := by decide +kernel
theorem dX3_member_92 : decode cX3_member 92 = .ok (.aload 5, 2) := by decide +kernel
theorem dX3_member_94 : decode cX3_member 94 = .ok (.invokevirtual 254, 3) := by decide +kernel
theorem dX3_member_97 : decode cX3_member 97 = .ok (.ireturn, 1) := by decide +kernel
theorem dX3_ofCircle_0 : decode cX3_ofCircle 0 = .ok (.aload_n 0, 1) := by decide +kernel
theorem dX3_ofCircle_1 : decode cX3_ofCircle 1 = .ok (.iload_n 1, 1) := by decide +kernel
theorem dX3_ofCircle_2 : decode cX3_ofCircle 2 = .ok (.invokevirtual 93, 3) := by decide +kernel
theorem dX3_ofCircle_5 : decode cX3_ofCircle 5 = .ok (.astore_n 3, 1) := by decide +kernel
theorem dX3_ofCircle_6 : decode cX3_ofCircle 6 = .ok (.iload_n 2, 1) := by decide +kernel
theorem dX3_ofCircle_7 : decode cX3_ofCircle 7 = .ok (.iconst 0, 1) := by decide +kernel
theorem dX3_ofCircle_8 : decode cX3_ofCircle 8 = .ok (.iconst 4, 1) := by decide +kernel
theorem dX3_ofCircle_9 : decode cX3_ofCircle 9 = .ok (.invokestatic 19, 3) := by decide +kernel
theorem dX3_ofCircle_12 : decode cX3_ofCircle 12 = .ok (.iload_n 2, 1) := by decide +kernel
theorem dX3_ofCircle_13 : decode cX3_ofCircle 13 = .ok (.tableswitch 54 0 3 #[31, 36, 44, 49], 31) := by decide +kernel
theorem dX3_ofCircle_44 : decode cX3_ofCircle 44 = .ok (.aload_n 3, 1) := by decide +kernel
theorem dX3_ofCircle_45 : decode cX3_ofCircle 45 = .ok (.getfield 172, 3) := by decide +kernel
theorem dX3_ofCircle_48 : decode cX3_ofCircle 48 = .ok (.ireturn, 1) := by decide +kernel
theorem dX3_ofCircle_49 : decode cX3_ofCircle 49 = .ok (.aload_n 3, 1) := by decide +kernel
theorem dX3_ofCircle_50 : decode cX3_ofCircle 50 = .ok (.getfield 100, 3) := by decide +kernel
theorem dX3_ofCircle_53 : decode cX3_ofCircle 53 = .ok (.invokevirtual 24, 3) := by decide +kernel
theorem dX3_ofCircle_56 : decode cX3_ofCircle 56 = .ok (.ireturn, 1) := by decide +kernel
theorem dX3_ofCircle_57 : decode cX3_ofCircle 57 = .ok (.aload_n 3, 1) := by decide +kernel
theorem dX3_ofCircle_58 : decode cX3_ofCircle 58 = .ok (.getfield 152, 3) := by decide +kernel
theorem dX3_ofCircle_61 : decode cX3_ofCircle 61 = .ok (.ireturn, 1) := by decide +kernel
theorem dX3_ofCircle_62 : decode cX3_ofCircle 62 = .ok (.aload_n 3, 1) := by decide +kernel
theorem dX3_ofCircle_63 : decode cX3_ofCircle 63 = .ok (.getfield 257, 3) := by decide +kernel
theorem dX3_ofCircle_66 : decode cX3_ofCircle 66 = .ok (.ireturn, 1) := by decide +kernel
theorem dX3_ofCircle_67 : decode cX3_ofCircle 67 = .ok (.aload_n 3, 1) := by decide +kernel
theorem dX3_ofCircle_68 : decode cX3_ofCircle 68 = .ok (.getfield 97, 3) := by decide +kernel
theorem dX3_ofCircle_71 : decode cX3_ofCircle 71 = .ok (.ifCond .eq 13, 3) := by decide +kernel
theorem dX3_ofCircle_74 : decode cX3_ofCircle 74 = .ok (.aload_n 3, 1) := by decide +kernel
theorem dX3_ofCircle_75 : decode cX3_ofCircle 75 = .ok (.invokevirtual 125, 3) := by decide +kernel
theorem dX3_ofCircle_78 : decode cX3_ofCircle 78 = .ok (.invokestatic 129, 3) := by decide +kernel
theorem dX3_ofCircle_81 : decode cX3_ofCircle 81 = .ok (.goto 4, 3) := by decide +kernel
theorem dX3_ofCircle_84 : decode cX3_ofCircle 84 = .ok (.iconst (-1), 1) := by decide +kernel
theorem dX3_ofCircle_85 : decode cX3_ofCircle 85 = .ok (.ireturn, 1) := by decide +kernel
theorem dX3_cash_0 : decode cX3_cash 0 = .ok (.aload_n 0, 1) := by decide +kernel
theorem dX3_cash_1 : decode cX3_cash 1 = .ok (.getfield 208, 3) := by decide +kernel
theorem dX3_cash_4 : decode cX3_cash 4 = .ok (.ireturn, 1) := by decide +kernel
theorem dX3_coins_0 : decode cX3_coins 0 = .ok (.aload_n 0, 1) := by decide +kernel
theorem dX3_coins_1 : decode cX3_coins 1 = .ok (.getfield 61, 3) := by decide +kernel
theorem dX3_coins_4 : decode cX3_coins 4 = .ok (.aload_n 0, 1) := by decide +kernel
theorem dX3_coins_5 : decode cX3_coins 5 = .ok (.getfield 208, 3) := by decide +kernel
theorem dX3_coins_8 : decode cX3_coins 8 = .ok (.isub, 1) := by decide +kernel
theorem dX3_coins_9 : decode cX3_coins 9 = .ok (.istore_n 1, 1) := by decide +kernel
theorem dX3_coins_10 : decode cX3_coins 10 = .ok (.iconst 0, 1) := by decide +kernel
theorem dX3_coins_11 : decode cX3_coins 11 = .ok (.istore_n 2, 1) := by decide +kernel
theorem dX3_coins_12 : decode cX3_coins 12 = .ok (.iload_n 2, 1) := by decide +kernel
theorem dX3_coins_13 : decode cX3_coins 13 = .ok (.aload_n 0, 1) := by decide +kernel
theorem dX3_coins_14 : decode cX3_coins 14 = .ok (.getfield 10, 3) := by decide +kernel
theorem dX3_coins_17 : decode cX3_coins 17 = .ok (.invokevirtual 24, 3) := by decide +kernel
theorem dX3_coins_20 : decode cX3_coins 20 = .ok (.if_icmp .ge 26, 3) := by decide +kernel
theorem dX3_coins_23 : decode cX3_coins 23 = .ok (.iload_n 1, 1) := by decide +kernel
theorem dX3_coins_24 : decode cX3_coins 24 = .ok (.aload_n 0, 1) := by decide +kernel
theorem dX3_coins_25 : decode cX3_coins 25 = .ok (.getfield 10, 3) := by decide +kernel
theorem dX3_coins_28 : decode cX3_coins 28 = .ok (.iload_n 2, 1) := by decide +kernel
theorem dX3_coins_29 : decode cX3_coins 29 = .ok (.invokevirtual 78, 3) := by decide +kernel
theorem dX3_coins_32 : decode cX3_coins 32 = .ok (.checkcast 35, 3) := by decide +kernel
theorem dX3_coins_35 : decode cX3_coins 35 = .ok (.getfield 51, 3) := by decide +kernel
theorem dX3_coins_38 : decode cX3_coins 38 = .ok (.isub, 1) := by decide +kernel
theorem dX3_coins_39 : decode cX3_coins 39 = .ok (.istore_n 1, 1) := by decide +kernel
theorem dX3_coins_40 : decode cX3_coins 40 = .ok (.iinc 2 1, 3) := by decide +kernel
theorem dX3_coins_43 : decode cX3_coins 43 = .ok (.goto (-31), 3) := by decide +kernel
theorem dX3_coins_46 : decode cX3_coins 46 = .ok (.iconst 0, 1) := by decide +kernel
theorem dX3_coins_47 : decode cX3_coins 47 = .ok (.istore_n 2, 1) := by decide +kernel
theorem dX3_coins_48 : decode cX3_coins 48 = .ok (.iload_n 2, 1) := by decide +kernel
theorem dX3_coins_49 : decode cX3_coins 49 = .ok (.aload_n 0, 1) := by decide +kernel
theorem dX3_coins_50 : decode cX3_coins 50 = .ok (.getfield 16, 3) := by decide +kernel
theorem dX3_coins_53 : decode cX3_coins 53 = .ok (.invokevirtual 24, 3) := by decide +kernel
theorem dX3_coins_56 : decode cX3_coins 56 = .ok (.if_icmp .ge 26, 3) := by decide +kernel
theorem dX3_coins_59 : decode cX3_coins 59 = .ok (.iload_n 1, 1) := by decide +kernel
theorem dX3_coins_60 : decode cX3_coins 60 = .ok (.aload_n 0, 1) := by decide +kernel
theorem dX3_coins_61 : decode cX3_coins 61 = .ok (.getfield 16, 3) := by decide +kernel
theorem dX3_coins_64 : decode cX3_coins 64 = .ok (.iload_n 2, 1) := by decide +kernel
theorem dX3_coins_65 : decode cX3_coins 65 = .ok (.invokevirtual 78, 3) := by decide +kernel
theorem dX3_coins_68 : decode cX3_coins 68 = .ok (.checkcast 82, 3) := by decide +kernel
theorem dX3_coins_71 : decode cX3_coins 71 = .ok (.getfield 172, 3) := by decide +kernel
theorem dX3_coins_74 : decode cX3_coins 74 = .ok (.isub, 1) := by decide +kernel
theorem dX3_coins_75 : decode cX3_coins 75 = .ok (.istore_n 1, 1) := by decide +kernel
theorem dX3_coins_76 : decode cX3_coins 76 = .ok (.iinc 2 1, 3) := by decide +kernel
theorem dX3_coins_79 : decode cX3_coins 79 = .ok (.goto (-31), 3) := by decide +kernel
theorem dX3_coins_82 : decode cX3_coins 82 = .ok (.iload_n 1, 1) := by decide +kernel
theorem dX3_coins_83 : decode cX3_coins 83 = .ok (.ireturn, 1) := by decide +kernel
theorem dX3_personAt_0 : decode cX3_personAt 0 = .ok (.iload_n 1, 1) := by decide +kernel
theorem dX3_personAt_1 : decode cX3_personAt 1 = .ok (.ifCond .lt 14, 3) := by decide +kernel
theorem dX3_personAt_4 : decode cX3_personAt 4 = .ok (.iload_n 1, 1) := by decide +kernel
theorem dX3_personAt_5 : decode cX3_personAt 5 = .ok (.aload_n 0, 1) := by decide +kernel
theorem dX3_personAt_6 : decode cX3_personAt 6 = .ok (.getfield 10, 3) := by decide +kernel
theorem dX3_personAt_9 : decode cX3_personAt 9 = .ok (.invokevirtual 24, 3) := by decide +kernel
theorem dX3_personAt_12 : decode cX3_personAt 12 = .ok (.if_icmp .lt 14, 3) := by decide +kernel
theorem dX3_personAt_15 : decode cX3_personAt 15 = .ok (.new 239, 3) := by decide +kernel
theorem dX3_personAt_18 : decode cX3_personAt 18 = .ok (.dup, 1) := by decide +kernel
theorem dX3_personAt_19 : decode cX3_personAt 19 = .ok (.ldc_w 260, 3) := by decide +kernel
theorem dX3_personAt_22 : decode cX3_personAt 22 = .ok (.invokespecial 243, 3) := by decide +kernel
theorem dX3_personAt_25 : decode cX3_personAt 25 = .ok (.athrow, 1) := by decide +kernel
theorem dX3_personAt_26 : decode cX3_personAt 26 = .ok (.aload_n 0, 1) := by decide +kernel
theorem dX3_personAt_27 : decode cX3_personAt 27 = .ok (.getfield 10, 3) := by decide +kernel
theorem dX3_personAt_30 : decode cX3_personAt 30 = .ok (.iload_n 1, 1) := by decide +kernel
theorem dX3_personAt_31 : decode cX3_personAt 31 = .ok (.invokevirtual 78, 3) := by decide +kernel
theorem dX3_personAt_34 : decode cX3_personAt 34 = .ok (.checkcast 35, 3) := by decide +kernel
theorem dX3_personAt_37 : decode cX3_personAt 37 = .ok (.areturn, 1) := by decide +kernel
theorem dX3_circleAt_0 : decode cX3_circleAt 0 = .ok (.iload_n 1, 1) := by decide +kernel
theorem dX3_circleAt_1 : decode cX3_circleAt 1 = .ok (.ifCond .lt 14, 3) := by decide +kernel
theorem dX3_circleAt_4 : decode cX3_circleAt 4 = .ok (.iload_n 1, 1) := by decide +kernel
theorem dX3_circleAt_5 : decode cX3_circleAt 5 = .ok (.aload_n 0, 1) := by decide +kernel
theorem dX3_circleAt_6 : decode cX3_circleAt 6 = .ok (.getfield 16, 3) := by decide +kernel
theorem dX3_circleAt_9 : decode cX3_circleAt 9 = .ok (.invokevirtual 24, 3) := by decide +kernel
theorem dX3_circleAt_12 : decode cX3_circleAt 12 = .ok (.if_icmp .lt 14, 3) := by decide +kernel
theorem dX3_circleAt_15 : decode cX3_circleAt 15 = .ok (.new 239, 3) := by decide +kernel
theorem dX3_circleAt_18 : decode cX3_circleAt 18 = .ok (.dup, 1) := by decide +kernel
theorem dX3_circleAt_19 : decode cX3_circleAt 19 = .ok (.ldc_w 262, 3) := by decide +kernel
theorem dX3_circleAt_22 : decode cX3_circleAt 22 = .ok (.invokespecial 243, 3) := by decide +kernel
theorem dX3_circleAt_25 : decode cX3_circleAt 25 = .ok (.athrow, 1) := by decide +kernel
theorem dX3_circleAt_26 : decode cX3_circleAt 26 = .ok (.aload_n 0, 1) := by decide +kernel
theorem dX3_circleAt_27 : decode cX3_circleAt 27 = .ok (.getfield 16, 3) := by decide +kernel
theorem dX3_circleAt_30 : decode cX3_circleAt 30 = .ok (.iload_n 1, 1) := by decide +kernel
theorem dX3_circleAt_31 : decode cX3_circleAt 31 = .ok (.invokevirtual 78, 3) := by decide +kernel
theorem dX3_circleAt_34 : decode cX3_circleAt 34 = .ok (.checkcast 82, 3) := by decide +kernel
theorem dX3_circleAt_37 : decode cX3_circleAt 37 = .ok (.areturn, 1) := by decide +kernel
theorem dX3_checkRange_0 : decode cX3_checkRange 0 = .ok (.iload_n 0, 1) := by decide +kernel
theorem dX3_checkRange_1 : decode cX3_checkRange 1 = .ok (.iload_n 1, 1) := by decide +kernel
theorem dX3_checkRange_2 : decode cX3_checkRange 2 = .ok (.if_icmp .lt 8, 3) := by decide +kernel
theorem dX3_checkRange_5 : decode cX3_checkRange 5 = .ok (.iload_n 0, 1) := by decide +kernel
theorem dX3_checkRange_6 : decode cX3_checkRange 6 = .ok (.iload_n 2, 1) := by decide +kernel
theorem dX3_checkRange_7 : decode cX3_checkRange 7 = .ok (.if_icmp .le 14, 3) := by decide +kernel
theorem dX3_checkRange_10 : decode cX3_checkRange 10 = .ok (.new 64, 3) := by decide +kernel
theorem dX3_checkRange_13 : decode cX3_checkRange 13 = .ok (.dup, 1) := by decide +kernel
theorem dX3_checkRange_14 : decode cX3_checkRange 14 = .ok (.ldc_w 264, 3) := by decide +kernel
theorem dX3_checkRange_17 : decode cX3_checkRange 17 = .ok (.invokespecial 68, 3) := by decide +kernel
theorem dX3_checkRange_20 : decode cX3_checkRange 20 = .ok (.athrow, 1) := by decide +kernel
theorem dX3_checkRange_21 : decode cX3_checkRange 21 = .ok (.return_, 1) := by decide +kernel
theorem dX3_numberAt_0 : decode cX3_numberAt 0 = .ok (.aload_n 0, 1) := by decide +kernel
theorem dX3_numberAt_1 : decode cX3_numberAt 1 = .ok (.ifnonnull 7, 3) := by decide +kernel
theorem dX3_numberAt_4 : decode cX3_numberAt 4 = .ok (.iconst (-1), 1) := by decide +kernel
theorem dX3_numberAt_5 : decode cX3_numberAt 5 = .ok (.goto 10, 3) := by decide +kernel
theorem dX3_numberAt_8 : decode cX3_numberAt 8 = .ok (.aload_n 0, 1) := by decide +kernel
theorem dX3_numberAt_9 : decode cX3_numberAt 9 = .ok (.getfield 266, 3) := by decide +kernel
theorem dX3_numberAt_12 : decode cX3_numberAt 12 = .ok (.getfield 43, 3) := by decide +kernel
theorem dX3_numberAt_15 : decode cX3_numberAt 15 = .ok (.ireturn, 1) := by decide +kernel
theorem dX3_payFund_0 : decode cX3_payFund 0 = .ok (.aload_n 1, 1) := by decide +kernel
theorem dX3_payFund_1 : decode cX3_payFund 1 = .ok (.iload_n 2, 1) := by decide +kernel
theorem dX3_payFund_2 : decode cX3_payFund 2 = .ok (.invokevirtual 270, 3) := by decide +kernel
theorem dX3_payFund_5 : decode cX3_payFund 5 = .ok (.aload_n 0, 1) := by decide +kernel
theorem dX3_payFund_6 : decode cX3_payFund 6 = .ok (.dup, 1) := by decide +kernel
theorem dX3_payFund_7 : decode cX3_payFund 7 = .ok (.getfield 208, 3) := by decide +kernel
theorem dX3_payFund_10 : decode cX3_payFund 10 = .ok (.iload_n 2, 1) := by decide +kernel
theorem dX3_payFund_11 : decode cX3_payFund 11 = .ok (.iadd, 1) := by decide +kernel
theorem dX3_payFund_12 : decode cX3_payFund 12 = .ok (.putfield 208, 3) := by decide +kernel
theorem dX3_payFund_15 : decode cX3_payFund 15 = .ok (.return_, 1) := by decide +kernel
theorem dX3_highestLoan_0 : decode cX3_highestLoan 0 = .ok (.bipush 50, 2) := by decide +kernel
theorem dX3_highestLoan_2 : decode cX3_highestLoan 2 = .ok (.iconst 1, 1) := by decide +kernel
theorem dX3_highestLoan_3 : decode cX3_highestLoan 3 = .ok (.aload_n 1, 1) := by decide +kernel
theorem dX3_highestLoan_4 : decode cX3_highestLoan 4 = .ok (.getfield 222, 3) := by decide +kernel
theorem dX3_highestLoan_7 : decode cX3_highestLoan 7 = .ok (.iadd, 1) := by decide +kernel
theorem dX3_highestLoan_8 : decode cX3_highestLoan 8 = .ok (.imul, 1) := by decide +kernel
theorem dX3_highestLoan_9 : decode cX3_highestLoan 9 = .ok (.sipush 500, 3) := by decide +kernel
theorem dX3_highestLoan_12 : decode cX3_highestLoan 12 = .ok (.aload_n 0, 1) := by decide +kernel
theorem dX3_highestLoan_13 : decode cX3_highestLoan 13 = .ok (.aload_n 1, 1) := by decide +kernel
theorem dX3_highestLoan_14 : decode cX3_highestLoan 14 = .ok (.invokevirtual 273, 3) := by decide +kernel
theorem dX3_highestLoan_17 : decode cX3_highestLoan 17 = .ok (.isub, 1) := by decide +kernel
theorem dX3_highestLoan_18 : decode cX3_highestLoan 18 = .ok (.invokestatic 175, 3) := by decide +kernel
theorem dX3_highestLoan_21 : decode cX3_highestLoan 21 = .ok (.ireturn, 1) := by decide +kernel
theorem dX3_houseDebts_0 : decode cX3_houseDebts 0 = .ok (.iconst 0, 1) := by decide +kernel
theorem dX3_houseDebts_1 : decode cX3_houseDebts 1 = .ok (.istore_n 2, 1) := by decide +kernel
theorem dX3_houseDebts_2 : decode cX3_houseDebts 2 = .ok (.iconst 0, 1) := by decide +kernel
theorem dX3_houseDebts_3 : decode cX3_houseDebts 3 = .ok (.istore_n 3, 1) := by decide +kernel
theorem dX3_houseDebts_4 : decode cX3_houseDebts 4 = .ok (.iload_n 3, 1) := by decide +kernel
theorem dX3_houseDebts_5 : decode cX3_houseDebts 5 = .ok (.aload_n 0, 1) := by decide +kernel
theorem dX3_houseDebts_6 : decode cX3_houseDebts 6 = .ok (.getfield 10, 3) := by decide +kernel
theorem dX3_houseDebts_9 : decode cX3_houseDebts 9 = .ok (.invokevirtual 24, 3) := by decide +kernel
theorem dX3_houseDebts_12 : decode cX3_houseDebts 12 = .ok (.if_icmp .ge 47, 3) := by decide +kernel
theorem dX3_houseDebts_15 : decode cX3_houseDebts 15 = .ok (.aload_n 0, 1) := by decide +kernel
theorem dX3_houseDebts_16 : decode cX3_houseDebts 16 = .ok (.getfield 10, 3) := by decide +kernel
theorem dX3_houseDebts_19 : decode cX3_houseDebts 19 = .ok (.iload_n 3, 1) := by decide +kernel
theorem dX3_houseDebts_20 : decode cX3_houseDebts 20 = .ok (.invokevirtual 78, 3) := by decide +kernel
theorem dX3_houseDebts_23 : decode cX3_houseDebts 23 = .ok (.checkcast 35, 3) := by decide +kernel
theorem dX3_houseDebts_26 : decode cX3_houseDebts 26 = .ok (.astore 4, 2) := by decide +kernel
theorem dX3_houseDebts_28 : decode cX3_houseDebts 28 = .ok (.aload 4, 2) := by decide +kernel
theorem dX3_houseDebts_30 : decode cX3_houseDebts 30 = .ok (.getfield 54, 3) := by decide +kernel
theorem dX3_houseDebts_33 : decode cX3_houseDebts 33 = .ok (.ifCond .ne 20, 3) := by decide +kernel
theorem dX3_houseDebts_36 : decode cX3_houseDebts 36 = .ok (.aload 4, 2) := by decide +kernel
theorem dX3_houseDebts_38 : decode cX3_houseDebts 38 = .ok (.aload_n 1, 1) := by decide +kernel
theorem dX3_houseDebts_39 : decode cX3_houseDebts 39 = .ok (.invokevirtual 276, 3) := by decide +kernel
theorem dX3_houseDebts_42 : decode cX3_houseDebts 42 = .ok (.ifCond .eq 11, 3) := by decide +kernel
theorem dX3_houseDebts_45 : decode cX3_houseDebts 45 = .ok (.iload_n 2, 1) := by decide +kernel
theorem dX3_houseDebts_46 : decode cX3_houseDebts 46 = .ok (.aload 4, 2) := by decide +kernel
theorem dX3_houseDebts_48 : decode cX3_houseDebts 48 = .ok (.getfield 217, 3) := by decide +kernel
theorem dX3_houseDebts_51 : decode cX3_houseDebts 51 = .ok (.iadd, 1) := by decide +kernel
theorem dX3_houseDebts_52 : decode cX3_houseDebts 52 = .ok (.istore_n 2, 1) := by decide +kernel
theorem dX3_houseDebts_53 : decode cX3_houseDebts 53 = .ok (.iinc 3 1, 3) := by decide +kernel
theorem dX3_houseDebts_56 : decode cX3_houseDebts 56 = .ok (.goto (-52), 3) := by decide +kernel
theorem dX3_houseDebts_59 : decode cX3_houseDebts 59 = .ok (.iload_n 2, 1) := by decide +kernel
theorem dX3_houseDebts_60 : decode cX3_houseDebts 60 = .ok (.ireturn, 1) := by decide +kernel
theorem dX3_houseSize_0 : decode cX3_houseSize 0 = .ok (.iconst 0, 1) := by decide +kernel
theorem dX3_houseSize_1 : decode cX3_houseSize 1 = .ok (.istore_n 2, 1) := by decide +kernel
theorem dX3_houseSize_2 : decode cX3_houseSize 2 = .ok (.iconst 0, 1) := by decide +kernel
theorem dX3_houseSize_3 : decode cX3_houseSize 3 = .ok (.istore_n 3, 1) := by decide +kernel
theorem dX3_houseSize_4 : decode cX3_houseSize 4 = .ok (.iload_n 3, 1) := by decide +kernel
theorem dX3_houseSize_5 : decode cX3_houseSize 5 = .ok (.aload_n 0, 1) := by decide +kernel
theorem dX3_houseSize_6 : decode cX3_houseSize 6 = .ok (.getfield 10, 3) := by decide +kernel
theorem dX3_houseSize_9 : decode cX3_houseSize 9 = .ok (.invokevirtual 24, 3) := by decide +kernel
theorem dX3_houseSize_12 : decode cX3_houseSize 12 = .ok (.if_icmp .ge 42, 3) := by decide +kernel
theorem dX3_houseSize_15 : decode cX3_houseSize 15 = .ok (.aload_n 0, 1) := by decide +kernel
theorem dX3_houseSize_16 : decode cX3_houseSize 16 = .ok (.getfield 10, 3) := by decide +kernel
theorem dX3_houseSize_19 : decode cX3_houseSize 19 = .ok (.iload_n 3, 1) := by decide +kernel
theorem dX3_houseSize_20 : decode cX3_houseSize 20 = .ok (.invokevirtual 78, 3) := by decide +kernel
theorem dX3_houseSize_23 : decode cX3_houseSize 23 = .ok (.checkcast 35, 3) := by decide +kernel
theorem dX3_houseSize_26 : decode cX3_houseSize 26 = .ok (.astore 4, 2) := by decide +kernel
theorem dX3_houseSize_28 : decode cX3_houseSize 28 = .ok (.aload 4, 2) := by decide +kernel
theorem dX3_houseSize_30 : decode cX3_houseSize 30 = .ok (.getfield 54, 3) := by decide +kernel
theorem dX3_houseSize_33 : decode cX3_houseSize 33 = .ok (.ifCond .ne 15, 3) := by decide +kernel
theorem dX3_houseSize_36 : decode cX3_houseSize 36 = .ok (.aload 4, 2) := by decide +kernel
theorem dX3_houseSize_38 : decode cX3_houseSize 38 = .ok (.aload_n 1, 1) := by decide +kernel
theorem dX3_houseSize_39 : decode cX3_houseSize 39 = .ok (.invokevirtual 276, 3) := by decide +kernel
theorem dX3_houseSize_42 : decode cX3_houseSize 42 = .ok (.ifCond .eq 6, 3) := by decide +kernel
theorem dX3_houseSize_45 : decode cX3_houseSize 45 = .ok (.iinc 2 1, 3) := by decide +kernel
theorem dX3_houseSize_48 : decode cX3_houseSize 48 = .ok (.iinc 3 1, 3) := by decide +kernel
theorem dX3_houseSize_51 : decode cX3_houseSize 51 = .ok (.goto (-47), 3) := by decide +kernel
theorem dX3_houseSize_54 : decode cX3_houseSize 54 = .ok (.iload_n 2, 1) := by decide +kernel
theorem dX3_houseSize_55 : decode cX3_houseSize 55 = .ok (.ireturn, 1) := by decide +kernel
theorem dX3_defaultLoan_0 : decode cX3_defaultLoan 0 = .ok (.aload_n 1, 1) := by decide +kernel
theorem dX3_defaultLoan_1 : decode cX3_defaultLoan 1 = .ok (.getfield 217, 3) := by decide +kernel
theorem dX3_defaultLoan_4 : decode cX3_defaultLoan 4 = .ok (.iconst 2, 1) := by decide +kernel
theorem dX3_defaultLoan_5 : decode cX3_defaultLoan 5 = .ok (.idiv, 1) := by decide +kernel
theorem dX3_defaultLoan_6 : decode cX3_defaultLoan 6 = .ok (.istore_n 2, 1) := by decide +kernel
theorem dX3_defaultLoan_7 : decode cX3_defaultLoan 7 = .ok (.aload_n 1, 1) := by decide +kernel
theorem dX3_defaultLoan_8 : decode cX3_defaultLoan 8 = .ok (.getfield 217, 3) := by decide +kernel
theorem dX3_defaultLoan_11 : decode cX3_defaultLoan 11 = .ok (.iload_n 2, 1) := by decide +kernel
theorem dX3_defaultLoan_12 : decode cX3_defaultLoan 12 = .ok (.isub, 1) := by decide +kernel
theorem dX3_defaultLoan_13 : decode cX3_defaultLoan 13 = .ok (.istore_n 3, 1) := by decide +kernel
theorem dX3_defaultLoan_14 : decode cX3_defaultLoan 14 = .ok (.aload_n 0, 1) := by decide +kernel
theorem dX3_defaultLoan_15 : decode cX3_defaultLoan 15 = .ok (.aload_n 1, 1) := by decide +kernel
theorem dX3_defaultLoan_16 : decode cX3_defaultLoan 16 = .ok (.getfield 280, 3) := by decide +kernel
theorem dX3_defaultLoan_19 : decode cX3_defaultLoan 19 = .ok (.iload_n 2, 1) := by decide +kernel
theorem dX3_defaultLoan_20 : decode cX3_defaultLoan 20 = .ok (.invokevirtual 283, 3) := by decide +kernel
theorem dX3_defaultLoan_23 : decode cX3_defaultLoan 23 = .ok (.aload_n 0, 1) := by decide +kernel
theorem dX3_defaultLoan_24 : decode cX3_defaultLoan 24 = .ok (.aload_n 1, 1) := by decide +kernel
theorem dX3_defaultLoan_25 : decode cX3_defaultLoan 25 = .ok (.getfield 286, 3) := by decide +kernel
theorem dX3_defaultLoan_28 : decode cX3_defaultLoan 28 = .ok (.iload_n 3, 1) := by decide +kernel
theorem dX3_defaultLoan_29 : decode cX3_defaultLoan 29 = .ok (.invokevirtual 283, 3) := by decide +kernel
theorem dX3_defaultLoan_32 : decode cX3_defaultLoan 32 = .ok (.aload_n 1, 1) := by decide +kernel
theorem dX3_defaultLoan_33 : decode cX3_defaultLoan 33 = .ok (.iconst 0, 1) := by decide +kernel
theorem dX3_defaultLoan_34 : decode cX3_defaultLoan 34 = .ok (.putfield 217, 3) := by decide +kernel
theorem dX3_defaultLoan_37 : decode cX3_defaultLoan 37 = .ok (.aload_n 1, 1) := by decide +kernel
theorem dX3_defaultLoan_38 : decode cX3_defaultLoan 38 = .ok (.iconst 0, 1) := by decide +kernel
theorem dX3_defaultLoan_39 : decode cX3_defaultLoan 39 = .ok (.putfield 222, 3) := by decide +kernel
theorem dX3_defaultLoan_42 : decode cX3_defaultLoan 42 = .ok (.return_, 1) := by decide +kernel
theorem dX3_payForOther_0 : decode cX3_payForOther 0 = .ok (.aload_n 1, 1) := by decide +kernel
theorem dX3_payForOther_1 : decode cX3_payForOther 1 = .ok (.ifnull 23, 3) := by decide +kernel
theorem dX3_payForOther_4 : decode cX3_payForOther 4 = .ok (.aload_n 1, 1) := by decide +kernel
theorem dX3_payForOther_5 : decode cX3_payForOther 5 = .ok (.getfield 54, 3) := by decide +kernel
theorem dX3_payForOther_8 : decode cX3_payForOther 8 = .ok (.ifCond .ne 16, 3) := by decide +kernel
theorem dX3_payForOther_11 : decode cX3_payForOther 11 = .ok (.aload_n 0, 1) := by decide +kernel
theorem dX3_payForOther_12 : decode cX3_payForOther 12 = .ok (.aload_n 1, 1) := by decide +kernel
theorem dX3_payForOther_13 : decode cX3_payForOther 13 = .ok (.iload_n 2, 1) := by decide +kernel
theorem dX3_payForOther_14 : decode cX3_payForOther 14 = .ok (.aload_n 1, 1) := by decide +kernel
theorem dX3_payForOther_15 : decode cX3_payForOther 15 = .ok (.getfield 51, 3) := by decide +kernel
theorem dX3_payForOther_18 : decode cX3_payForOther 18 = .ok (.invokestatic 175, 3) := by decide +kernel
theorem dX3_payForOther_21 : decode cX3_payForOther 21 = .ok (.invokevirtual 190, 3) := by decide +kernel
theorem dX3_payForOther_24 : decode cX3_payForOther 24 = .ok (.return_, 1) := by decide +kernel
theorem dJ9_max_7cf53_0 : decode cJ9_max_7cf53 0 = .ok (.iload_n 0, 1) := by decide +kernel
theorem dJ9_max_7cf53_1 : decode cJ9_max_7cf53 1 = .ok (.iload_n 1, 1) := by decide +kernel
theorem dJ9_max_7cf53_2 : decode cJ9_max_7cf53 2 = .ok (.if_icmp .lt 7, 3) := by decide +kernel
theorem dJ9_max_7cf53_5 : decode cJ9_max_7cf53 5 = .ok (.iload_n 0, 1) := by decide +kernel
theorem dJ9_max_7cf53_6 : decode cJ9_max_7cf53 6 = .ok (.goto 4, 3) := by decide +kernel
theorem dJ9_max_7cf53_9 : decode cJ9_max_7cf53 9 = .ok (.iload_n 1, 1) := by decide +kernel
theorem dJ9_max_7cf53_10 : decode cJ9_max_7cf53 10 = .ok (.ireturn, 1) := by decide +kernel
theorem dJ9_min_7cf53_0 : decode cJ9_min_7cf53 0 = .ok (.iload_n 0, 1) := by decide +kernel
theorem dJ9_min_7cf53_1 : decode cJ9_min_7cf53 1 = .ok (.iload_n 1, 1) := by decide +kernel
theorem dJ9_min_7cf53_2 : decode cJ9_min_7cf53 2 = .ok (.if_icmp .gt 7, 3) := by decide +kernel
theorem dJ9_min_7cf53_5 : decode cJ9_min_7cf53 5 = .ok (.iload_n 0, 1) := by decide +kernel
theorem dJ9_min_7cf53_6 : decode cJ9_min_7cf53 6 = .ok (.goto 4, 3) := by decide +kernel
theorem dJ9_min_7cf53_9 : decode cJ9_min_7cf53 9 = .ok (.iload_n 1, 1) := by decide +kernel
theorem dJ9_min_7cf53_10 : decode cJ9_min_7cf53 10 = .ok (.ireturn, 1) := by decide +kernel
theorem dJxa1e45_init_da8c8_0 : decode cJxa1e45_init_da8c8 0 = .ok (.aload_n 0, 1) := by decide +kernel
theorem dJxa1e45_init_da8c8_1 : decode cJxa1e45_init_da8c8 1 = .ok (.invokespecial 1, 3) := by decide +kernel
theorem dJxa1e45_init_da8c8_4 : decode cJxa1e45_init_da8c8 4 = .ok (.return_, 1) := by decide +kernel
theorem dJxc12de_init_da8c8_0 : decode cJxc12de_init_da8c8 0 = .ok (.aload_n 0, 1) := by decide +kernel
theorem dJxc12de_init_da8c8_1 : decode cJxc12de_init_da8c8 1 = .ok (.invokespecial 1, 3) := by decide +kernel
theorem dJxc12de_init_da8c8_4 : decode cJxc12de_init_da8c8 4 = .ok (.aload_n 0, 1) := by decide +kernel
theorem dJxc12de_init_da8c8_5 : decode cJxc12de_init_da8c8 5 = .ok (.iconst 0, 1) := by decide +kernel
theorem dJxc12de_init_da8c8_6 : decode cJxc12de_init_da8c8 6 = .ok (.putfield 7, 3) := by decide +kernel
theorem dJxc12de_init_da8c8_9 : decode cJxc12de_init_da8c8 9 = .ok (.return_, 1) := by decide +kernel
theorem dJx4a65c_init_da8c8_0 : decode cJx4a65c_init_da8c8 0 = .ok (.aload_n 0, 1) := by decide +kernel
theorem dJx4a65c_init_da8c8_1 : decode cJx4a65c_init_da8c8 1 = .ok (.invokespecial 1, 3) := by decide +kernel
theorem dJx4a65c_init_da8c8_4 : decode cJx4a65c_init_da8c8 4 = .ok (.aload_n 0, 1) := by decide +kernel
theorem dJx4a65c_init_da8c8_5 : decode cJx4a65c_init_da8c8 5 = .ok (.getstatic 39, 3) := by decide +kernel
theorem dJx4a65c_init_da8c8_8 : decode cJx4a65c_init_da8c8 8 = .ok (.putfield 9, 3) := by decide +kernel
theorem dJx4a65c_init_da8c8_11 : decode cJx4a65c_init_da8c8 11 = .ok (.return_, 1) := by decide +kernel
theorem dJx4a65c_grow_92f84_0 : decode cJx4a65c_grow_92f84 0 = .ok (.aload_n 0, 1) := by decide +kernel
theorem dJx4a65c_grow_92f84_1 : decode cJx4a65c_grow_92f84 1 = .ok (.getfield 9, 3) := by decide +kernel
theorem dJx4a65c_grow_92f84_4 : decode cJx4a65c_grow_92f84 4 = .ok (.arraylength, 1) := by decide +kernel
theorem dJx4a65c_grow_92f84_5 : decode cJx4a65c_grow_92f84 5 = .ok (.istore_n 2, 1) := by decide +kernel
theorem dJx4a65c_grow_92f84_6 : decode cJx4a65c_grow_92f84 6 = .ok (.iload_n 2, 1) := by decide +kernel
theorem dJx4a65c_grow_92f84_7 : decode cJx4a65c_grow_92f84 7 = .ok (.ifCond .gt 13, 3) := by decide +kernel
theorem dJx4a65c_grow_92f84_10 : decode cJx4a65c_grow_92f84 10 = .ok (.aload_n 0, 1) := by decide +kernel
theorem dJx4a65c_grow_92f84_11 : decode cJx4a65c_grow_92f84 11 = .ok (.getfield 9, 3) := by decide +kernel
theorem dJx4a65c_grow_92f84_14 : decode cJx4a65c_grow_92f84 14 = .ok (.getstatic 39, 3) := by decide +kernel
theorem dJx4a65c_grow_92f84_17 : decode cJx4a65c_grow_92f84 17 = .ok (.if_acmp .eq 28, 3) := by decide +kernel
theorem dJx4a65c_grow_92f84_20 : decode cJx4a65c_grow_92f84 20 = .ok (.iload_n 2, 1) := by decide +kernel
theorem dJx4a65c_grow_92f84_21 : decode cJx4a65c_grow_92f84 21 = .ok (.iload_n 1, 1) := by decide +kernel
theorem dJx4a65c_grow_92f84_22 : decode cJx4a65c_grow_92f84 22 = .ok (.iload_n 2, 1) := by decide +kernel
theorem dJx4a65c_grow_92f84_23 : decode cJx4a65c_grow_92f84 23 = .ok (.isub, 1) := by decide +kernel
theorem dJx4a65c_grow_92f84_24 : decode cJx4a65c_grow_92f84 24 = .ok (.iload_n 2, 1) := by decide +kernel
theorem dJx4a65c_grow_92f84_25 : decode cJx4a65c_grow_92f84 25 = .ok (.iconst 1, 1) := by decide +kernel
theorem dJx4a65c_grow_92f84_26 : decode cJx4a65c_grow_92f84 26 = .ok (.ishr, 1) := by decide +kernel
theorem dJx4a65c_grow_92f84_27 : decode cJx4a65c_grow_92f84 27 = .ok (.invokestatic 73, 3) := by decide +kernel
theorem dJx4a65c_grow_92f84_30 : decode cJx4a65c_grow_92f84 30 = .ok (.istore_n 3, 1) := by decide +kernel
theorem dJx4a65c_grow_92f84_31 : decode cJx4a65c_grow_92f84 31 = .ok (.aload_n 0, 1) := by decide +kernel
theorem dJx4a65c_grow_92f84_32 : decode cJx4a65c_grow_92f84 32 = .ok (.aload_n 0, 1) := by decide +kernel
theorem dJx4a65c_grow_92f84_33 : decode cJx4a65c_grow_92f84 33 = .ok (.getfield 9, 3) := by decide +kernel
theorem dJx4a65c_grow_92f84_36 : decode cJx4a65c_grow_92f84 36 = .ok (.iload_n 3, 1) := by decide +kernel
theorem dJx4a65c_grow_92f84_37 : decode cJx4a65c_grow_92f84 37 = .ok (.invokestatic 66, 3) := by decide +kernel
theorem dJx4a65c_grow_92f84_40 : decode cJx4a65c_grow_92f84 40 = .ok (.dup_x1, 1) := by decide +kernel
theorem dJx4a65c_grow_92f84_41 : decode cJx4a65c_grow_92f84 41 = .ok (.putfield 9, 3) := by decide +kernel
theorem dJx4a65c_grow_92f84_44 : decode cJx4a65c_grow_92f84 44 = .ok (.areturn, 1) := by decide +kernel
theorem dJx4a65c_grow_92f84_45 : decode cJx4a65c_grow_92f84 45 = .ok (.aload_n 0, 1) := by decide +kernel
theorem dJx4a65c_grow_92f84_46 : decode cJx4a65c_grow_92f84 46 = .ok (.bipush 10, 2) := by decide +kernel
theorem dJx4a65c_grow_92f84_48 : decode cJx4a65c_grow_92f84 48 = .ok (.iload_n 1, 1) := by decide +kernel
theorem dJx4a65c_grow_92f84_49 : decode cJx4a65c_grow_92f84 49 = .ok (.invokestatic 79, 3) := by decide +kernel
theorem dJx4a65c_grow_92f84_52 : decode cJx4a65c_grow_92f84 52 = .ok (.anewarray 7, 3) := by decide +kernel
theorem dJx4a65c_grow_92f84_55 : decode cJx4a65c_grow_92f84 55 = .ok (.dup_x1, 1) := by decide +kernel
theorem dJx4a65c_grow_92f84_56 : decode cJx4a65c_grow_92f84 56 = .ok (.putfield 9, 3) := by decide +kernel
theorem dJx4a65c_grow_92f84_59 : decode cJx4a65c_grow_92f84 59 = .ok (.areturn, 1) := by decide +kernel
theorem dJx4a65c_grow_d5877_0 : decode cJx4a65c_grow_d5877 0 = .ok (.aload_n 0, 1) := by decide +kernel
theorem dJx4a65c_grow_d5877_1 : decode cJx4a65c_grow_d5877 1 = .ok (.aload_n 0, 1) := by decide +kernel
theorem dJx4a65c_grow_d5877_2 : decode cJx4a65c_grow_d5877 2 = .ok (.getfield 48, 3) := by decide +kernel
theorem dJx4a65c_grow_d5877_5 : decode cJx4a65c_grow_d5877 5 = .ok (.iconst 1, 1) := by decide +kernel
theorem dJx4a65c_grow_d5877_6 : decode cJx4a65c_grow_d5877 6 = .ok (.iadd, 1) := by decide +kernel
theorem dJx4a65c_grow_d5877_7 : decode cJx4a65c_grow_d5877 7 = .ok (.invokevirtual 69, 3) := by decide +kernel
theorem dJx4a65c_grow_d5877_10 : decode cJx4a65c_grow_d5877 10 = .ok (.areturn, 1) := by decide +kernel
theorem dJx4a65c_size_8abf5_0 : decode cJx4a65c_size_8abf5 0 = .ok (.aload_n 0, 1) := by decide +kernel
theorem dJx4a65c_size_8abf5_1 : decode cJx4a65c_size_8abf5 1 = .ok (.getfield 48, 3) := by decide +kernel
theorem dJx4a65c_size_8abf5_4 : decode cJx4a65c_size_8abf5 4 = .ok (.ireturn, 1) := by decide +kernel
theorem dJx4a65c_isEmpty_aae02_0 : decode cJx4a65c_isEmpty_aae02 0 = .ok (.aload_n 0, 1) := by decide +kernel
theorem dJx4a65c_isEmpty_aae02_1 : decode cJx4a65c_isEmpty_aae02 1 = .ok (.getfield 48, 3) := by decide +kernel
theorem dJx4a65c_isEmpty_aae02_4 : decode cJx4a65c_isEmpty_aae02 4 = .ok (.ifCond .ne 7, 3) := by decide +kernel
theorem dJx4a65c_isEmpty_aae02_7 : decode cJx4a65c_isEmpty_aae02 7 = .ok (.iconst 1, 1) := by decide +kernel
theorem dJx4a65c_isEmpty_aae02_8 : decode cJx4a65c_isEmpty_aae02 8 = .ok (.goto 4, 3) := by decide +kernel
theorem dJx4a65c_isEmpty_aae02_11 : decode cJx4a65c_isEmpty_aae02 11 = .ok (.iconst 0, 1) := by decide +kernel
theorem dJx4a65c_isEmpty_aae02_12 : decode cJx4a65c_isEmpty_aae02 12 = .ok (.ireturn, 1) := by decide +kernel
theorem dJx4a65c_elementData_915e3_0 : decode cJx4a65c_elementData_915e3 0 = .ok (.aload_n 0, 1) := by decide +kernel
theorem dJx4a65c_elementData_915e3_1 : decode cJx4a65c_elementData_915e3 1 = .ok (.getfield 9, 3) := by decide +kernel
theorem dJx4a65c_elementData_915e3_4 : decode cJx4a65c_elementData_915e3 4 = .ok (.iload_n 1, 1) := by decide +kernel
theorem dJx4a65c_elementData_915e3_5 : decode cJx4a65c_elementData_915e3 5 = .ok (.aaload, 1) := by decide +kernel
theorem dJx4a65c_elementData_915e3_6 : decode cJx4a65c_elementData_915e3 6 = .ok (.areturn, 1) := by decide +kernel
theorem dJx4a65c_get_915e3_0 : decode cJx4a65c_get_915e3 0 = .ok (.iload_n 1, 1) := by decide +kernel
theorem dJx4a65c_get_915e3_1 : decode cJx4a65c_get_915e3 1 = .ok (.aload_n 0, 1) := by decide +kernel
theorem dJx4a65c_get_915e3_2 : decode cJx4a65c_get_915e3 2 = .ok (.getfield 48, 3) := by decide +kernel
theorem dJx4a65c_get_915e3_5 : decode cJx4a65c_get_915e3 5 = .ok (.invokestatic 118, 3) := by decide +kernel
theorem dJx4a65c_get_915e3_8 : decode cJx4a65c_get_915e3 8 = .ok (.pop, 1) := by decide +kernel
theorem dJx4a65c_get_915e3_9 : decode cJx4a65c_get_915e3 9 = .ok (.aload_n 0, 1) := by decide +kernel
theorem dJx4a65c_get_915e3_10 : decode cJx4a65c_get_915e3 10 = .ok (.iload_n 1, 1) := by decide +kernel
theorem dJx4a65c_get_915e3_11 : decode cJx4a65c_get_915e3 11 = .ok (.invokevirtual 123, 3) := by decide +kernel
theorem dJx4a65c_get_915e3_14 : decode cJx4a65c_get_915e3 14 = .ok (.areturn, 1) := by decide +kernel
theorem dJx4a65c_add_72be8_0 : decode cJx4a65c_add_72be8 0 = .ok (.iload_n 3, 1) := by decide +kernel
theorem dJx4a65c_add_72be8_1 : decode cJx4a65c_add_72be8 1 = .ok (.aload_n 2, 1) := by decide +kernel
theorem dJx4a65c_add_72be8_2 : decode cJx4a65c_add_72be8 2 = .ok (.arraylength, 1) := by decide +kernel
theorem dJx4a65c_add_72be8_3 : decode cJx4a65c_add_72be8 3 = .ok (.if_icmp .ne 8, 3) := by decide +kernel
theorem dJx4a65c_add_72be8_6 : decode cJx4a65c_add_72be8 6 = .ok (.aload_n 0, 1) := by decide +kernel
theorem dJx4a65c_add_72be8_7 : decode cJx4a65c_add_72be8 7 = .ok (.invokevirtual 129, 3) := by decide +kernel
theorem dJx4a65c_add_72be8_10 : decode cJx4a65c_add_72be8 10 = .ok (.astore_n 2, 1) := by decide +kernel
theorem dJx4a65c_add_72be8_11 : decode cJx4a65c_add_72be8 11 = .ok (.aload_n 2, 1) := by decide +kernel
theorem dJx4a65c_add_72be8_12 : decode cJx4a65c_add_72be8 12 = .ok (.iload_n 3, 1) := by decide +kernel
theorem dJx4a65c_add_72be8_13 : decode cJx4a65c_add_72be8 13 = .ok (.aload_n 1, 1) := by decide +kernel
theorem dJx4a65c_add_72be8_14 : decode cJx4a65c_add_72be8 14 = .ok (.aastore, 1) := by decide +kernel
theorem dJx4a65c_add_72be8_15 : decode cJx4a65c_add_72be8 15 = .ok (.aload_n 0, 1) := by decide +kernel
theorem dJx4a65c_add_72be8_16 : decode cJx4a65c_add_72be8 16 = .ok (.iload_n 3, 1) := by decide +kernel
theorem dJx4a65c_add_72be8_17 : decode cJx4a65c_add_72be8 17 = .ok (.iconst 1, 1) := by decide +kernel
theorem dJx4a65c_add_72be8_18 : decode cJx4a65c_add_72be8 18 = .ok (.iadd, 1) := by decide +kernel
theorem dJx4a65c_add_72be8_19 : decode cJx4a65c_add_72be8 19 = .ok (.putfield 48, 3) := by decide +kernel
theorem dJx4a65c_add_72be8_22 : decode cJx4a65c_add_72be8 22 = .ok (.return_, 1) := by decide +kernel
theorem dJx4a65c_add_9ea2d_0 : decode cJx4a65c_add_9ea2d 0 = .ok (.aload_n 0, 1) := by decide +kernel
theorem dJx4a65c_add_9ea2d_1 : decode cJx4a65c_add_9ea2d 1 = .ok (.dup, 1) := by decide +kernel
theorem dJx4a65c_add_9ea2d_2 : decode cJx4a65c_add_9ea2d 2 = .ok (.getfield 63, 3) := by decide +kernel
theorem dJx4a65c_add_9ea2d_5 : decode cJx4a65c_add_9ea2d 5 = .ok (.iconst 1, 1) := by decide +kernel
theorem dJx4a65c_add_9ea2d_6 : decode cJx4a65c_add_9ea2d 6 = .ok (.iadd, 1) := by decide +kernel
theorem dJx4a65c_add_9ea2d_7 : decode cJx4a65c_add_9ea2d 7 = .ok (.putfield 63, 3) := by decide +kernel
theorem dJx4a65c_add_9ea2d_10 : decode cJx4a65c_add_9ea2d 10 = .ok (.aload_n 0, 1) := by decide +kernel
theorem dJx4a65c_add_9ea2d_11 : decode cJx4a65c_add_9ea2d 11 = .ok (.aload_n 1, 1) := by decide +kernel
theorem dJx4a65c_add_9ea2d_12 : decode cJx4a65c_add_9ea2d 12 = .ok (.aload_n 0, 1) := by decide +kernel
theorem dJx4a65c_add_9ea2d_13 : decode cJx4a65c_add_9ea2d 13 = .ok (.getfield 9, 3) := by decide +kernel
theorem dJx4a65c_add_9ea2d_16 : decode cJx4a65c_add_9ea2d 16 = .ok (.aload_n 0, 1) := by decide +kernel
theorem dJx4a65c_add_9ea2d_17 : decode cJx4a65c_add_9ea2d 17 = .ok (.getfield 48, 3) := by decide +kernel
theorem dJx4a65c_add_9ea2d_20 : decode cJx4a65c_add_9ea2d 20 = .ok (.invokevirtual 131, 3) := by decide +kernel
theorem dJx4a65c_add_9ea2d_23 : decode cJx4a65c_add_9ea2d 23 = .ok (.iconst 1, 1) := by decide +kernel
theorem dJx4a65c_add_9ea2d_24 : decode cJx4a65c_add_9ea2d 24 = .ok (.ireturn, 1) := by decide +kernel
theorem dJx4a65c_add_7a177_0 : decode cJx4a65c_add_7a177 0 = .ok (.aload_n 0, 1) := by decide +kernel
theorem dJx4a65c_add_7a177_1 : decode cJx4a65c_add_7a177 1 = .ok (.iload_n 1, 1) := by decide +kernel
theorem dJx4a65c_add_7a177_2 : decode cJx4a65c_add_7a177 2 = .ok (.invokevirtual 135, 3) := by decide +kernel
theorem dJx4a65c_add_7a177_5 : decode cJx4a65c_add_7a177 5 = .ok (.aload_n 0, 1) := by decide +kernel
theorem dJx4a65c_add_7a177_6 : decode cJx4a65c_add_7a177 6 = .ok (.dup, 1) := by decide +kernel
theorem dJx4a65c_add_7a177_7 : decode cJx4a65c_add_7a177 7 = .ok (.getfield 63, 3) := by decide +kernel
theorem dJx4a65c_add_7a177_10 : decode cJx4a65c_add_7a177 10 = .ok (.iconst 1, 1) := by decide +kernel
theorem dJx4a65c_add_7a177_11 : decode cJx4a65c_add_7a177 11 = .ok (.iadd, 1) := by decide +kernel
theorem dJx4a65c_add_7a177_12 : decode cJx4a65c_add_7a177 12 = .ok (.putfield 63, 3) := by decide +kernel
theorem dJx4a65c_add_7a177_15 : decode cJx4a65c_add_7a177 15 = .ok (.aload_n 0, 1) := by decide +kernel
theorem dJx4a65c_add_7a177_16 : decode cJx4a65c_add_7a177 16 = .ok (.getfield 48, 3) := by decide +kernel
theorem dJx4a65c_add_7a177_19 : decode cJx4a65c_add_7a177 19 = .ok (.dup, 1) := by decide +kernel
theorem dJx4a65c_add_7a177_20 : decode cJx4a65c_add_7a177 20 = .ok (.istore_n 3, 1) := by decide +kernel
theorem dJx4a65c_add_7a177_21 : decode cJx4a65c_add_7a177 21 = .ok (.aload_n 0, 1) := by decide +kernel
theorem dJx4a65c_add_7a177_22 : decode cJx4a65c_add_7a177 22 = .ok (.getfield 9, 3) := by decide +kernel
theorem dJx4a65c_add_7a177_25 : decode cJx4a65c_add_7a177 25 = .ok (.dup, 1) := by decide +kernel
theorem dJx4a65c_add_7a177_26 : decode cJx4a65c_add_7a177 26 = .ok (.astore 4, 2) := by decide +kernel
theorem dJx4a65c_add_7a177_28 : decode cJx4a65c_add_7a177 28 = .ok (.arraylength, 1) := by decide +kernel
theorem dJx4a65c_add_7a177_29 : decode cJx4a65c_add_7a177 29 = .ok (.if_icmp .ne 9, 3) := by decide +kernel
theorem dJx4a65c_add_7a177_32 : decode cJx4a65c_add_7a177 32 = .ok (.aload_n 0, 1) := by decide +kernel
theorem dJx4a65c_add_7a177_33 : decode cJx4a65c_add_7a177 33 = .ok (.invokevirtual 129, 3) := by decide +kernel
theorem dJx4a65c_add_7a177_36 : decode cJx4a65c_add_7a177 36 = .ok (.astore 4, 2) := by decide +kernel
theorem dJx4a65c_add_7a177_38 : decode cJx4a65c_add_7a177 38 = .ok (.aload 4, 2) := by decide +kernel
theorem dJx4a65c_add_7a177_40 : decode cJx4a65c_add_7a177 40 = .ok (.iload_n 1, 1) := by decide +kernel
theorem dJx4a65c_add_7a177_41 : decode cJx4a65c_add_7a177 41 = .ok (.aload 4, 2) := by decide +kernel
theorem dJx4a65c_add_7a177_43 : decode cJx4a65c_add_7a177 43 = .ok (.iload_n 1, 1) := by decide +kernel
theorem dJx4a65c_add_7a177_44 : decode cJx4a65c_add_7a177 44 = .ok (.iconst 1, 1) := by decide +kernel
theorem dJx4a65c_add_7a177_45 : decode cJx4a65c_add_7a177 45 = .ok (.iadd, 1) := by decide +kernel
theorem dJx4a65c_add_7a177_46 : decode cJx4a65c_add_7a177 46 = .ok (.iload_n 3, 1) := by decide +kernel
theorem dJx4a65c_add_7a177_47 : decode cJx4a65c_add_7a177 47 = .ok (.iload_n 1, 1) := by decide +kernel
theorem dJx4a65c_add_7a177_48 : decode cJx4a65c_add_7a177 48 = .ok (.isub, 1) := by decide +kernel
theorem dJx4a65c_add_7a177_49 : decode cJx4a65c_add_7a177 49 = .ok (.invokestatic 112, 3) := by decide +kernel
theorem dJx4a65c_add_7a177_52 : decode cJx4a65c_add_7a177 52 = .ok (.aload 4, 2) := by decide +kernel
theorem dJx4a65c_add_7a177_54 : decode cJx4a65c_add_7a177 54 = .ok (.iload_n 1, 1) := by decide +kernel
theorem dJx4a65c_add_7a177_55 : decode cJx4a65c_add_7a177 55 = .ok (.aload_n 2, 1) := by decide +kernel
theorem dJx4a65c_add_7a177_56 : decode cJx4a65c_add_7a177 56 = .ok (.aastore, 1) := by decide +kernel
theorem dJx4a65c_add_7a177_57 : decode cJx4a65c_add_7a177 57 = .ok (.aload_n 0, 1) := by decide +kernel
theorem dJx4a65c_add_7a177_58 : decode cJx4a65c_add_7a177 58 = .ok (.iload_n 3, 1) := by decide +kernel
theorem dJx4a65c_add_7a177_59 : decode cJx4a65c_add_7a177 59 = .ok (.iconst 1, 1) := by decide +kernel
theorem dJx4a65c_add_7a177_60 : decode cJx4a65c_add_7a177 60 = .ok (.iadd, 1) := by decide +kernel
theorem dJx4a65c_add_7a177_61 : decode cJx4a65c_add_7a177 61 = .ok (.putfield 48, 3) := by decide +kernel
theorem dJx4a65c_add_7a177_64 : decode cJx4a65c_add_7a177 64 = .ok (.return_, 1) := by decide +kernel
theorem dJx4a65c_remove_915e3_0 : decode cJx4a65c_remove_915e3 0 = .ok (.iload_n 1, 1) := by decide +kernel
theorem dJx4a65c_remove_915e3_1 : decode cJx4a65c_remove_915e3 1 = .ok (.aload_n 0, 1) := by decide +kernel
theorem dJx4a65c_remove_915e3_2 : decode cJx4a65c_remove_915e3 2 = .ok (.getfield 48, 3) := by decide +kernel
theorem dJx4a65c_remove_915e3_5 : decode cJx4a65c_remove_915e3 5 = .ok (.invokestatic 118, 3) := by decide +kernel
theorem dJx4a65c_remove_915e3_8 : decode cJx4a65c_remove_915e3 8 = .ok (.pop, 1) := by decide +kernel
theorem dJx4a65c_remove_915e3_9 : decode cJx4a65c_remove_915e3 9 = .ok (.aload_n 0, 1) := by decide +kernel
theorem dJx4a65c_remove_915e3_10 : decode cJx4a65c_remove_915e3 10 = .ok (.getfield 9, 3) := by decide +kernel
theorem dJx4a65c_remove_915e3_13 : decode cJx4a65c_remove_915e3 13 = .ok (.astore_n 2, 1) := by decide +kernel
theorem dJx4a65c_remove_915e3_14 : decode cJx4a65c_remove_915e3 14 = .ok (.aload_n 2, 1) := by decide +kernel
theorem dJx4a65c_remove_915e3_15 : decode cJx4a65c_remove_915e3 15 = .ok (.iload_n 1, 1) := by decide +kernel
theorem dJx4a65c_remove_915e3_16 : decode cJx4a65c_remove_915e3 16 = .ok (.aaload, 1) := by decide +kernel
theorem dJx4a65c_remove_915e3_17 : decode cJx4a65c_remove_915e3 17 = .ok (.astore_n 3, 1) := by decide +kernel
theorem dJx4a65c_remove_915e3_18 : decode cJx4a65c_remove_915e3 18 = .ok (.aload_n 0, 1) := by decide +kernel
theorem dJx4a65c_remove_915e3_19 : decode cJx4a65c_remove_915e3 19 = .ok (.aload_n 2, 1) := by decide +kernel
theorem dJx4a65c_remove_915e3_20 : decode cJx4a65c_remove_915e3 20 = .ok (.iload_n 1, 1) := by decide +kernel
theorem dJx4a65c_remove_915e3_21 : decode cJx4a65c_remove_915e3 21 = .ok (.invokevirtual 144, 3) := by decide +kernel
theorem dJx4a65c_remove_915e3_24 : decode cJx4a65c_remove_915e3 24 = .ok (.aload_n 3, 1) := by decide +kernel
theorem dJx4a65c_remove_915e3_25 : decode cJx4a65c_remove_915e3 25 = .ok (.areturn, 1) := by decide +kernel
theorem dJx4a65c_fastRemove_b59b0_0 : decode cJx4a65c_fastRemove_b59b0 0 = .ok (.aload_n 0, 1) := by decide +kernel
theorem dJx4a65c_fastRemove_b59b0_1 : decode cJx4a65c_fastRemove_b59b0 1 = .ok (.dup, 1) := by decide +kernel
theorem dJx4a65c_fastRemove_b59b0_2 : decode cJx4a65c_fastRemove_b59b0 2 = .ok (.getfield 63, 3) := by decide +kernel
theorem dJx4a65c_fastRemove_b59b0_5 : decode cJx4a65c_fastRemove_b59b0 5 = .ok (.iconst 1, 1) := by decide +kernel
theorem dJx4a65c_fastRemove_b59b0_6 : decode cJx4a65c_fastRemove_b59b0 6 = .ok (.iadd, 1) := by decide +kernel
theorem dJx4a65c_fastRemove_b59b0_7 : decode cJx4a65c_fastRemove_b59b0 7 = .ok (.putfield 63, 3) := by decide +kernel
theorem dJx4a65c_fastRemove_b59b0_10 : decode cJx4a65c_fastRemove_b59b0 10 = .ok (.aload_n 0, 1) := by decide +kernel
theorem dJx4a65c_fastRemove_b59b0_11 : decode cJx4a65c_fastRemove_b59b0 11 = .ok (.getfield 48, 3) := by decide +kernel
theorem dJx4a65c_fastRemove_b59b0_14 : decode cJx4a65c_fastRemove_b59b0 14 = .ok (.iconst 1, 1) := by decide +kernel
theorem dJx4a65c_fastRemove_b59b0_15 : decode cJx4a65c_fastRemove_b59b0 15 = .ok (.isub, 1) := by decide +kernel
theorem dJx4a65c_fastRemove_b59b0_16 : decode cJx4a65c_fastRemove_b59b0 16 = .ok (.dup, 1) := by decide +kernel
theorem dJx4a65c_fastRemove_b59b0_17 : decode cJx4a65c_fastRemove_b59b0 17 = .ok (.istore_n 3, 1) := by decide +kernel
theorem dJx4a65c_fastRemove_b59b0_18 : decode cJx4a65c_fastRemove_b59b0 18 = .ok (.iload_n 2, 1) := by decide +kernel
theorem dJx4a65c_fastRemove_b59b0_19 : decode cJx4a65c_fastRemove_b59b0 19 = .ok (.if_icmp .le 15, 3) := by decide +kernel
theorem dJx4a65c_fastRemove_b59b0_22 : decode cJx4a65c_fastRemove_b59b0 22 = .ok (.aload_n 1, 1) := by decide +kernel
theorem dJx4a65c_fastRemove_b59b0_23 : decode cJx4a65c_fastRemove_b59b0 23 = .ok (.iload_n 2, 1) := by decide +kernel
theorem dJx4a65c_fastRemove_b59b0_24 : decode cJx4a65c_fastRemove_b59b0 24 = .ok (.iconst 1, 1) := by decide +kernel
theorem dJx4a65c_fastRemove_b59b0_25 : decode cJx4a65c_fastRemove_b59b0 25 = .ok (.iadd, 1) := by decide +kernel
theorem dJx4a65c_fastRemove_b59b0_26 : decode cJx4a65c_fastRemove_b59b0 26 = .ok (.aload_n 1, 1) := by decide +kernel
theorem dJx4a65c_fastRemove_b59b0_27 : decode cJx4a65c_fastRemove_b59b0 27 = .ok (.iload_n 2, 1) := by decide +kernel
theorem dJx4a65c_fastRemove_b59b0_28 : decode cJx4a65c_fastRemove_b59b0 28 = .ok (.iload_n 3, 1) := by decide +kernel
theorem dJx4a65c_fastRemove_b59b0_29 : decode cJx4a65c_fastRemove_b59b0 29 = .ok (.iload_n 2, 1) := by decide +kernel
theorem dJx4a65c_fastRemove_b59b0_30 : decode cJx4a65c_fastRemove_b59b0 30 = .ok (.isub, 1) := by decide +kernel
theorem dJx4a65c_fastRemove_b59b0_31 : decode cJx4a65c_fastRemove_b59b0 31 = .ok (.invokestatic 112, 3) := by decide +kernel
theorem dJx4a65c_fastRemove_b59b0_34 : decode cJx4a65c_fastRemove_b59b0 34 = .ok (.aload_n 1, 1) := by decide +kernel
theorem dJx4a65c_fastRemove_b59b0_35 : decode cJx4a65c_fastRemove_b59b0 35 = .ok (.aload_n 0, 1) := by decide +kernel
theorem dJx4a65c_fastRemove_b59b0_36 : decode cJx4a65c_fastRemove_b59b0 36 = .ok (.iload_n 3, 1) := by decide +kernel
theorem dJx4a65c_fastRemove_b59b0_37 : decode cJx4a65c_fastRemove_b59b0 37 = .ok (.dup_x1, 1) := by decide +kernel
theorem dJx4a65c_fastRemove_b59b0_38 : decode cJx4a65c_fastRemove_b59b0 38 = .ok (.putfield 48, 3) := by decide +kernel
theorem dJx4a65c_fastRemove_b59b0_41 : decode cJx4a65c_fastRemove_b59b0 41 = .ok (.aconst_null, 1) := by decide +kernel
theorem dJx4a65c_fastRemove_b59b0_42 : decode cJx4a65c_fastRemove_b59b0 42 = .ok (.aastore, 1) := by decide +kernel
theorem dJx4a65c_fastRemove_b59b0_43 : decode cJx4a65c_fastRemove_b59b0 43 = .ok (.return_, 1) := by decide +kernel
theorem dJx4a65c_rangeCheckForAdd_d00df_0 : decode cJx4a65c_rangeCheckForAdd_d00df 0 = .ok (.iload_n 1, 1) := by decide +kernel
theorem dJx4a65c_rangeCheckForAdd_d00df_1 : decode cJx4a65c_rangeCheckForAdd_d00df 1 = .ok (.aload_n 0, 1) := by decide +kernel
theorem dJx4a65c_rangeCheckForAdd_d00df_2 : decode cJx4a65c_rangeCheckForAdd_d00df 2 = .ok (.getfield 48, 3) := by decide +kernel
theorem dJx4a65c_rangeCheckForAdd_d00df_5 : decode cJx4a65c_rangeCheckForAdd_d00df 5 = .ok (.if_icmp .gt 7, 3) := by decide +kernel
theorem dJx4a65c_rangeCheckForAdd_d00df_8 : decode cJx4a65c_rangeCheckForAdd_d00df 8 = .ok (.iload_n 1, 1) := by decide +kernel
theorem dJx4a65c_rangeCheckForAdd_d00df_9 : decode cJx4a65c_rangeCheckForAdd_d00df 9 = .ok (.ifCond .ge 16, 3) := by decide +kernel
theorem dJx4a65c_rangeCheckForAdd_d00df_12 : decode cJx4a65c_rangeCheckForAdd_d00df 12 = .ok (.new 187, 3) := by decide +kernel
theorem dJx4a65c_rangeCheckForAdd_d00df_15 : decode cJx4a65c_rangeCheckForAdd_d00df 15 = .ok (.dup, 1) := by decide +kernel
theorem dJx4a65c_rangeCheckForAdd_d00df_16 : decode cJx4a65c_rangeCheckForAdd_d00df 16 = .ok (.aload_n 0, 1) := by decide +kernel
theorem dJx4a65c_rangeCheckForAdd_d00df_17 : decode cJx4a65c_rangeCheckForAdd_d00df 17 = .ok (.iload_n 1, 1) := by decide +kernel
theorem dJx4a65c_rangeCheckForAdd_d00df_18 : decode cJx4a65c_rangeCheckForAdd_d00df 18 = .ok (.invokevirtual 198, 3) := by decide +kernel
theorem dJx4a65c_rangeCheckForAdd_d00df_21 : decode cJx4a65c_rangeCheckForAdd_d00df 21 = .ok (.invokespecial 193, 3) := by decide +kernel
theorem dJx4a65c_rangeCheckForAdd_d00df_24 : decode cJx4a65c_rangeCheckForAdd_d00df 24 = .ok (.athrow, 1) := by decide +kernel
theorem dJx4a65c_rangeCheckForAdd_d00df_25 : decode cJx4a65c_rangeCheckForAdd_d00df 25 = .ok (.return_, 1) := by decide +kernel
theorem dJ7_copyOf_1904c_0 : decode cJ7_copyOf_1904c 0 = .ok (.aload_n 0, 1) := by decide +kernel
theorem dJ7_copyOf_1904c_1 : decode cJ7_copyOf_1904c 1 = .ok (.iload_n 1, 1) := by decide +kernel
theorem dJ7_copyOf_1904c_2 : decode cJ7_copyOf_1904c 2 = .ok (.aload_n 0, 1) := by decide +kernel
theorem dJ7_copyOf_1904c_3 : decode cJ7_copyOf_1904c 3 = .ok (.invokevirtual 86, 3) := by decide +kernel
theorem dJ7_copyOf_1904c_6 : decode cJ7_copyOf_1904c 6 = .ok (.invokestatic 300, 3) := by decide +kernel
theorem dJ7_copyOf_1904c_9 : decode cJ7_copyOf_1904c 9 = .ok (.areturn, 1) := by decide +kernel
theorem dJ7_copyOf_6403c_0 : decode cJ7_copyOf_6403c 0 = .ok (.aload_n 2, 1) := by decide +kernel
theorem dJ7_copyOf_6403c_1 : decode cJ7_copyOf_6403c 1 = .ok (.ldc 110, 2) := by decide +kernel
theorem dJ7_copyOf_6403c_3 : decode cJ7_copyOf_6403c 3 = .ok (.if_acmp .ne 10, 3) := by decide +kernel
theorem dJ7_copyOf_6403c_6 : decode cJ7_copyOf_6403c 6 = .ok (.iload_n 1, 1) := by decide +kernel
theorem dJ7_copyOf_6403c_7 : decode cJ7_copyOf_6403c 7 = .ok (.anewarray 2, 3) := by decide +kernel
theorem dJ7_copyOf_6403c_10 : decode cJ7_copyOf_6403c 10 = .ok (.goto 14, 3) := by decide +kernel
theorem dJ7_copyOf_6403c_13 : decode cJ7_copyOf_6403c 13 = .ok (.aload_n 2, 1) := by decide +kernel
theorem dJ7_copyOf_6403c_14 : decode cJ7_copyOf_6403c 14 = .ok (.invokevirtual 90, 3) := by decide +kernel
theorem dJ7_copyOf_6403c_17 : decode cJ7_copyOf_6403c 17 = .ok (.iload_n 1, 1) := by decide +kernel
theorem dJ7_copyOf_6403c_18 : decode cJ7_copyOf_6403c 18 = .ok (.invokestatic 95, 3) := by decide +kernel
theorem dJ7_copyOf_6403c_21 : decode cJ7_copyOf_6403c 21 = .ok (.checkcast 110, 3) := by decide +kernel
theorem dJ7_copyOf_6403c_24 : decode cJ7_copyOf_6403c 24 = .ok (.astore_n 3, 1) := by decide +kernel
theorem dJ7_copyOf_6403c_25 : decode cJ7_copyOf_6403c 25 = .ok (.aload_n 0, 1) := by decide +kernel
theorem dJ7_copyOf_6403c_26 : decode cJ7_copyOf_6403c 26 = .ok (.iconst 0, 1) := by decide +kernel
theorem dJ7_copyOf_6403c_27 : decode cJ7_copyOf_6403c 27 = .ok (.aload_n 3, 1) := by decide +kernel
theorem dJ7_copyOf_6403c_28 : decode cJ7_copyOf_6403c 28 = .ok (.iconst 0, 1) := by decide +kernel
theorem dJ7_copyOf_6403c_29 : decode cJ7_copyOf_6403c 29 = .ok (.aload_n 0, 1) := by decide +kernel
theorem dJ7_copyOf_6403c_30 : decode cJ7_copyOf_6403c 30 = .ok (.arraylength, 1) := by decide +kernel
theorem dJ7_copyOf_6403c_31 : decode cJ7_copyOf_6403c 31 = .ok (.iload_n 1, 1) := by decide +kernel
theorem dJ7_copyOf_6403c_32 : decode cJ7_copyOf_6403c 32 = .ok (.invokestatic 304, 3) := by decide +kernel
theorem dJ7_copyOf_6403c_35 : decode cJ7_copyOf_6403c 35 = .ok (.invokestatic 150, 3) := by decide +kernel
theorem dJ7_copyOf_6403c_38 : decode cJ7_copyOf_6403c 38 = .ok (.aload_n 3, 1) := by decide +kernel
theorem dJ7_copyOf_6403c_39 : decode cJ7_copyOf_6403c 39 = .ok (.areturn, 1) := by decide +kernel
theorem dJ15_checkIndex_7cf53_0 : decode cJ15_checkIndex_7cf53 0 = .ok (.iload_n 0, 1) := by decide +kernel
theorem dJ15_checkIndex_7cf53_1 : decode cJ15_checkIndex_7cf53 1 = .ok (.iload_n 1, 1) := by decide +kernel
theorem dJ15_checkIndex_7cf53_2 : decode cJ15_checkIndex_7cf53 2 = .ok (.aconst_null, 1) := by decide +kernel
theorem dJ15_checkIndex_7cf53_3 : decode cJ15_checkIndex_7cf53 3 = .ok (.invokestatic 105, 3) := by decide +kernel
theorem dJ15_checkIndex_7cf53_6 : decode cJ15_checkIndex_7cf53 6 = .ok (.ireturn, 1) := by decide +kernel
theorem dJ8_newLength_cabcc_0 : decode cJ8_newLength_cabcc 0 = .ok (.iload_n 0, 1) := by decide +kernel
theorem dJ8_newLength_cabcc_1 : decode cJ8_newLength_cabcc 1 = .ok (.iload_n 1, 1) := by decide +kernel
theorem dJ8_newLength_cabcc_2 : decode cJ8_newLength_cabcc 2 = .ok (.iload_n 2, 1) := by decide +kernel
theorem dJ8_newLength_cabcc_3 : decode cJ8_newLength_cabcc 3 = .ok (.invokestatic 194, 3) := by decide +kernel
theorem dJ8_newLength_cabcc_6 : decode cJ8_newLength_cabcc 6 = .ok (.iadd, 1) := by decide +kernel
theorem dJ8_newLength_cabcc_7 : decode cJ8_newLength_cabcc 7 = .ok (.istore_n 3, 1) := by decide +kernel
theorem dJ8_newLength_cabcc_8 : decode cJ8_newLength_cabcc 8 = .ok (.iconst 0, 1) := by decide +kernel
theorem dJ8_newLength_cabcc_9 : decode cJ8_newLength_cabcc 9 = .ok (.iload_n 3, 1) := by decide +kernel
theorem dJ8_newLength_cabcc_10 : decode cJ8_newLength_cabcc 10 = .ok (.if_icmp .ge 11, 3) := by decide +kernel
theorem dJ8_newLength_cabcc_13 : decode cJ8_newLength_cabcc 13 = .ok (.iload_n 3, 1) := by decide +kernel
theorem dJ8_newLength_cabcc_14 : decode cJ8_newLength_cabcc 14 = .ok (.ldc 200, 2) := by decide +kernel
theorem dJ8_newLength_cabcc_16 : decode cJ8_newLength_cabcc 16 = .ok (.if_icmp .gt 5, 3) := by decide +kernel
theorem dJ8_newLength_cabcc_19 : decode cJ8_newLength_cabcc 19 = .ok (.iload_n 3, 1) := by decide +kernel
theorem dJ8_newLength_cabcc_20 : decode cJ8_newLength_cabcc 20 = .ok (.ireturn, 1) := by decide +kernel
theorem dJ8_newLength_cabcc_21 : decode cJ8_newLength_cabcc 21 = .ok (.iload_n 0, 1) := by decide +kernel
theorem dJ8_newLength_cabcc_22 : decode cJ8_newLength_cabcc 22 = .ok (.iload_n 1, 1) := by decide +kernel
theorem dJ8_newLength_cabcc_23 : decode cJ8_newLength_cabcc 23 = .ok (.invokestatic 201, 3) := by decide +kernel
theorem dJ8_newLength_cabcc_26 : decode cJ8_newLength_cabcc 26 = .ok (.ireturn, 1) := by decide +kernel
theorem dJ8_hugeLength_7cf53_0 : decode cJ8_hugeLength_7cf53 0 = .ok (.iload_n 0, 1) := by decide +kernel
theorem dJ8_hugeLength_7cf53_1 : decode cJ8_hugeLength_7cf53 1 = .ok (.iload_n 1, 1) := by decide +kernel
theorem dJ8_hugeLength_7cf53_2 : decode cJ8_hugeLength_7cf53 2 = .ok (.iadd, 1) := by decide +kernel
theorem dJ8_hugeLength_7cf53_3 : decode cJ8_hugeLength_7cf53 3 = .ok (.istore_n 2, 1) := by decide +kernel
theorem dJ8_hugeLength_7cf53_4 : decode cJ8_hugeLength_7cf53 4 = .ok (.iload_n 2, 1) := by decide +kernel
theorem dJ8_hugeLength_7cf53_5 : decode cJ8_hugeLength_7cf53 5 = .ok (.ifCond .ge 44, 3) := by decide +kernel
theorem dJ8_hugeLength_7cf53_8 : decode cJ8_hugeLength_7cf53 8 = .ok (.new 204, 3) := by decide +kernel
theorem dJ8_hugeLength_7cf53_11 : decode cJ8_hugeLength_7cf53 11 = .ok (.dup, 1) := by decide +kernel
theorem dJ8_hugeLength_7cf53_12 : decode cJ8_hugeLength_7cf53 12 = .ok (.new 89, 3) := by decide +kernel
theorem dJ8_hugeLength_7cf53_15 : decode cJ8_hugeLength_7cf53 15 = .ok (.dup, 1) := by decide +kernel
theorem dJ8_hugeLength_7cf53_16 : decode cJ8_hugeLength_7cf53 16 = .ok (.invokespecial 91, 3) := by decide +kernel
theorem dJ8_hugeLength_7cf53_19 : decode cJ8_hugeLength_7cf53 19 = .ok (.ldc 206, 2) := by decide +kernel
theorem dJ8_hugeLength_7cf53_21 : decode cJ8_hugeLength_7cf53 21 = .ok (.invokevirtual 94, 3) := by decide +kernel
theorem dJ8_hugeLength_7cf53_24 : decode cJ8_hugeLength_7cf53 24 = .ok (.iload_n 0, 1) := by decide +kernel
theorem dJ8_hugeLength_7cf53_25 : decode cJ8_hugeLength_7cf53 25 = .ok (.invokevirtual 98, 3) := by decide +kernel
theorem dJ8_hugeLength_7cf53_28 : decode cJ8_hugeLength_7cf53 28 = .ok (.ldc 208, 2) := by decide +kernel
theorem dJ8_hugeLength_7cf53_30 : decode cJ8_hugeLength_7cf53 30 = .ok (.invokevirtual 94, 3) := by decide +kernel
theorem dJ8_hugeLength_7cf53_33 : decode cJ8_hugeLength_7cf53 33 = .ok (.iload_n 1, 1) := by decide +kernel
theorem dJ8_hugeLength_7cf53_34 : decode cJ8_hugeLength_7cf53 34 = .ok (.invokevirtual 98, 3) := by decide +kernel
theorem dJ8_hugeLength_7cf53_37 : decode cJ8_hugeLength_7cf53 37 = .ok (.ldc 210, 2) := by decide +kernel
theorem dJ8_hugeLength_7cf53_39 : decode cJ8_hugeLength_7cf53 39 = .ok (.invokevirtual 94, 3) := by decide +kernel
theorem dJ8_hugeLength_7cf53_42 : decode cJ8_hugeLength_7cf53 42 = .ok (.invokevirtual 101, 3) := by decide +kernel
theorem dJ8_hugeLength_7cf53_45 : decode cJ8_hugeLength_7cf53 45 = .ok (.invokespecial 212, 3) := by decide +kernel
theorem dJ8_hugeLength_7cf53_48 : decode cJ8_hugeLength_7cf53 48 = .ok (.athrow, 1) := by decide +kernel
theorem dJ8_hugeLength_7cf53_49 : decode cJ8_hugeLength_7cf53 49 = .ok (.iload_n 2, 1) := by decide +kernel
theorem dJ8_hugeLength_7cf53_50 : decode cJ8_hugeLength_7cf53 50 = .ok (.ldc 200, 2) := by decide +kernel
theorem dJ8_hugeLength_7cf53_52 : decode cJ8_hugeLength_7cf53 52 = .ok (.if_icmp .gt 6, 3) := by decide +kernel
theorem dJ8_hugeLength_7cf53_55 : decode cJ8_hugeLength_7cf53 55 = .ok (.ldc 200, 2) := by decide +kernel
theorem dJ8_hugeLength_7cf53_57 : decode cJ8_hugeLength_7cf53 57 = .ok (.ireturn, 1) := by decide +kernel
theorem dJ8_hugeLength_7cf53_58 : decode cJ8_hugeLength_7cf53 58 = .ok (.iload_n 2, 1) := by decide +kernel
theorem dJ8_hugeLength_7cf53_59 : decode cJ8_hugeLength_7cf53 59 = .ok (.ireturn, 1) := by decide +kernel
theorem dJ3_checkIndex_8e157_0 : decode cJ3_checkIndex_8e157 0 = .ok (.iload_n 0, 1) := by decide +kernel
theorem dJ3_checkIndex_8e157_1 : decode cJ3_checkIndex_8e157 1 = .ok (.ifCond .lt 8, 3) := by decide +kernel
theorem dJ3_checkIndex_8e157_4 : decode cJ3_checkIndex_8e157 4 = .ok (.iload_n 0, 1) := by decide +kernel
theorem dJ3_checkIndex_8e157_5 : decode cJ3_checkIndex_8e157 5 = .ok (.iload_n 1, 1) := by decide +kernel
theorem dJ3_checkIndex_8e157_6 : decode cJ3_checkIndex_8e157 6 = .ok (.if_icmp .lt 10, 3) := by decide +kernel
theorem dJ3_checkIndex_8e157_9 : decode cJ3_checkIndex_8e157 9 = .ok (.aload_n 2, 1) := by decide +kernel
theorem dJ3_checkIndex_8e157_10 : decode cJ3_checkIndex_8e157 10 = .ok (.iload_n 0, 1) := by decide +kernel
theorem dJ3_checkIndex_8e157_11 : decode cJ3_checkIndex_8e157 11 = .ok (.iload_n 1, 1) := by decide +kernel
theorem dJ3_checkIndex_8e157_12 : decode cJ3_checkIndex_8e157 12 = .ok (.invokestatic 95, 3) := by decide +kernel
theorem dJ3_checkIndex_8e157_15 : decode cJ3_checkIndex_8e157 15 = .ok (.athrow, 1) := by decide +kernel
theorem dJ3_checkIndex_8e157_16 : decode cJ3_checkIndex_8e157 16 = .ok (.iload_n 0, 1) := by decide +kernel
theorem dJ3_checkIndex_8e157_17 : decode cJ3_checkIndex_8e157 17 = .ok (.ireturn, 1) := by decide +kernel
theorem dL_drawn_0 : decode cL_drawn 0 = .ok (.iload_n 1, 1) := by decide +kernel
theorem dL_drawn_1 : decode cL_drawn 1 = .ok (.aload_n 0, 1) := by decide +kernel
theorem dL_drawn_2 : decode cL_drawn 2 = .ok (.arraylength, 1) := by decide +kernel
theorem dL_drawn_3 : decode cL_drawn 3 = .ok (.if_icmp .ge 9, 3) := by decide +kernel
theorem dL_drawn_6 : decode cL_drawn 6 = .ok (.aload_n 0, 1) := by decide +kernel
theorem dL_drawn_7 : decode cL_drawn 7 = .ok (.iload_n 1, 1) := by decide +kernel
theorem dL_drawn_8 : decode cL_drawn 8 = .ok (.iaload, 1) := by decide +kernel
theorem dL_drawn_9 : decode cL_drawn 9 = .ok (.goto 11, 3) := by decide +kernel
theorem dL_drawn_12 : decode cL_drawn 12 = .ok (.ldc 7, 2) := by decide +kernel
theorem dL_drawn_14 : decode cL_drawn 14 = .ok (.iload_n 1, 1) := by decide +kernel
theorem dL_drawn_15 : decode cL_drawn 15 = .ok (.imul, 1) := by decide +kernel
theorem dL_drawn_16 : decode cL_drawn 16 = .ok (.sipush 20411, 3) := by decide +kernel
theorem dL_drawn_19 : decode cL_drawn 19 = .ok (.iadd, 1) := by decide +kernel
theorem dL_drawn_20 : decode cL_drawn 20 = .ok (.istore_n 3, 1) := by decide +kernel
theorem dL_drawn_21 : decode cL_drawn 21 = .ok (.iload_n 3, 1) := by decide +kernel
theorem dL_drawn_22 : decode cL_drawn 22 = .ok (.iconst 1, 1) := by decide +kernel
theorem dL_drawn_23 : decode cL_drawn 23 = .ok (.iushr, 1) := by decide +kernel
theorem dL_drawn_24 : decode cL_drawn 24 = .ok (.iload_n 2, 1) := by decide +kernel
theorem dL_drawn_25 : decode cL_drawn 25 = .ok (.irem, 1) := by decide +kernel
theorem dL_drawn_26 : decode cL_drawn 26 = .ok (.ireturn, 1) := by decide +kernel
theorem dL_isEarn_0 : decode cL_isEarn 0 = .ok (.aload_n 0, 1) := by decide +kernel
theorem dL_isEarn_1 : decode cL_isEarn 1 = .ok (.iload_n 1, 1) := by decide +kernel
theorem dL_isEarn_2 : decode cL_isEarn 2 = .ok (.iload_n 2, 1) := by decide +kernel
theorem dL_isEarn_3 : decode cL_isEarn 3 = .ok (.invokevirtual 8, 3) := by decide +kernel
theorem dL_isEarn_6 : decode cL_isEarn 6 = .ok (.pop, 1) := by decide +kernel
theorem dL_isEarn_7 : decode cL_isEarn 7 = .ok (.goto 6, 3) := by decide +kernel
theorem dL_isEarn_10 : decode cL_isEarn 10 = .ok (.astore_n 3, 1) := by decide +kernel
theorem dL_isEarn_11 : decode cL_isEarn 11 = .ok (.iconst 0, 1) := by decide +kernel
theorem dL_isEarn_12 : decode cL_isEarn 12 = .ok (.ireturn, 1) := by decide +kernel
theorem dL_isEarn_13 : decode cL_isEarn 13 = .ok (.iconst 1, 1) := by decide +kernel
theorem dL_isEarn_14 : decode cL_isEarn 14 = .ok (.ireturn, 1) := by decide +kernel
theorem dL_isDie_0 : decode cL_isDie 0 = .ok (.aload_n 0, 1) := by decide +kernel
theorem dL_isDie_1 : decode cL_isDie 1 = .ok (.iload_n 1, 1) := by decide +kernel
theorem dL_isDie_2 : decode cL_isDie 2 = .ok (.iload_n 2, 1) := by decide +kernel
theorem dL_isDie_3 : decode cL_isDie 3 = .ok (.invokevirtual 16, 3) := by decide +kernel
theorem dL_isDie_6 : decode cL_isDie 6 = .ok (.pop, 1) := by decide +kernel
theorem dL_isDie_7 : decode cL_isDie 7 = .ok (.goto 6, 3) := by decide +kernel
theorem dL_isDie_10 : decode cL_isDie 10 = .ok (.astore_n 3, 1) := by decide +kernel
theorem dL_isDie_11 : decode cL_isDie 11 = .ok (.iconst 0, 1) := by decide +kernel
theorem dL_isDie_12 : decode cL_isDie 12 = .ok (.ireturn, 1) := by decide +kernel
theorem dL_isDie_13 : decode cL_isDie 13 = .ok (.iconst 1, 1) := by decide +kernel
theorem dL_isDie_14 : decode cL_isDie 14 = .ok (.ireturn, 1) := by decide +kernel
theorem dL_isEnter_0 : decode cL_isEnter 0 = .ok (.aload_n 0, 1) := by decide +kernel
theorem dL_isEnter_1 : decode cL_isEnter 1 = .ok (.iload_n 1, 1) := by decide +kernel
theorem dL_isEnter_2 : decode cL_isEnter 2 = .ok (.iload_n 2, 1) := by decide +kernel
theorem dL_isEnter_3 : decode cL_isEnter 3 = .ok (.invokevirtual 19, 3) := by decide +kernel
theorem dL_isEnter_6 : decode cL_isEnter 6 = .ok (.pop, 1) := by decide +kernel
theorem dL_isEnter_7 : decode cL_isEnter 7 = .ok (.goto 6, 3) := by decide +kernel
theorem dL_isEnter_10 : decode cL_isEnter 10 = .ok (.astore_n 3, 1) := by decide +kernel
theorem dL_isEnter_11 : decode cL_isEnter 11 = .ok (.iconst 0, 1) := by decide +kernel
theorem dL_isEnter_12 : decode cL_isEnter 12 = .ok (.ireturn, 1) := by decide +kernel
theorem dL_isEnter_13 : decode cL_isEnter 13 = .ok (.iconst 1, 1) := by decide +kernel
theorem dL_isEnter_14 : decode cL_isEnter 14 = .ok (.ireturn, 1) := by decide +kernel
theorem dL_isStart_0 : decode cL_isStart 0 = .ok (.aload_n 0, 1) := by decide +kernel
theorem dL_isStart_1 : decode cL_isStart 1 = .ok (.iload_n 1, 1) := by decide +kernel
theorem dL_isStart_2 : decode cL_isStart 2 = .ok (.iload_n 2, 1) := by decide +kernel
theorem dL_isStart_3 : decode cL_isStart 3 = .ok (.invokevirtual 22, 3) := by decide +kernel
theorem dL_isStart_6 : decode cL_isStart 6 = .ok (.pop, 1) := by decide +kernel
theorem dL_isStart_7 : decode cL_isStart 7 = .ok (.goto 6, 3) := by decide +kernel
theorem dL_isStart_10 : decode cL_isStart 10 = .ok (.astore_n 3, 1) := by decide +kernel
theorem dL_isStart_11 : decode cL_isStart 11 = .ok (.iconst 0, 1) := by decide +kernel
theorem dL_isStart_12 : decode cL_isStart 12 = .ok (.ireturn, 1) := by decide +kernel
theorem dL_isStart_13 : decode cL_isStart 13 = .ok (.iconst 1, 1) := by decide +kernel
theorem dL_isStart_14 : decode cL_isStart 14 = .ok (.ireturn, 1) := by decide +kernel
theorem dL_isWant_0 : decode cL_isWant 0 = .ok (.aload_n 0, 1) := by decide +kernel
theorem dL_isWant_1 : decode cL_isWant 1 = .ok (.iload_n 1, 1) := by decide +kernel
theorem dL_isWant_2 : decode cL_isWant 2 = .ok (.iload_n 2, 1) := by decide +kernel
theorem dL_isWant_3 : decode cL_isWant 3 = .ok (.iload_n 3, 1) := by decide +kernel
theorem dL_isWant_4 : decode cL_isWant 4 = .ok (.iload 4, 2) := by decide +kernel
theorem dL_isWant_6 : decode cL_isWant 6 = .ok (.invokevirtual 25, 3) := by decide +kernel
theorem dL_isWant_9 : decode cL_isWant 9 = .ok (.pop, 1) := by decide +kernel
theorem dL_isWant_10 : decode cL_isWant 10 = .ok (.goto 7, 3) := by decide +kernel
theorem dL_isWant_13 : decode cL_isWant 13 = .ok (.astore 5, 2) := by decide +kernel
theorem dL_isWant_15 : decode cL_isWant 15 = .ok (.iconst 0, 1) := by decide +kernel
theorem dL_isWant_16 : decode cL_isWant 16 = .ok (.ireturn, 1) := by decide +kernel
theorem dL_isWant_17 : decode cL_isWant 17 = .ok (.iconst 1, 1) := by decide +kernel
theorem dL_isWant_18 : decode cL_isWant 18 = .ok (.ireturn, 1) := by decide +kernel
theorem dL_meets_0 : decode cL_meets 0 = .ok (.aload_n 0, 1) := by decide +kernel
theorem dL_meets_1 : decode cL_meets 1 = .ok (.iload_n 1, 1) := by decide +kernel
theorem dL_meets_2 : decode cL_meets 2 = .ok (.iload_n 2, 1) := by decide +kernel
theorem dL_meets_3 : decode cL_meets 3 = .ok (.invokevirtual 29, 3) := by decide +kernel
theorem dL_meets_6 : decode cL_meets 6 = .ok (.ireturn, 1) := by decide +kernel
theorem dL_meets_7 : decode cL_meets 7 = .ok (.astore_n 3, 1) := by decide +kernel
theorem dL_meets_8 : decode cL_meets 8 = .ok (.iconst (-1), 1) := by decide +kernel
theorem dL_meets_9 : decode cL_meets 9 = .ok (.ireturn, 1) := by decide +kernel
theorem dL_leaves_0 : decode cL_leaves 0 = .ok (.aload_n 0, 1) := by decide +kernel
theorem dL_leaves_1 : decode cL_leaves 1 = .ok (.iload_n 1, 1) := by decide +kernel
theorem dL_leaves_2 : decode cL_leaves 2 = .ok (.iload_n 2, 1) := by decide +kernel
theorem dL_leaves_3 : decode cL_leaves 3 = .ok (.invokevirtual 33, 3) := by decide +kernel
theorem dL_leaves_6 : decode cL_leaves 6 = .ok (.ireturn, 1) := by decide +kernel
theorem dL_leaves_7 : decode cL_leaves 7 = .ok (.astore_n 3, 1) := by decide +kernel
theorem dL_leaves_8 : decode cL_leaves 8 = .ok (.iconst (-1), 1) := by decide +kernel
theorem dL_leaves_9 : decode cL_leaves 9 = .ok (.ireturn, 1) := by decide +kernel
theorem dL_isBuy_0 : decode cL_isBuy 0 = .ok (.aload_n 0, 1) := by decide +kernel
theorem dL_isBuy_1 : decode cL_isBuy 1 = .ok (.iload_n 1, 1) := by decide +kernel
theorem dL_isBuy_2 : decode cL_isBuy 2 = .ok (.iload_n 2, 1) := by decide +kernel
theorem dL_isBuy_3 : decode cL_isBuy 3 = .ok (.invokevirtual 36, 3) := by decide +kernel
theorem dL_isBuy_6 : decode cL_isBuy 6 = .ok (.pop, 1) := by decide +kernel
theorem dL_isBuy_7 : decode cL_isBuy 7 = .ok (.goto 6, 3) := by decide +kernel
theorem dL_isBuy_10 : decode cL_isBuy 10 = .ok (.astore_n 3, 1) := by decide +kernel
theorem dL_isBuy_11 : decode cL_isBuy 11 = .ok (.iconst 0, 1) := by decide +kernel
theorem dL_isBuy_12 : decode cL_isBuy 12 = .ok (.ireturn, 1) := by decide +kernel
theorem dL_isBuy_13 : decode cL_isBuy 13 = .ok (.iconst 1, 1) := by decide +kernel
theorem dL_isBuy_14 : decode cL_isBuy 14 = .ok (.ireturn, 1) := by decide +kernel
theorem dL_isBorrow_0 : decode cL_isBorrow 0 = .ok (.aload_n 0, 1) := by decide +kernel
theorem dL_isBorrow_1 : decode cL_isBorrow 1 = .ok (.iload_n 1, 1) := by decide +kernel
theorem dL_isBorrow_2 : decode cL_isBorrow 2 = .ok (.iload_n 2, 1) := by decide +kernel
theorem dL_isBorrow_3 : decode cL_isBorrow 3 = .ok (.iload_n 3, 1) := by decide +kernel
theorem dL_isBorrow_4 : decode cL_isBorrow 4 = .ok (.iload 4, 2) := by decide +kernel
theorem dL_isBorrow_6 : decode cL_isBorrow 6 = .ok (.invokevirtual 39, 3) := by decide +kernel
theorem dL_isBorrow_9 : decode cL_isBorrow 9 = .ok (.pop, 1) := by decide +kernel
theorem dL_isBorrow_10 : decode cL_isBorrow 10 = .ok (.goto 7, 3) := by decide +kernel
theorem dL_isBorrow_13 : decode cL_isBorrow 13 = .ok (.astore 5, 2) := by decide +kernel
theorem dL_isBorrow_15 : decode cL_isBorrow 15 = .ok (.iconst 0, 1) := by decide +kernel
theorem dL_isBorrow_16 : decode cL_isBorrow 16 = .ok (.ireturn, 1) := by decide +kernel
theorem dL_isBorrow_17 : decode cL_isBorrow 17 = .ok (.iconst 1, 1) := by decide +kernel
theorem dL_isBorrow_18 : decode cL_isBorrow 18 = .ok (.ireturn, 1) := by decide +kernel
theorem dL_isRepay_0 : decode cL_isRepay 0 = .ok (.aload_n 0, 1) := by decide +kernel
theorem dL_isRepay_1 : decode cL_isRepay 1 = .ok (.iload_n 1, 1) := by decide +kernel
theorem dL_isRepay_2 : decode cL_isRepay 2 = .ok (.iload_n 2, 1) := by decide +kernel
theorem dL_isRepay_3 : decode cL_isRepay 3 = .ok (.invokevirtual 43, 3) := by decide +kernel
theorem dL_isRepay_6 : decode cL_isRepay 6 = .ok (.pop, 1) := by decide +kernel
theorem dL_isRepay_7 : decode cL_isRepay 7 = .ok (.goto 6, 3) := by decide +kernel
theorem dL_isRepay_10 : decode cL_isRepay 10 = .ok (.astore_n 3, 1) := by decide +kernel
theorem dL_isRepay_11 : decode cL_isRepay 11 = .ok (.iconst 0, 1) := by decide +kernel
theorem dL_isRepay_12 : decode cL_isRepay 12 = .ok (.ireturn, 1) := by decide +kernel
theorem dL_isRepay_13 : decode cL_isRepay 13 = .ok (.iconst 1, 1) := by decide +kernel
theorem dL_isRepay_14 : decode cL_isRepay 14 = .ok (.ireturn, 1) := by decide +kernel
theorem dL_feasts_0 : decode cL_feasts 0 = .ok (.aload_n 0, 1) := by decide +kernel
theorem dL_feasts_1 : decode cL_feasts 1 = .ok (.invokevirtual 46, 3) := by decide +kernel
theorem dL_feasts_4 : decode cL_feasts 4 = .ok (.ireturn, 1) := by decide +kernel
theorem dL_feasts_5 : decode cL_feasts 5 = .ok (.astore_n 1, 1) := by decide +kernel
theorem dL_feasts_6 : decode cL_feasts 6 = .ok (.iconst (-1), 1) := by decide +kernel
theorem dL_feasts_7 : decode cL_feasts 7 = .ok (.ireturn, 1) := by decide +kernel
theorem dL_house_0 : decode cL_house 0 = .ok (.iconst 0, 1) := by decide +kernel
theorem dL_house_1 : decode cL_house 1 = .ok (.istore 4, 2) := by decide +kernel
theorem dL_house_3 : decode cL_house 3 = .ok (.iconst 0, 1) := by decide +kernel
theorem dL_house_4 : decode cL_house 4 = .ok (.istore 5, 2) := by decide +kernel
theorem dL_house_6 : decode cL_house 6 = .ok (.iload 5, 2) := by decide +kernel
theorem dL_house_8 : decode cL_house 8 = .ok (.bipush 7, 2) := by decide +kernel
theorem dL_house_10 : decode cL_house 10 = .ok (.if_icmp .ge 111, 3) := by decide +kernel
theorem dL_house_13 : decode cL_house 13 = .ok (.iconst 0, 1) := by decide +kernel
theorem dL_house_14 : decode cL_house 14 = .ok (.istore 6, 2) := by decide +kernel
theorem dL_house_16 : decode cL_house 16 = .ok (.iconst 1, 1) := by decide +kernel
theorem dL_house_17 : decode cL_house 17 = .ok (.istore 7, 2) := by decide +kernel
theorem dL_house_19 : decode cL_house 19 = .ok (.iconst 0, 1) := by decide +kernel
theorem dL_house_20 : decode cL_house 20 = .ok (.istore 8, 2) := by decide +kernel
theorem dL_house_22 : decode cL_house 22 = .ok (.iload 8, 2) := by decide +kernel
theorem dL_house_24 : decode cL_house 24 = .ok (.iconst 5, 1) := by decide +kernel
theorem dL_house_25 : decode cL_house 25 = .ok (.if_icmp .ge 48, 3) := by decide +kernel
theorem dL_house_28 : decode cL_house 28 = .ok (.iload 6, 2) := by decide +kernel
theorem dL_house_30 : decode cL_house 30 = .ok (.aload_n 1, 1) := by decide +kernel
theorem dL_house_31 : decode cL_house 31 = .ok (.iload_n 2, 1) := by decide +kernel
theorem dL_house_32 : decode cL_house 32 = .ok (.iaload, 1) := by decide +kernel
theorem dL_house_33 : decode cL_house 33 = .ok (.iload 7, 2) := by decide +kernel
theorem dL_house_35 : decode cL_house 35 = .ok (.idiv, 1) := by decide +kernel
theorem dL_house_36 : decode cL_house 36 = .ok (.bipush 10, 2) := by decide +kernel
theorem dL_house_38 : decode cL_house 38 = .ok (.irem, 1) := by decide +kernel
theorem dL_house_39 : decode cL_house 39 = .ok (.aload_n 1, 1) := by decide +kernel
theorem dL_house_40 : decode cL_house 40 = .ok (.iload 5, 2) := by decide +kernel
theorem dL_house_42 : decode cL_house 42 = .ok (.iaload, 1) := by decide +kernel
theorem dL_house_43 : decode cL_house 43 = .ok (.iload 7, 2) := by decide +kernel
theorem dL_house_45 : decode cL_house 45 = .ok (.idiv, 1) := by decide +kernel
theorem dL_house_46 : decode cL_house 46 = .ok (.bipush 10, 2) := by decide +kernel
theorem dL_house_48 : decode cL_house 48 = .ok (.irem, 1) := by decide +kernel
theorem dL_house_49 : decode cL_house 49 = .ok (.if_icmp .ne 7, 3) := by decide +kernel
theorem dL_house_52 : decode cL_house 52 = .ok (.iconst 0, 1) := by decide +kernel
theorem dL_house_53 : decode cL_house 53 = .ok (.goto 4, 3) := by decide +kernel
theorem dL_house_56 : decode cL_house 56 = .ok (.iconst 1, 1) := by decide +kernel
theorem dL_house_57 : decode cL_house 57 = .ok (.iadd, 1) := by decide +kernel
theorem dL_house_58 : decode cL_house 58 = .ok (.istore 6, 2) := by decide +kernel
theorem dL_house_60 : decode cL_house 60 = .ok (.iload 7, 2) := by decide +kernel
theorem dL_house_62 : decode cL_house 62 = .ok (.bipush 10, 2) := by decide +kernel
theorem dL_house_64 : decode cL_house 64 = .ok (.imul, 1) := by decide +kernel
theorem dL_house_65 : decode cL_house 65 = .ok (.istore 7, 2) := by decide +kernel
theorem dL_house_67 : decode cL_house 67 = .ok (.iinc 8 1, 3) := by decide +kernel
theorem dL_house_70 : decode cL_house 70 = .ok (.goto (-48), 3) := by decide +kernel
theorem dL_house_73 : decode cL_house 73 = .ok (.iload 4, 2) := by decide +kernel
theorem dL_house_75 : decode cL_house 75 = .ok (.iload 6, 2) := by decide +kernel
theorem dL_house_77 : decode cL_house 77 = .ok (.iconst 2, 1) := by decide +kernel
theorem dL_house_78 : decode cL_house 78 = .ok (.if_icmp .ge 33, 3) := by decide +kernel
theorem dL_house_81 : decode cL_house 81 = .ok (.aload_n 0, 1) := by decide +kernel
theorem dL_house_82 : decode cL_house 82 = .ok (.iload 5, 2) := by decide +kernel
theorem dL_house_84 : decode cL_house 84 = .ok (.iconst 5, 1) := by decide +kernel
theorem dL_house_85 : decode cL_house 85 = .ok (.invokevirtual 50, 3) := by decide +kernel
theorem dL_house_88 : decode cL_house 88 = .ok (.iconst 1, 1) := by decide +kernel
theorem dL_house_89 : decode cL_house 89 = .ok (.if_icmp .ne 22, 3) := by decide +kernel
theorem dL_house_92 : decode cL_house 92 = .ok (.iload_n 3, 1) := by decide +kernel
theorem dL_house_93 : decode cL_house 93 = .ok (.iconst 2, 1) := by decide +kernel
theorem dL_house_94 : decode cL_house 94 = .ok (.if_icmp .ne 13, 3) := by decide +kernel
theorem dL_house_97 : decode cL_house 97 = .ok (.aload_n 0, 1) := by decide +kernel
theorem dL_house_98 : decode cL_house 98 = .ok (.iload 5, 2) := by decide +kernel
theorem dL_house_100 : decode cL_house 100 = .ok (.iconst 2, 1) := by decide +kernel
theorem dL_house_101 : decode cL_house 101 = .ok (.invokevirtual 50, 3) := by decide +kernel
theorem dL_house_104 : decode cL_house 104 = .ok (.goto 8, 3) := by decide +kernel
theorem dL_house_107 : decode cL_house 107 = .ok (.iconst 1, 1) := by decide +kernel
theorem dL_house_108 : decode cL_house 108 = .ok (.goto 4, 3) := by decide +kernel
theorem dL_house_111 : decode cL_house 111 = .ok (.iconst 0, 1) := by decide +kernel
theorem dL_house_112 : decode cL_house 112 = .ok (.iadd, 1) := by decide +kernel
theorem dL_house_113 : decode cL_house 113 = .ok (.istore 4, 2) := by decide +kernel
theorem dL_house_115 : decode cL_house 115 = .ok (.iinc 5 1, 3) := by decide +kernel
theorem dL_house_118 : decode cL_house 118 = .ok (.goto (-112), 3) := by decide +kernel
theorem dL_house_121 : decode cL_house 121 = .ok (.iload 4, 2) := by decide +kernel
theorem dL_house_123 : decode cL_house 123 = .ok (.ireturn, 1) := by decide +kernel
theorem dL_isWell_0 : decode cL_isWell 0 = .ok (.aload_n 0, 1) := by decide +kernel
theorem dL_isWell_1 : decode cL_isWell 1 = .ok (.iload_n 1, 1) := by decide +kernel
theorem dL_isWell_2 : decode cL_isWell 2 = .ok (.iconst 1, 1) := by decide +kernel
theorem dL_isWell_3 : decode cL_isWell 3 = .ok (.invokevirtual 53, 3) := by decide +kernel
theorem dL_isWell_6 : decode cL_isWell 6 = .ok (.istore_n 2, 1) := by decide +kernel
theorem dL_isWell_7 : decode cL_isWell 7 = .ok (.iconst 0, 1) := by decide +kernel
theorem dL_isWell_8 : decode cL_isWell 8 = .ok (.istore_n 3, 1) := by decide +kernel
theorem dL_isWell_9 : decode cL_isWell 9 = .ok (.iconst 0, 1) := by decide +kernel
theorem dL_isWell_10 : decode cL_isWell 10 = .ok (.istore 4, 2) := by decide +kernel
theorem dL_isWell_12 : decode cL_isWell 12 = .ok (.aload_n 0, 1) := by decide +kernel
theorem dL_isWell_13 : decode cL_isWell 13 = .ok (.iload_n 1, 1) := by decide +kernel
theorem dL_isWell_14 : decode cL_isWell 14 = .ok (.iconst 0, 1) := by decide +kernel
theorem dL_isWell_15 : decode cL_isWell 15 = .ok (.invokevirtual 53, 3) := by decide +kernel
theorem dL_isWell_18 : decode cL_isWell 18 = .ok (.ifCond .lt 7, 3) := by decide +kernel
theorem dL_isWell_21 : decode cL_isWell 21 = .ok (.iconst 1, 1) := by decide +kernel
theorem dL_isWell_22 : decode cL_isWell 22 = .ok (.goto 4, 3) := by decide +kernel
theorem dL_isWell_25 : decode cL_isWell 25 = .ok (.iconst 0, 1) := by decide +kernel
theorem dL_isWell_26 : decode cL_isWell 26 = .ok (.istore 5, 2) := by decide +kernel
theorem dL_isWell_28 : decode cL_isWell 28 = .ok (.iconst 0, 1) := by decide +kernel
theorem dL_isWell_29 : decode cL_isWell 29 = .ok (.istore 6, 2) := by decide +kernel
theorem dL_isWell_31 : decode cL_isWell 31 = .ok (.iload 6, 2) := by decide +kernel
theorem dL_isWell_33 : decode cL_isWell 33 = .ok (.bipush 7, 2) := by decide +kernel
theorem dL_isWell_35 : decode cL_isWell 35 = .ok (.if_icmp .ge 122, 3) := by decide +kernel
theorem dL_isWell_38 : decode cL_isWell 38 = .ok (.aload_n 0, 1) := by decide +kernel
theorem dL_isWell_39 : decode cL_isWell 39 = .ok (.iload_n 1, 1) := by decide +kernel
theorem dL_isWell_40 : decode cL_isWell 40 = .ok (.iload 6, 2) := by decide +kernel
theorem dL_isWell_42 : decode cL_isWell 42 = .ok (.iconst 3, 1) := by decide +kernel
theorem dL_isWell_43 : decode cL_isWell 43 = .ok (.invokevirtual 56, 3) := by decide +kernel
theorem dL_isWell_46 : decode cL_isWell 46 = .ok (.istore 7, 2) := by decide +kernel
theorem dL_isWell_48 : decode cL_isWell 48 = .ok (.iload 5, 2) := by decide +kernel
theorem dL_isWell_50 : decode cL_isWell 50 = .ok (.ifCond .eq 60, 3) := by decide +kernel
theorem dL_isWell_53 : decode cL_isWell 53 = .ok (.iload 7, 2) := by decide +kernel
theorem dL_isWell_55 : decode cL_isWell 55 = .ok (.iload_n 2, 1) := by decide +kernel
theorem dL_isWell_56 : decode cL_isWell 56 = .ok (.if_icmp .ge 54, 3) := by decide +kernel
theorem dL_isWell_59 : decode cL_isWell 59 = .ok (.iload 7, 2) := by decide +kernel
theorem dL_isWell_61 : decode cL_isWell 61 = .ok (.ifCond .lt 45, 3) := by decide +kernel
theorem dL_isWell_64 : decode cL_isWell 64 = .ok (.iload_n 3, 1) := by decide +kernel
theorem dL_isWell_65 : decode cL_isWell 65 = .ok (.iload 7, 2) := by decide +kernel
theorem dL_isWell_67 : decode cL_isWell 67 = .ok (.ishr, 1) := by decide +kernel
theorem dL_isWell_68 : decode cL_isWell 68 = .ok (.iconst 1, 1) := by decide +kernel
theorem dL_isWell_69 : decode cL_isWell 69 = .ok (.iand, 1) := by decide +kernel
theorem dL_isWell_70 : decode cL_isWell 70 = .ok (.ifCond .ne 40, 3) := by decide +kernel
theorem dL_isWell_73 : decode cL_isWell 73 = .ok (.aload_n 0, 1) := by decide +kernel
theorem dL_isWell_74 : decode cL_isWell 74 = .ok (.iload 6, 2) := by decide +kernel
theorem dL_isWell_76 : decode cL_isWell 76 = .ok (.iconst 5, 1) := by decide +kernel
theorem dL_isWell_77 : decode cL_isWell 77 = .ok (.invokevirtual 50, 3) := by decide +kernel
theorem dL_isWell_80 : decode cL_isWell 80 = .ok (.iconst 1, 1) := by decide +kernel
theorem dL_isWell_81 : decode cL_isWell 81 = .ok (.if_icmp .ne 29, 3) := by decide +kernel
theorem dL_isWell_84 : decode cL_isWell 84 = .ok (.aload_n 0, 1) := by decide +kernel
theorem dL_isWell_85 : decode cL_isWell 85 = .ok (.iload_n 1, 1) := by decide +kernel
theorem dL_isWell_86 : decode cL_isWell 86 = .ok (.iload 6, 2) := by decide +kernel
theorem dL_isWell_88 : decode cL_isWell 88 = .ok (.iconst 0, 1) := by decide +kernel
theorem dL_isWell_89 : decode cL_isWell 89 = .ok (.invokevirtual 56, 3) := by decide +kernel
theorem dL_isWell_92 : decode cL_isWell 92 = .ok (.ifCond .lt 18, 3) := by decide +kernel
theorem dL_isWell_95 : decode cL_isWell 95 = .ok (.aload_n 0, 1) := by decide +kernel
theorem dL_isWell_96 : decode cL_isWell 96 = .ok (.iload_n 1, 1) := by decide +kernel
theorem dL_isWell_97 : decode cL_isWell 97 = .ok (.iload 6, 2) := by decide +kernel
theorem dL_isWell_99 : decode cL_isWell 99 = .ok (.iconst 2, 1) := by decide +kernel
theorem dL_isWell_100 : decode cL_isWell 100 = .ok (.invokevirtual 56, 3) := by decide +kernel
theorem dL_isWell_103 : decode cL_isWell 103 = .ok (.ifCond .lt 7, 3) := by decide +kernel
theorem dL_isWell_106 : decode cL_isWell 106 = .ok (.iconst 1, 1) := by decide +kernel
theorem dL_isWell_107 : decode cL_isWell 107 = .ok (.goto 4, 3) := by decide +kernel
theorem dL_isWell_110 : decode cL_isWell 110 = .ok (.iconst 0, 1) := by decide +kernel
theorem dL_isWell_111 : decode cL_isWell 111 = .ok (.istore 5, 2) := by decide +kernel
theorem dL_isWell_113 : decode cL_isWell 113 = .ok (.iload_n 3, 1) := by decide +kernel
theorem dL_isWell_114 : decode cL_isWell 114 = .ok (.iload 7, 2) := by decide +kernel
theorem dL_isWell_116 : decode cL_isWell 116 = .ok (.ifCond .ge 7, 3) := by decide +kernel
theorem dL_isWell_119 : decode cL_isWell 119 = .ok (.iconst 0, 1) := by decide +kernel
theorem dL_isWell_120 : decode cL_isWell 120 = .ok (.goto 7, 3) := by decide +kernel
theorem dL_isWell_123 : decode cL_isWell 123 = .ok (.iconst 1, 1) := by decide +kernel
theorem dL_isWell_124 : decode cL_isWell 124 = .ok (.iload 7, 2) := by decide +kernel
theorem dL_isWell_126 : decode cL_isWell 126 = .ok (.ishl, 1) := by decide +kernel
theorem dL_isWell_127 : decode cL_isWell 127 = .ok (.ior, 1) := by decide +kernel
theorem dL_isWell_128 : decode cL_isWell 128 = .ok (.istore_n 3, 1) := by decide +kernel
theorem dL_isWell_129 : decode cL_isWell 129 = .ok (.iload 4, 2) := by decide +kernel
theorem dL_isWell_131 : decode cL_isWell 131 = .ok (.iload 7, 2) := by decide +kernel
theorem dL_isWell_133 : decode cL_isWell 133 = .ok (.ifCond .lt 14, 3) := by decide +kernel
theorem dL_isWell_136 : decode cL_isWell 136 = .ok (.aload_n 0, 1) := by decide +kernel
theorem dL_isWell_137 : decode cL_isWell 137 = .ok (.iload_n 1, 1) := by decide +kernel
theorem dL_isWell_138 : decode cL_isWell 138 = .ok (.iload 6, 2) := by decide +kernel
theorem dL_isWell_140 : decode cL_isWell 140 = .ok (.iconst 1, 1) := by decide +kernel
theorem dL_isWell_141 : decode cL_isWell 141 = .ok (.invokevirtual 56, 3) := by decide +kernel
theorem dL_isWell_144 : decode cL_isWell 144 = .ok (.goto 4, 3) := by decide +kernel
theorem dL_isWell_147 : decode cL_isWell 147 = .ok (.iconst 0, 1) := by decide +kernel
theorem dL_isWell_148 : decode cL_isWell 148 = .ok (.iadd, 1) := by decide +kernel
theorem dL_isWell_149 : decode cL_isWell 149 = .ok (.istore 4, 2) := by decide +kernel
theorem dL_isWell_151 : decode cL_isWell 151 = .ok (.iinc 6 1, 3) := by decide +kernel
theorem dL_isWell_154 : decode cL_isWell 154 = .ok (.goto (-123), 3) := by decide +kernel
theorem dL_isWell_157 : decode cL_isWell 157 = .ok (.iload 5, 2) := by decide +kernel
theorem dL_isWell_159 : decode cL_isWell 159 = .ok (.ifCond .eq 49, 3) := by decide +kernel
theorem dL_isWell_162 : decode cL_isWell 162 = .ok (.iload_n 3, 1) := by decide +kernel
theorem dL_isWell_163 : decode cL_isWell 163 = .ok (.iconst 1, 1) := by decide +kernel
theorem dL_isWell_164 : decode cL_isWell 164 = .ok (.iload_n 2, 1) := by decide +kernel
theorem dL_isWell_165 : decode cL_isWell 165 = .ok (.ishl, 1) := by decide +kernel
theorem dL_isWell_166 : decode cL_isWell 166 = .ok (.iconst 1, 1) := by decide +kernel
theorem dL_isWell_167 : decode cL_isWell 167 = .ok (.isub, 1) := by decide +kernel
theorem dL_isWell_168 : decode cL_isWell 168 = .ok (.if_icmp .ne 40, 3) := by decide +kernel
theorem dL_isWell_171 : decode cL_isWell 171 = .ok (.iload_n 2, 1) := by decide +kernel
theorem dL_isWell_172 : decode cL_isWell 172 = .ok (.ifCond .ne 11, 3) := by decide +kernel
theorem dL_isWell_175 : decode cL_isWell 175 = .ok (.iload 4, 2) := by decide +kernel
theorem dL_isWell_177 : decode cL_isWell 177 = .ok (.ifCond .ne 31, 3) := by decide +kernel
theorem dL_isWell_180 : decode cL_isWell 180 = .ok (.goto 9, 3) := by decide +kernel
theorem dL_isWell_183 : decode cL_isWell 183 = .ok (.iload 4, 2) := by decide +kernel
theorem dL_isWell_185 : decode cL_isWell 185 = .ok (.iload_n 2, 1) := by decide +kernel
theorem dL_isWell_186 : decode cL_isWell 186 = .ok (.if_icmp .ge 22, 3) := by decide +kernel
theorem dL_isWell_189 : decode cL_isWell 189 = .ok (.aload_n 0, 1) := by decide +kernel
theorem dL_isWell_190 : decode cL_isWell 190 = .ok (.iload_n 1, 1) := by decide +kernel
theorem dL_isWell_191 : decode cL_isWell 191 = .ok (.iconst 3, 1) := by decide +kernel
theorem dL_isWell_192 : decode cL_isWell 192 = .ok (.invokevirtual 53, 3) := by decide +kernel
theorem dL_isWell_195 : decode cL_isWell 195 = .ok (.aload_n 0, 1) := by decide +kernel
theorem dL_isWell_196 : decode cL_isWell 196 = .ok (.iload_n 1, 1) := by decide +kernel
theorem dL_isWell_197 : decode cL_isWell 197 = .ok (.iconst 2, 1) := by decide +kernel
theorem dL_isWell_198 : decode cL_isWell 198 = .ok (.invokevirtual 53, 3) := by decide +kernel
theorem dL_isWell_201 : decode cL_isWell 201 = .ok (.if_icmp .gt 7, 3) := by decide +kernel
theorem dL_isWell_204 : decode cL_isWell 204 = .ok (.iconst 1, 1) := by decide +kernel
theorem dL_isWell_205 : decode cL_isWell 205 = .ok (.goto 4, 3) := by decide +kernel
theorem dL_isWell_208 : decode cL_isWell 208 = .ok (.iconst 0, 1) := by decide +kernel
theorem dL_isWell_209 : decode cL_isWell 209 = .ok (.ireturn, 1) := by decide +kernel
theorem dL_law_0 : decode cL_law 0 = .ok (.new 9, 3) := by decide +kernel
theorem dL_law_3 : decode cL_law 3 = .ok (.dup, 1) := by decide +kernel
theorem dL_law_4 : decode cL_law 4 = .ok (.invokespecial 60, 3) := by decide +kernel
theorem dL_law_7 : decode cL_law 7 = .ok (.astore_n 1, 1) := by decide +kernel
theorem dL_law_8 : decode cL_law 8 = .ok (.bipush 7, 2) := by decide +kernel
theorem dL_law_10 : decode cL_law 10 = .ok (.newarray .int, 2) := by decide +kernel
theorem dL_law_12 : decode cL_law 12 = .ok (.astore_n 2, 1) := by decide +kernel
theorem dL_law_13 : decode cL_law 13 = .ok (.aload_n 1, 1) := by decide +kernel
theorem dL_law_14 : decode cL_law 14 = .ok (.iconst 1, 1) := by decide +kernel
theorem dL_law_15 : decode cL_law 15 = .ok (.aload_n 0, 1) := by decide +kernel
theorem dL_law_16 : decode cL_law 16 = .ok (.iconst 0, 1) := by decide +kernel
theorem dL_law_17 : decode cL_law 17 = .ok (.bipush 40, 2) := by decide +kernel
theorem dL_law_19 : decode cL_law 19 = .ok (.invokestatic 61, 3) := by decide +kernel
theorem dL_law_22 : decode cL_law 22 = .ok (.iadd, 1) := by decide +kernel
theorem dL_law_23 : decode cL_law 23 = .ok (.aload_n 0, 1) := by decide +kernel
theorem dL_law_24 : decode cL_law 24 = .ok (.iconst 1, 1) := by decide +kernel
theorem dL_law_25 : decode cL_law 25 = .ok (.iconst 4, 1) := by decide +kernel
theorem dL_law_26 : decode cL_law 26 = .ok (.invokestatic 61, 3) := by decide +kernel
theorem dL_law_29 : decode cL_law 29 = .ok (.invokevirtual 67, 3) := by decide +kernel
theorem dL_law_32 : decode cL_law 32 = .ok (.ifCond .ne 30, 3) := by decide +kernel
theorem dL_law_35 : decode cL_law 35 = .ok (.aload_n 1, 1) := by decide +kernel
theorem dL_law_36 : decode cL_law 36 = .ok (.iconst 1, 1) := by decide +kernel
theorem dL_law_37 : decode cL_law 37 = .ok (.aload_n 0, 1) := by decide +kernel
theorem dL_law_38 : decode cL_law 38 = .ok (.iconst 2, 1) := by decide +kernel
theorem dL_law_39 : decode cL_law 39 = .ok (.bipush 40, 2) := by decide +kernel
theorem dL_law_41 : decode cL_law 41 = .ok (.invokestatic 61, 3) := by decide +kernel
theorem dL_law_44 : decode cL_law 44 = .ok (.iadd, 1) := by decide +kernel
theorem dL_law_45 : decode cL_law 45 = .ok (.aload_n 0, 1) := by decide +kernel
theorem dL_law_46 : decode cL_law 46 = .ok (.iconst 3, 1) := by decide +kernel
theorem dL_law_47 : decode cL_law 47 = .ok (.iconst 4, 1) := by decide +kernel
theorem dL_law_48 : decode cL_law 48 = .ok (.invokestatic 61, 3) := by decide +kernel
theorem dL_law_51 : decode cL_law 51 = .ok (.invokevirtual 67, 3) := by decide +kernel
theorem dL_law_54 : decode cL_law 54 = .ok (.iconst 1, 1) := by decide +kernel
theorem dL_law_55 : decode cL_law 55 = .ok (.if_icmp .ne 7, 3) := by decide +kernel
theorem dL_law_58 : decode cL_law 58 = .ok (.iconst 1, 1) := by decide +kernel
theorem dL_law_59 : decode cL_law 59 = .ok (.goto 4, 3) := by decide +kernel
theorem dL_law_62 : decode cL_law 62 = .ok (.iconst 0, 1) := by decide +kernel
theorem dL_law_63 : decode cL_law 63 = .ok (.istore_n 3, 1) := by decide +kernel
theorem dL_law_64 : decode cL_law 64 = .ok (.iconst 0, 1) := by decide +kernel
theorem dL_law_65 : decode cL_law 65 = .ok (.istore 4, 2) := by decide +kernel
theorem dL_law_67 : decode cL_law 67 = .ok (.iload 4, 2) := by decide +kernel
theorem dL_law_69 : decode cL_law 69 = .ok (.bipush 7, 2) := by decide +kernel
theorem dL_law_71 : decode cL_law 71 = .ok (.if_icmp .ge 82, 3) := by decide +kernel
theorem dL_law_74 : decode cL_law 74 = .ok (.aload_n 2, 1) := by decide +kernel
theorem dL_law_75 : decode cL_law 75 = .ok (.iload 4, 2) := by decide +kernel
theorem dL_law_77 : decode cL_law 77 = .ok (.aload_n 0, 1) := by decide +kernel
theorem dL_law_78 : decode cL_law 78 = .ok (.iconst 4, 1) := by decide +kernel
theorem dL_law_79 : decode cL_law 79 = .ok (.iload 4, 2) := by decide +kernel
theorem dL_law_81 : decode cL_law 81 = .ok (.iadd, 1) := by decide +kernel
theorem dL_law_82 : decode cL_law 82 = .ok (.iconst 3, 1) := by decide +kernel
theorem dL_law_83 : decode cL_law 83 = .ok (.invokestatic 61, 3) := by decide +kernel
theorem dL_law_86 : decode cL_law 86 = .ok (.sipush 10101, 3) := by decide +kernel
theorem dL_law_89 : decode cL_law 89 = .ok (.imul, 1) := by decide +kernel
theorem dL_law_90 : decode cL_law 90 = .ok (.aload_n 0, 1) := by decide +kernel
theorem dL_law_91 : decode cL_law 91 = .ok (.bipush 11, 2) := by decide +kernel
theorem dL_law_93 : decode cL_law 93 = .ok (.iload 4, 2) := by decide +kernel
theorem dL_law_95 : decode cL_law 95 = .ok (.iadd, 1) := by decide +kernel
theorem dL_law_96 : decode cL_law 96 = .ok (.iconst 3, 1) := by decide +kernel
theorem dL_law_97 : decode cL_law 97 = .ok (.invokestatic 61, 3) := by decide +kernel
theorem dL_law_100 : decode cL_law 100 = .ok (.iadd, 1) := by decide +kernel
theorem dL_law_101 : decode cL_law 101 = .ok (.iastore, 1) := by decide +kernel
theorem dL_law_102 : decode cL_law 102 = .ok (.iload_n 3, 1) := by decide +kernel
theorem dL_law_103 : decode cL_law 103 = .ok (.ifCond .eq 42, 3) := by decide +kernel
theorem dL_law_106 : decode cL_law 106 = .ok (.aload_n 1, 1) := by decide +kernel
theorem dL_law_107 : decode cL_law 107 = .ok (.bipush 20, 2) := by decide +kernel
theorem dL_law_109 : decode cL_law 109 = .ok (.iconst 5, 1) := by decide +kernel
theorem dL_law_110 : decode cL_law 110 = .ok (.iload 4, 2) := by decide +kernel
theorem dL_law_112 : decode cL_law 112 = .ok (.imul, 1) := by decide +kernel
theorem dL_law_113 : decode cL_law 113 = .ok (.iadd, 1) := by decide +kernel
theorem dL_law_114 : decode cL_law 114 = .ok (.aload_n 2, 1) := by decide +kernel
theorem dL_law_115 : decode cL_law 115 = .ok (.iload 4, 2) := by decide +kernel
theorem dL_law_117 : decode cL_law 117 = .ok (.iaload, 1) := by decide +kernel
theorem dL_law_118 : decode cL_law 118 = .ok (.invokevirtual 70, 3) := by decide +kernel
theorem dL_law_121 : decode cL_law 121 = .ok (.iload 4, 2) := by decide +kernel
theorem dL_law_123 : decode cL_law 123 = .ok (.if_icmp .ne 22, 3) := by decide +kernel
theorem dL_law_126 : decode cL_law 126 = .ok (.aload_n 1, 1) := by decide +kernel
theorem dL_law_127 : decode cL_law 127 = .ok (.iload 4, 2) := by decide +kernel
theorem dL_law_129 : decode cL_law 129 = .ok (.sipush 200, 3) := by decide +kernel
theorem dL_law_132 : decode cL_law 132 = .ok (.invokevirtual 8, 3) := by decide +kernel
theorem dL_law_135 : decode cL_law 135 = .ok (.sipush 200, 3) := by decide +kernel
theorem dL_law_138 : decode cL_law 138 = .ok (.if_icmp .ne 7, 3) := by decide +kernel
theorem dL_law_141 : decode cL_law 141 = .ok (.iconst 1, 1) := by decide +kernel
theorem dL_law_142 : decode cL_law 142 = .ok (.goto 4, 3) := by decide +kernel
theorem dL_law_145 : decode cL_law 145 = .ok (.iconst 0, 1) := by decide +kernel
theorem dL_law_146 : decode cL_law 146 = .ok (.istore_n 3, 1) := by decide +kernel
theorem dL_law_147 : decode cL_law 147 = .ok (.iinc 4 1, 3) := by decide +kernel
theorem dL_law_150 : decode cL_law 150 = .ok (.goto (-83), 3) := by decide +kernel
theorem dL_law_153 : decode cL_law 153 = .ok (.iconst 0, 1) := by decide +kernel
theorem dL_law_154 : decode cL_law 154 = .ok (.istore 4, 2) := by decide +kernel
theorem dL_law_156 : decode cL_law 156 = .ok (.iload 4, 2) := by decide +kernel
theorem dL_law_158 : decode cL_law 158 = .ok (.bipush 50, 2) := by decide +kernel
theorem dL_law_160 : decode cL_law 160 = .ok (.if_icmp .ge 1489, 3) := by decide +kernel
theorem dL_law_163 : decode cL_law 163 = .ok (.iload_n 3, 1) := by decide +kernel
theorem dL_law_164 : decode cL_law 164 = .ok (.ifCond .eq 1485, 3) := by decide +kernel
theorem dL_law_167 : decode cL_law 167 = .ok (.aload_n 0, 1) := by decide +kernel
theorem dL_law_168 : decode cL_law 168 = .ok (.iconst 4, 1) := by decide +kernel
theorem dL_law_169 : decode cL_law 169 = .ok (.iload 4, 2) := by decide +kernel
theorem dL_law_171 : decode cL_law 171 = .ok (.imul, 1) := by decide +kernel
theorem dL_law_172 : decode cL_law 172 = .ok (.bipush 18, 2) := by decide +kernel
theorem dL_law_174 : decode cL_law 174 = .ok (.iadd, 1) := by decide +kernel
theorem dL_law_175 : decode cL_law 175 = .ok (.bipush 20, 2) := by decide +kernel
theorem dL_law_177 : decode cL_law 177 = .ok (.invokestatic 61, 3) := by decide +kernel
theorem dL_law_180 : decode cL_law 180 = .ok (.istore 5, 2) := by decide +kernel
theorem dL_law_182 : decode cL_law 182 = .ok (.aload_n 0, 1) := by decide +kernel
theorem dL_law_183 : decode cL_law 183 = .ok (.iconst 4, 1) := by decide +kernel
theorem dL_law_184 : decode cL_law 184 = .ok (.iload 4, 2) := by decide +kernel
theorem dL_law_186 : decode cL_law 186 = .ok (.imul, 1) := by decide +kernel
theorem dL_law_187 : decode cL_law 187 = .ok (.bipush 19, 2) := by decide +kernel
theorem dL_law_189 : decode cL_law 189 = .ok (.iadd, 1) := by decide +kernel
theorem dL_law_190 : decode cL_law 190 = .ok (.bipush 7, 2) := by decide +kernel
theorem dL_law_192 : decode cL_law 192 = .ok (.invokestatic 61, 3) := by decide +kernel
theorem dL_law_195 : decode cL_law 195 = .ok (.istore 6, 2) := by decide +kernel
theorem dL_law_197 : decode cL_law 197 = .ok (.aload_n 0, 1) := by decide +kernel
theorem dL_law_198 : decode cL_law 198 = .ok (.iconst 4, 1) := by decide +kernel
theorem dL_law_199 : decode cL_law 199 = .ok (.iload 4, 2) := by decide +kernel
theorem dL_law_201 : decode cL_law 201 = .ok (.imul, 1) := by decide +kernel
theorem dL_law_202 : decode cL_law 202 = .ok (.bipush 20, 2) := by decide +kernel
theorem dL_law_204 : decode cL_law 204 = .ok (.iadd, 1) := by decide +kernel
theorem dL_law_205 : decode cL_law 205 = .ok (.sipush 840, 3) := by decide +kernel
theorem dL_law_208 : decode cL_law 208 = .ok (.invokestatic 61, 3) := by decide +kernel
theorem dL_law_211 : decode cL_law 211 = .ok (.istore 7, 2) := by decide +kernel
theorem dL_law_213 : decode cL_law 213 = .ok (.iload 6, 2) := by decide +kernel
theorem dL_law_215 : decode cL_law 215 = .ok (.iconst 1, 1) := by decide +kernel
theorem dL_law_216 : decode cL_law 216 = .ok (.iadd, 1) := by decide +kernel
theorem dL_law_217 : decode cL_law 217 = .ok (.iload 7, 2) := by decide +kernel
theorem dL_law_219 : decode cL_law 219 = .ok (.bipush 6, 2) := by decide +kernel
theorem dL_law_221 : decode cL_law 221 = .ok (.irem, 1) := by decide +kernel
theorem dL_law_222 : decode cL_law 222 = .ok (.iadd, 1) := by decide +kernel
theorem dL_law_223 : decode cL_law 223 = .ok (.bipush 7, 2) := by decide +kernel
theorem dL_law_225 : decode cL_law 225 = .ok (.irem, 1) := by decide +kernel
theorem dL_law_226 : decode cL_law 226 = .ok (.istore 8, 2) := by decide +kernel
theorem dL_law_228 : decode cL_law 228 = .ok (.iload 7, 2) := by decide +kernel
theorem dL_law_230 : decode cL_law 230 = .ok (.iconst 2, 1) := by decide +kernel
theorem dL_law_231 : decode cL_law 231 = .ok (.irem, 1) := by decide +kernel
theorem dL_law_232 : decode cL_law 232 = .ok (.istore 9, 2) := by decide +kernel
theorem dL_law_234 : decode cL_law 234 = .ok (.aload_n 1, 1) := by decide +kernel
theorem dL_law_235 : decode cL_law 235 = .ok (.iload 6, 2) := by decide +kernel
theorem dL_law_237 : decode cL_law 237 = .ok (.iconst 0, 1) := by decide +kernel
theorem dL_law_238 : decode cL_law 238 = .ok (.invokevirtual 50, 3) := by decide +kernel
theorem dL_law_241 : decode cL_law 241 = .ok (.istore 10, 2) := by decide +kernel
theorem dL_law_243 : decode cL_law 243 = .ok (.aload_n 1, 1) := by decide +kernel
theorem dL_law_244 : decode cL_law 244 = .ok (.iload 6, 2) := by decide +kernel
theorem dL_law_246 : decode cL_law 246 = .ok (.iconst 4, 1) := by decide +kernel
theorem dL_law_247 : decode cL_law 247 = .ok (.invokevirtual 50, 3) := by decide +kernel
theorem dL_law_250 : decode cL_law 250 = .ok (.istore 11, 2) := by decide +kernel
theorem dL_law_252 : decode cL_law 252 = .ok (.iload 5, 2) := by decide +kernel
theorem dL_law_254 : decode cL_law 254 = .ok (.iconst 2, 1) := by decide +kernel
theorem dL_law_255 : decode cL_law 255 = .ok (.if_icmp .ge 67, 3) := by decide +kernel
theorem dL_law_258 : decode cL_law 258 = .ok (.iload 7, 2) := by decide +kernel
theorem dL_law_260 : decode cL_law 260 = .ok (.sipush 300, 3) := by decide +kernel
theorem dL_law_263 : decode cL_law 263 = .ok (.isub, 1) := by decide +kernel
theorem dL_law_264 : decode cL_law 264 = .ok (.istore 12, 2) := by decide +kernel
theorem dL_law_266 : decode cL_law 266 = .ok (.aload_n 1, 1) := by decide +kernel
theorem dL_law_267 : decode cL_law 267 = .ok (.iload 6, 2) := by decide +kernel
theorem dL_law_269 : decode cL_law 269 = .ok (.iload 12, 2) := by decide +kernel
theorem dL_law_271 : decode cL_law 271 = .ok (.invokestatic 73, 3) := by decide +kernel
theorem dL_law_274 : decode cL_law 274 = .ok (.aload_n 1, 1) := by decide +kernel
theorem dL_law_275 : decode cL_law 275 = .ok (.iload 6, 2) := by decide +kernel
theorem dL_law_277 : decode cL_law 277 = .ok (.iconst 5, 1) := by decide +kernel
theorem dL_law_278 : decode cL_law 278 = .ok (.invokevirtual 50, 3) := by decide +kernel
theorem dL_law_281 : decode cL_law 281 = .ok (.iconst 1, 1) := by decide +kernel
theorem dL_law_282 : decode cL_law 282 = .ok (.if_icmp .ne 15, 3) := by decide +kernel
theorem dL_law_285 : decode cL_law 285 = .ok (.iload 10, 2) := by decide +kernel
theorem dL_law_287 : decode cL_law 287 = .ok (.iload 12, 2) := by decide +kernel
theorem dL_law_289 : decode cL_law 289 = .ok (.iadd, 1) := by decide +kernel
theorem dL_law_290 : decode cL_law 290 = .ok (.ifCond .lt 7, 3) := by decide +kernel
theorem dL_law_293 : decode cL_law 293 = .ok (.iconst 1, 1) := by decide +kernel
theorem dL_law_294 : decode cL_law 294 = .ok (.goto 4, 3) := by decide +kernel
theorem dL_law_297 : decode cL_law 297 = .ok (.iconst 0, 1) := by decide +kernel
theorem dL_law_298 : decode cL_law 298 = .ok (.if_icmp .ne 19, 3) := by decide +kernel
theorem dL_law_301 : decode cL_law 301 = .ok (.aload_n 1, 1) := by decide +kernel
theorem dL_law_302 : decode cL_law 302 = .ok (.iload 6, 2) := by decide +kernel
theorem dL_law_304 : decode cL_law 304 = .ok (.iconst 4, 1) := by decide +kernel
theorem dL_law_305 : decode cL_law 305 = .ok (.invokevirtual 50, 3) := by decide +kernel
theorem dL_law_308 : decode cL_law 308 = .ok (.iload 11, 2) := by decide +kernel
theorem dL_law_310 : decode cL_law 310 = .ok (.if_icmp .ne 7, 3) := by decide +kernel
theorem dL_law_313 : decode cL_law 313 = .ok (.iconst 1, 1) := by decide +kernel
theorem dL_law_314 : decode cL_law 314 = .ok (.goto 4, 3) := by decide +kernel
theorem dL_law_317 : decode cL_law 317 = .ok (.iconst 0, 1) := by decide +kernel
theorem dL_law_318 : decode cL_law 318 = .ok (.istore_n 3, 1) := by decide +kernel
theorem dL_law_319 : decode cL_law 319 = .ok (.goto 1264, 3) := by decide +kernel
theorem dL_law_322 : decode cL_law 322 = .ok (.iload 5, 2) := by decide +kernel
theorem dL_law_324 : decode cL_law 324 = .ok (.iconst 5, 1) := by decide +kernel
theorem dL_law_325 : decode cL_law 325 = .ok (.if_icmp .ge 62, 3) := by decide +kernel
theorem dL_law_328 : decode cL_law 328 = .ok (.aload_n 1, 1) := by decide +kernel
theorem dL_law_329 : decode cL_law 329 = .ok (.iload 9, 2) := by decide +kernel
theorem dL_law_331 : decode cL_law 331 = .ok (.iconst 1, 1) := by decide +kernel
theorem dL_law_332 : decode cL_law 332 = .ok (.invokevirtual 53, 3) := by decide +kernel
theorem dL_law_335 : decode cL_law 335 = .ok (.istore 12, 2) := by decide +kernel
theorem dL_law_337 : decode cL_law 337 = .ok (.aload_n 1, 1) := by decide +kernel
theorem dL_law_338 : decode cL_law 338 = .ok (.iload 9, 2) := by decide +kernel
theorem dL_law_340 : decode cL_law 340 = .ok (.iload 6, 2) := by decide +kernel
theorem dL_law_342 : decode cL_law 342 = .ok (.invokestatic 77, 3) := by decide +kernel
theorem dL_law_345 : decode cL_law 345 = .ok (.istore 13, 2) := by decide +kernel
theorem dL_law_347 : decode cL_law 347 = .ok (.iload 13, 2) := by decide +kernel
theorem dL_law_349 : decode cL_law 349 = .ok (.ifCond .eq 29, 3) := by decide +kernel
theorem dL_law_352 : decode cL_law 352 = .ok (.aload_n 1, 1) := by decide +kernel
theorem dL_law_353 : decode cL_law 353 = .ok (.iload 9, 2) := by decide +kernel
theorem dL_law_355 : decode cL_law 355 = .ok (.iload 6, 2) := by decide +kernel
theorem dL_law_357 : decode cL_law 357 = .ok (.iconst 3, 1) := by decide +kernel
theorem dL_law_358 : decode cL_law 358 = .ok (.invokevirtual 56, 3) := by decide +kernel
theorem dL_law_361 : decode cL_law 361 = .ok (.iload 12, 2) := by decide +kernel
theorem dL_law_363 : decode cL_law 363 = .ok (.if_icmp .ne 19, 3) := by decide +kernel
theorem dL_law_366 : decode cL_law 366 = .ok (.aload_n 1, 1) := by decide +kernel
theorem dL_law_367 : decode cL_law 367 = .ok (.iload 9, 2) := by decide +kernel
theorem dL_law_369 : decode cL_law 369 = .ok (.iload 6, 2) := by decide +kernel
theorem dL_law_371 : decode cL_law 371 = .ok (.iconst 0, 1) := by decide +kernel
theorem dL_law_372 : decode cL_law 372 = .ok (.invokevirtual 56, 3) := by decide +kernel
theorem dL_law_375 : decode cL_law 375 = .ok (.ifCond .ne 7, 3) := by decide +kernel
theorem dL_law_378 : decode cL_law 378 = .ok (.iconst 1, 1) := by decide +kernel
theorem dL_law_379 : decode cL_law 379 = .ok (.goto 4, 3) := by decide +kernel
theorem dL_law_382 : decode cL_law 382 = .ok (.iconst 0, 1) := by decide +kernel
theorem dL_law_383 : decode cL_law 383 = .ok (.istore_n 3, 1) := by decide +kernel
theorem dL_law_384 : decode cL_law 384 = .ok (.goto 1199, 3) := by decide +kernel
theorem dL_law_387 : decode cL_law 387 = .ok (.iload 5, 2) := by decide +kernel
theorem dL_law_389 : decode cL_law 389 = .ok (.iconst 5, 1) := by decide +kernel
theorem dL_law_390 : decode cL_law 390 = .ok (.if_icmp .ne 57, 3) := by decide +kernel
theorem dL_law_393 : decode cL_law 393 = .ok (.aload_n 1, 1) := by decide +kernel
theorem dL_law_394 : decode cL_law 394 = .ok (.iload 9, 2) := by decide +kernel
theorem dL_law_396 : decode cL_law 396 = .ok (.iconst 1, 1) := by decide +kernel
theorem dL_law_397 : decode cL_law 397 = .ok (.invokevirtual 53, 3) := by decide +kernel
theorem dL_law_400 : decode cL_law 400 = .ok (.iconst 1, 1) := by decide +kernel
theorem dL_law_401 : decode cL_law 401 = .ok (.if_icmp .le 7, 3) := by decide +kernel
theorem dL_law_404 : decode cL_law 404 = .ok (.iconst 1, 1) := by decide +kernel
theorem dL_law_405 : decode cL_law 405 = .ok (.goto 4, 3) := by decide +kernel
theorem dL_law_408 : decode cL_law 408 = .ok (.iconst 0, 1) := by decide +kernel
theorem dL_law_409 : decode cL_law 409 = .ok (.istore 12, 2) := by decide +kernel
theorem dL_law_411 : decode cL_law 411 = .ok (.aload_n 1, 1) := by decide +kernel
theorem dL_law_412 : decode cL_law 412 = .ok (.iload 9, 2) := by decide +kernel
theorem dL_law_414 : decode cL_law 414 = .ok (.iload 7, 2) := by decide +kernel
theorem dL_law_416 : decode cL_law 416 = .ok (.invokestatic 80, 3) := by decide +kernel
theorem dL_law_419 : decode cL_law 419 = .ok (.ifCond .eq 19, 3) := by decide +kernel
theorem dL_law_422 : decode cL_law 422 = .ok (.iload 12, 2) := by decide +kernel
theorem dL_law_424 : decode cL_law 424 = .ok (.ifCond .eq 18, 3) := by decide +kernel
theorem dL_law_427 : decode cL_law 427 = .ok (.aload_n 1, 1) := by decide +kernel
theorem dL_law_428 : decode cL_law 428 = .ok (.iload 9, 2) := by decide +kernel
theorem dL_law_430 : decode cL_law 430 = .ok (.iload 7, 2) := by decide +kernel
theorem dL_law_432 : decode cL_law 432 = .ok (.invokestatic 80, 3) := by decide +kernel
theorem dL_law_435 : decode cL_law 435 = .ok (.ifCond .ne 7, 3) := by decide +kernel
theorem dL_law_438 : decode cL_law 438 = .ok (.iconst 1, 1) := by decide +kernel
theorem dL_law_439 : decode cL_law 439 = .ok (.goto 4, 3) := by decide +kernel
theorem dL_law_442 : decode cL_law 442 = .ok (.iconst 0, 1) := by decide +kernel
theorem dL_law_443 : decode cL_law 443 = .ok (.istore_n 3, 1) := by decide +kernel
theorem dL_law_444 : decode cL_law 444 = .ok (.goto 1139, 3) := by decide +kernel
theorem dL_law_447 : decode cL_law 447 = .ok (.iload 5, 2) := by decide +kernel
theorem dL_law_449 : decode cL_law 449 = .ok (.bipush 6, 2) := by decide +kernel
theorem dL_law_451 : decode cL_law 451 = .ok (.if_icmp .ne 55, 3) := by decide +kernel
theorem dL_law_454 : decode cL_law 454 = .ok (.aload_n 1, 1) := by decide +kernel
theorem dL_law_455 : decode cL_law 455 = .ok (.iload 9, 2) := by decide +kernel
theorem dL_law_457 : decode cL_law 457 = .ok (.iload 6, 2) := by decide +kernel
theorem dL_law_459 : decode cL_law 459 = .ok (.iload 7, 2) := by decide +kernel
theorem dL_law_461 : decode cL_law 461 = .ok (.iload 7, 2) := by decide +kernel
theorem dL_law_463 : decode cL_law 463 = .ok (.iconst 4, 1) := by decide +kernel
theorem dL_law_464 : decode cL_law 464 = .ok (.irem, 1) := by decide +kernel
theorem dL_law_465 : decode cL_law 465 = .ok (.iconst 1, 1) := by decide +kernel
theorem dL_law_466 : decode cL_law 466 = .ok (.if_icmp .le 7, 3) := by decide +kernel
theorem dL_law_469 : decode cL_law 469 = .ok (.iconst 1, 1) := by decide +kernel
theorem dL_law_470 : decode cL_law 470 = .ok (.goto 4, 3) := by decide +kernel
theorem dL_law_473 : decode cL_law 473 = .ok (.iconst 0, 1) := by decide +kernel
theorem dL_law_474 : decode cL_law 474 = .ok (.invokestatic 83, 3) := by decide +kernel
theorem dL_law_477 : decode cL_law 477 = .ok (.aload_n 1, 1) := by decide +kernel
theorem dL_law_478 : decode cL_law 478 = .ok (.iload 9, 2) := by decide +kernel
theorem dL_law_480 : decode cL_law 480 = .ok (.iload 6, 2) := by decide +kernel
theorem dL_law_482 : decode cL_law 482 = .ok (.iconst 3, 1) := by decide +kernel
theorem dL_law_483 : decode cL_law 483 = .ok (.invokevirtual 56, 3) := by decide +kernel
theorem dL_law_486 : decode cL_law 486 = .ok (.ifCond .lt 7, 3) := by decide +kernel
theorem dL_law_489 : decode cL_law 489 = .ok (.iconst 1, 1) := by decide +kernel
theorem dL_law_490 : decode cL_law 490 = .ok (.goto 4, 3) := by decide +kernel
theorem dL_law_493 : decode cL_law 493 = .ok (.iconst 0, 1) := by decide +kernel
theorem dL_law_494 : decode cL_law 494 = .ok (.if_icmp .ne 7, 3) := by decide +kernel
theorem dL_law_497 : decode cL_law 497 = .ok (.iconst 1, 1) := by decide +kernel
theorem dL_law_498 : decode cL_law 498 = .ok (.goto 4, 3) := by decide +kernel
theorem dL_law_501 : decode cL_law 501 = .ok (.iconst 0, 1) := by decide +kernel
theorem dL_law_502 : decode cL_law 502 = .ok (.istore_n 3, 1) := by decide +kernel
theorem dL_law_503 : decode cL_law 503 = .ok (.goto 1080, 3) := by decide +kernel
theorem dL_law_506 : decode cL_law 506 = .ok (.iload 5, 2) := by decide +kernel
theorem dL_law_508 : decode cL_law 508 = .ok (.bipush 11, 2) := by decide +kernel
theorem dL_law_510 : decode cL_law 510 = .ok (.if_icmp .ge 97, 3) := by decide +kernel
theorem dL_law_513 : decode cL_law 513 = .ok (.aload_n 1, 1) := by decide +kernel
theorem dL_law_514 : decode cL_law 514 = .ok (.iload 9, 2) := by decide +kernel
theorem dL_law_516 : decode cL_law 516 = .ok (.iconst 4, 1) := by decide +kernel
theorem dL_law_517 : decode cL_law 517 = .ok (.invokevirtual 53, 3) := by decide +kernel
theorem dL_law_520 : decode cL_law 520 = .ok (.istore 12, 2) := by decide +kernel
theorem dL_law_522 : decode cL_law 522 = .ok (.aload_n 1, 1) := by decide +kernel
theorem dL_law_523 : decode cL_law 523 = .ok (.iload 9, 2) := by decide +kernel
theorem dL_law_525 : decode cL_law 525 = .ok (.iconst 2, 1) := by decide +kernel
theorem dL_law_526 : decode cL_law 526 = .ok (.invokevirtual 53, 3) := by decide +kernel
theorem dL_law_529 : decode cL_law 529 = .ok (.istore 13, 2) := by decide +kernel
theorem dL_law_531 : decode cL_law 531 = .ok (.aload_n 1, 1) := by decide +kernel
theorem dL_law_532 : decode cL_law 532 = .ok (.iload 9, 2) := by decide +kernel
theorem dL_law_534 : decode cL_law 534 = .ok (.iload 7, 2) := by decide +kernel
theorem dL_law_536 : decode cL_law 536 = .ok (.sipush 600, 3) := by decide +kernel
theorem dL_law_539 : decode cL_law 539 = .ok (.if_icmp .le 7, 3) := by decide +kernel
theorem dL_law_542 : decode cL_law 542 = .ok (.iconst 1, 1) := by decide +kernel
theorem dL_law_543 : decode cL_law 543 = .ok (.goto 4, 3) := by decide +kernel
theorem dL_law_546 : decode cL_law 546 = .ok (.iconst 0, 1) := by decide +kernel
theorem dL_law_547 : decode cL_law 547 = .ok (.invokestatic 87, 3) := by decide +kernel
theorem dL_law_550 : decode cL_law 550 = .ok (.istore 14, 2) := by decide +kernel
theorem dL_law_552 : decode cL_law 552 = .ok (.iload 14, 2) := by decide +kernel
theorem dL_law_554 : decode cL_law 554 = .ok (.ifCond .ge 23, 3) := by decide +kernel
theorem dL_law_557 : decode cL_law 557 = .ok (.aload_n 1, 1) := by decide +kernel
theorem dL_law_558 : decode cL_law 558 = .ok (.iload 9, 2) := by decide +kernel
theorem dL_law_560 : decode cL_law 560 = .ok (.iconst 2, 1) := by decide +kernel
theorem dL_law_561 : decode cL_law 561 = .ok (.invokevirtual 53, 3) := by decide +kernel
theorem dL_law_564 : decode cL_law 564 = .ok (.iload 13, 2) := by decide +kernel
theorem dL_law_566 : decode cL_law 566 = .ok (.if_icmp .ne 7, 3) := by decide +kernel
theorem dL_law_569 : decode cL_law 569 = .ok (.iconst 1, 1) := by decide +kernel
theorem dL_law_570 : decode cL_law 570 = .ok (.goto 33, 3) := by decide +kernel
theorem dL_law_573 : decode cL_law 573 = .ok (.iconst 0, 1) := by decide +kernel
theorem dL_law_574 : decode cL_law 574 = .ok (.goto 29, 3) := by decide +kernel
theorem dL_law_577 : decode cL_law 577 = .ok (.iload 14, 2) := by decide +kernel
theorem dL_law_579 : decode cL_law 579 = .ok (.iload 12, 2) := by decide +kernel
theorem dL_law_581 : decode cL_law 581 = .ok (.if_icmp .ne 21, 3) := by decide +kernel
theorem dL_law_584 : decode cL_law 584 = .ok (.aload_n 1, 1) := by decide +kernel
theorem dL_law_585 : decode cL_law 585 = .ok (.iload 9, 2) := by decide +kernel
theorem dL_law_587 : decode cL_law 587 = .ok (.iconst 2, 1) := by decide +kernel
theorem dL_law_588 : decode cL_law 588 = .ok (.invokevirtual 53, 3) := by decide +kernel
theorem dL_law_591 : decode cL_law 591 = .ok (.iload 13, 2) := by decide +kernel
theorem dL_law_593 : decode cL_law 593 = .ok (.iconst 1, 1) := by decide +kernel
theorem dL_law_594 : decode cL_law 594 = .ok (.iadd, 1) := by decide +kernel
theorem dL_law_595 : decode cL_law 595 = .ok (.if_icmp .ne 7, 3) := by decide +kernel
theorem dL_law_598 : decode cL_law 598 = .ok (.iconst 1, 1) := by decide +kernel
theorem dL_law_599 : decode cL_law 599 = .ok (.goto 4, 3) := by decide +kernel
theorem dL_law_602 : decode cL_law 602 = .ok (.iconst 0, 1) := by decide +kernel
theorem dL_law_603 : decode cL_law 603 = .ok (.istore_n 3, 1) := by decide +kernel
theorem dL_law_604 : decode cL_law 604 = .ok (.goto 979, 3) := by decide +kernel
theorem dL_law_607 : decode cL_law 607 = .ok (.iload 5, 2) := by decide +kernel
theorem dL_law_609 : decode cL_law 609 = .ok (.bipush 11, 2) := by decide +kernel
theorem dL_law_611 : decode cL_law 611 = .ok (.if_icmp .ne 134, 3) := by decide +kernel
theorem dL_law_614 : decode cL_law 614 = .ok (.aload_n 1, 1) := by decide +kernel
theorem dL_law_615 : decode cL_law 615 = .ok (.iload 9, 2) := by decide +kernel
theorem dL_law_617 : decode cL_law 617 = .ok (.iload 6, 2) := by decide +kernel
theorem dL_law_619 : decode cL_law 619 = .ok (.iconst 0, 1) := by decide +kernel
theorem dL_law_620 : decode cL_law 620 = .ok (.invokevirtual 56, 3) := by decide +kernel
theorem dL_law_623 : decode cL_law 623 = .ok (.ifCond .ne 19, 3) := by decide +kernel
theorem dL_law_626 : decode cL_law 626 = .ok (.aload_n 1, 1) := by decide +kernel
theorem dL_law_627 : decode cL_law 627 = .ok (.iload 9, 2) := by decide +kernel
theorem dL_law_629 : decode cL_law 629 = .ok (.iload 6, 2) := by decide +kernel
theorem dL_law_631 : decode cL_law 631 = .ok (.iconst 1, 1) := by decide +kernel
theorem dL_law_632 : decode cL_law 632 = .ok (.invokevirtual 56, 3) := by decide +kernel
theorem dL_law_635 : decode cL_law 635 = .ok (.ifCond .ne 7, 3) := by decide +kernel
theorem dL_law_638 : decode cL_law 638 = .ok (.iconst 1, 1) := by decide +kernel
theorem dL_law_639 : decode cL_law 639 = .ok (.goto 4, 3) := by decide +kernel
theorem dL_law_642 : decode cL_law 642 = .ok (.iconst 0, 1) := by decide +kernel
theorem dL_law_643 : decode cL_law 643 = .ok (.istore 12, 2) := by decide +kernel
theorem dL_law_645 : decode cL_law 645 = .ok (.aload_n 1, 1) := by decide +kernel
theorem dL_law_646 : decode cL_law 646 = .ok (.iload 9, 2) := by decide +kernel
theorem dL_law_648 : decode cL_law 648 = .ok (.iload 6, 2) := by decide +kernel
theorem dL_law_650 : decode cL_law 650 = .ok (.iconst 2, 1) := by decide +kernel
theorem dL_law_651 : decode cL_law 651 = .ok (.invokevirtual 56, 3) := by decide +kernel
theorem dL_law_654 : decode cL_law 654 = .ok (.istore 13, 2) := by decide +kernel
theorem dL_law_656 : decode cL_law 656 = .ok (.aload_n 1, 1) := by decide +kernel
theorem dL_law_657 : decode cL_law 657 = .ok (.iload 9, 2) := by decide +kernel
theorem dL_law_659 : decode cL_law 659 = .ok (.iload 6, 2) := by decide +kernel
theorem dL_law_661 : decode cL_law 661 = .ok (.invokestatic 91, 3) := by decide +kernel
theorem dL_law_664 : decode cL_law 664 = .ok (.istore 14, 2) := by decide +kernel
theorem dL_law_666 : decode cL_law 666 = .ok (.iload 14, 2) := by decide +kernel
theorem dL_law_668 : decode cL_law 668 = .ok (.ifCond .lt 7, 3) := by decide +kernel
theorem dL_law_671 : decode cL_law 671 = .ok (.iconst 1, 1) := by decide +kernel
theorem dL_law_672 : decode cL_law 672 = .ok (.goto 4, 3) := by decide +kernel
theorem dL_law_675 : decode cL_law 675 = .ok (.iconst 0, 1) := by decide +kernel
theorem dL_law_676 : decode cL_law 676 = .ok (.iload 12, 2) := by decide +kernel
theorem dL_law_678 : decode cL_law 678 = .ok (.if_icmp .ne 62, 3) := by decide +kernel
theorem dL_law_681 : decode cL_law 681 = .ok (.iload 12, 2) := by decide +kernel
theorem dL_law_683 : decode cL_law 683 = .ok (.ifCond .eq 53, 3) := by decide +kernel
theorem dL_law_686 : decode cL_law 686 = .ok (.iload 14, 2) := by decide +kernel
theorem dL_law_688 : decode cL_law 688 = .ok (.iload 13, 2) := by decide +kernel
theorem dL_law_690 : decode cL_law 690 = .ok (.if_icmp .gt 50, 3) := by decide +kernel
theorem dL_law_693 : decode cL_law 693 = .ok (.aload_n 1, 1) := by decide +kernel
theorem dL_law_694 : decode cL_law 694 = .ok (.iload 6, 2) := by decide +kernel
theorem dL_law_696 : decode cL_law 696 = .ok (.iconst 0, 1) := by decide +kernel
theorem dL_law_697 : decode cL_law 697 = .ok (.invokevirtual 50, 3) := by decide +kernel
theorem dL_law_700 : decode cL_law 700 = .ok (.iload 10, 2) := by decide +kernel
theorem dL_law_702 : decode cL_law 702 = .ok (.iload 14, 2) := by decide +kernel
theorem dL_law_704 : decode cL_law 704 = .ok (.iadd, 1) := by decide +kernel
theorem dL_law_705 : decode cL_law 705 = .ok (.if_icmp .ne 35, 3) := by decide +kernel
theorem dL_law_708 : decode cL_law 708 = .ok (.aload_n 1, 1) := by decide +kernel
theorem dL_law_709 : decode cL_law 709 = .ok (.iload 6, 2) := by decide +kernel
theorem dL_law_711 : decode cL_law 711 = .ok (.iconst 4, 1) := by decide +kernel
theorem dL_law_712 : decode cL_law 712 = .ok (.invokevirtual 50, 3) := by decide +kernel
theorem dL_law_715 : decode cL_law 715 = .ok (.iload 11, 2) := by decide +kernel
theorem dL_law_717 : decode cL_law 717 = .ok (.iload 14, 2) := by decide +kernel
theorem dL_law_719 : decode cL_law 719 = .ok (.isub, 1) := by decide +kernel
theorem dL_law_720 : decode cL_law 720 = .ok (.if_icmp .ne 20, 3) := by decide +kernel
theorem dL_law_723 : decode cL_law 723 = .ok (.aload_n 1, 1) := by decide +kernel
theorem dL_law_724 : decode cL_law 724 = .ok (.iload 9, 2) := by decide +kernel
theorem dL_law_726 : decode cL_law 726 = .ok (.iload 6, 2) := by decide +kernel
theorem dL_law_728 : decode cL_law 728 = .ok (.iconst 3, 1) := by decide +kernel
theorem dL_law_729 : decode cL_law 729 = .ok (.invokevirtual 56, 3) := by decide +kernel
theorem dL_law_732 : decode cL_law 732 = .ok (.iconst (-1), 1) := by decide +kernel
theorem dL_law_733 : decode cL_law 733 = .ok (.if_icmp .ne 7, 3) := by decide +kernel
theorem dL_law_736 : decode cL_law 736 = .ok (.iconst 1, 1) := by decide +kernel
theorem dL_law_737 : decode cL_law 737 = .ok (.goto 4, 3) := by decide +kernel
theorem dL_law_740 : decode cL_law 740 = .ok (.iconst 0, 1) := by decide +kernel
theorem dL_law_741 : decode cL_law 741 = .ok (.istore_n 3, 1) := by decide +kernel
theorem dL_law_742 : decode cL_law 742 = .ok (.goto 841, 3) := by decide +kernel
theorem dL_law_745 : decode cL_law 745 = .ok (.iload 5, 2) := by decide +kernel
theorem dL_law_747 : decode cL_law 747 = .ok (.bipush 14, 2) := by decide +kernel
theorem dL_law_749 : decode cL_law 749 = .ok (.if_icmp .ge 128, 3) := by decide +kernel
theorem dL_law_752 : decode cL_law 752 = .ok (.iconst 1, 1) := by decide +kernel
theorem dL_law_753 : decode cL_law 753 = .ok (.iload 7, 2) := by decide +kernel
theorem dL_law_755 : decode cL_law 755 = .ok (.bipush 12, 2) := by decide +kernel
theorem dL_law_757 : decode cL_law 757 = .ok (.irem, 1) := by decide +kernel
theorem dL_law_758 : decode cL_law 758 = .ok (.iadd, 1) := by decide +kernel
theorem dL_law_759 : decode cL_law 759 = .ok (.istore 12, 2) := by decide +kernel
theorem dL_law_761 : decode cL_law 761 = .ok (.aload_n 1, 1) := by decide +kernel
theorem dL_law_762 : decode cL_law 762 = .ok (.iload 6, 2) := by decide +kernel
theorem dL_law_764 : decode cL_law 764 = .ok (.iconst 5, 1) := by decide +kernel
theorem dL_law_765 : decode cL_law 765 = .ok (.invokevirtual 50, 3) := by decide +kernel
theorem dL_law_768 : decode cL_law 768 = .ok (.iconst 1, 1) := by decide +kernel
theorem dL_law_769 : decode cL_law 769 = .ok (.if_icmp .ne 32, 3) := by decide +kernel
theorem dL_law_772 : decode cL_law 772 = .ok (.aload_n 1, 1) := by decide +kernel
theorem dL_law_773 : decode cL_law 773 = .ok (.iload 6, 2) := by decide +kernel
theorem dL_law_775 : decode cL_law 775 = .ok (.iconst 1, 1) := by decide +kernel
theorem dL_law_776 : decode cL_law 776 = .ok (.invokevirtual 50, 3) := by decide +kernel
theorem dL_law_779 : decode cL_law 779 = .ok (.iload 12, 2) := by decide +kernel
theorem dL_law_781 : decode cL_law 781 = .ok (.iadd, 1) := by decide +kernel
theorem dL_law_782 : decode cL_law 782 = .ok (.bipush 100, 2) := by decide +kernel
theorem dL_law_784 : decode cL_law 784 = .ok (.if_icmp .gt 17, 3) := by decide +kernel
theorem dL_law_787 : decode cL_law 787 = .ok (.iload 10, 2) := by decide +kernel
theorem dL_law_789 : decode cL_law 789 = .ok (.bipush 10, 2) := by decide +kernel
theorem dL_law_791 : decode cL_law 791 = .ok (.iload 12, 2) := by decide +kernel
theorem dL_law_793 : decode cL_law 793 = .ok (.imul, 1) := by decide +kernel
theorem dL_law_794 : decode cL_law 794 = .ok (.if_icmp .lt 7, 3) := by decide +kernel
theorem dL_law_797 : decode cL_law 797 = .ok (.iconst 1, 1) := by decide +kernel
theorem dL_law_798 : decode cL_law 798 = .ok (.goto 4, 3) := by decide +kernel
theorem dL_law_801 : decode cL_law 801 = .ok (.iconst 0, 1) := by decide +kernel
theorem dL_law_802 : decode cL_law 802 = .ok (.istore 13, 2) := by decide +kernel
theorem dL_law_804 : decode cL_law 804 = .ok (.aload_n 1, 1) := by decide +kernel
theorem dL_law_805 : decode cL_law 805 = .ok (.iload 6, 2) := by decide +kernel
theorem dL_law_807 : decode cL_law 807 = .ok (.iload 12, 2) := by decide +kernel
theorem dL_law_809 : decode cL_law 809 = .ok (.invokestatic 95, 3) := by decide +kernel
theorem dL_law_812 : decode cL_law 812 = .ok (.iload 13, 2) := by decide +kernel
theorem dL_law_814 : decode cL_law 814 = .ok (.if_icmp .ne 58, 3) := by decide +kernel
theorem dL_law_817 : decode cL_law 817 = .ok (.aload_n 1, 1) := by decide +kernel
theorem dL_law_818 : decode cL_law 818 = .ok (.iload 6, 2) := by decide +kernel
theorem dL_law_820 : decode cL_law 820 = .ok (.iconst 0, 1) := by decide +kernel
theorem dL_law_821 : decode cL_law 821 = .ok (.invokevirtual 50, 3) := by decide +kernel
theorem dL_law_824 : decode cL_law 824 = .ok (.iload 13, 2) := by decide +kernel
theorem dL_law_826 : decode cL_law 826 = .ok (.ifCond .eq 14, 3) := by decide +kernel
theorem dL_law_829 : decode cL_law 829 = .ok (.iload 10, 2) := by decide +kernel
theorem dL_law_831 : decode cL_law 831 = .ok (.bipush 10, 2) := by decide +kernel
theorem dL_law_833 : decode cL_law 833 = .ok (.iload 12, 2) := by decide +kernel
theorem dL_law_835 : decode cL_law 835 = .ok (.imul, 1) := by decide +kernel
theorem dL_law_836 : decode cL_law 836 = .ok (.isub, 1) := by decide +kernel
theorem dL_law_837 : decode cL_law 837 = .ok (.goto 5, 3) := by decide +kernel
theorem dL_law_840 : decode cL_law 840 = .ok (.iload 10, 2) := by decide +kernel
theorem dL_law_842 : decode cL_law 842 = .ok (.if_icmp .ne 30, 3) := by decide +kernel
theorem dL_law_845 : decode cL_law 845 = .ok (.aload_n 1, 1) := by decide +kernel
theorem dL_law_846 : decode cL_law 846 = .ok (.iload 6, 2) := by decide +kernel
theorem dL_law_848 : decode cL_law 848 = .ok (.iconst 4, 1) := by decide +kernel
theorem dL_law_849 : decode cL_law 849 = .ok (.invokevirtual 50, 3) := by decide +kernel
theorem dL_law_852 : decode cL_law 852 = .ok (.iload 11, 2) := by decide +kernel
theorem dL_law_854 : decode cL_law 854 = .ok (.isub, 1) := by decide +kernel
theorem dL_law_855 : decode cL_law 855 = .ok (.iload 10, 2) := by decide +kernel
theorem dL_law_857 : decode cL_law 857 = .ok (.aload_n 1, 1) := by decide +kernel
theorem dL_law_858 : decode cL_law 858 = .ok (.iload 6, 2) := by decide +kernel
theorem dL_law_860 : decode cL_law 860 = .ok (.iconst 0, 1) := by decide +kernel
theorem dL_law_861 : decode cL_law 861 = .ok (.invokevirtual 50, 3) := by decide +kernel
theorem dL_law_864 : decode cL_law 864 = .ok (.isub, 1) := by decide +kernel
theorem dL_law_865 : decode cL_law 865 = .ok (.if_icmp .ne 7, 3) := by decide +kernel
theorem dL_law_868 : decode cL_law 868 = .ok (.iconst 1, 1) := by decide +kernel
theorem dL_law_869 : decode cL_law 869 = .ok (.goto 4, 3) := by decide +kernel
theorem dL_law_872 : decode cL_law 872 = .ok (.iconst 0, 1) := by decide +kernel
theorem dL_law_873 : decode cL_law 873 = .ok (.istore_n 3, 1) := by decide +kernel
theorem dL_law_874 : decode cL_law 874 = .ok (.goto 709, 3) := by decide +kernel
theorem dL_law_877 : decode cL_law 877 = .ok (.iload 5, 2) := by decide +kernel
theorem dL_law_879 : decode cL_law 879 = .ok (.bipush 16, 2) := by decide +kernel
theorem dL_law_881 : decode cL_law 881 = .ok (.if_icmp .ge 242, 3) := by decide +kernel
theorem dL_law_884 : decode cL_law 884 = .ok (.iload 8, 2) := by decide +kernel
theorem dL_law_886 : decode cL_law 886 = .ok (.iconst 1, 1) := by decide +kernel
theorem dL_law_887 : decode cL_law 887 = .ok (.iadd, 1) := by decide +kernel
theorem dL_law_888 : decode cL_law 888 = .ok (.iload 6, 2) := by decide +kernel
theorem dL_law_890 : decode cL_law 890 = .ok (.bipush 7, 2) := by decide +kernel
theorem dL_law_892 : decode cL_law 892 = .ok (.iadd, 1) := by decide +kernel
theorem dL_law_893 : decode cL_law 893 = .ok (.iload 8, 2) := by decide +kernel
theorem dL_law_895 : decode cL_law 895 = .ok (.isub, 1) := by decide +kernel
theorem dL_law_896 : decode cL_law 896 = .ok (.bipush 7, 2) := by decide +kernel
theorem dL_law_898 : decode cL_law 898 = .ok (.irem, 1) := by decide +kernel
theorem dL_law_899 : decode cL_law 899 = .ok (.iconst 2, 1) := by decide +kernel
theorem dL_law_900 : decode cL_law 900 = .ok (.irem, 1) := by decide +kernel
theorem dL_law_901 : decode cL_law 901 = .ok (.iadd, 1) := by decide +kernel
theorem dL_law_902 : decode cL_law 902 = .ok (.bipush 7, 2) := by decide +kernel
theorem dL_law_904 : decode cL_law 904 = .ok (.irem, 1) := by decide +kernel
theorem dL_law_905 : decode cL_law 905 = .ok (.istore 12, 2) := by decide +kernel
theorem dL_law_907 : decode cL_law 907 = .ok (.iconst 1, 1) := by decide +kernel
theorem dL_law_908 : decode cL_law 908 = .ok (.iload 7, 2) := by decide +kernel
theorem dL_law_910 : decode cL_law 910 = .ok (.bipush 120, 2) := by decide +kernel
theorem dL_law_912 : decode cL_law 912 = .ok (.irem, 1) := by decide +kernel
theorem dL_law_913 : decode cL_law 913 = .ok (.iadd, 1) := by decide +kernel
theorem dL_law_914 : decode cL_law 914 = .ok (.istore 13, 2) := by decide +kernel
theorem dL_law_916 : decode cL_law 916 = .ok (.aload_n 1, 1) := by decide +kernel
theorem dL_law_917 : decode cL_law 917 = .ok (.invokevirtual 98, 3) := by decide +kernel
theorem dL_law_920 : decode cL_law 920 = .ok (.istore 14, 2) := by decide +kernel
theorem dL_law_922 : decode cL_law 922 = .ok (.iload 12, 2) := by decide +kernel
theorem dL_law_924 : decode cL_law 924 = .ok (.iload 6, 2) := by decide +kernel
theorem dL_law_926 : decode cL_law 926 = .ok (.if_icmp .eq 54, 3) := by decide +kernel
theorem dL_law_929 : decode cL_law 929 = .ok (.iload 12, 2) := by decide +kernel
theorem dL_law_931 : decode cL_law 931 = .ok (.iload 8, 2) := by decide +kernel
theorem dL_law_933 : decode cL_law 933 = .ok (.if_icmp .eq 47, 3) := by decide +kernel
theorem dL_law_936 : decode cL_law 936 = .ok (.aload_n 1, 1) := by decide +kernel
theorem dL_law_937 : decode cL_law 937 = .ok (.iload 6, 2) := by decide +kernel
theorem dL_law_939 : decode cL_law 939 = .ok (.iconst 1, 1) := by decide +kernel
theorem dL_law_940 : decode cL_law 940 = .ok (.invokevirtual 50, 3) := by decide +kernel
theorem dL_law_943 : decode cL_law 943 = .ok (.ifCond .le 37, 3) := by decide +kernel
theorem dL_law_946 : decode cL_law 946 = .ok (.aload_n 1, 1) := by decide +kernel
theorem dL_law_947 : decode cL_law 947 = .ok (.iload 8, 2) := by decide +kernel
theorem dL_law_949 : decode cL_law 949 = .ok (.iconst 1, 1) := by decide +kernel
theorem dL_law_950 : decode cL_law 950 = .ok (.invokevirtual 50, 3) := by decide +kernel
theorem dL_law_953 : decode cL_law 953 = .ok (.ifCond .le 27, 3) := by decide +kernel
theorem dL_law_956 : decode cL_law 956 = .ok (.aload_n 1, 1) := by decide +kernel
theorem dL_law_957 : decode cL_law 957 = .ok (.iload 12, 2) := by decide +kernel
theorem dL_law_959 : decode cL_law 959 = .ok (.iconst 1, 1) := by decide +kernel
theorem dL_law_960 : decode cL_law 960 = .ok (.invokevirtual 50, 3) := by decide +kernel
theorem dL_law_963 : decode cL_law 963 = .ok (.ifCond .le 17, 3) := by decide +kernel
theorem dL_law_966 : decode cL_law 966 = .ok (.aload_n 1, 1) := by decide +kernel
theorem dL_law_967 : decode cL_law 967 = .ok (.iload 6, 2) := by decide +kernel
theorem dL_law_969 : decode cL_law 969 = .ok (.iconst 2, 1) := by decide +kernel
theorem dL_law_970 : decode cL_law 970 = .ok (.invokevirtual 50, 3) := by decide +kernel
theorem dL_law_973 : decode cL_law 973 = .ok (.ifCond .ne 7, 3) := by decide +kernel
theorem dL_law_976 : decode cL_law 976 = .ok (.iconst 1, 1) := by decide +kernel
theorem dL_law_977 : decode cL_law 977 = .ok (.goto 4, 3) := by decide +kernel
theorem dL_law_980 : decode cL_law 980 = .ok (.iconst 0, 1) := by decide +kernel
theorem dL_law_981 : decode cL_law 981 = .ok (.istore 15, 2) := by decide +kernel
theorem dL_law_983 : decode cL_law 983 = .ok (.iload 15, 2) := by decide +kernel
theorem dL_law_985 : decode cL_law 985 = .ok (.ifCond .eq 48, 3) := by decide +kernel
theorem dL_law_988 : decode cL_law 988 = .ok (.iload 13, 2) := by decide +kernel
theorem dL_law_990 : decode cL_law 990 = .ok (.bipush 50, 2) := by decide +kernel
theorem dL_law_992 : decode cL_law 992 = .ok (.iconst 1, 1) := by decide +kernel
theorem dL_law_993 : decode cL_law 993 = .ok (.aload_n 1, 1) := by decide +kernel
theorem dL_law_994 : decode cL_law 994 = .ok (.iload 6, 2) := by decide +kernel
theorem dL_law_996 : decode cL_law 996 = .ok (.iconst 3, 1) := by decide +kernel
theorem dL_law_997 : decode cL_law 997 = .ok (.invokevirtual 50, 3) := by decide +kernel
theorem dL_law_1000 : decode cL_law 1000 = .ok (.iadd, 1) := by decide +kernel
theorem dL_law_1001 : decode cL_law 1001 = .ok (.imul, 1) := by decide +kernel
theorem dL_law_1002 : decode cL_law 1002 = .ok (.if_icmp .gt 31, 3) := by decide +kernel
theorem dL_law_1005 : decode cL_law 1005 = .ok (.aload_n 1, 1) := by decide +kernel
theorem dL_law_1006 : decode cL_law 1006 = .ok (.aload_n 2, 1) := by decide +kernel
theorem dL_law_1007 : decode cL_law 1007 = .ok (.iload 6, 2) := by decide +kernel
theorem dL_law_1009 : decode cL_law 1009 = .ok (.iconst 2, 1) := by decide +kernel
theorem dL_law_1010 : decode cL_law 1010 = .ok (.invokestatic 101, 3) := by decide +kernel
theorem dL_law_1013 : decode cL_law 1013 = .ok (.iload 13, 2) := by decide +kernel
theorem dL_law_1015 : decode cL_law 1015 = .ok (.iadd, 1) := by decide +kernel
theorem dL_law_1016 : decode cL_law 1016 = .ok (.sipush 500, 3) := by decide +kernel
theorem dL_law_1019 : decode cL_law 1019 = .ok (.if_icmp .gt 14, 3) := by decide +kernel
theorem dL_law_1022 : decode cL_law 1022 = .ok (.iload 14, 2) := by decide +kernel
theorem dL_law_1024 : decode cL_law 1024 = .ok (.iload 13, 2) := by decide +kernel
theorem dL_law_1026 : decode cL_law 1026 = .ok (.if_icmp .lt 7, 3) := by decide +kernel
theorem dL_law_1029 : decode cL_law 1029 = .ok (.iconst 1, 1) := by decide +kernel
theorem dL_law_1030 : decode cL_law 1030 = .ok (.goto 4, 3) := by decide +kernel
theorem dL_law_1033 : decode cL_law 1033 = .ok (.iconst 0, 1) := by decide +kernel
theorem dL_law_1034 : decode cL_law 1034 = .ok (.istore 15, 2) := by decide +kernel
theorem dL_law_1036 : decode cL_law 1036 = .ok (.iload 12, 2) := by decide +kernel
theorem dL_law_1038 : decode cL_law 1038 = .ok (.iload 6, 2) := by decide +kernel
theorem dL_law_1040 : decode cL_law 1040 = .ok (.if_icmp .eq 74, 3) := by decide +kernel
theorem dL_law_1043 : decode cL_law 1043 = .ok (.iload 12, 2) := by decide +kernel
theorem dL_law_1045 : decode cL_law 1045 = .ok (.iload 8, 2) := by decide +kernel
theorem dL_law_1047 : decode cL_law 1047 = .ok (.if_icmp .eq 67, 3) := by decide +kernel
theorem dL_law_1050 : decode cL_law 1050 = .ok (.aload_n 1, 1) := by decide +kernel
theorem dL_law_1051 : decode cL_law 1051 = .ok (.iload 6, 2) := by decide +kernel
theorem dL_law_1053 : decode cL_law 1053 = .ok (.iload 13, 2) := by decide +kernel
theorem dL_law_1055 : decode cL_law 1055 = .ok (.iload 8, 2) := by decide +kernel
theorem dL_law_1057 : decode cL_law 1057 = .ok (.iload 12, 2) := by decide +kernel
theorem dL_law_1059 : decode cL_law 1059 = .ok (.invokestatic 105, 3) := by decide +kernel
theorem dL_law_1062 : decode cL_law 1062 = .ok (.iload 15, 2) := by decide +kernel
theorem dL_law_1064 : decode cL_law 1064 = .ok (.if_icmp .ne 54, 3) := by decide +kernel
theorem dL_law_1067 : decode cL_law 1067 = .ok (.aload_n 1, 1) := by decide +kernel
theorem dL_law_1068 : decode cL_law 1068 = .ok (.invokevirtual 98, 3) := by decide +kernel
theorem dL_law_1071 : decode cL_law 1071 = .ok (.iload 15, 2) := by decide +kernel
theorem dL_law_1073 : decode cL_law 1073 = .ok (.ifCond .eq 11, 3) := by decide +kernel
theorem dL_law_1076 : decode cL_law 1076 = .ok (.iload 14, 2) := by decide +kernel
theorem dL_law_1078 : decode cL_law 1078 = .ok (.iload 13, 2) := by decide +kernel
theorem dL_law_1080 : decode cL_law 1080 = .ok (.isub, 1) := by decide +kernel
theorem dL_law_1081 : decode cL_law 1081 = .ok (.goto 5, 3) := by decide +kernel
theorem dL_law_1084 : decode cL_law 1084 = .ok (.iload 14, 2) := by decide +kernel
theorem dL_law_1086 : decode cL_law 1086 = .ok (.if_icmp .ne 32, 3) := by decide +kernel
theorem dL_law_1089 : decode cL_law 1089 = .ok (.aload_n 1, 1) := by decide +kernel
theorem dL_law_1090 : decode cL_law 1090 = .ok (.iload 6, 2) := by decide +kernel
theorem dL_law_1092 : decode cL_law 1092 = .ok (.iconst 4, 1) := by decide +kernel
theorem dL_law_1093 : decode cL_law 1093 = .ok (.invokevirtual 50, 3) := by decide +kernel
theorem dL_law_1096 : decode cL_law 1096 = .ok (.iload 15, 2) := by decide +kernel
theorem dL_law_1098 : decode cL_law 1098 = .ok (.ifCond .eq 11, 3) := by decide +kernel
theorem dL_law_1101 : decode cL_law 1101 = .ok (.iload 11, 2) := by decide +kernel
theorem dL_law_1103 : decode cL_law 1103 = .ok (.iload 13, 2) := by decide +kernel
theorem dL_law_1105 : decode cL_law 1105 = .ok (.isub, 1) := by decide +kernel
theorem dL_law_1106 : decode cL_law 1106 = .ok (.goto 5, 3) := by decide +kernel
theorem dL_law_1109 : decode cL_law 1109 = .ok (.iload 11, 2) := by decide +kernel
theorem dL_law_1111 : decode cL_law 1111 = .ok (.if_icmp .ne 7, 3) := by decide +kernel
theorem dL_law_1114 : decode cL_law 1114 = .ok (.iconst 1, 1) := by decide +kernel
theorem dL_law_1115 : decode cL_law 1115 = .ok (.goto 4, 3) := by decide +kernel
theorem dL_law_1118 : decode cL_law 1118 = .ok (.iconst 0, 1) := by decide +kernel
theorem dL_law_1119 : decode cL_law 1119 = .ok (.istore_n 3, 1) := by decide +kernel
theorem dL_law_1120 : decode cL_law 1120 = .ok (.goto 463, 3) := by decide +kernel
theorem dL_law_1123 : decode cL_law 1123 = .ok (.iload 5, 2) := by decide +kernel
theorem dL_law_1125 : decode cL_law 1125 = .ok (.bipush 16, 2) := by decide +kernel
theorem dL_law_1127 : decode cL_law 1127 = .ok (.if_icmp .ne 125, 3) := by decide +kernel
theorem dL_law_1130 : decode cL_law 1130 = .ok (.aload_n 1, 1) := by decide +kernel
theorem dL_law_1131 : decode cL_law 1131 = .ok (.iload 6, 2) := by decide +kernel
theorem dL_law_1133 : decode cL_law 1133 = .ok (.iconst 2, 1) := by decide +kernel
theorem dL_law_1134 : decode cL_law 1134 = .ok (.invokevirtual 50, 3) := by decide +kernel
theorem dL_law_1137 : decode cL_law 1137 = .ok (.istore 12, 2) := by decide +kernel
theorem dL_law_1139 : decode cL_law 1139 = .ok (.iload 7, 2) := by decide +kernel
theorem dL_law_1141 : decode cL_law 1141 = .ok (.iconst 1, 1) := by decide +kernel
theorem dL_law_1142 : decode cL_law 1142 = .ok (.iadd, 1) := by decide +kernel
theorem dL_law_1143 : decode cL_law 1143 = .ok (.iload 12, 2) := by decide +kernel
theorem dL_law_1145 : decode cL_law 1145 = .ok (.if_icmp .le 8, 3) := by decide +kernel
theorem dL_law_1148 : decode cL_law 1148 = .ok (.iload 12, 2) := by decide +kernel
theorem dL_law_1150 : decode cL_law 1150 = .ok (.goto 7, 3) := by decide +kernel
theorem dL_law_1153 : decode cL_law 1153 = .ok (.iload 7, 2) := by decide +kernel
theorem dL_law_1155 : decode cL_law 1155 = .ok (.iconst 1, 1) := by decide +kernel
theorem dL_law_1156 : decode cL_law 1156 = .ok (.iadd, 1) := by decide +kernel
theorem dL_law_1157 : decode cL_law 1157 = .ok (.istore 13, 2) := by decide +kernel
theorem dL_law_1159 : decode cL_law 1159 = .ok (.iload 12, 2) := by decide +kernel
theorem dL_law_1161 : decode cL_law 1161 = .ok (.ifCond .le 14, 3) := by decide +kernel
theorem dL_law_1164 : decode cL_law 1164 = .ok (.iload 10, 2) := by decide +kernel
theorem dL_law_1166 : decode cL_law 1166 = .ok (.iload 13, 2) := by decide +kernel
theorem dL_law_1168 : decode cL_law 1168 = .ok (.if_icmp .lt 7, 3) := by decide +kernel
theorem dL_law_1171 : decode cL_law 1171 = .ok (.iconst 1, 1) := by decide +kernel
theorem dL_law_1172 : decode cL_law 1172 = .ok (.goto 4, 3) := by decide +kernel
theorem dL_law_1175 : decode cL_law 1175 = .ok (.iconst 0, 1) := by decide +kernel
theorem dL_law_1176 : decode cL_law 1176 = .ok (.istore 14, 2) := by decide +kernel
theorem dL_law_1178 : decode cL_law 1178 = .ok (.aload_n 1, 1) := by decide +kernel
theorem dL_law_1179 : decode cL_law 1179 = .ok (.iload 6, 2) := by decide +kernel
theorem dL_law_1181 : decode cL_law 1181 = .ok (.iload 7, 2) := by decide +kernel
theorem dL_law_1183 : decode cL_law 1183 = .ok (.iconst 1, 1) := by decide +kernel
theorem dL_law_1184 : decode cL_law 1184 = .ok (.iadd, 1) := by decide +kernel
theorem dL_law_1185 : decode cL_law 1185 = .ok (.invokestatic 109, 3) := by decide +kernel
theorem dL_law_1188 : decode cL_law 1188 = .ok (.iload 14, 2) := by decide +kernel
theorem dL_law_1190 : decode cL_law 1190 = .ok (.if_icmp .ne 57, 3) := by decide +kernel
theorem dL_law_1193 : decode cL_law 1193 = .ok (.aload_n 1, 1) := by decide +kernel
theorem dL_law_1194 : decode cL_law 1194 = .ok (.iload 6, 2) := by decide +kernel
theorem dL_law_1196 : decode cL_law 1196 = .ok (.iconst 2, 1) := by decide +kernel
theorem dL_law_1197 : decode cL_law 1197 = .ok (.invokevirtual 50, 3) := by decide +kernel
theorem dL_law_1200 : decode cL_law 1200 = .ok (.iload 14, 2) := by decide +kernel
theorem dL_law_1202 : decode cL_law 1202 = .ok (.ifCond .eq 11, 3) := by decide +kernel
theorem dL_law_1205 : decode cL_law 1205 = .ok (.iload 12, 2) := by decide +kernel
theorem dL_law_1207 : decode cL_law 1207 = .ok (.iload 13, 2) := by decide +kernel
theorem dL_law_1209 : decode cL_law 1209 = .ok (.isub, 1) := by decide +kernel
theorem dL_law_1210 : decode cL_law 1210 = .ok (.goto 5, 3) := by decide +kernel
theorem dL_law_1213 : decode cL_law 1213 = .ok (.iload 12, 2) := by decide +kernel
theorem dL_law_1215 : decode cL_law 1215 = .ok (.if_icmp .ne 32, 3) := by decide +kernel
theorem dL_law_1218 : decode cL_law 1218 = .ok (.aload_n 1, 1) := by decide +kernel
theorem dL_law_1219 : decode cL_law 1219 = .ok (.iload 6, 2) := by decide +kernel
theorem dL_law_1221 : decode cL_law 1221 = .ok (.iconst 4, 1) := by decide +kernel
theorem dL_law_1222 : decode cL_law 1222 = .ok (.invokevirtual 50, 3) := by decide +kernel
theorem dL_law_1225 : decode cL_law 1225 = .ok (.iload 14, 2) := by decide +kernel
theorem dL_law_1227 : decode cL_law 1227 = .ok (.ifCond .eq 11, 3) := by decide +kernel
theorem dL_law_1230 : decode cL_law 1230 = .ok (.iload 11, 2) := by decide +kernel
theorem dL_law_1232 : decode cL_law 1232 = .ok (.iload 13, 2) := by decide +kernel
theorem dL_law_1234 : decode cL_law 1234 = .ok (.iadd, 1) := by decide +kernel
theorem dL_law_1235 : decode cL_law 1235 = .ok (.goto 5, 3) := by decide +kernel
theorem dL_law_1238 : decode cL_law 1238 = .ok (.iload 11, 2) := by decide +kernel
theorem dL_law_1240 : decode cL_law 1240 = .ok (.if_icmp .ne 7, 3) := by decide +kernel
theorem dL_law_1243 : decode cL_law 1243 = .ok (.iconst 1, 1) := by decide +kernel
theorem dL_law_1244 : decode cL_law 1244 = .ok (.goto 4, 3) := by decide +kernel
theorem dL_law_1247 : decode cL_law 1247 = .ok (.iconst 0, 1) := by decide +kernel
theorem dL_law_1248 : decode cL_law 1248 = .ok (.istore_n 3, 1) := by decide +kernel
theorem dL_law_1249 : decode cL_law 1249 = .ok (.goto 334, 3) := by decide +kernel
theorem dL_law_1252 : decode cL_law 1252 = .ok (.iload 5, 2) := by decide +kernel
theorem dL_law_1254 : decode cL_law 1254 = .ok (.bipush 17, 2) := by decide +kernel
theorem dL_law_1256 : decode cL_law 1256 = .ok (.if_icmp .ne 104, 3) := by decide +kernel
theorem dL_law_1259 : decode cL_law 1259 = .ok (.aload_n 1, 1) := by decide +kernel
theorem dL_law_1260 : decode cL_law 1260 = .ok (.iload 6, 2) := by decide +kernel
theorem dL_law_1262 : decode cL_law 1262 = .ok (.iconst 2, 1) := by decide +kernel
theorem dL_law_1263 : decode cL_law 1263 = .ok (.invokevirtual 50, 3) := by decide +kernel
theorem dL_law_1266 : decode cL_law 1266 = .ok (.istore 12, 2) := by decide +kernel
theorem dL_law_1268 : decode cL_law 1268 = .ok (.aload_n 1, 1) := by decide +kernel
theorem dL_law_1269 : decode cL_law 1269 = .ok (.iload 7, 2) := by decide +kernel
theorem dL_law_1271 : decode cL_law 1271 = .ok (.sipush 700, 3) := by decide +kernel
theorem dL_law_1274 : decode cL_law 1274 = .ok (.if_icmp .le 7, 3) := by decide +kernel
theorem dL_law_1277 : decode cL_law 1277 = .ok (.iconst 1, 1) := by decide +kernel
theorem dL_law_1278 : decode cL_law 1278 = .ok (.goto 4, 3) := by decide +kernel
theorem dL_law_1281 : decode cL_law 1281 = .ok (.iconst 0, 1) := by decide +kernel
theorem dL_law_1282 : decode cL_law 1282 = .ok (.invokevirtual 112, 3) := by decide +kernel
theorem dL_law_1285 : decode cL_law 1285 = .ok (.istore 13, 2) := by decide +kernel
theorem dL_law_1287 : decode cL_law 1287 = .ok (.iload 13, 2) := by decide +kernel
theorem dL_law_1289 : decode cL_law 1289 = .ok (.ifCond .lt 66, 3) := by decide +kernel
theorem dL_law_1292 : decode cL_law 1292 = .ok (.aload_n 1, 1) := by decide +kernel
theorem dL_law_1293 : decode cL_law 1293 = .ok (.iload 6, 2) := by decide +kernel
theorem dL_law_1295 : decode cL_law 1295 = .ok (.iconst 2, 1) := by decide +kernel
theorem dL_law_1296 : decode cL_law 1296 = .ok (.invokevirtual 50, 3) := by decide +kernel
theorem dL_law_1299 : decode cL_law 1299 = .ok (.iload 7, 2) := by decide +kernel
theorem dL_law_1301 : decode cL_law 1301 = .ok (.sipush 700, 3) := by decide +kernel
theorem dL_law_1304 : decode cL_law 1304 = .ok (.if_icmp .le 8, 3) := by decide +kernel
theorem dL_law_1307 : decode cL_law 1307 = .ok (.iload 12, 2) := by decide +kernel
theorem dL_law_1309 : decode cL_law 1309 = .ok (.goto 14, 3) := by decide +kernel
theorem dL_law_1312 : decode cL_law 1312 = .ok (.iload 12, 2) := by decide +kernel
theorem dL_law_1314 : decode cL_law 1314 = .ok (.iload 12, 2) := by decide +kernel
theorem dL_law_1316 : decode cL_law 1316 = .ok (.bipush 19, 2) := by decide +kernel
theorem dL_law_1318 : decode cL_law 1318 = .ok (.iadd, 1) := by decide +kernel
theorem dL_law_1319 : decode cL_law 1319 = .ok (.bipush 20, 2) := by decide +kernel
theorem dL_law_1321 : decode cL_law 1321 = .ok (.idiv, 1) := by decide +kernel
theorem dL_law_1322 : decode cL_law 1322 = .ok (.iadd, 1) := by decide +kernel
theorem dL_law_1323 : decode cL_law 1323 = .ok (.if_icmp .eq 28, 3) := by decide +kernel
theorem dL_law_1326 : decode cL_law 1326 = .ok (.iload 13, 2) := by decide +kernel
theorem dL_law_1328 : decode cL_law 1328 = .ok (.ifCond .le 27, 3) := by decide +kernel
theorem dL_law_1331 : decode cL_law 1331 = .ok (.aload_n 1, 1) := by decide +kernel
theorem dL_law_1332 : decode cL_law 1332 = .ok (.iload 6, 2) := by decide +kernel
theorem dL_law_1334 : decode cL_law 1334 = .ok (.iconst 2, 1) := by decide +kernel
theorem dL_law_1335 : decode cL_law 1335 = .ok (.invokevirtual 50, 3) := by decide +kernel
theorem dL_law_1338 : decode cL_law 1338 = .ok (.ifCond .ne 17, 3) := by decide +kernel
theorem dL_law_1341 : decode cL_law 1341 = .ok (.aload_n 1, 1) := by decide +kernel
theorem dL_law_1342 : decode cL_law 1342 = .ok (.iload 6, 2) := by decide +kernel
theorem dL_law_1344 : decode cL_law 1344 = .ok (.iconst 3, 1) := by decide +kernel
theorem dL_law_1345 : decode cL_law 1345 = .ok (.invokevirtual 50, 3) := by decide +kernel
theorem dL_law_1348 : decode cL_law 1348 = .ok (.ifCond .ne 7, 3) := by decide +kernel
theorem dL_law_1351 : decode cL_law 1351 = .ok (.iconst 1, 1) := by decide +kernel
theorem dL_law_1352 : decode cL_law 1352 = .ok (.goto 4, 3) := by decide +kernel
theorem dL_law_1355 : decode cL_law 1355 = .ok (.iconst 0, 1) := by decide +kernel
theorem dL_law_1356 : decode cL_law 1356 = .ok (.istore_n 3, 1) := by decide +kernel
theorem dL_law_1357 : decode cL_law 1357 = .ok (.goto 226, 3) := by decide +kernel
theorem dL_law_1360 : decode cL_law 1360 = .ok (.iload 5, 2) := by decide +kernel
theorem dL_law_1362 : decode cL_law 1362 = .ok (.bipush 18, 2) := by decide +kernel
theorem dL_law_1364 : decode cL_law 1364 = .ok (.if_icmp .ne 53, 3) := by decide +kernel
theorem dL_law_1367 : decode cL_law 1367 = .ok (.aload_n 1, 1) := by decide +kernel
theorem dL_law_1368 : decode cL_law 1368 = .ok (.invokestatic 116, 3) := by decide +kernel
theorem dL_law_1371 : decode cL_law 1371 = .ok (.istore 12, 2) := by decide +kernel
theorem dL_law_1373 : decode cL_law 1373 = .ok (.iload 12, 2) := by decide +kernel
theorem dL_law_1375 : decode cL_law 1375 = .ok (.ifCond .lt 33, 3) := by decide +kernel
theorem dL_law_1378 : decode cL_law 1378 = .ok (.aload_n 1, 1) := by decide +kernel
theorem dL_law_1379 : decode cL_law 1379 = .ok (.iload 6, 2) := by decide +kernel
theorem dL_law_1381 : decode cL_law 1381 = .ok (.iconst 1, 1) := by decide +kernel
theorem dL_law_1382 : decode cL_law 1382 = .ok (.invokevirtual 50, 3) := by decide +kernel
theorem dL_law_1385 : decode cL_law 1385 = .ok (.ifCond .ne 27, 3) := by decide +kernel
theorem dL_law_1388 : decode cL_law 1388 = .ok (.aload_n 1, 1) := by decide +kernel
theorem dL_law_1389 : decode cL_law 1389 = .ok (.iload 8, 2) := by decide +kernel
theorem dL_law_1391 : decode cL_law 1391 = .ok (.iconst 1, 1) := by decide +kernel
theorem dL_law_1392 : decode cL_law 1392 = .ok (.invokevirtual 50, 3) := by decide +kernel
theorem dL_law_1395 : decode cL_law 1395 = .ok (.ifCond .ne 17, 3) := by decide +kernel
theorem dL_law_1398 : decode cL_law 1398 = .ok (.aload_n 1, 1) := by decide +kernel
theorem dL_law_1399 : decode cL_law 1399 = .ok (.iload 6, 2) := by decide +kernel
theorem dL_law_1401 : decode cL_law 1401 = .ok (.iconst 2, 1) := by decide +kernel
theorem dL_law_1402 : decode cL_law 1402 = .ok (.invokevirtual 50, 3) := by decide +kernel
theorem dL_law_1405 : decode cL_law 1405 = .ok (.ifCond .ne 7, 3) := by decide +kernel
theorem dL_law_1408 : decode cL_law 1408 = .ok (.iconst 1, 1) := by decide +kernel
theorem dL_law_1409 : decode cL_law 1409 = .ok (.goto 4, 3) := by decide +kernel
theorem dL_law_1412 : decode cL_law 1412 = .ok (.iconst 0, 1) := by decide +kernel
theorem dL_law_1413 : decode cL_law 1413 = .ok (.istore_n 3, 1) := by decide +kernel
theorem dL_law_1414 : decode cL_law 1414 = .ok (.goto 169, 3) := by decide +kernel
theorem dL_law_1417 : decode cL_law 1417 = .ok (.iload 7, 2) := by decide +kernel
theorem dL_law_1419 : decode cL_law 1419 = .ok (.sipush 500, 3) := by decide +kernel
theorem dL_law_1422 : decode cL_law 1422 = .ok (.if_icmp .le 161, 3) := by decide +kernel
theorem dL_law_1425 : decode cL_law 1425 = .ok (.aload_n 1, 1) := by decide +kernel
theorem dL_law_1426 : decode cL_law 1426 = .ok (.iload 6, 2) := by decide +kernel
theorem dL_law_1428 : decode cL_law 1428 = .ok (.iconst 5, 1) := by decide +kernel
theorem dL_law_1429 : decode cL_law 1429 = .ok (.invokevirtual 50, 3) := by decide +kernel
theorem dL_law_1432 : decode cL_law 1432 = .ok (.iconst 1, 1) := by decide +kernel
theorem dL_law_1433 : decode cL_law 1433 = .ok (.if_icmp .ne 38, 3) := by decide +kernel
theorem dL_law_1436 : decode cL_law 1436 = .ok (.aload_n 1, 1) := by decide +kernel
theorem dL_law_1437 : decode cL_law 1437 = .ok (.iload 8, 2) := by decide +kernel
theorem dL_law_1439 : decode cL_law 1439 = .ok (.iconst 5, 1) := by decide +kernel
theorem dL_law_1440 : decode cL_law 1440 = .ok (.invokevirtual 50, 3) := by decide +kernel
theorem dL_law_1443 : decode cL_law 1443 = .ok (.iconst 1, 1) := by decide +kernel
theorem dL_law_1444 : decode cL_law 1444 = .ok (.if_icmp .ne 27, 3) := by decide +kernel
theorem dL_law_1447 : decode cL_law 1447 = .ok (.aload_n 1, 1) := by decide +kernel
theorem dL_law_1448 : decode cL_law 1448 = .ok (.iload 6, 2) := by decide +kernel
theorem dL_law_1450 : decode cL_law 1450 = .ok (.iconst 1, 1) := by decide +kernel
theorem dL_law_1451 : decode cL_law 1451 = .ok (.invokevirtual 50, 3) := by decide +kernel
theorem dL_law_1454 : decode cL_law 1454 = .ok (.aload_n 1, 1) := by decide +kernel
theorem dL_law_1455 : decode cL_law 1455 = .ok (.iload 8, 2) := by decide +kernel
theorem dL_law_1457 : decode cL_law 1457 = .ok (.iconst 1, 1) := by decide +kernel
theorem dL_law_1458 : decode cL_law 1458 = .ok (.invokevirtual 50, 3) := by decide +kernel
theorem dL_law_1461 : decode cL_law 1461 = .ok (.iadd, 1) := by decide +kernel
theorem dL_law_1462 : decode cL_law 1462 = .ok (.bipush 100, 2) := by decide +kernel
theorem dL_law_1464 : decode cL_law 1464 = .ok (.if_icmp .gt 7, 3) := by decide +kernel
theorem dL_law_1467 : decode cL_law 1467 = .ok (.iconst 1, 1) := by decide +kernel
theorem dL_law_1468 : decode cL_law 1468 = .ok (.goto 4, 3) := by decide +kernel
theorem dL_law_1471 : decode cL_law 1471 = .ok (.iconst 0, 1) := by decide +kernel
theorem dL_law_1472 : decode cL_law 1472 = .ok (.istore 12, 2) := by decide +kernel
theorem dL_law_1474 : decode cL_law 1474 = .ok (.iload 10, 2) := by decide +kernel
theorem dL_law_1476 : decode cL_law 1476 = .ok (.aload_n 1, 1) := by decide +kernel
theorem dL_law_1477 : decode cL_law 1477 = .ok (.iload 8, 2) := by decide +kernel
theorem dL_law_1479 : decode cL_law 1479 = .ok (.iconst 0, 1) := by decide +kernel
theorem dL_law_1480 : decode cL_law 1480 = .ok (.invokevirtual 50, 3) := by decide +kernel
theorem dL_law_1483 : decode cL_law 1483 = .ok (.iadd, 1) := by decide +kernel
theorem dL_law_1484 : decode cL_law 1484 = .ok (.istore 13, 2) := by decide +kernel
theorem dL_law_1486 : decode cL_law 1486 = .ok (.aload_n 1, 1) := by decide +kernel
theorem dL_law_1487 : decode cL_law 1487 = .ok (.iload 6, 2) := by decide +kernel
theorem dL_law_1489 : decode cL_law 1489 = .ok (.iconst 2, 1) := by decide +kernel
theorem dL_law_1490 : decode cL_law 1490 = .ok (.invokevirtual 50, 3) := by decide +kernel
theorem dL_law_1493 : decode cL_law 1493 = .ok (.aload_n 1, 1) := by decide +kernel
theorem dL_law_1494 : decode cL_law 1494 = .ok (.iload 8, 2) := by decide +kernel
theorem dL_law_1496 : decode cL_law 1496 = .ok (.iconst 2, 1) := by decide +kernel
theorem dL_law_1497 : decode cL_law 1497 = .ok (.invokevirtual 50, 3) := by decide +kernel
theorem dL_law_1500 : decode cL_law 1500 = .ok (.iadd, 1) := by decide +kernel
theorem dL_law_1501 : decode cL_law 1501 = .ok (.istore 14, 2) := by decide +kernel
theorem dL_law_1503 : decode cL_law 1503 = .ok (.aload_n 1, 1) := by decide +kernel
theorem dL_law_1504 : decode cL_law 1504 = .ok (.iload 6, 2) := by decide +kernel
theorem dL_law_1506 : decode cL_law 1506 = .ok (.iload 8, 2) := by decide +kernel
theorem dL_law_1508 : decode cL_law 1508 = .ok (.invokestatic 120, 3) := by decide +kernel
theorem dL_law_1511 : decode cL_law 1511 = .ok (.iload 12, 2) := by decide +kernel
theorem dL_law_1513 : decode cL_law 1513 = .ok (.if_icmp .ne 68, 3) := by decide +kernel
theorem dL_law_1516 : decode cL_law 1516 = .ok (.iload 12, 2) := by decide +kernel
theorem dL_law_1518 : decode cL_law 1518 = .ok (.ifCond .eq 59, 3) := by decide +kernel
theorem dL_law_1521 : decode cL_law 1521 = .ok (.aload_n 1, 1) := by decide +kernel
theorem dL_law_1522 : decode cL_law 1522 = .ok (.iload 8, 2) := by decide +kernel
theorem dL_law_1524 : decode cL_law 1524 = .ok (.iconst 0, 1) := by decide +kernel
theorem dL_law_1525 : decode cL_law 1525 = .ok (.invokevirtual 50, 3) := by decide +kernel
theorem dL_law_1528 : decode cL_law 1528 = .ok (.iload 13, 2) := by decide +kernel
theorem dL_law_1530 : decode cL_law 1530 = .ok (.if_icmp .ne 51, 3) := by decide +kernel
theorem dL_law_1533 : decode cL_law 1533 = .ok (.aload_n 1, 1) := by decide +kernel
theorem dL_law_1534 : decode cL_law 1534 = .ok (.iload 6, 2) := by decide +kernel
theorem dL_law_1536 : decode cL_law 1536 = .ok (.iconst 0, 1) := by decide +kernel
theorem dL_law_1537 : decode cL_law 1537 = .ok (.invokevirtual 50, 3) := by decide +kernel
theorem dL_law_1540 : decode cL_law 1540 = .ok (.ifCond .ne 41, 3) := by decide +kernel
theorem dL_law_1543 : decode cL_law 1543 = .ok (.aload_n 1, 1) := by decide +kernel
theorem dL_law_1544 : decode cL_law 1544 = .ok (.iload 8, 2) := by decide +kernel
theorem dL_law_1546 : decode cL_law 1546 = .ok (.iconst 2, 1) := by decide +kernel
theorem dL_law_1547 : decode cL_law 1547 = .ok (.invokevirtual 50, 3) := by decide +kernel
theorem dL_law_1550 : decode cL_law 1550 = .ok (.iload 14, 2) := by decide +kernel
theorem dL_law_1552 : decode cL_law 1552 = .ok (.if_icmp .ne 29, 3) := by decide +kernel
theorem dL_law_1555 : decode cL_law 1555 = .ok (.aload_n 1, 1) := by decide +kernel
theorem dL_law_1556 : decode cL_law 1556 = .ok (.iload 6, 2) := by decide +kernel
theorem dL_law_1558 : decode cL_law 1558 = .ok (.iconst 5, 1) := by decide +kernel
theorem dL_law_1559 : decode cL_law 1559 = .ok (.invokevirtual 50, 3) := by decide +kernel
theorem dL_law_1562 : decode cL_law 1562 = .ok (.ifCond .ne 19, 3) := by decide +kernel
theorem dL_law_1565 : decode cL_law 1565 = .ok (.aload_n 1, 1) := by decide +kernel
theorem dL_law_1566 : decode cL_law 1566 = .ok (.iload 6, 2) := by decide +kernel
theorem dL_law_1568 : decode cL_law 1568 = .ok (.iconst 4, 1) := by decide +kernel
theorem dL_law_1569 : decode cL_law 1569 = .ok (.invokevirtual 50, 3) := by decide +kernel
theorem dL_law_1572 : decode cL_law 1572 = .ok (.iload 11, 2) := by decide +kernel
theorem dL_law_1574 : decode cL_law 1574 = .ok (.if_icmp .ne 7, 3) := by decide +kernel
theorem dL_law_1577 : decode cL_law 1577 = .ok (.iconst 1, 1) := by decide +kernel
theorem dL_law_1578 : decode cL_law 1578 = .ok (.goto 4, 3) := by decide +kernel
theorem dL_law_1581 : decode cL_law 1581 = .ok (.iconst 0, 1) := by decide +kernel
theorem dL_law_1582 : decode cL_law 1582 = .ok (.istore_n 3, 1) := by decide +kernel
theorem dL_law_1583 : decode cL_law 1583 = .ok (.iload_n 3, 1) := by decide +kernel
theorem dL_law_1584 : decode cL_law 1584 = .ok (.ifCond .eq 57, 3) := by decide +kernel
theorem dL_law_1587 : decode cL_law 1587 = .ok (.aload_n 1, 1) := by decide +kernel
theorem dL_law_1588 : decode cL_law 1588 = .ok (.invokevirtual 123, 3) := by decide +kernel
theorem dL_law_1591 : decode cL_law 1591 = .ok (.ifCond .ne 50, 3) := by decide +kernel
theorem dL_law_1594 : decode cL_law 1594 = .ok (.aload_n 1, 1) := by decide +kernel
theorem dL_law_1595 : decode cL_law 1595 = .ok (.iconst 0, 1) := by decide +kernel
theorem dL_law_1596 : decode cL_law 1596 = .ok (.invokestatic 126, 3) := by decide +kernel
theorem dL_law_1599 : decode cL_law 1599 = .ok (.ifCond .eq 42, 3) := by decide +kernel
theorem dL_law_1602 : decode cL_law 1602 = .ok (.aload_n 1, 1) := by decide +kernel
theorem dL_law_1603 : decode cL_law 1603 = .ok (.iconst 1, 1) := by decide +kernel
theorem dL_law_1604 : decode cL_law 1604 = .ok (.invokestatic 126, 3) := by decide +kernel
theorem dL_law_1607 : decode cL_law 1607 = .ok (.ifCond .eq 34, 3) := by decide +kernel
theorem dL_law_1610 : decode cL_law 1610 = .ok (.aload_n 1, 1) := by decide +kernel
theorem dL_law_1611 : decode cL_law 1611 = .ok (.iload 6, 2) := by decide +kernel
theorem dL_law_1613 : decode cL_law 1613 = .ok (.bipush 6, 2) := by decide +kernel
theorem dL_law_1615 : decode cL_law 1615 = .ok (.invokevirtual 50, 3) := by decide +kernel
theorem dL_law_1618 : decode cL_law 1618 = .ok (.aload_n 1, 1) := by decide +kernel
theorem dL_law_1619 : decode cL_law 1619 = .ok (.aload_n 2, 1) := by decide +kernel
theorem dL_law_1620 : decode cL_law 1620 = .ok (.iload 6, 2) := by decide +kernel
theorem dL_law_1622 : decode cL_law 1622 = .ok (.bipush 6, 2) := by decide +kernel
theorem dL_law_1624 : decode cL_law 1624 = .ok (.invokestatic 101, 3) := by decide +kernel
theorem dL_law_1627 : decode cL_law 1627 = .ok (.if_icmp .ne 14, 3) := by decide +kernel
theorem dL_law_1630 : decode cL_law 1630 = .ok (.aload_n 1, 1) := by decide +kernel
theorem dL_law_1631 : decode cL_law 1631 = .ok (.invokevirtual 98, 3) := by decide +kernel
theorem dL_law_1634 : decode cL_law 1634 = .ok (.ifCond .lt 7, 3) := by decide +kernel
theorem dL_law_1637 : decode cL_law 1637 = .ok (.iconst 1, 1) := by decide +kernel
theorem dL_law_1638 : decode cL_law 1638 = .ok (.goto 4, 3) := by decide +kernel
theorem dL_law_1641 : decode cL_law 1641 = .ok (.iconst 0, 1) := by decide +kernel
theorem dL_law_1642 : decode cL_law 1642 = .ok (.istore_n 3, 1) := by decide +kernel
theorem dL_law_1643 : decode cL_law 1643 = .ok (.iinc 4 1, 3) := by decide +kernel
theorem dL_law_1646 : decode cL_law 1646 = .ok (.goto (-1490), 3) := by decide +kernel
theorem dL_law_1649 : decode cL_law 1649 = .ok (.iconst 0, 1) := by decide +kernel
theorem dL_law_1650 : decode cL_law 1650 = .ok (.istore 4, 2) := by decide +kernel
theorem dL_law_1652 : decode cL_law 1652 = .ok (.iload 4, 2) := by decide +kernel
theorem dL_law_1654 : decode cL_law 1654 = .ok (.bipush 7, 2) := by decide +kernel
theorem dL_law_1656 : decode cL_law 1656 = .ok (.if_icmp .ge 53, 3) := by decide +kernel
theorem dL_law_1659 : decode cL_law 1659 = .ok (.iload_n 3, 1) := by decide +kernel
theorem dL_law_1660 : decode cL_law 1660 = .ok (.ifCond .eq 41, 3) := by decide +kernel
theorem dL_law_1663 : decode cL_law 1663 = .ok (.aload_n 1, 1) := by decide +kernel
theorem dL_law_1664 : decode cL_law 1664 = .ok (.iload 4, 2) := by decide +kernel
theorem dL_law_1666 : decode cL_law 1666 = .ok (.iconst 0, 1) := by decide +kernel
theorem dL_law_1667 : decode cL_law 1667 = .ok (.invokevirtual 50, 3) := by decide +kernel
theorem dL_law_1670 : decode cL_law 1670 = .ok (.ifCond .lt 31, 3) := by decide +kernel
theorem dL_law_1673 : decode cL_law 1673 = .ok (.aload_n 1, 1) := by decide +kernel
theorem dL_law_1674 : decode cL_law 1674 = .ok (.iconst 1, 1) := by decide +kernel
theorem dL_law_1675 : decode cL_law 1675 = .ok (.iload 4, 2) := by decide +kernel
theorem dL_law_1677 : decode cL_law 1677 = .ok (.aload_n 1, 1) := by decide +kernel
theorem dL_law_1678 : decode cL_law 1678 = .ok (.iload 4, 2) := by decide +kernel
theorem dL_law_1680 : decode cL_law 1680 = .ok (.iconst 4, 1) := by decide +kernel
theorem dL_law_1681 : decode cL_law 1681 = .ok (.invokevirtual 50, 3) := by decide +kernel
theorem dL_law_1684 : decode cL_law 1684 = .ok (.invokevirtual 130, 3) := by decide +kernel
theorem dL_law_1687 : decode cL_law 1687 = .ok (.aload_n 1, 1) := by decide +kernel
theorem dL_law_1688 : decode cL_law 1688 = .ok (.iload 4, 2) := by decide +kernel
theorem dL_law_1690 : decode cL_law 1690 = .ok (.iconst 4, 1) := by decide +kernel
theorem dL_law_1691 : decode cL_law 1691 = .ok (.invokevirtual 50, 3) := by decide +kernel
theorem dL_law_1694 : decode cL_law 1694 = .ok (.if_icmp .ne 7, 3) := by decide +kernel
theorem dL_law_1697 : decode cL_law 1697 = .ok (.iconst 1, 1) := by decide +kernel
theorem dL_law_1698 : decode cL_law 1698 = .ok (.goto 4, 3) := by decide +kernel
theorem dL_law_1701 : decode cL_law 1701 = .ok (.iconst 0, 1) := by decide +kernel
theorem dL_law_1702 : decode cL_law 1702 = .ok (.istore_n 3, 1) := by decide +kernel
theorem dL_law_1703 : decode cL_law 1703 = .ok (.iinc 4 1, 3) := by decide +kernel
theorem dL_law_1706 : decode cL_law 1706 = .ok (.goto (-54), 3) := by decide +kernel
theorem dL_law_1709 : decode cL_law 1709 = .ok (.iload_n 3, 1) := by decide +kernel
theorem dL_law_1710 : decode cL_law 1710 = .ok (.ifCond .eq 43, 3) := by decide +kernel
theorem dL_law_1713 : decode cL_law 1713 = .ok (.aload_n 1, 1) := by decide +kernel
theorem dL_law_1714 : decode cL_law 1714 = .ok (.iconst 1, 1) := by decide +kernel
theorem dL_law_1715 : decode cL_law 1715 = .ok (.invokevirtual 133, 3) := by decide +kernel
theorem dL_law_1718 : decode cL_law 1718 = .ok (.iconst (-1), 1) := by decide +kernel
theorem dL_law_1719 : decode cL_law 1719 = .ok (.if_icmp .ne 34, 3) := by decide +kernel
theorem dL_law_1722 : decode cL_law 1722 = .ok (.aload_n 1, 1) := by decide +kernel
theorem dL_law_1723 : decode cL_law 1723 = .ok (.iconst 1, 1) := by decide +kernel
theorem dL_law_1724 : decode cL_law 1724 = .ok (.iconst 5, 1) := by decide +kernel
theorem dL_law_1725 : decode cL_law 1725 = .ok (.iconst 1, 1) := by decide +kernel
theorem dL_law_1726 : decode cL_law 1726 = .ok (.invokevirtual 130, 3) := by decide +kernel
theorem dL_law_1729 : decode cL_law 1729 = .ok (.aload_n 1, 1) := by decide +kernel
theorem dL_law_1730 : decode cL_law 1730 = .ok (.iconst 5, 1) := by decide +kernel
theorem dL_law_1731 : decode cL_law 1731 = .ok (.iconst 4, 1) := by decide +kernel
theorem dL_law_1732 : decode cL_law 1732 = .ok (.invokevirtual 50, 3) := by decide +kernel
theorem dL_law_1735 : decode cL_law 1735 = .ok (.iconst 1, 1) := by decide +kernel
theorem dL_law_1736 : decode cL_law 1736 = .ok (.iadd, 1) := by decide +kernel
theorem dL_law_1737 : decode cL_law 1737 = .ok (.if_icmp .ne 16, 3) := by decide +kernel
theorem dL_law_1740 : decode cL_law 1740 = .ok (.aload_n 1, 1) := by decide +kernel
theorem dL_law_1741 : decode cL_law 1741 = .ok (.iconst 1, 1) := by decide +kernel
theorem dL_law_1742 : decode cL_law 1742 = .ok (.invokevirtual 133, 3) := by decide +kernel
theorem dL_law_1745 : decode cL_law 1745 = .ok (.iconst 5, 1) := by decide +kernel
theorem dL_law_1746 : decode cL_law 1746 = .ok (.if_icmp .ne 7, 3) := by decide +kernel
theorem dL_law_1749 : decode cL_law 1749 = .ok (.iconst 1, 1) := by decide +kernel
theorem dL_law_1750 : decode cL_law 1750 = .ok (.goto 4, 3) := by decide +kernel
theorem dL_law_1753 : decode cL_law 1753 = .ok (.iconst 0, 1) := by decide +kernel
theorem dL_law_1754 : decode cL_law 1754 = .ok (.istore_n 3, 1) := by decide +kernel
theorem dL_law_1755 : decode cL_law 1755 = .ok (.iload_n 3, 1) := by decide +kernel
theorem dL_law_1756 : decode cL_law 1756 = .ok (.ifCond .eq 35, 3) := by decide +kernel
theorem dL_law_1759 : decode cL_law 1759 = .ok (.aload_n 1, 1) := by decide +kernel
theorem dL_law_1760 : decode cL_law 1760 = .ok (.iconst 1, 1) := by decide +kernel
theorem dL_law_1761 : decode cL_law 1761 = .ok (.iconst 2, 1) := by decide +kernel
theorem dL_law_1762 : decode cL_law 1762 = .ok (.bipush (-3), 2) := by decide +kernel
theorem dL_law_1764 : decode cL_law 1764 = .ok (.invokevirtual 130, 3) := by decide +kernel
theorem dL_law_1767 : decode cL_law 1767 = .ok (.aload_n 1, 1) := by decide +kernel
theorem dL_law_1768 : decode cL_law 1768 = .ok (.iconst 2, 1) := by decide +kernel
theorem dL_law_1769 : decode cL_law 1769 = .ok (.iconst 4, 1) := by decide +kernel
theorem dL_law_1770 : decode cL_law 1770 = .ok (.invokevirtual 50, 3) := by decide +kernel
theorem dL_law_1773 : decode cL_law 1773 = .ok (.iconst 3, 1) := by decide +kernel
theorem dL_law_1774 : decode cL_law 1774 = .ok (.isub, 1) := by decide +kernel
theorem dL_law_1775 : decode cL_law 1775 = .ok (.if_icmp .ne 16, 3) := by decide +kernel
theorem dL_law_1778 : decode cL_law 1778 = .ok (.aload_n 1, 1) := by decide +kernel
theorem dL_law_1779 : decode cL_law 1779 = .ok (.iconst 1, 1) := by decide +kernel
theorem dL_law_1780 : decode cL_law 1780 = .ok (.invokevirtual 133, 3) := by decide +kernel
theorem dL_law_1783 : decode cL_law 1783 = .ok (.iconst 2, 1) := by decide +kernel
theorem dL_law_1784 : decode cL_law 1784 = .ok (.if_icmp .ne 7, 3) := by decide +kernel
theorem dL_law_1787 : decode cL_law 1787 = .ok (.iconst 1, 1) := by decide +kernel
theorem dL_law_1788 : decode cL_law 1788 = .ok (.goto 4, 3) := by decide +kernel
theorem dL_law_1791 : decode cL_law 1791 = .ok (.iconst 0, 1) := by decide +kernel
theorem dL_law_1792 : decode cL_law 1792 = .ok (.ireturn, 1) := by decide +kernel
abbrev vwCl : List vw_C := [(RJx4a65c, TJx4a65c, 3), (RX0, TX0, 8), (RX1, TX1, 13), (RX2, TX2, 6), (RX3, TX3, 4)]
end
section
-- ===== the words that last: one list for every method
def wAll : List Cond := lw_tbl.filter goodWord
theorem wA_in {i : Nat} {w : Cond} (h : lw_tbl[i]? = some w) (hg : goodWord w = true) : w ∈ wAll := List.mem_filter.mpr ⟨List.mem_of_getElem? h, hg⟩
theorem wA_ok {w : Cond} (h : w ∈ wAll) : (w.onTables && w.keeps) = true ∨ ∃ ty, w = .arrayClass ty := good_of_word (List.mem_filter.mp h).2
theorem wA_good {w : Cond} (h : w ∈ wAll) : GoodIn wAll (w :: wAll) := fun x hx => (List.mem_cons.mp hx).elim (fun e => by rw [e]; exact ⟨h, wA_ok h⟩) (fun h => ⟨h, wA_ok h⟩)
-- ===== the world: kinds by address; int fields, references; lengths and contents of arrays
def Wd : Type := (Nat → Nat) × (Nat → Nat → Int32) × (Nat → Nat → Option Nat) × (Nat → Nat) × (Nat → Nat → Int32) × (Nat → Nat → Option Nat) × (Nat → Nat → Int64)
def Wd.K (w : Wd) : Nat → Nat := w.1
def Wd.I (w : Wd) : Nat → Nat → Int32 := w.2.1
def Wd.R (w : Wd) : Nat → Nat → Option Nat := w.2.2.1
def Wd.N (w : Wd) : Nat → Nat := w.2.2.2.1
def Wd.A (w : Wd) : Nat → Nat → Int32 := w.2.2.2.2.1
def Wd.O (w : Wd) : Nat → Nat → Option Nat := w.2.2.2.2.2.1
def Wd.J (w : Wd) : Nat → Nat → Int64 := w.2.2.2.2.2.2
def up2 {α : Type} (f : Nat → Nat → α) (a b : Nat) (v : α) : Nat → Nat → α := fun x y => if x = a ∧ y = b then v else f x y
def Wd.setI (w : Wd) (f a : Nat) (v : Int32) : Wd := (w.K, up2 w.I f a v, w.R, w.N, w.A, w.O, w.J)
def Wd.setR (w : Wd) (f a : Nat) (v : Option Nat) : Wd := (w.K, w.I, up2 w.R f a v, w.N, w.A, w.O, w.J)
def Wd.setA (w : Wd) (a j : Nat) (v : Int32) : Wd := (w.K, w.I, w.R, w.N, up2 w.A a j v, w.O, w.J)
def Wd.setO (w : Wd) (a j : Nat) (v : Option Nat) : Wd := (w.K, w.I, w.R, w.N, w.A, up2 w.O a j v, w.J)
def Wd.setJ (w : Wd) (a j : Nat) (v : Int64) : Wd := (w.K, w.I, w.R, w.N, w.A, w.O, up2 w.J a j v)
def Wd.cpO (w : Wd) (a b sp dp n : Nat) : Wd := (w.K, w.I, w.R, w.N, w.A, va_up w.O b (va_cpy (w.O a) (w.O b) sp dp n), w.J)
def Wd.new (w : Wd) (k a : Nat) : Wd := (va_up w.K a k, fun f x => if x = a then 0 else w.I f x, fun f x => if x = a then none else w.R f x, w.N, w.A, w.O, w.J)
def Wd.newA (w : Wd) (k a n : Nat) : Wd := (va_up w.K a k, w.I, w.R, va_up w.N a n, fun x j => if x = a then 0 else w.A x j, fun x j => if x = a then none else w.O x j, fun x j => if x = a then 0 else w.J x j)
abbrev GT : Type := va_G × ClassId × ClassId × ClassId × ClassId × Nat
def shp (G : GT) (k : Nat) (I : Nat → Int32) (R : Nat → Option Nat) (n : Nat) (A : Nat → Int32) (O : Nat → Option Nat) (J : Nat → Int64) : va_E := match k with
  | 1 => .inr (1, [.int (I 100), .int (I 101), va_rf (R 102), va_rf (R 103), .int (I 104), .int (I 105), .int (I 106), .int (I 107)])
  | 2 => .inr (2, [.int (I 200), .int (I 201), .int (I 202), va_rf (R 203), .int (I 204), .int (I 205), .int (I 206), .int (I 207), va_rf (R 208), va_rf (R 209), .int (I 210), .int (I 211), .int (I 212)])
  | 3 => .inr (3, [va_rf (R 300), .int (I 301), .int (I 302), .int (I 303), .int (I 304), .int (I 305)])
  | 4 => .inr (4, [va_rf (R 400), va_rf (R 401), .int (I 402), .int (I 403)])
  | 6 => .inr (0, [.int (I 600), va_rf (R 601), .int (I 602)])
  | 11 => .inl (G.2.1, (n, .inl A))
  | 12 => .inl (G.2.2.1, (n, .inl A))
  | 13 => .inl (G.2.2.2.1, (n, .inr (.inr (.inr (.inr O)))))
  | _ => .inl (G.2.2.2.2.1, (n, .inr (.inl J)))
def wE (G : GT) (w : Wd) (k a : Nat) : va_E := shp G k (fun f => w.I f a) (fun f => w.R f a) (w.N a) (w.A a) (w.O a) (w.J a)
def GA (L0 : Nat) : Nat → Prop := fun q => L0 ≤ q
def gE15 (G : GT) (L0 : Nat) (w : Wd) : Prop := (∀ b, w.K b = 15 ↔ b = G.2.2.2.2.2) ∧ w.N G.2.2.2.2.2 = 0 ∧ G.2.2.2.2.2 < L0
def GWd (G : GT) (L0 : Nat) (w : Wd) (H : Heap) : Prop := ∃ L : List Nat, (∀ b, b ∈ L ↔ (w.K b ≠ 0 ∧ w.K b ≠ 15)) ∧ va_P G.1 vwCl ([] ++ va_pl L (fun b => wE G w (w.K b) b)) H ∧ va_D (GA L0) ([] ++ va_pl L (fun b => wE G w (w.K b) b)) ∧ gE15 G L0 w
def gTys (G : GT) : List (ClassId × FieldType) := [(G.2.1, .int), (G.2.2.1, .int), (G.2.2.2.1, .object "java/lang/Object"), (G.2.2.2.2.1, .int)]
def GZ (G : GT) (L0 : Nat) (U : State) (H : Heap) : Prop := vx_Zq Bundle.tN "UNASSIGNED_STACK" Bundle.steD (GA L0) U H ∧ vx_Zq Bundle.tN "SUPPRESSED_SENTINEL" Bundle.listD (GA L0) U H ∧ va_Z "java/util/ArrayList" "DEFAULTCAPACITY_EMPTY_ELEMENTDATA" "[Ljava/lang/Object;" (.ref G.2.2.2.2.2) (GA L0) U H ∧ ∃ cell : Cell, H[G.2.2.2.2.2]? = some cell ∧ U.isArrayOf cell (.object "java/lang/Object") ∧ cell.slots.size.toInt32 = 0 ∧ ¬ GA L0 G.2.2.2.2.2
theorem GZ.moved {G : GT} {L0 : Nat} {u U : State} {H : Heap} (hvm : u.vm.Alike U.vm) (h : GZ G L0 u H) : GZ G L0 U H := ⟨vx_Zq.moved hvm h.1, vx_Zq.moved hvm h.2.1, va_Z.moved hvm h.2.2.1, by obtain ⟨cell, q1, q2, q3⟩ := h.2.2.2; exact ⟨cell, q1, State.isArrayOf_alike hvm q2, q3⟩⟩
theorem GZ.kept {G : GT} {L0 : Nat} {U : State} {H H1 : Heap} (h : GZ G L0 U H) (hq : ∀ a : Nat, a < H.size → ¬ GA L0 a → H1[a]? = H[a]?) : GZ G L0 U H1 := ⟨vx_Zq.kept h.1 hq, vx_Zq.kept h.2.1 hq, va_Z.kept h.2.2.1 hq, by obtain ⟨cell, q1, q2, q3, q4⟩ := h.2.2.2; exact ⟨cell, by rw [hq _ (Array.getElem?_eq_some_iff.mp q1).1 q4]; exact q1, q2, q3, q4⟩⟩
def gCast : List (String × String) := [("SusuRing$Person", "java/lang/Object"), ("SusuRing$Circle", "java/lang/Object"), ("SusuRing$Place", "java/lang/Object"), ("java/lang/IllegalArgumentException", "java/lang/IllegalArgumentException"), ("java/lang/IllegalStateException", "java/lang/IllegalStateException"), ("java/lang/IndexOutOfBoundsException", "java/lang/IndexOutOfBoundsException")]
def gNot : List (String × String) := []
def gDecl : List MethodName := [⟨"java/lang/RuntimeException", "<init>", "(Ljava/lang/String;)V"⟩, ⟨"java/lang/Exception", "<init>", "(Ljava/lang/String;)V"⟩, ⟨"java/lang/Throwable", "<init>", "(Ljava/lang/String;)V"⟩]
def gStr : List (String × Nat × String) := [("SusuRing", 30, "there are 16 people"), ("SusuRing", 59, "dead, or the purse has too little or too much"), ("SusuRing", 66, "nobody is the own heir"), ("SusuRing", 72, "one is dead, or the heir would have too many shares"), ("SusuRing", 88, "there are 4 circles"), ("SusuRing", 103, "the circle has started, or is full"), ("SusuRing", 109, "the person is dead, or a member"), ("SusuRing", 115, "the circle has started, or too few members"), ("SusuRing", 133, "the person is no member"), ("SusuRing", 142, "the circle has not started, or too few members"), ("SusuRing", 167, "no member, or with a turn or arrears"), ("SusuRing", 188, "dead, too many shares, or too little in the purse"), ("SusuRing", 194, "two of the three are the same"), ("SusuRing", 199, "one of the three is dead, or has no share"), ("SusuRing", 211, "there is a loan, or the amount is too high"), ("SusuRing", 220, "there is no loan, or too little in the purse"), ("SusuRing", 234, "there are no shares, or somebody has a loan"), ("SusuRing", 241, "there is no such book"), ("SusuRing", 260, "there is no such person"), ("SusuRing", 262, "there is no such circle"), ("SusuRing", 264, "an argument is out of its range")]
def GX (U : State) : Prop := (∀ q ∈ gCast, va_Nw (.castable q.1 q.2) U) ∧ (∀ q ∈ gNot, va_Nc q.1 q.2 U) ∧ va_AO "java/lang/Object" U ∧ va_Dc U ∧ (∃ mi, va_Mi "[Ljava/lang/Object;" mi U) ∧ (∀ y ∈ gDecl, va_Nw (.declares y) U) ∧ ∀ q ∈ gStr, ∃ a, vk_R q.1 q.2.1 q.2.2 a U
theorem GX.warm {s U : State} (hW : s.WarmedH U.vm) (h : GX s) : GX U :=
  ⟨fun q hq => va_Nw.warmC hW (h.1 q hq), fun q hq => va_Nc.moved hW.alike (h.2.1 q hq), va_AO.moved hW.alike h.2.2.1, va_Dc.moved hW.alike h.2.2.2.1, ⟨h.2.2.2.2.1.choose, va_Mi.moved hW.alike h.2.2.2.2.1.choose_spec⟩, fun y hy => va_Nw.warmD hW (h.2.2.2.2.2.1 y hy), fun q hq => ⟨(h.2.2.2.2.2.2 q hq).choose, vk_R.warm hW (h.2.2.2.2.2.2 q hq).choose_spec⟩⟩
def GS (G : GT) (L0 : Nat) (U : State) : Prop := L0 ≤ U.heap.size ∧ va_K G.1 vwCl (gTys G) U ∧ GZ G L0 U U.heap ∧ GX U
/-- a callee's start: the same facts in its state -/
theorem GS.call {G : GT} {L0 : Nat} {s U : State} {H : Heap} {locs : List Loc} (h : GS G L0 s) (hS : va_S (GA L0) s.heap H locs) (hU : U.heap = H) (hW : s.WarmedH U.vm) : GS G L0 U :=
  ⟨by rw [hU]; exact Nat.le_trans h.1 hS.1, va_K.moved hW.alike h.2.1, by rw [hU]; exact GZ.moved hW.alike (h.2.2.1.kept hS.2.1), h.2.2.2.warm hW⟩
theorem GS.same {G : GT} {L0 : Nat} {U V : State} (h : GS G L0 U) (hv : V.vm = U.vm) (hh : V.heap = U.heap) : GS G L0 V :=
  ⟨by rw [hh]; exact h.1, va_K.moved (by rw [hv]; exact Vm.Alike.refl U.vm) h.2.1, by rw [hh]; exact GZ.moved (by rw [hv]; exact Vm.Alike.refl U.vm) h.2.2.1, GX.warm (s := U) (U := V) (by rw [hv]; exact State.WarmedH.refl U) h.2.2.2⟩
def GC (l : Launch) (G : GT) (L0 : Nat) (p : Program) (s : State) (m : MethodId) (args : Array Value) (meth : Method) (c : Code) (cc : ByteArray) (nL : Nat) (own : String) : Prop := CallFix p m c cc nL s args wAll own ∧ meth.locks = false ∧ l.stackTraces = false ∧ GS G L0 s
/-- locals by their numbers: ints and references -/
abbrev Lc : Type := List (Nat × (Int32 ⊕ Option Nat))
def lcV : Int32 ⊕ Option Nat → Value
  | .inl x => .int x
  | .inr r => va_rf r
def lvV (lv : Lc) : List (Nat × Value) := lv.map (fun q => (q.1, lcV q.2))
def lset (lv : Lc) (i : Nat) (v : Int32 ⊕ Option Nat) : Lc := (i, v) :: lv.filter (fun q => !(q.1 == i))
def lpick (lv : Lc) (ks : List Nat) : Lc := ks.filterMap (fun k => lv[k]?)
theorem lvV_at {ls : Array Slot} {nL : Nat} {lv : Lc} (h : lv_has ls nL (lvV lv)) (j : Nat) {i : Nat} {v : Int32 ⊕ Option Nat} (hj : lv[j]? = some (i, v)) : ls[i]? = some (.val (lcV v)) :=
  lv_at h j (by rw [lvV, List.getElem?_map, hj]; rfl)
theorem lcV_cat {v : Int32 ⊕ Option Nat} : (lcV v).category = 1 := by
  cases v with
  | inl x => rfl
  | inr r => cases r <;> rfl
theorem lvV_set {lv lv' : Lc} {i : Nat} {v : Int32 ⊕ Option Nat} (h : lset lv i v = lv') : (i, lcV v) :: (lvV lv).filter (fun q => !(q.1 == i) && !(q.1 + 1 == i && q.2.category == 2)) = lvV lv' := by
  subst h
  show _ = (i, lcV v) :: (lv.filter (fun q => !(q.1 == i))).map (fun q => (q.1, lcV q.2))
  rw [lvV, List.filter_map]
  congr 2
  apply List.filter_congr
  intro q _
  simp [Function.comp, lcV_cat]
theorem lvV_pick {lv lv' : Lc} {ks : List Nat} (h : lpick lv ks = lv') : lv_pick (lvV lv) ks = lvV lv' := by
  subst h
  show ks.filterMap (fun k => (lvV lv)[k]?) = (ks.filterMap (fun k => lv[k]?)).map _
  rw [List.map_filterMap]
  congr 1
  funext k
  rw [lvV, List.getElem?_map]
/-- the judgement: at pc, with these locals and this stack, in any heap that holds the world -/
def Gw (l : Launch) (G : GT) (L0 : Nat) (p : Program) (e : Env) (R : Room) (s : State) (m : MethodId) (args : Array Value) (below : List Frame) (meth : Method) (c : Code) (nL : Nat) (cells slots : Nat) (Q : State → Prop) (w : Wd) (pc : Nat) (lv : Lc) (st : List Value) : Prop :=
  ∀ (H : Heap) (locs : List Loc) (ls : Array Slot), GWd G L0 w H → va_S (GA L0) s.heap H locs → lv_has ls nL (lvV lv) → W p l e R s m args below meth c H locs cells slots Q (F0 m pc ls st)
theorem gw_set {G : GT} {L0 : Nat} {w w1 : Wd} {H H1 H0 : Heap} {L : List Nat} {locs locs1 : List Loc} {k0 a : Nat} {e : va_E} (hL : ∀ b, b ∈ L ↔ (w.K b ≠ 0 ∧ w.K b ≠ 15)) (hD : va_D (GA L0) ([] ++ va_pl L (fun b => wE G w (w.K b) b))) (haL : a ∈ L)
    (hk0 : ([] ++ va_pl L (fun b => wE G w (w.K b) b))[k0]? = some (a, wE G w (w.K a) a)) (h15 : gE15 G L0 w) (h0 : L0 ≤ H0.size) (hS : va_S (GA L0) H0 H locs) (hS1 : va_S (GA L0) H0 H1 locs1)
    (hP1 : va_P G.1 vwCl (([] ++ va_pl L (fun b => wE G w (w.K b) b)).set k0 (a, e)) H1) (hD1 : va_D (GA L0) (([] ++ va_pl L (fun b => wE G w (w.K b) b)).set k0 (a, e))) (hK : w1.K = w.K) (hN : w1.N = w.N) (hE : e = wE G w1 (w.K a) a) (ho : ∀ b, b ≠ a → wE G w1 (w.K b) b = wE G w (w.K b) b) : GWd G L0 w1 H1 := by
  have hf : ∀ b, va_up (fun b => wE G w (w.K b) b) a e b = wE G w1 (w1.K b) b := by
    intro b
    rw [hK]
    by_cases hb : b = a
    · subst hb; rw [va_up_self]; exact hE
    · rw [va_up_ne _ _ hb]; exact (ho b hb).symm
  rw [va_pl_set hD haL hk0, va_pl_congr hf] at hP1 hD1
  obtain ⟨h0', h1, h2⟩ := h15
  exact ⟨L, fun b => by rw [hK]; exact hL b, hP1, hD1, fun b => by rw [hK]; exact h0' b, by rw [hN]; exact h1, h2⟩
theorem gw_push {G : GT} {L0 : Nat} {w w1 : Wd} {H H1 H0 : Heap} {L : List Nat} {locs locs1 : List Loc} {a : Nat} {e : va_E} (hL : ∀ b, b ∈ L ↔ (w.K b ≠ 0 ∧ w.K b ≠ 15)) (haL : a ∉ L) (h15 : gE15 G L0 w) (h0 : L0 ≤ H0.size) (hS : va_S (GA L0) H0 H locs) (hS1 : va_S (GA L0) H0 H1 locs1) (haA : L0 ≤ a)
    (hP1 : va_P G.1 vwCl (([] ++ va_pl L (fun b => wE G w (w.K b) b)) ++ [(a, e)]) H1) (hD1 : va_D (GA L0) (([] ++ va_pl L (fun b => wE G w (w.K b) b)) ++ [(a, e)])) {k : Nat} (hk : k ≠ 0 ∧ k ≠ 15) (hK : ∀ b, w1.K b = va_up w.K a k b) (hN : ∀ b, b ≠ a → w1.N b = w.N b) (hE : e = wE G w1 k a) (ho : ∀ b, b ≠ a → wE G w1 (w.K b) b = wE G w (w.K b) b) : GWd G L0 w1 H1 := by
  have hf : ∀ b, va_up (fun b => wE G w (w.K b) b) a e b = wE G w1 (w1.K b) b := by
    intro b
    rw [hK]
    by_cases hb : b = a
    · subst hb; rw [va_up_self, va_up_self]; exact hE
    · rw [va_up_ne _ _ hb, va_up_ne _ _ hb]; exact (ho b hb).symm
  rw [List.nil_append, va_pl_push haL, va_pl_congr hf] at hP1 hD1
  obtain ⟨h0', h1, h2⟩ := h15
  have hea : G.2.2.2.2.2 ≠ a := by omega
  refine ⟨L ++ [a], fun b => ?_, hP1, hD1, fun b => ?_, by rw [hN _ hea]; exact h1, h2⟩
  · rw [hK, List.mem_append, List.mem_singleton]
    by_cases hb : b = a
    · subst hb; rw [va_up_self]; exact ⟨fun _ => hk, fun _ => Or.inr rfl⟩
    · rw [va_up_ne _ _ hb, ← hL b]
      exact ⟨fun h => h.elim id (fun h => absurd h hb), Or.inl⟩
  · rw [hK]
    by_cases hb : b = a
    · subst hb; rw [va_up_self]; exact ⟨fun h => absurd h hk.2, fun h => absurd h.symm hea⟩
    · rw [va_up_ne _ _ hb]; exact h0' b
theorem gw_new {A : Nat → Prop} {L : List Nat} {f : Nat → va_E} {a : Nat} {e : va_E} (h : va_D A (([] ++ va_pl L f) ++ [(a, e)])) : a ∉ L ∧ A a := by
  have hl : (([] ++ va_pl L f) ++ [(a, e)])[([] ++ va_pl L f).length]? = some (a, e) := by simp
  refine ⟨fun ha => ?_, h.2 _ _ hl⟩
  obtain ⟨k, hk⟩ := va_pl_get (X := []) (f := f) ha
  have hk1 := (List.getElem?_eq_some_iff.mp hk).1
  have hk2 : (([] ++ va_pl L f) ++ [(a, e)])[k]? = some (a, f a) := by rw [List.getElem?_append_left hk1]; exact hk
  have := h.1 _ _ _ _ hk2 hl rfl
  omega
theorem gw_at {G : GT} {L0 : Nat} {w : Wd} {H : Heap} {a : Nat} (hG : GWd G L0 w H) (hk : w.K a ≠ 0 ∧ w.K a ≠ 15) : va_at G.1 vwCl (a, wE G w (w.K a) a) H := by
  obtain ⟨L, hL, hP, -⟩ := hG
  obtain ⟨k0, hk0⟩ := va_pl_get (X := []) (f := fun b => wE G w (w.K b) b) ((hL a).mpr hk)
  exact hP k0 _ hk0
theorem gw_one {G : GT} {L0 : Nat} {w : Wd} {H : Heap} {a : Nat} {ee : va_E} (hG : GWd G L0 w H) {k : Nat} (hk : w.K a = k) (h0 : k ≠ 0 ∧ k ≠ 15) (he : wE G w k a = ee) : va_P G.1 vwCl [(a, ee)] H := by
  intro i q hi
  have hz : i < 1 := (List.getElem?_eq_some_iff.mp hi).1
  rw [show i = 0 by omega] at hi
  cases hi
  have h := gw_at hG (a := a) (by rw [hk]; exact h0)
  rw [hk, he] at h
  exact h
-- how other cells' pictures stay
theorem wE_I {G : GT} {w : Wd} {f a b k : Nat} {v : Int32} (h : b ≠ a) : wE G (w.setI f a v) k b = wE G w k b := by
  show shp G k (fun g => up2 w.I f a v g b) _ _ _ _ _ = _
  rw [show (fun g => up2 w.I f a v g b) = fun g => w.I g b from funext fun g => by simp [up2, h]]
  rfl
theorem wE_R {G : GT} {w : Wd} {f a b k : Nat} {v : Option Nat} (h : b ≠ a) : wE G (w.setR f a v) k b = wE G w k b := by
  show shp G k _ (fun g => up2 w.R f a v g b) _ _ _ _ = _
  rw [show (fun g => up2 w.R f a v g b) = fun g => w.R g b from funext fun g => by simp [up2, h]]
  rfl
theorem wE_A {G : GT} {w : Wd} {a b k j : Nat} {v : Int32} (h : b ≠ a) : wE G (w.setA a j v) k b = wE G w k b := by
  show shp G k _ _ _ (up2 w.A a j v b) _ _ = _
  rw [show up2 w.A a j v b = w.A b from funext fun g => by simp [up2, h]]
  rfl
theorem wE_O {G : GT} {w : Wd} {a b k j : Nat} {v : Option Nat} (h : b ≠ a) : wE G (w.setO a j v) k b = wE G w k b := by
  show shp G k _ _ _ _ (up2 w.O a j v b) _ = _
  rw [show up2 w.O a j v b = w.O b from funext fun g => by simp [up2, h]]
  rfl
theorem wE_J {G : GT} {w : Wd} {a b k j : Nat} {v : Int64} (h : b ≠ a) : wE G (w.setJ a j v) k b = wE G w k b := by
  show shp G k _ _ _ _ _ (up2 w.J a j v b) = _
  rw [show up2 w.J a j v b = w.J b from funext fun g => by simp [up2, h]]
  rfl
theorem wE_C {G : GT} {w : Wd} {a a2 b k sp dp n : Nat} (h : b ≠ a) : wE G (w.cpO a2 a sp dp n) k b = wE G w k b := by
  show shp G k _ _ _ _ (va_up w.O a _ b) _ = _
  rw [va_up_ne _ _ h]
  rfl
theorem wE_n {G : GT} {w : Wd} {a b k k1 : Nat} (h : b ≠ a) : wE G (w.new k1 a) k b = wE G w k b := by
  show shp G k (fun g => if b = a then 0 else w.I g b) (fun g => if b = a then none else w.R g b) _ _ _ _ = _
  simp only [if_neg h]
  rfl
theorem wE_nA {G : GT} {w : Wd} {a b k k1 n : Nat} (h : b ≠ a) : wE G (w.newA k1 a n) k b = wE G w k b := by
  show shp G k _ _ (va_up w.N a n b) (fun j => if b = a then 0 else w.A b j) (fun j => if b = a then none else w.O b j) (fun j => if b = a then 0 else w.J b j) = _
  simp only [if_neg h]
  rw [va_up_ne _ _ h]
  rfl
end
section
section GR
variable {l : Launch} {G : GT} {L0 : Nat} {p : Program} {e : Env} {R : Room} {s : State} {m : MethodId} {args : Array Value} {below : List Frame} {meth : Method} {c : Code} {cc : ByteArray} {nL : Nat} {own : String} {cells slots : Nat} {Q : State → Prop} {w : Wd} {pc : Nat} {lv : Lc} {st : List Value}
-- ===== locals, stack, arithmetic
theorem g_iload_n (X : GC l G L0 p s m args meth c cc nL own) {k : Fin 4} {i : Nat} {x : Int32} (hd : decode cc pc = .ok (.iload_n k, 1)) (hi : (k : Nat) = i) (j : Nat) (hj : lv[j]? = some (i, .inl x))
    (kk : Gw l G L0 p e R s m args below meth c nL cells slots Q w (pc + 1) lv (.int x :: st)) : Gw l G L0 p e R s m args below meth c nL cells slots Q w pc lv st :=
  fun H locs ls hG hS hl => lv_iload_n X.1.1 X.1.2.1 hd hi (lvV_at hl j hj) (kk H locs ls hG hS hl)
theorem g_iload (X : GC l G L0 p s m args meth c cc nL own) {i : Nat} {x : Int32} (hd : decode cc pc = .ok (.iload i, 2)) (j : Nat) (hj : lv[j]? = some (i, .inl x))
    (kk : Gw l G L0 p e R s m args below meth c nL cells slots Q w (pc + 2) lv (.int x :: st)) : Gw l G L0 p e R s m args below meth c nL cells slots Q w pc lv st :=
  fun H locs ls hG hS hl => lv_iload X.1.1 X.1.2.1 hd (lvV_at hl j hj) (kk H locs ls hG hS hl)
theorem g_aload_n (X : GC l G L0 p s m args meth c cc nL own) {k : Fin 4} {i : Nat} {r : Option Nat} (hd : decode cc pc = .ok (.aload_n k, 1)) (hi : (k : Nat) = i) (j : Nat) (hj : lv[j]? = some (i, .inr r))
    (kk : Gw l G L0 p e R s m args below meth c nL cells slots Q w (pc + 1) lv (va_rf r :: st)) : Gw l G L0 p e R s m args below meth c nL cells slots Q w pc lv st := by
  intro H locs ls hG hS hl
  have h1 := lvV_at hl j hj
  cases r with
  | none => exact lv_aload_nN X.1.1 X.1.2.1 hd hi h1 (kk H locs ls hG hS hl)
  | some a => exact lv_aload_n X.1.1 X.1.2.1 hd hi h1 (kk H locs ls hG hS hl)
theorem g_aload (X : GC l G L0 p s m args meth c cc nL own) {i : Nat} {r : Option Nat} (hd : decode cc pc = .ok (.aload i, 2)) (j : Nat) (hj : lv[j]? = some (i, .inr r))
    (kk : Gw l G L0 p e R s m args below meth c nL cells slots Q w (pc + 2) lv (va_rf r :: st)) : Gw l G L0 p e R s m args below meth c nL cells slots Q w pc lv st := by
  intro H locs ls hG hS hl
  have h1 := lvV_at hl j hj
  cases r with
  | none => exact lv_aloadN X.1.1 X.1.2.1 hd h1 (kk H locs ls hG hS hl)
  | some a => exact lv_aload X.1.1 X.1.2.1 hd h1 (kk H locs ls hG hS hl)
theorem g_istore_n (X : GC l G L0 p s m args meth c cc nL own) {k : Fin 4} {i : Nat} {x : Int32} (lv' : Lc) (hd : decode cc pc = .ok (.istore_n k, 1)) (hi : (k : Nat) = i) (hn : i < nL) (hl' : lset lv i (.inl x) = lv')
    (kk : Gw l G L0 p e R s m args below meth c nL cells slots Q w (pc + 1) lv' st) : Gw l G L0 p e R s m args below meth c nL cells slots Q w pc lv (.int x :: st) :=
  fun H locs _ hG hS hl => lv_istore_n X.1.1 X.1.2.1 hd hi hl hn (lvV_set hl') (fun ls' h' => kk H locs ls' hG hS h')
theorem g_istore (X : GC l G L0 p s m args meth c cc nL own) {i : Nat} {x : Int32} (lv' : Lc) (hd : decode cc pc = .ok (.istore i, 2)) (hn : i < nL) (hl' : lset lv i (.inl x) = lv')
    (kk : Gw l G L0 p e R s m args below meth c nL cells slots Q w (pc + 2) lv' st) : Gw l G L0 p e R s m args below meth c nL cells slots Q w pc lv (.int x :: st) :=
  fun H locs _ hG hS hl => lv_istore X.1.1 X.1.2.1 hd hl hn (lvV_set hl') (fun ls' h' => kk H locs ls' hG hS h')
theorem g_astore_n (X : GC l G L0 p s m args meth c cc nL own) {k : Fin 4} {i : Nat} {r : Option Nat} (lv' : Lc) (hd : decode cc pc = .ok (.astore_n k, 1)) (hi : (k : Nat) = i) (hn : i < nL) (hl' : lset lv i (.inr r) = lv')
    (kk : Gw l G L0 p e R s m args below meth c nL cells slots Q w (pc + 1) lv' st) : Gw l G L0 p e R s m args below meth c nL cells slots Q w pc lv (va_rf r :: st) := by
  intro H locs _ hG hS hl
  have h1 := lvV_set hl'
  cases r with
  | none => exact lv_astore_nN X.1.1 X.1.2.1 hd hi hl hn h1 (fun ls' h' => kk H locs ls' hG hS h')
  | some a => exact lv_astore_n X.1.1 X.1.2.1 hd hi hl hn h1 (fun ls' h' => kk H locs ls' hG hS h')
theorem g_astore (X : GC l G L0 p s m args meth c cc nL own) {i : Nat} {r : Option Nat} (lv' : Lc) (hd : decode cc pc = .ok (.astore i, 2)) (hn : i < nL) (hl' : lset lv i (.inr r) = lv')
    (kk : Gw l G L0 p e R s m args below meth c nL cells slots Q w (pc + 2) lv' st) : Gw l G L0 p e R s m args below meth c nL cells slots Q w pc lv (va_rf r :: st) := by
  intro H locs _ hG hS hl
  have h1 := lvV_set hl'
  cases r with
  | none => exact lv_astoreN X.1.1 X.1.2.1 hd hl hn h1 (fun ls' h' => kk H locs ls' hG hS h')
  | some a => exact lv_astore X.1.1 X.1.2.1 hd hl hn h1 (fun ls' h' => kk H locs ls' hG hS h')
theorem g_iinc (X : GC l G L0 p s m args meth c cc nL own) {i : Nat} {n : Int} {x d : Int32} (hd : decode cc pc = .ok (.iinc i n, 3)) (j : Nat) (hj : lv[j]? = some (i, .inl x)) (hv : Int32.ofInt n = d) (hn : i < nL)
    (kk : ∀ v : Int32, v = x + d → Gw l G L0 p e R s m args below meth c nL cells slots Q w (pc + 3) (lset lv i (.inl v)) st) : Gw l G L0 p e R s m args below meth c nL cells slots Q w pc lv st := by
  intro H locs _ hG hS hl
  have hj1 : (lvV lv)[j]? = some (i, .int x) := by rw [lvV, List.getElem?_map, hj]; rfl
  exact lv_iinc X.1.1 X.1.2.1 hd hl hj1 (v := x + d) (by rw [hv]) hn (lvV_set (lv := lv) (i := i) (v := .inl (x + d)) rfl) (fun ls' h' => kk _ rfl H locs ls' hG hS h')
/-- the same locals in another order, or fewer -/
theorem g_sub (ks : List Nat) (lv' : Lc) (h : lpick lv ks = lv') (kk : Gw l G L0 p e R s m args below meth c nL cells slots Q w pc lv' st) : Gw l G L0 p e R s m args below meth c nL cells slots Q w pc lv st :=
  fun H locs ls hG hS hl => kk H locs ls hG hS (lv_sub hl ks (lvV_pick h))
theorem g_widen {c2 s2 : Nat} (h1 : cells ≤ c2) (h2 : slots ≤ s2) (kk : Gw l G L0 p e R s m args below meth c nL c2 s2 Q w pc lv st) : Gw l G L0 p e R s m args below meth c nL cells slots Q w pc lv st :=
  fun H locs ls hG hS hl => W.widen h1 h2 (kk H locs ls hG hS hl)
theorem g_iconst (X : GC l G L0 p s m args meth c cc nL own) {n : Int} {v : Int32} (hd : decode cc pc = .ok (.iconst n, 1)) (hv : Int32.ofInt n = v)
    (kk : Gw l G L0 p e R s m args below meth c nL cells slots Q w (pc + 1) lv (.int v :: st)) : Gw l G L0 p e R s m args below meth c nL cells slots Q w pc lv st :=
  fun H locs ls hG hS hl => lv_iconst X.1.1 X.1.2.1 hd hv (kk H locs ls hG hS hl)
theorem g_bipush (X : GC l G L0 p s m args meth c cc nL own) {n : Int} {v : Int32} (hd : decode cc pc = .ok (.bipush n, 2)) (hv : (Int8.ofInt n).toInt32 = v)
    (kk : Gw l G L0 p e R s m args below meth c nL cells slots Q w (pc + 2) lv (.int v :: st)) : Gw l G L0 p e R s m args below meth c nL cells slots Q w pc lv st :=
  fun H locs ls hG hS hl => lv_bipush X.1.1 X.1.2.1 hd hv (kk H locs ls hG hS hl)
theorem g_sipush (X : GC l G L0 p s m args meth c cc nL own) {n : Int} {v : Int32} (hd : decode cc pc = .ok (.sipush n, 3)) (hv : (Int16.ofInt n).toInt32 = v)
    (kk : Gw l G L0 p e R s m args below meth c nL cells slots Q w (pc + 3) lv (.int v :: st)) : Gw l G L0 p e R s m args below meth c nL cells slots Q w pc lv st :=
  fun H locs ls hG hS hl => lv_sipush X.1.1 X.1.2.1 hd hv (kk H locs ls hG hS hl)
theorem g_ldc (X : GC l G L0 p s m args meth c cc nL own) {index : Nat} {v : Int32} (hw : Cond.constant own index v ∈ wAll) (hd : decode cc pc = .ok (.ldc index, 2))
    (kk : Gw l G L0 p e R s m args below meth c nL cells slots Q w (pc + 2) lv (.int v :: st)) : Gw l G L0 p e R s m args below meth c nL cells slots Q w pc lv st :=
  fun H locs ls hG hS hl => lv_ldc X.1.1 X.1.2.1 X.1.2.2.2.1 (X.1.2.2.2.2 _ hw) hd (kk H locs ls hG hS hl)
theorem g_ldcw (X : GC l G L0 p s m args meth c cc nL own) {index : Nat} {v : Int32} (hw : Cond.constant own index v ∈ wAll) (hd : decode cc pc = .ok (.ldc_w index, 3))
    (kk : Gw l G L0 p e R s m args below meth c nL cells slots Q w (pc + 3) lv (.int v :: st)) : Gw l G L0 p e R s m args below meth c nL cells slots Q w pc lv st :=
  fun H locs ls hG hS hl => lv_ldcw X.1.1 X.1.2.1 X.1.2.2.2.1 (X.1.2.2.2.2 _ hw) hd (kk H locs ls hG hS hl)
theorem g_null (X : GC l G L0 p s m args meth c cc nL own) (hd : decode cc pc = .ok (.aconst_null, 1))
    (kk : Gw l G L0 p e R s m args below meth c nL cells slots Q w (pc + 1) lv (va_rf none :: st)) : Gw l G L0 p e R s m args below meth c nL cells slots Q w pc lv st :=
  fun H locs ls hG hS hl => lv_null X.1.1 X.1.2.1 hd (kk H locs ls hG hS hl)
theorem g_iadd (X : GC l G L0 p s m args meth c cc nL own) {x y : Int32} (hd : decode cc pc = .ok (.iadd, 1))
    (kk : ∀ v : Int32, v = x + y → Gw l G L0 p e R s m args below meth c nL cells slots Q w (pc + 1) lv (.int v :: st)) : Gw l G L0 p e R s m args below meth c nL cells slots Q w pc lv (.int y :: .int x :: st) :=
  fun H locs ls hG hS hl => lv_iadd X.1.1 X.1.2.1 hd (kk _ rfl H locs ls hG hS hl)
theorem g_isub (X : GC l G L0 p s m args meth c cc nL own) {x y : Int32} (hd : decode cc pc = .ok (.isub, 1))
    (kk : ∀ v : Int32, v = x - y → Gw l G L0 p e R s m args below meth c nL cells slots Q w (pc + 1) lv (.int v :: st)) : Gw l G L0 p e R s m args below meth c nL cells slots Q w pc lv (.int y :: .int x :: st) :=
  fun H locs ls hG hS hl => lv_isub X.1.1 X.1.2.1 hd (kk _ rfl H locs ls hG hS hl)
theorem g_imul (X : GC l G L0 p s m args meth c cc nL own) {x y : Int32} (hd : decode cc pc = .ok (.imul, 1))
    (kk : ∀ v : Int32, v = x * y → Gw l G L0 p e R s m args below meth c nL cells slots Q w (pc + 1) lv (.int v :: st)) : Gw l G L0 p e R s m args below meth c nL cells slots Q w pc lv (.int y :: .int x :: st) :=
  fun H locs ls hG hS hl => lv_imul X.1.1 X.1.2.1 hd (kk _ rfl H locs ls hG hS hl)
theorem g_iand (X : GC l G L0 p s m args meth c cc nL own) {x y : Int32} (hd : decode cc pc = .ok (.iand, 1))
    (kk : ∀ v : Int32, v = x &&& y → Gw l G L0 p e R s m args below meth c nL cells slots Q w (pc + 1) lv (.int v :: st)) : Gw l G L0 p e R s m args below meth c nL cells slots Q w pc lv (.int y :: .int x :: st) :=
  fun H locs ls hG hS hl => lv_iand X.1.1 X.1.2.1 hd (kk _ rfl H locs ls hG hS hl)
theorem g_ior (X : GC l G L0 p s m args meth c cc nL own) {x y : Int32} (hd : decode cc pc = .ok (.ior, 1))
    (kk : ∀ v : Int32, v = x ||| y → Gw l G L0 p e R s m args below meth c nL cells slots Q w (pc + 1) lv (.int v :: st)) : Gw l G L0 p e R s m args below meth c nL cells slots Q w pc lv (.int y :: .int x :: st) :=
  fun H locs ls hG hS hl => lv_ior X.1.1 X.1.2.1 hd (kk _ rfl H locs ls hG hS hl)
theorem g_ishl (X : GC l G L0 p s m args meth c cc nL own) {x y : Int32} (hd : decode cc pc = .ok (.ishl, 1))
    (kk : ∀ v : Int32, v = x <<< (y &&& 31) → Gw l G L0 p e R s m args below meth c nL cells slots Q w (pc + 1) lv (.int v :: st)) : Gw l G L0 p e R s m args below meth c nL cells slots Q w pc lv (.int y :: .int x :: st) :=
  fun H locs ls hG hS hl => lv_ishl X.1.1 X.1.2.1 hd (kk _ rfl H locs ls hG hS hl)
theorem g_ishr (X : GC l G L0 p s m args meth c cc nL own) {x y : Int32} (hd : decode cc pc = .ok (.ishr, 1))
    (kk : ∀ v : Int32, v = x >>> (y &&& 31) → Gw l G L0 p e R s m args below meth c nL cells slots Q w (pc + 1) lv (.int v :: st)) : Gw l G L0 p e R s m args below meth c nL cells slots Q w pc lv (.int y :: .int x :: st) :=
  fun H locs ls hG hS hl => lv_ishr X.1.1 X.1.2.1 hd (kk _ rfl H locs ls hG hS hl)
theorem g_idiv (X : GC l G L0 p s m args meth c cc nL own) {x y : Int32} (hd : decode cc pc = .ok (.idiv, 1)) (hne : ¬ y = 0)
    (kk : ∀ v : Int32, v = x / y → Gw l G L0 p e R s m args below meth c nL cells slots Q w (pc + 1) lv (.int v :: st)) : Gw l G L0 p e R s m args below meth c nL cells slots Q w pc lv (.int y :: .int x :: st) :=
  fun H locs ls hG hS hl => lv_idiv X.1.1 X.1.2.1 hd hne (kk _ rfl H locs ls hG hS hl)
theorem g_irem (X : GC l G L0 p s m args meth c cc nL own) {x y : Int32} (hd : decode cc pc = .ok (.irem, 1)) (hne : ¬ y = 0)
    (kk : ∀ v : Int32, v = x - x / y * y → Gw l G L0 p e R s m args below meth c nL cells slots Q w (pc + 1) lv (.int v :: st)) : Gw l G L0 p e R s m args below meth c nL cells slots Q w pc lv (.int y :: .int x :: st) :=
  fun H locs ls hG hS hl => lv_irem X.1.1 X.1.2.1 hd hne (kk _ rfl H locs ls hG hS hl)
theorem g_ineg (X : GC l G L0 p s m args meth c cc nL own) {x : Int32} (hd : decode cc pc = .ok (.ineg, 1))
    (kk : ∀ v : Int32, v = -x → Gw l G L0 p e R s m args below meth c nL cells slots Q w (pc + 1) lv (.int v :: st)) : Gw l G L0 p e R s m args below meth c nL cells slots Q w pc lv (.int x :: st) :=
  fun H locs ls hG hS hl => lv_ineg X.1.1 X.1.2.1 hd (kk _ rfl H locs ls hG hS hl)
theorem g_i2l (X : GC l G L0 p s m args meth c cc nL own) {x : Int32} (hd : decode cc pc = .ok (.i2l, 1))
    (kk : Gw l G L0 p e R s m args below meth c nL cells slots Q w (pc + 1) lv (.long x.toInt64 :: st)) : Gw l G L0 p e R s m args below meth c nL cells slots Q w pc lv (.int x :: st) :=
  fun H locs ls hG hS hl => lv_i2l X.1.1 X.1.2.1 hd rfl (kk H locs ls hG hS hl)
theorem g_dup (X : GC l G L0 p s m args meth c cc nL own) {v : Value} (hd : decode cc pc = .ok (.dup, 1)) (hv : v.category = 1)
    (kk : Gw l G L0 p e R s m args below meth c nL cells slots Q w (pc + 1) lv (v :: v :: st)) : Gw l G L0 p e R s m args below meth c nL cells slots Q w pc lv (v :: st) :=
  fun H locs ls hG hS hl => lv_dup X.1.1 X.1.2.1 hd hv (kk H locs ls hG hS hl)
theorem g_pop (X : GC l G L0 p s m args meth c cc nL own) {v : Value} (hd : decode cc pc = .ok (.pop, 1)) (hv : v.category = 1)
    (kk : Gw l G L0 p e R s m args below meth c nL cells slots Q w (pc + 1) lv st) : Gw l G L0 p e R s m args below meth c nL cells slots Q w pc lv (v :: st) :=
  fun H locs ls hG hS hl => lv_pop X.1.1 X.1.2.1 hd hv (kk H locs ls hG hS hl)
theorem g_dup2 (X : GC l G L0 p s m args meth c cc nL own) {v u : Value} (hd : decode cc pc = .ok (.dup2, 1)) (hv : v.category = 1) (hu : u.category = 1)
    (kk : Gw l G L0 p e R s m args below meth c nL cells slots Q w (pc + 1) lv (v :: u :: v :: u :: st)) : Gw l G L0 p e R s m args below meth c nL cells slots Q w pc lv (v :: u :: st) :=
  fun H locs ls hG hS hl => lv_dup2_11 X.1.1 X.1.2.1 hd hv hu (kk H locs ls hG hS hl)
theorem g_dup_x1 (X : GC l G L0 p s m args meth c cc nL own) {v u : Value} (hd : decode cc pc = .ok (.dup_x1, 1)) (hv : v.category = 1) (hu : u.category = 1)
    (kk : Gw l G L0 p e R s m args below meth c nL cells slots Q w (pc + 1) lv (v :: u :: v :: st)) : Gw l G L0 p e R s m args below meth c nL cells slots Q w pc lv (v :: u :: st) :=
  fun H locs ls hG hS hl => lv_dup_x1 X.1.1 X.1.2.1 hd hv hu (kk H locs ls hG hS hl)
theorem cat_int {x : Int32} : (Value.int x).category = 1 := rfl
theorem rf_cat {r : Option Nat} : (va_rf r).category = 1 := by cases r <;> rfl
-- ===== branches
theorem g_if_eq (X : GC l G L0 p s m args meth c cc nL own) {x : Int32} {off : Int} {tgt : Nat} (hd : decode cc pc = .ok (.ifCond .eq off, 3)) (ht : (pc : Int) + off = (tgt : Int))
    (kt : x = 0 → Gw l G L0 p e R s m args below meth c nL cells slots Q w tgt lv st) (kf : ¬ x = 0 → Gw l G L0 p e R s m args below meth c nL cells slots Q w (pc + 3) lv st) : Gw l G L0 p e R s m args below meth c nL cells slots Q w pc lv (.int x :: st) :=
  fun H locs ls hG hS hl => lv_if_eq X.1.1 X.1.2.1 hd ht (fun h => kt h H locs ls hG hS hl) (fun h => kf h H locs ls hG hS hl)
theorem g_icmp_eq (X : GC l G L0 p s m args meth c cc nL own) {x y : Int32} {off : Int} {tgt : Nat} (hd : decode cc pc = .ok (.if_icmp .eq off, 3)) (ht : (pc : Int) + off = (tgt : Int))
    (kt : x = y → Gw l G L0 p e R s m args below meth c nL cells slots Q w tgt lv st) (kf : ¬ x = y → Gw l G L0 p e R s m args below meth c nL cells slots Q w (pc + 3) lv st) : Gw l G L0 p e R s m args below meth c nL cells slots Q w pc lv (.int y :: .int x :: st) :=
  fun H locs ls hG hS hl => lv_icmp_eq X.1.1 X.1.2.1 hd ht (fun h => kt h H locs ls hG hS hl) (fun h => kf h H locs ls hG hS hl)
theorem g_if_ne (X : GC l G L0 p s m args meth c cc nL own) {x : Int32} {off : Int} {tgt : Nat} (hd : decode cc pc = .ok (.ifCond .ne off, 3)) (ht : (pc : Int) + off = (tgt : Int))
    (kt : ¬ x = 0 → Gw l G L0 p e R s m args below meth c nL cells slots Q w tgt lv st) (kf : x = 0 → Gw l G L0 p e R s m args below meth c nL cells slots Q w (pc + 3) lv st) : Gw l G L0 p e R s m args below meth c nL cells slots Q w pc lv (.int x :: st) :=
  fun H locs ls hG hS hl => lv_if_ne X.1.1 X.1.2.1 hd ht (fun h => kt h H locs ls hG hS hl) (fun h => kf h H locs ls hG hS hl)
theorem g_icmp_ne (X : GC l G L0 p s m args meth c cc nL own) {x y : Int32} {off : Int} {tgt : Nat} (hd : decode cc pc = .ok (.if_icmp .ne off, 3)) (ht : (pc : Int) + off = (tgt : Int))
    (kt : ¬ x = y → Gw l G L0 p e R s m args below meth c nL cells slots Q w tgt lv st) (kf : x = y → Gw l G L0 p e R s m args below meth c nL cells slots Q w (pc + 3) lv st) : Gw l G L0 p e R s m args below meth c nL cells slots Q w pc lv (.int y :: .int x :: st) :=
  fun H locs ls hG hS hl => lv_icmp_ne X.1.1 X.1.2.1 hd ht (fun h => kt h H locs ls hG hS hl) (fun h => kf h H locs ls hG hS hl)
theorem g_if_lt (X : GC l G L0 p s m args meth c cc nL own) {x : Int32} {off : Int} {tgt : Nat} (hd : decode cc pc = .ok (.ifCond .lt off, 3)) (ht : (pc : Int) + off = (tgt : Int))
    (kt : x < 0 → Gw l G L0 p e R s m args below meth c nL cells slots Q w tgt lv st) (kf : ¬ x < 0 → Gw l G L0 p e R s m args below meth c nL cells slots Q w (pc + 3) lv st) : Gw l G L0 p e R s m args below meth c nL cells slots Q w pc lv (.int x :: st) :=
  fun H locs ls hG hS hl => lv_if_lt X.1.1 X.1.2.1 hd ht (fun h => kt h H locs ls hG hS hl) (fun h => kf h H locs ls hG hS hl)
theorem g_icmp_lt (X : GC l G L0 p s m args meth c cc nL own) {x y : Int32} {off : Int} {tgt : Nat} (hd : decode cc pc = .ok (.if_icmp .lt off, 3)) (ht : (pc : Int) + off = (tgt : Int))
    (kt : x < y → Gw l G L0 p e R s m args below meth c nL cells slots Q w tgt lv st) (kf : ¬ x < y → Gw l G L0 p e R s m args below meth c nL cells slots Q w (pc + 3) lv st) : Gw l G L0 p e R s m args below meth c nL cells slots Q w pc lv (.int y :: .int x :: st) :=
  fun H locs ls hG hS hl => lv_icmp_lt X.1.1 X.1.2.1 hd ht (fun h => kt h H locs ls hG hS hl) (fun h => kf h H locs ls hG hS hl)
theorem g_if_ge (X : GC l G L0 p s m args meth c cc nL own) {x : Int32} {off : Int} {tgt : Nat} (hd : decode cc pc = .ok (.ifCond .ge off, 3)) (ht : (pc : Int) + off = (tgt : Int))
    (kt : 0 ≤ x → Gw l G L0 p e R s m args below meth c nL cells slots Q w tgt lv st) (kf : ¬ 0 ≤ x → Gw l G L0 p e R s m args below meth c nL cells slots Q w (pc + 3) lv st) : Gw l G L0 p e R s m args below meth c nL cells slots Q w pc lv (.int x :: st) :=
  fun H locs ls hG hS hl => lv_if_ge X.1.1 X.1.2.1 hd ht (fun h => kt h H locs ls hG hS hl) (fun h => kf h H locs ls hG hS hl)
theorem g_icmp_ge (X : GC l G L0 p s m args meth c cc nL own) {x y : Int32} {off : Int} {tgt : Nat} (hd : decode cc pc = .ok (.if_icmp .ge off, 3)) (ht : (pc : Int) + off = (tgt : Int))
    (kt : y ≤ x → Gw l G L0 p e R s m args below meth c nL cells slots Q w tgt lv st) (kf : ¬ y ≤ x → Gw l G L0 p e R s m args below meth c nL cells slots Q w (pc + 3) lv st) : Gw l G L0 p e R s m args below meth c nL cells slots Q w pc lv (.int y :: .int x :: st) :=
  fun H locs ls hG hS hl => lv_icmp_ge X.1.1 X.1.2.1 hd ht (fun h => kt h H locs ls hG hS hl) (fun h => kf h H locs ls hG hS hl)
theorem g_if_gt (X : GC l G L0 p s m args meth c cc nL own) {x : Int32} {off : Int} {tgt : Nat} (hd : decode cc pc = .ok (.ifCond .gt off, 3)) (ht : (pc : Int) + off = (tgt : Int))
    (kt : 0 < x → Gw l G L0 p e R s m args below meth c nL cells slots Q w tgt lv st) (kf : ¬ 0 < x → Gw l G L0 p e R s m args below meth c nL cells slots Q w (pc + 3) lv st) : Gw l G L0 p e R s m args below meth c nL cells slots Q w pc lv (.int x :: st) :=
  fun H locs ls hG hS hl => lv_if_gt X.1.1 X.1.2.1 hd ht (fun h => kt h H locs ls hG hS hl) (fun h => kf h H locs ls hG hS hl)
theorem g_icmp_gt (X : GC l G L0 p s m args meth c cc nL own) {x y : Int32} {off : Int} {tgt : Nat} (hd : decode cc pc = .ok (.if_icmp .gt off, 3)) (ht : (pc : Int) + off = (tgt : Int))
    (kt : y < x → Gw l G L0 p e R s m args below meth c nL cells slots Q w tgt lv st) (kf : ¬ y < x → Gw l G L0 p e R s m args below meth c nL cells slots Q w (pc + 3) lv st) : Gw l G L0 p e R s m args below meth c nL cells slots Q w pc lv (.int y :: .int x :: st) :=
  fun H locs ls hG hS hl => lv_icmp_gt X.1.1 X.1.2.1 hd ht (fun h => kt h H locs ls hG hS hl) (fun h => kf h H locs ls hG hS hl)
theorem g_if_le (X : GC l G L0 p s m args meth c cc nL own) {x : Int32} {off : Int} {tgt : Nat} (hd : decode cc pc = .ok (.ifCond .le off, 3)) (ht : (pc : Int) + off = (tgt : Int))
    (kt : x ≤ 0 → Gw l G L0 p e R s m args below meth c nL cells slots Q w tgt lv st) (kf : ¬ x ≤ 0 → Gw l G L0 p e R s m args below meth c nL cells slots Q w (pc + 3) lv st) : Gw l G L0 p e R s m args below meth c nL cells slots Q w pc lv (.int x :: st) :=
  fun H locs ls hG hS hl => lv_if_le X.1.1 X.1.2.1 hd ht (fun h => kt h H locs ls hG hS hl) (fun h => kf h H locs ls hG hS hl)
theorem g_icmp_le (X : GC l G L0 p s m args meth c cc nL own) {x y : Int32} {off : Int} {tgt : Nat} (hd : decode cc pc = .ok (.if_icmp .le off, 3)) (ht : (pc : Int) + off = (tgt : Int))
    (kt : x ≤ y → Gw l G L0 p e R s m args below meth c nL cells slots Q w tgt lv st) (kf : ¬ x ≤ y → Gw l G L0 p e R s m args below meth c nL cells slots Q w (pc + 3) lv st) : Gw l G L0 p e R s m args below meth c nL cells slots Q w pc lv (.int y :: .int x :: st) :=
  fun H locs ls hG hS hl => lv_icmp_le X.1.1 X.1.2.1 hd ht (fun h => kt h H locs ls hG hS hl) (fun h => kf h H locs ls hG hS hl)
theorem g_goto (X : GC l G L0 p s m args meth c cc nL own) {off : Int} {tgt : Nat} (hd : decode cc pc = .ok (.goto off, 3)) (ht : (pc : Int) + off = (tgt : Int))
    (kk : Gw l G L0 p e R s m args below meth c nL cells slots Q w tgt lv st) : Gw l G L0 p e R s m args below meth c nL cells slots Q w pc lv st :=
  fun H locs ls hG hS hl => lv_goto X.1.1 X.1.2.1 hd ht (kk H locs ls hG hS hl)
theorem g_acmp_eq (X : GC l G L0 p s m args meth c cc nL own) {rx ry : Option Nat} {off : Int} {tgt : Nat} (hd : decode cc pc = .ok (.if_acmp .eq off, 3)) (ht : (pc : Int) + off = (tgt : Int))
    (kt : rx = ry → Gw l G L0 p e R s m args below meth c nL cells slots Q w tgt lv st) (kf : ¬ rx = ry → Gw l G L0 p e R s m args below meth c nL cells slots Q w (pc + 3) lv st) : Gw l G L0 p e R s m args below meth c nL cells slots Q w pc lv (va_rf ry :: va_rf rx :: st) :=
  fun H locs ls hG hS hl => lv_acmp_eq X.1.1 X.1.2.1 hd ht (fun h => kt h H locs ls hG hS hl) (fun h => kf h H locs ls hG hS hl)
theorem g_acmp_ne (X : GC l G L0 p s m args meth c cc nL own) {rx ry : Option Nat} {off : Int} {tgt : Nat} (hd : decode cc pc = .ok (.if_acmp .ne off, 3)) (ht : (pc : Int) + off = (tgt : Int))
    (kt : ¬ rx = ry → Gw l G L0 p e R s m args below meth c nL cells slots Q w tgt lv st) (kf : rx = ry → Gw l G L0 p e R s m args below meth c nL cells slots Q w (pc + 3) lv st) : Gw l G L0 p e R s m args below meth c nL cells slots Q w pc lv (va_rf ry :: va_rf rx :: st) :=
  fun H locs ls hG hS hl => lv_acmp_ne X.1.1 X.1.2.1 hd ht (fun h => kt h H locs ls hG hS hl) (fun h => kf h H locs ls hG hS hl)
theorem g_ifnull (X : GC l G L0 p s m args meth c cc nL own) {r : Option Nat} {off : Int} {tgt : Nat} (hd : decode cc pc = .ok (.ifnull off, 3)) (ht : (pc : Int) + off = (tgt : Int))
    (kt : r = none → Gw l G L0 p e R s m args below meth c nL cells slots Q w tgt lv st) (kf : ¬ r = none → Gw l G L0 p e R s m args below meth c nL cells slots Q w (pc + 3) lv st) : Gw l G L0 p e R s m args below meth c nL cells slots Q w pc lv (va_rf r :: st) := by
  intro H locs ls hG hS hl
  cases r with
  | none => exact lv_ifnullN X.1.1 X.1.2.1 hd ht (kt rfl H locs ls hG hS hl)
  | some a => exact lv_ifnull X.1.1 X.1.2.1 hd (kf (fun h => nomatch h) H locs ls hG hS hl)
theorem g_ifnonnull (X : GC l G L0 p s m args meth c cc nL own) {r : Option Nat} {off : Int} {tgt : Nat} (hd : decode cc pc = .ok (.ifnonnull off, 3)) (ht : (pc : Int) + off = (tgt : Int))
    (kt : ¬ r = none → Gw l G L0 p e R s m args below meth c nL cells slots Q w tgt lv st) (kf : r = none → Gw l G L0 p e R s m args below meth c nL cells slots Q w (pc + 3) lv st) : Gw l G L0 p e R s m args below meth c nL cells slots Q w pc lv (va_rf r :: st) := by
  intro H locs ls hG hS hl
  cases r with
  | none => exact lv_ifnonnullN X.1.1 X.1.2.1 hd (kf rfl H locs ls hG hS hl)
  | some a => exact lv_ifnonnull X.1.1 X.1.2.1 hd ht (kt (fun h => nomatch h) H locs ls hG hS hl)
theorem g_tableIn (X : GC l G L0 p s m args meth c cc nL own) {dflt lo hi : Int} {offs : Array Int} {len : Nat} {x : Int32} {off : Int} {tgt : Nat} (hd : decode cc pc = .ok (.tableswitch dflt lo hi offs, len)) (h1 : ¬ x.toInt < lo) (h2 : ¬ hi < x.toInt) (ho : offs[(x.toInt - lo).toNat]? = some off) (ht : (pc : Int) + off = (tgt : Int))
    (kk : Gw l G L0 p e R s m args below meth c nL cells slots Q w tgt lv st) : Gw l G L0 p e R s m args below meth c nL cells slots Q w pc lv (.int x :: st) :=
  fun H locs ls hG hS hl => lv_tableIn X.1.1 X.1.2.1 hd h1 h2 ho ht (kk H locs ls hG hS hl)
theorem g_tableEq (X : GC l G L0 p s m args meth c cc nL own) {dflt lo hi : Int} {offs : Array Int} {len : Nat} {x k : Int32} {off : Int} {tgt : Nat} (hx : x = k) (hd : decode cc pc = .ok (.tableswitch dflt lo hi offs, len)) (h1 : ¬ k.toInt < lo) (h2 : ¬ hi < k.toInt) (ho : offs[(k.toInt - lo).toNat]? = some off) (ht : (pc : Int) + off = (tgt : Int))
    (kk : Gw l G L0 p e R s m args below meth c nL cells slots Q w tgt lv st) : Gw l G L0 p e R s m args below meth c nL cells slots Q w pc lv (.int x :: st) := by
  subst hx
  exact g_tableIn X hd h1 h2 ho ht kk
theorem g_tableOut (X : GC l G L0 p s m args meth c cc nL own) {dflt lo hi : Int} {offs : Array Int} {len : Nat} {x : Int32} {tgt : Nat} (hd : decode cc pc = .ok (.tableswitch dflt lo hi offs, len)) (h : x.toInt < lo ∨ hi < x.toInt) (ht : (pc : Int) + dflt = (tgt : Int))
    (kk : Gw l G L0 p e R s m args below meth c nL cells slots Q w tgt lv st) : Gw l G L0 p e R s m args below meth c nL cells slots Q w pc lv (.int x :: st) :=
  fun H locs ls hG hS hl => lv_tableOut X.1.1 X.1.2.1 hd h ht (kk H locs ls hG hS hl)
theorem g_mmin (X : GC l G L0 p s m args meth c cc nL own) {index : Nat} {x y : Int32} (h1 : Cond.methodLink own index Lib.Math.min.name ∈ wAll) (h2 : Cond.static Lib.Math.min.name ∈ wAll) (h3 : Cond.initialized "java/lang/Math" ∈ wAll) (h4 : Cond.code Lib.Math.min.name Lib.Math.min.code 2 (some .int) ∈ wAll) (hf : 1 ≤ R.frames) (hlo : (st.map fun v => v.category).sum + 13 ≤ R.locals) (hc : cells ≤ R.cells) (hs : slots ≤ R.slots) (hd : decode cc pc = .ok (.invokestatic index, 3))
    (kk : ∀ v : Int32, v = (if y < x then y else x) → Gw l G L0 p e R s m args below meth c nL cells slots Q w (pc + 3) lv (.int v :: st)) : Gw l G L0 p e R s m args below meth c nL cells slots Q w pc lv (.int y :: .int x :: st) :=
  fun H locs ls hG hS hl => va_mmin X.1.1 X.1.2.1 (X.1.2.2.1.trans hl.1.symm) X.1.2.2.2.1 (X.1.2.2.2.2 _ h1) (X.1.2.2.2.2 _ h2) (X.1.2.2.2.2 _ h3) (X.1.2.2.2.2 _ h4) hf hlo hc hs hd (kk _ rfl H locs ls hG hS hl)
theorem g_mmax (X : GC l G L0 p s m args meth c cc nL own) {index : Nat} {x y : Int32} (h1 : Cond.methodLink own index Lib.Math.max.name ∈ wAll) (h2 : Cond.static Lib.Math.max.name ∈ wAll) (h3 : Cond.initialized "java/lang/Math" ∈ wAll) (h4 : Cond.code Lib.Math.max.name Lib.Math.max.code 2 (some .int) ∈ wAll) (hf : 1 ≤ R.frames) (hlo : (st.map fun v => v.category).sum + 13 ≤ R.locals) (hc : cells ≤ R.cells) (hs : slots ≤ R.slots) (hd : decode cc pc = .ok (.invokestatic index, 3))
    (kk : ∀ v : Int32, v = (if x < y then y else x) → Gw l G L0 p e R s m args below meth c nL cells slots Q w (pc + 3) lv (.int v :: st)) : Gw l G L0 p e R s m args below meth c nL cells slots Q w pc lv (.int y :: .int x :: st) :=
  fun H locs ls hG hS hl => va_mmax X.1.1 X.1.2.1 (X.1.2.2.1.trans hl.1.symm) X.1.2.2.2.1 (X.1.2.2.2.2 _ h1) (X.1.2.2.2.2 _ h2) (X.1.2.2.2.2 _ h3) (X.1.2.2.2.2 _ h4) hf hlo hc hs hd (kk _ rfl H locs ls hG hS hl)
-- ===== fields
theorem g_get (X : GC l G L0 p s m args meth c cc nL own) {C : String} {T : u_T} {N ci k j index a : Nat} {fs : List Value} {v : Value} (hin : ∀ x ∈ u_ws C T N, x ∈ wAll) (hc : vwCl[ci]? = some (C, T, N)) (h0 : k ≠ 0 ∧ k ≠ 15) (hj : j < N) (hk : w.K a = k) (he : wE G w k a = .inr (ci, fs)) (hv : fs[j]? = some v)
    (ref : String) (hsame : ∀ x, s.fieldFound? (T j).1 (T j).2.1 (T j).2.2.1 = some x → s.fieldFound? ref (T j).2.1 (T j).2.2.1 = some x) (hlink : Cond.fieldLink own index ref (T j).2.1 (T j).2.2.1 ∈ wAll) (hd : decode cc pc = .ok (.getfield index, 3))
    (kk : Gw l G L0 p e R s m args below meth c nL cells slots Q w (pc + 3) lv (v :: st)) : Gw l G L0 p e R s m args below meth c nL cells slots Q w pc lv (.ref a :: st) :=
  fun H locs ls hG hS hl => va_get X.1.1 X.1.2.1 X.1.2.2.2.2 hin X.1.2.2.2.1 X.2.2.2.2.1 (gw_one hG hk h0 he) 0 rfl hc j hj (X.1.2.2.2.2 _ hlink) hsame hv hd (kk H locs ls hG hS hl)
/-- a field is written: any picture w1 that differs there alone -/
theorem g_put (X : GC l G L0 p s m args meth c cc nL own) {C : String} {T : u_T} {N ci k j index a : Nat} {fs : List Value} {v : Value} {ty : FieldType} {w1 : Wd} (ty0 : Nat → FieldType) (hty : ∀ k, k < N → parseFieldDescriptor (T k).2.2.1 = some (ty0 k)) (hnm : ∀ a, a < N → ∀ b, b < N → a ≠ b → (T a).2.1 ≠ (T b).2.1) (hin : ∀ x ∈ u_ws C T N, x ∈ wAll) (hc : vwCl[ci]? = some (C, T, N)) (h0 : k ≠ 0 ∧ k ≠ 15) (hj : j < N) (hk : w.K a = k) (he : wE G w k a = .inr (ci, fs)) (hl1 : j < fs.length)
    (hfin : (T j).2.2.2 = false) (hpd : parseFieldDescriptor (T j).2.2.1 = some ty) (hn : narrow ty v = v) (hfit : fits ty v = true) (ref : String) (hsame : ∀ x, s.fieldFound? (T j).1 (T j).2.1 (T j).2.2.1 = some x → s.fieldFound? ref (T j).2.1 (T j).2.2.1 = some x) (hlink : Cond.fieldLink own index ref (T j).2.1 (T j).2.2.1 ∈ wAll) (hd : decode cc pc = .ok (.putfield index, 3))
    (hK : w1.K = w.K) (hN : w1.N = w.N) (hE : wE G w1 k a = .inr (ci, fs.set j v)) (ho : ∀ b, b ≠ a → wE G w1 (w.K b) b = wE G w (w.K b) b)
    (kk : Gw l G L0 p e R s m args below meth c nL cells slots Q w1 (pc + 3) lv st) : Gw l G L0 p e R s m args below meth c nL cells slots Q w pc lv (v :: .ref a :: st) := by
  intro H locs ls hG hS hl
  obtain ⟨L, hL, hP, hD, h15⟩ := hG
  have haL : a ∈ L := (hL a).mpr (by rw [hk]; exact h0)
  obtain ⟨k0, hk0⟩ := va_pl_get (X := []) (f := fun b => wE G w (w.K b) b) haL
  have hk1 : ([] ++ va_pl L (fun b => wE G w (w.K b) b))[k0]? = some (a, .inr (ci, fs)) := by rw [hk0, hk, he]
  refine va_put X.1.1 X.1.2.1 X.1.2.2.2.2 hin ty0 hty hnm X.1.2.2.2.1 X.2.2.2.2.1 hP hD hS k0 hk1 hc j hj (X.1.2.2.2.2 _ hlink) hsame hfin hpd hn hfit hl1 hd (fun H1 locs1 hP1 hD1 hS1 => ?_)
  exact kk H1 locs1 ls (gw_set hL hD haL hk0 h15 X.2.2.2.1 hS hS1 hP1 hD1 hK hN (by rw [hk]; exact hE.symm) ho) hS1 hl
theorem g_putF (X : GC l G L0 p s m args meth c cc nL own) {C : String} {T : u_T} {N ci k j index a : Nat} {fs : List Value} {v : Value} {ty : FieldType} {w1 : Wd} (ty0 : Nat → FieldType) (hty : ∀ k, k < N → parseFieldDescriptor (T k).2.2.1 = some (ty0 k)) (hnm : ∀ a, a < N → ∀ b, b < N → a ≠ b → (T a).2.1 ≠ (T b).2.1) (hin : ∀ x ∈ u_ws C T N, x ∈ wAll) (hc : vwCl[ci]? = some (C, T, N)) (h0 : k ≠ 0 ∧ k ≠ 15) (hj : j < N) (hk : w.K a = k) (he : wE G w k a = .inr (ci, fs)) (hl1 : j < fs.length)
    (hin2 : meth.name = "<init>") (hdecl : (T j).1 = own) (hfin : (T j).2.2.2 = true) (hpd : parseFieldDescriptor (T j).2.2.1 = some ty) (hn : narrow ty v = v) (hfit : fits ty v = true) (ref : String) (hsame : ∀ x, s.fieldFound? (T j).1 (T j).2.1 (T j).2.2.1 = some x → s.fieldFound? ref (T j).2.1 (T j).2.2.1 = some x) (hlink : Cond.fieldLink own index ref (T j).2.1 (T j).2.2.1 ∈ wAll) (hd : decode cc pc = .ok (.putfield index, 3))
    (hK : w1.K = w.K) (hN : w1.N = w.N) (hE : wE G w1 k a = .inr (ci, fs.set j v)) (ho : ∀ b, b ≠ a → wE G w1 (w.K b) b = wE G w (w.K b) b)
    (kk : Gw l G L0 p e R s m args below meth c nL cells slots Q w1 (pc + 3) lv st) : Gw l G L0 p e R s m args below meth c nL cells slots Q w pc lv (v :: .ref a :: st) := by
  intro H locs ls hG hS hl
  obtain ⟨L, hL, hP, hD, h15⟩ := hG
  have haL : a ∈ L := (hL a).mpr (by rw [hk]; exact h0)
  obtain ⟨k0, hk0⟩ := va_pl_get (X := []) (f := fun b => wE G w (w.K b) b) haL
  have hk1 : ([] ++ va_pl L (fun b => wE G w (w.K b) b))[k0]? = some (a, .inr (ci, fs)) := by rw [hk0, hk, he]
  refine va_putF X.1.1 X.1.2.1 X.1.2.2.2.2 hin ty0 hty hnm X.1.2.2.2.1 X.2.2.2.2.1 hP hD hS k0 hk1 hc j hj (X.1.2.2.2.2 _ hlink) hsame hfin hin2 hdecl hpd hn hfit hl1 hd (fun H1 locs1 hP1 hD1 hS1 => ?_)
  exact kk H1 locs1 ls (gw_set hL hD haL hk0 h15 X.2.2.2.1 hS hS1 hP1 hD1 hK hN (by rw [hk]; exact hE.symm) ho) hS1 hl
-- ===== arrays
theorem nI_in2 {j N : Nat} (h : j < N) (hN : N < 2 ^ 31) : vp_in (nI j) N := vp_in_nI h hN
theorem g_iald (X : GC l G L0 p s m args meth c cc nL own) {a j : Nat} {i : Int32} (hk : w.K a = 11) (hi : i = nI j) (hj : j < w.N a) (hN : w.N a < 2 ^ 31) (hd : decode cc pc = .ok (.iaload, 1))
    (kk : ∀ v : Int32, v = w.A a j → Gw l G L0 p e R s m args below meth c nL cells slots Q w (pc + 1) lv (.int v :: st)) : Gw l G L0 p e R s m args below meth c nL cells slots Q w pc lv (.int i :: .ref a :: st) := by
  intro H locs ls hG hS hl
  subst hi
  refine va_iald X.1.1 X.1.2.1 X.2.2.2.2.1 (gw_one hG hk (by decide) (ee := .inl (G.2.1, w.N a, .inl (w.A a))) rfl) 0 0 rfl rfl (nI_in2 hj hN) hd ?_
  rw [nI_clamp (by omega)]
  exact kk _ rfl H locs ls hG hS hl
theorem g_aald (X : GC l G L0 p s m args meth c cc nL own) {a j : Nat} {i : Int32} (hk : w.K a = 13) (hi : i = nI j) (hj : j < w.N a) (hN : w.N a < 2 ^ 31) (hd : decode cc pc = .ok (.aaload, 1))
    (kk : ∀ v : Option Nat, v = w.O a j → Gw l G L0 p e R s m args below meth c nL cells slots Q w (pc + 1) lv (va_rf v :: st)) : Gw l G L0 p e R s m args below meth c nL cells slots Q w pc lv (.int i :: .ref a :: st) := by
  intro H locs ls hG hS hl
  subst hi
  refine va_aldq X.1.1 X.1.2.1 X.2.2.2.2.1 (gw_one hG hk (by decide) (ee := .inl (G.2.2.2.1, w.N a, .inr (.inr (.inr (.inr (w.O a)))))) rfl) 0 2 rfl rfl (nI_in2 hj hN) hd ?_
  rw [nI_clamp (by omega)]
  exact kk _ rfl H locs ls hG hS hl
theorem gw_upd (w : Wd) (a j : Nat) {v : Int32} : upd (w.A a) j v = (w.setA a j v).A a := by
  funext x
  show _ = up2 w.A a j v a x
  simp [up2, upd]
theorem gw_updL (w : Wd) (a j : Nat) {v : Int64} : vp_updL (w.J a) j v = (w.setJ a j v).J a := by
  funext x
  show _ = up2 w.J a j v a x
  simp [up2, vp_updL]
theorem gw_updO (w : Wd) (a j : Nat) {v : Option Nat} : va_up (w.O a) j v = (w.setO a j v).O a := by
  funext x
  show _ = up2 w.O a j v a x
  simp [up2, va_up]
theorem up2_row {α : Type} (f : Nat → Nat → α) (a j : Nat) (v : α) : up2 f a j v a = fun x => if x = j then v else f a x := by
  funext x; simp [up2]
theorem g_iast (X : GC l G L0 p s m args meth c cc nL own) {a j : Nat} {i v : Int32} (hk : w.K a = 11) (hi : i = nI j) (hj : j < w.N a) (hN : w.N a < 2 ^ 31) (hd : decode cc pc = .ok (.iastore, 1))
    (kk : ∀ w1 : Wd, w1 = w.setA a j v → Gw l G L0 p e R s m args below meth c nL cells slots Q w1 (pc + 1) lv st) : Gw l G L0 p e R s m args below meth c nL cells slots Q w pc lv (.int v :: .int i :: .ref a :: st) := by
  intro H locs ls hG hS hl
  subst hi
  obtain ⟨L, hL, hP, hD, h15⟩ := hG
  have haL : a ∈ L := (hL a).mpr (by rw [hk]; decide)
  obtain ⟨k0, hk0⟩ := va_pl_get (X := []) (f := fun b => wE G w (w.K b) b) haL
  have hk1 : ([] ++ va_pl L (fun b => wE G w (w.K b) b))[k0]? = some (a, .inl (G.2.1, w.N a, .inl (w.A a))) := by rw [hk0, hk]; rfl
  refine va_iast X.1.1 X.1.2.1 X.2.2.2.2.1 hP hD hS k0 0 hk1 rfl (nI_in2 hj hN) hd (fun H1 locs1 hP1 hD1 hS1 => ?_)
  rw [nI_clamp (by omega)] at hP1 hD1
  refine kk _ rfl H1 locs1 ls (gw_set hL hD haL hk0 h15 X.2.2.2.1 hS hS1 hP1 hD1 rfl rfl ?_ (fun b hb => wE_A hb)) hS1 hl
  rw [hk]
  exact congrArg (fun f => (Sum.inl (G.2.1, w.N a, .inl f) : va_E)) (gw_upd _ _ _)
theorem gw_any (X : GC l G L0 p s m args meth c cc nL own) {H : Heap} {a k ci : Nat} {fs : List Value} {r : vw_C} (hG : GWd G L0 w H) (hk : w.K a = k) (h0 : k ≠ 0 ∧ k ≠ 15) (he : wE G w k a = .inr (ci, fs)) (hc : vwCl[ci]? = some r) (hq : (r.1, "java/lang/Object") ∈ gCast) : va_Any "java/lang/Object" s H a :=
  va_rAny X.2.2.2.2.1 (gw_one hG hk h0 he) (q0 := 0) rfl hc (fun comp c0 h1 h2 => by
    obtain ⟨c3, c4, hc3, hc4, hasg⟩ := Cond.castable_spec (X.2.2.2.2.2.2.1 _ hq)
    cases h1.symm.trans hc4
    cases h2.symm.trans hc3
    exact hasg)
theorem gw_any3 (X : GC l G L0 p s m args meth c cc nL own) {H : Heap} {a : Nat} (hG : GWd G L0 w H) (hk : w.K a = 1 ∨ w.K a = 2 ∨ w.K a = 3) : va_Any "java/lang/Object" s H a := by
  rcases hk with hk | hk | hk
  · exact gw_any X hG hk (by decide) (ci := 1) rfl rfl (by decide +kernel)
  · exact gw_any X hG hk (by decide) (ci := 2) rfl rfl (by decide +kernel)
  · exact gw_any X hG hk (by decide) (ci := 3) rfl rfl (by decide +kernel)
theorem g_aast (X : GC l G L0 p s m args meth c cc nL own) {a j : Nat} {i : Int32} {r : Option Nat} (hk : w.K a = 13) (hi : i = nI j) (hj : j < w.N a) (hN : w.N a < 2 ^ 31) (hr : ∀ y, r = some y → w.K y = 1 ∨ w.K y = 2 ∨ w.K y = 3) (hd : decode cc pc = .ok (.aastore, 1))
    (kk : ∀ w1 : Wd, w1 = w.setO a j r → Gw l G L0 p e R s m args below meth c nL cells slots Q w1 (pc + 1) lv st) : Gw l G L0 p e R s m args below meth c nL cells slots Q w pc lv (va_rf r :: .int i :: .ref a :: st) := by
  intro H locs ls hG hS hl
  subst hi
  have hG0 := hG
  obtain ⟨L, hL, hP, hD, h15⟩ := hG
  have haL : a ∈ L := (hL a).mpr (by rw [hk]; decide)
  obtain ⟨k0, hk0⟩ := va_pl_get (X := []) (f := fun b => wE G w (w.K b) b) haL
  have hk1 : ([] ++ va_pl L (fun b => wE G w (w.K b) b))[k0]? = some (a, .inl (G.2.2.2.1, w.N a, .inr (.inr (.inr (.inr (w.O a)))))) := by rw [hk0, hk]; rfl
  cases r with
  | none =>
    refine va_astqN X.1.1 X.1.2.1 X.2.2.2.2.1 hP hD hS k0 2 hk1 rfl (nI_in2 hj hN) hd (fun H1 locs1 hP1 hD1 hS1 => ?_)
    rw [nI_clamp (by omega)] at hP1 hD1
    refine kk _ rfl H1 locs1 ls (gw_set hL hD haL hk0 h15 X.2.2.2.1 hS hS1 hP1 hD1 rfl rfl ?_ (fun b hb => wE_O hb)) hS1 hl
    rw [hk]
    exact congrArg (fun f => (Sum.inl (G.2.2.2.1, w.N a, .inr (.inr (.inr (.inr f)))) : va_E)) (gw_updO _ _ _)
  | some y =>
    refine va_astqM X.1.1 X.1.2.1 X.2.2.2.2.1 hP hD hS k0 2 hk1 rfl (gw_any3 X hG0 (hr y rfl)) (nI_in2 hj hN) hd (fun H1 locs1 hP1 hD1 hS1 => ?_)
    rw [nI_clamp (by omega)] at hP1 hD1
    refine kk _ rfl H1 locs1 ls (gw_set hL hD haL hk0 h15 X.2.2.2.1 hS hS1 hP1 hD1 rfl rfl ?_ (fun b hb => wE_O hb)) hS1 hl
    rw [hk]
    exact congrArg (fun f => (Sum.inl (G.2.2.2.1, w.N a, .inr (.inr (.inr (.inr f)))) : va_E)) (gw_updO _ _ _)
theorem g_acpy (X : GC l G L0 p s m args meth c cc nL own) {a b sp dp n index : Nat} {i j k : Int32} (ha : w.K a = 13) (hb : w.K b = 13) (hi : i = nI sp) (hj : j = nI dp) (hk : k = nI n) (h1 : sp + n ≤ w.N a) (h2 : dp + n ≤ w.N b) (hNa : w.N a < 2 ^ 31) (hNb : w.N b < 2 ^ 31) (hel : ∀ x, x < n → ∀ y, w.O a (sp + x) = some y → w.K y = 1 ∨ w.K y = 2 ∨ w.K y = 3)
    (q1 : Cond.methodLink own index arraycopyName ∈ wAll) (q2 : Cond.native arraycopyName ∈ wAll) (q3 : Cond.static arraycopyName ∈ wAll) (q4 : Cond.initialized "java/lang/System" ∈ wAll) (hf : 1 ≤ R.frames) (hlo : (st.map fun v => v.category).sum + (nativeFrameWords "java/lang/System" "arraycopy" 5 + 11) ≤ R.locals) (hd : decode cc pc = .ok (.invokestatic index, 3))
    (kk : ∀ w1 : Wd, w1 = w.cpO a b sp dp n → Gw l G L0 p e R s m args below meth c nL cells slots Q w1 (pc + 3) lv st) : Gw l G L0 p e R s m args below meth c nL cells slots Q w pc lv (.int k :: .int j :: .ref b :: .int i :: .ref a :: st) := by
  intro H locs ls hG hS hl
  subst hi; subst hj; subst hk
  have hG0 := hG
  obtain ⟨L, hL, hP, hD, h15⟩ := hG
  have haL : a ∈ L := (hL a).mpr (by rw [ha]; decide)
  have hbL : b ∈ L := (hL b).mpr (by rw [hb]; decide)
  obtain ⟨k0, hk0⟩ := va_pl_get (X := []) (f := fun b => wE G w (w.K b) b) haL
  obtain ⟨k1, hk1⟩ := va_pl_get (X := []) (f := fun b => wE G w (w.K b) b) hbL
  have hk0' : ([] ++ va_pl L (fun b => wE G w (w.K b) b))[k0]? = some (a, .inl (G.2.2.2.1, w.N a, .inr (.inr (.inr (.inr (w.O a)))))) := by rw [hk0, ha]; rfl
  have hk1' : ([] ++ va_pl L (fun b => wE G w (w.K b) b))[k1]? = some (b, .inl (G.2.2.2.1, w.N b, .inr (.inr (.inr (.inr (w.O b)))))) := by rw [hk1, hb]; rfl
  have es : (nI sp).toNatClampNeg = sp := nI_clamp (by omega)
  have ed : (nI dp).toNatClampNeg = dp := nI_clamp (by omega)
  have en : (nI n).toNatClampNeg = n := nI_clamp (by omega)
  refine va_copyM X.1.1 X.1.2.1 (X.1.2.2.1.trans hl.1.symm) X.1.2.2.2.1 (X.1.2.2.2.2 _ q1) (X.1.2.2.2.2 _ q2) (X.1.2.2.2.2 _ q3) (X.1.2.2.2.2 _ q4) X.2.2.2.2.1 hP hD hS k0 k1 2 2 hk0' hk1' rfl rfl (nI_pos (by omega)) (nI_pos (by omega)) (nI_pos (by omega)) (by rw [es, en]; exact h1) (by rw [ed, en]; exact h2) (fun x hx y hy => gw_any3 X hG0 (hel x (by rw [en] at hx; exact hx) y (by rw [es] at hy; exact hy))) hf hlo hd (fun H1 locs1 hP1 hD1 hS1 => ?_)
  rw [es, ed, en] at hP1 hD1
  refine kk _ rfl H1 locs1 ls (gw_set hL hD hbL hk1 h15 X.2.2.2.1 hS hS1 hP1 hD1 rfl rfl ?_ (fun b' hb' => wE_C hb')) hS1 hl
  rw [hb]
  show (Sum.inl (G.2.2.2.1, w.N b, .inr (.inr (.inr (.inr (va_cpy (w.O a) (w.O b) sp dp n)))) ) : va_E) = Sum.inl (G.2.2.2.1, w.N b, .inr (.inr (.inr (.inr (va_up w.O b (va_cpy (w.O a) (w.O b) sp dp n) b)))))
  rw [va_up_self]
theorem g_alen (X : GC l G L0 p s m args meth c cc nL own) {a k : Nat} (hk : w.K a = k) (h3 : k = 11 ∨ k = 13 ∨ k = 15) (hd : decode cc pc = .ok (.arraylength, 1))
    (kk : ∀ v : Int32, v = nI (w.N a) → Gw l G L0 p e R s m args below meth c nL cells slots Q w (pc + 1) lv (.int v :: st)) : Gw l G L0 p e R s m args below meth c nL cells slots Q w pc lv (.ref a :: st) := by
  intro H locs ls hG hS hl
  rcases h3 with h3 | h3 | h3 <;> subst h3
  · exact va_alen X.1.1 X.1.2.1 X.2.2.2.2.1 (gw_one hG hk (by decide) (ee := .inl (G.2.1, w.N a, .inl (w.A a))) rfl) 0 0 rfl rfl rfl hd (kk _ rfl H locs ls hG hS hl)
  · exact va_alen X.1.1 X.1.2.1 X.2.2.2.2.1 (gw_one hG hk (by decide) (ee := .inl (G.2.2.2.1, w.N a, .inr (.inr (.inr (.inr (w.O a)))))) rfl) 0 2 rfl rfl rfl hd (kk _ rfl H locs ls hG hS hl)
  · have hG0 := hG
    obtain ⟨L, hL, hP, hD, h0, h1, h2⟩ := hG
    have hae : a = G.2.2.2.2.2 := (h0 a).mp hk
    have hz : w.N a = 0 := by rw [hae]; exact h1
    obtain ⟨cell, q1, q2, q3, q4⟩ := X.2.2.2.2.2.1.2.2.2
    rw [← hae] at q1 q4
    have q5 : H[a]? = some cell := by rw [hS.2.1 a (Array.getElem?_eq_some_iff.mp q1).1 q4]; exact q1
    exact W.alen (n := nI (w.N a)) X.1.1 X.1.2.1 q5 q2 (by rw [q3, hz]; rfl) rfl rfl hd (kk _ rfl H locs ls hG0 hS hl)
-- ===== making
theorem g_new (X : GC l G L0 p s m args meth c cc nL own) {C : String} {T : u_T} {N ci k index : Nat} {fs : List Value} (ty : Nat → FieldType) (hty : ∀ k, k < N → parseFieldDescriptor (T k).2.2.1 = some (ty k)) (hin : ∀ x ∈ u_ws C T N, x ∈ wAll) (hc : vwCl[ci]? = some (C, T, N)) (h0 : k ≠ 0 ∧ k ≠ 15) (hfs : ∀ j, j < N → defaultValue (ty j) = vp_V fs j) (he : ∀ a, wE G (w.new k a) k a = .inr (ci, fs))
    (q1 : Cond.classLink own index C ∈ wAll) (q2 : Cond.instantiable C N ∈ wAll) (q3 : Cond.initialized C ∈ wAll) (hcells : cells + 1 ≤ R.cells) (hslots : slots + N ≤ R.slots) (hd : decode cc pc = .ok (.new index, 3))
    (kk : ∀ a : Nat, w.K a = 0 → ∀ w1 : Wd, w1 = w.new k a → Gw l G L0 p e R s m args below meth c nL (cells + 1) (slots + N) Q w1 (pc + 3) lv (va_rf (some a) :: st)) : Gw l G L0 p e R s m args below meth c nL cells slots Q w pc lv st := by
  intro H locs ls hG hS hl
  obtain ⟨L, hL, hP, hD, h15⟩ := hG
  refine va_new X.1.1 X.1.2.1 X.1.2.2.2.2 hin ty hty X.1.2.2.2.1 (X.1.2.2.2.2 _ q1) (X.1.2.2.2.2 _ q2) (X.1.2.2.2.2 _ q3) X.2.2.2.2.1 hP hD hS (fun q h => Nat.le_trans X.2.2.2.1 h) hc hfs hcells hslots hd (fun a H1 hP1 hD1 hS1 => ?_)
  obtain ⟨haL, haA⟩ := gw_new hD1
  have haK : w.K a = 0 := by
    rcases Nat.decEq (w.K a) 0 with h | h
    · exfalso
      rcases Nat.decEq (w.K a) 15 with h2 | h2
      · exact haL ((hL a).mpr ⟨h, h2⟩)
      · have h3 := (h15.1 a).mp h2
        have h4 := h15.2.2
        have h5 : L0 ≤ a := haA
        omega
    · exact h
  exact kk a haK _ rfl H1 locs ls (gw_push hL haL h15 X.2.2.2.1 hS hS1 haA hP1 hD1 h0 (fun b => rfl) (fun b hb => rfl) (he a).symm (fun b hb => wE_n hb)) hS1 hl
theorem g_newA (X : GC l G L0 p s m args meth c cc nL own) {atype : ArrayType} {ty : FieldType} {k t0 n : Nat} {i : Int32} {cA : ClassId} {a0 : vp_A} (q1 : Cond.arrayClass (newarray.typeOf atype) ∈ wAll) (hty : newarray.typeOf atype = ty) (ht : (gTys G)[t0]? = some (cA, ty)) (hobj : ∀ C, ty ≠ .object C) (h0 : k ≠ 0 ∧ k ≠ 15) (ha0 : ∀ cA : ClassId, vp_cell cA a0 = arrV cA n (fun _ => defaultValue ty)) (hi : i = nI n) (hn : n ≤ 65536) (hby : componentBytes ty ≤ 8) (he : ∀ a, wE G (w.newA k a n) k a = .inl (cA, a0)) (hcells : cells + 1 ≤ R.cells) (hslots : slots + n ≤ R.slots) (hd : decode cc pc = .ok (.newarray atype, 2))
    (kk : ∀ a : Nat, w.K a = 0 → ∀ w1 : Wd, w1 = w.newA k a n → Gw l G L0 p e R s m args below meth c nL (cells + 1) (slots + n) Q w1 (pc + 2) lv (va_rf (some a) :: st)) : Gw l G L0 p e R s m args below meth c nL cells slots Q w pc lv (.int i :: st) := by
  intro H locs ls hG hS hl
  subst hi
  obtain ⟨L, hL, hP, hD, h15⟩ := hG
  refine va_newa X.1.1 X.1.2.1 (X.1.2.2.2.2 _ q1) hty X.2.2.2.2.1 hP hD hS (fun q h => Nat.le_trans X.2.2.2.1 h) ha0 (nI_pos (by omega)) (nI_clamp (by omega)) (Nat.le_trans (Nat.mul_le_mul hn hby) (by decide)) hcells hslots hd (fun a cA2 H1 hK1 hP1 hD1 hS1 => ?_)
  have e1 : cA2 = cA := by
    have h1 := (hK1.2 (gTys G).length (cA2, ty) (by simp)).2
    have h2 := (X.2.2.2.2.1.2 t0 _ ht).2
    cases ty <;> first | exact Option.some.inj (h1.symm.trans h2) | exact absurd rfl (hobj _)
  subst e1
  obtain ⟨haL, haA⟩ := gw_new hD1
  have haK : w.K a = 0 := by
    rcases Nat.decEq (w.K a) 0 with h | h
    · exfalso
      rcases Nat.decEq (w.K a) 15 with h2 | h2
      · exact haL ((hL a).mpr ⟨h, h2⟩)
      · have h3 := (h15.1 a).mp h2
        have h4 := h15.2.2
        have h5 : L0 ≤ a := haA
        omega
    · exact h
  exact kk a haK _ rfl H1 locs ls (gw_push hL haL h15 X.2.2.2.1 hS hS1 haA hP1 hD1 h0 (fun b => rfl) (fun b hb => va_up_ne _ _ hb) (he a).symm (fun b hb => wE_nA hb)) hS1 hl
theorem g_newO (X : GC l G L0 p s m args meth c cc nL own) {n index : Nat} {i : Int32} (q1 : Cond.classLink own index "java/lang/Object" ∈ wAll) (hi : i = nI n) (hn : n ≤ 65536) (hcells : cells + 1 ≤ R.cells) (hslots : slots + n ≤ R.slots) (hd : decode cc pc = .ok (.anewarray index, 3))
    (kk : ∀ a : Nat, w.K a = 0 → ∀ w1 : Wd, w1 = w.newA 13 a n → Gw l G L0 p e R s m args below meth c nL (cells + 1) (slots + n) Q w1 (pc + 3) lv (va_rf (some a) :: st)) : Gw l G L0 p e R s m args below meth c nL cells slots Q w pc lv (.int i :: st) := by
  intro H locs ls hG hS hl
  subst hi
  obtain ⟨L, hL, hP, hD, h15⟩ := hG
  refine va_newq X.1.1 X.1.2.1 X.1.2.2.2.1 (X.1.2.2.2.2 _ q1) X.2.2.2.2.2.2.2.2.1 X.2.2.2.2.1 hP hD hS (fun q h => Nat.le_trans X.2.2.2.1 h) (nI_pos (by omega)) (nI_clamp (by omega)) (by omega) hcells hslots hd (fun a cA2 H1 hK1 hP1 hD1 hS1 => ?_)
  have e1 : cA2 = G.2.2.2.1 := by
    obtain ⟨-, -, -, -, -, h1⟩ := (hK1.2 (gTys G).length (cA2, .object "java/lang/Object") (by simp)).2
    obtain ⟨-, -, -, -, -, h2⟩ := (X.2.2.2.2.1.2 2 _ rfl).2
    exact Option.some.inj (h1.symm.trans h2)
  subst e1
  obtain ⟨haL, haA⟩ := gw_new hD1
  have haK : w.K a = 0 := by
    rcases Nat.decEq (w.K a) 0 with h | h
    · exfalso
      rcases Nat.decEq (w.K a) 15 with h2 | h2
      · exact haL ((hL a).mpr ⟨h, h2⟩)
      · have h3 := (h15.1 a).mp h2
        have h4 := h15.2.2
        have h5 : L0 ≤ a := haA
        omega
    · exact h
  refine kk a haK _ rfl H1 locs ls (gw_push hL haL h15 X.2.2.2.1 hS hS1 haA hP1 hD1 (k := 13) (by decide) (fun b => rfl) (fun b hb => va_up_ne _ _ hb) ?_ (fun b hb => wE_nA hb)) hS1 hl
  show (Sum.inl (G.2.2.2.1, n, .inr (.inr (.inr (.inr (fun _ => none))))) : va_E) = Sum.inl (G.2.2.2.1, va_up w.N a n a, .inr (.inr (.inr (.inr (fun j => if a = a then none else w.O a j)))))
  rw [va_up_self]
  simp
/-- ArrayList's empty row -/
theorem g_empty (X : GC l G L0 p s m args meth c cc nL own) {index : Nat} (q1 : Cond.fieldLink own index "java/util/ArrayList" "DEFAULTCAPACITY_EMPTY_ELEMENTDATA" "[Ljava/lang/Object;" ∈ wAll) (hd : decode cc pc = .ok (.getstatic index, 3))
    (kk : ∀ a : Nat, w.K a = 15 → w.N a = 0 → (∀ b, w.K b = 15 → b = a) → Gw l G L0 p e R s m args below meth c nL cells slots Q w (pc + 3) lv (va_rf (some a) :: st)) : Gw l G L0 p e R s m args below meth c nL cells slots Q w pc lv st := by
  intro H locs ls hG hS hl
  have hG0 := hG
  obtain ⟨L, hL, hP, hD, h0, h1, h2⟩ := hG
  exact va_gets X.1.1 X.1.2.1 X.2.2.2.2.2.1.2.2.1 hS X.1.2.2.2.1 (X.1.2.2.2.2 _ q1) (fun _ h => h) hd (kk _ ((h0 _).mpr rfl) h1 (fun b hb => (h0 b).mp hb) H locs ls hG0 hS hl)
theorem g_castS (X : GC l G L0 p s m args meth c cc nL own) {C : String} {T : u_T} {N ci k index : Nat} {r : Option Nat} (hc : vwCl[ci]? = some (C, T, N)) (h0 : k ≠ 0 ∧ k ≠ 15) (he : ∀ a, ∃ fs, wE G w k a = .inr (ci, fs)) (hr : ∀ a, r = some a → w.K a = k) (q1 : Cond.classLink own index C ∈ wAll) (hd : decode cc pc = .ok (.checkcast index, 3))
    (kk : Gw l G L0 p e R s m args below meth c nL cells slots Q w (pc + 3) lv (va_rf r :: st)) : Gw l G L0 p e R s m args below meth c nL cells slots Q w pc lv (va_rf r :: st) := by
  intro H locs ls hG hS hl
  cases r with
  | none => exact lv_castN X.1.1 X.1.2.1 hd (kk H locs ls hG hS hl)
  | some a =>
    obtain ⟨fs, he⟩ := he a
    exact va_castS X.1.1 X.1.2.1 X.1.2.2.2.1 (X.1.2.2.2.2 _ q1) (X.2.2.2.2.1.1 ci _ hc).2 (va_recv X.2.2.2.2.1 (gw_one hG (hr a rfl) h0 he) (q0 := 0) hc rfl) hd (kk H locs ls hG hS hl)
theorem g_lcmp (X : GC l G L0 p s m args meth c cc nL own) {x y : Int64} (hd : decode cc pc = .ok (.lcmp, 1))
    (kk : Gw l G L0 p e R s m args below meth c nL cells slots Q w (pc + 1) lv (.int (lg_cmp x y) :: st)) : Gw l G L0 p e R s m args below meth c nL cells slots Q w pc lv (.long y :: .long x :: st) :=
  fun H locs ls hG hS hl => W.lcmp X.1.1 X.1.2.1 hd (kk H locs ls hG hS hl)
end GR
end
section
def gN2 : List String := ["java/lang/RuntimeException", "java/lang/Exception"]
def gNG : List Cond := gCast.map (fun q => Cond.castable q.1 q.2) ++ gDecl.map Cond.declares
theorem at_IAE_g : ∀ x ∈ (vx_atS "SusuRing" 68 "java/lang/IllegalArgumentException" gN2).filter goodWord, x ∈ wAll := by decide +kernel
theorem at_IAE_b : ∀ x ∈ (vx_atS "SusuRing" 68 "java/lang/IllegalArgumentException" gN2).filter (fun x => !goodWord x), x ∈ gNG := by decide +kernel
theorem at_IAE_o : ∀ x ∈ vx_atS "SusuRing" 68 "java/lang/IllegalArgumentException" gN2, vx_ot x = true := by decide +kernel
theorem at_ISE_g : ∀ x ∈ (vx_atS "SusuRing" 32 "java/lang/IllegalStateException" gN2).filter goodWord, x ∈ wAll := by decide +kernel
theorem at_ISE_b : ∀ x ∈ (vx_atS "SusuRing" 32 "java/lang/IllegalStateException" gN2).filter (fun x => !goodWord x), x ∈ gNG := by decide +kernel
theorem at_ISE_o : ∀ x ∈ vx_atS "SusuRing" 32 "java/lang/IllegalStateException" gN2, vx_ot x = true := by decide +kernel
theorem at_IOB_g : ∀ x ∈ (vx_atS "SusuRing" 243 "java/lang/IndexOutOfBoundsException" gN2).filter goodWord, x ∈ wAll := by decide +kernel
theorem at_IOB_b : ∀ x ∈ (vx_atS "SusuRing" 243 "java/lang/IndexOutOfBoundsException" gN2).filter (fun x => !goodWord x), x ∈ gNG := by decide +kernel
theorem at_IOB_o : ∀ x ∈ vx_atS "SusuRing" 243 "java/lang/IndexOutOfBoundsException" gN2, vx_ot x = true := by decide +kernel
theorem gw_kept {G : GT} {L0 : Nat} {w : Wd} {H H1 : Heap} (h : GWd G L0 w H) (h1 : ∀ q : Nat, q < H.size → H1[q]? = H[q]?) : GWd G L0 w H1 := by
  obtain ⟨L, hL, hP, hD, h15⟩ := h
  exact ⟨L, hL, hP.kept (fun k q hk => h1 q.1 (hP k q hk).lt), hD, h15⟩
-- ===== contracts
def lcEnum : Nat → List (Int32 ⊕ Option Nat) → Lc
  | _, [] => []
  | i, v :: t => (i, v) :: lcEnum (i + 1) t
theorem lc_len : ∀ (q : List (Int32 ⊕ Option Nat)), (lg_sl (q.map lcV)).length = q.length
  | [] => rfl
  | v :: t => by
    have h := lc_len t
    simp [lg_sl, lcV_cat] at h ⊢
    exact h
theorem lc_args : ∀ (q : List (Int32 ⊕ Option Nat)) (i : Nat), lv_args i (q.map lcV) = lvV (lcEnum i q)
  | [], _ => rfl
  | v :: t, i => by
    have h := lc_args t (i + 1)
    simp [lv_args, lcEnum, lvV, lcV_cat] at h ⊢
    exact h
def gPc (G : GT) (L0 : Nat) (As : List Value) (w : Wd) : Array Value → State → Prop := va_Pc As (fun U => GS G L0 U ∧ GWd G L0 w U.heap)
theorem gPc_blind {G : GT} {L0 : Nat} {As : List Value} {w : Wd} : FrameBlind (gPc G L0 As w) := fun _ _ _ _ h => ⟨h.1, GS.same h.2.1 rfl rfl, h.2.2⟩
def gQi (G : GT) (L0 : Nat) (Q : Int32 → Wd → Prop) : Array Value → State → Outcome → State → Prop := va_Qi Q (fun w1 t => GWd G L0 w1 t.heap) (GA L0)
def gQq (G : GT) (L0 : Nat) (Q : Option Nat → Wd → Prop) : Array Value → State → Outcome → State → Prop := va_Qq Q (fun w1 t => GWd G L0 w1 t.heap) (GA L0)
def gQv (G : GT) (L0 : Nat) (Q : Wd → Prop) : Array Value → State → Outcome → State → Prop := va_Qv Q (fun w1 t => GWd G L0 w1 t.heap) (GA L0)
def gXC (G : GT) (L0 : Nat) (QX : String → Wd → Prop) : String → State → State → Prop := vx_X (fun _ : Wd => True) (fun E w1 t => QX E w1 ∧ GWd G L0 w1 t.heap) (GA L0)
def GMi (l : Launch) (G : GT) (L0 : Nat) (y : MethodName) (cc : ByteArray) (nL : Nat) (ret : Option FieldType) (rm : Room) (As : List Value) (w : Wd) (Q : Int32 → Wd → Prop) : Prop := Met l y (.code y cc nL ret :: wAll) rm (gPc G L0 As w) (gQi G L0 Q) rm.cells rm.slots (GA L0)
def GMq (l : Launch) (G : GT) (L0 : Nat) (y : MethodName) (cc : ByteArray) (nL : Nat) (ret : Option FieldType) (rm : Room) (As : List Value) (w : Wd) (Q : Option Nat → Wd → Prop) : Prop := Met l y (.code y cc nL ret :: wAll) rm (gPc G L0 As w) (gQq G L0 Q) rm.cells rm.slots (GA L0)
def GMv (l : Launch) (G : GT) (L0 : Nat) (y : MethodName) (cc : ByteArray) (nL : Nat) (ret : Option FieldType) (rm : Room) (As : List Value) (w : Wd) (Q : Wd → Prop) : Prop := Met l y (.code y cc nL ret :: wAll) rm (gPc G L0 As w) (gQv G L0 Q) rm.cells rm.slots (GA L0)
def GXi (l : Launch) (G : GT) (L0 : Nat) (y : MethodName) (cc : ByteArray) (nL : Nat) (ret : Option FieldType) (rm : Room) (As : List Value) (w : Wd) (Q : Int32 → Wd → Prop) (QX : String → Wd → Prop) : Prop := vx_Met l y (.code y cc nL ret :: wAll) rm (gPc G L0 As w) (gQi G L0 Q) (gXC G L0 QX) rm.cells rm.slots (GA L0)
def GXq (l : Launch) (G : GT) (L0 : Nat) (y : MethodName) (cc : ByteArray) (nL : Nat) (ret : Option FieldType) (rm : Room) (As : List Value) (w : Wd) (Q : Option Nat → Wd → Prop) (QX : String → Wd → Prop) : Prop := vx_Met l y (.code y cc nL ret :: wAll) rm (gPc G L0 As w) (gQq G L0 Q) (gXC G L0 QX) rm.cells rm.slots (GA L0)
def GXv (l : Launch) (G : GT) (L0 : Nat) (y : MethodName) (cc : ByteArray) (nL : Nat) (ret : Option FieldType) (rm : Room) (As : List Value) (w : Wd) (Q : Wd → Prop) (QX : String → Wd → Prop) : Prop := vx_Met l y (.code y cc nL ret :: wAll) rm (gPc G L0 As w) (gQv G L0 Q) (gXC G L0 QX) rm.cells rm.slots (GA L0)
theorem g_enter {l : Launch} {G : GT} {L0 : Nat} {y : MethodName} {cc : ByteArray} {nL : Nat} {ret : Option FieldType} {rm : Room} {As : List Value} {w : Wd} {Qc : Array Value → State → Outcome → State → Prop} (hst : l.stackTraces = false) (hy : plainName y.cls = true) (q : List (Int32 ⊕ Option Nat)) (hq : As = q.map lcV) (hn : q.length ≤ nL)
    (body : ∀ (p : Program) (e : Env) (s : State) (m : MethodId) (args : Array Value) (below : List Frame) (meth : Method) (c : Code), GC l G L0 p s m args meth c cc nL y.cls → meth.sig.returnType = ret → meth.name = y.name → Gw l G L0 p e rm s m args below meth c nL 0 0 (MQ below Qc args s rm.cells rm.slots (GA L0)) w 0 (lcEnum 0 q) []) : Met l y (.code y cc nL ret :: wAll) rm (gPc G L0 As w) Qc rm.cells rm.slots (GA L0) := by
  refine Met.ofW (cc := cc) (maxL := nL) (ret := ret) hy rfl ?_
  intro p e s m args below meth c s₁ B hml hv
  obtain ⟨rfl, hGS, hG⟩ := hv
  have hts := atoms_spec (ws := .code y cc nL ret :: wAll) B.pre
  have hX : GC l G L0 p s m As.toArray meth c cc nL y.cls := ⟨⟨B.exec, B.bytes, hml, findClass_of_methodNamed B.named, fun x hx => hts x (List.mem_cons_of_mem _ hx)⟩, B.notSynchronized, hst, hGS⟩
  have h := body p e s m As.toArray below meth c hX B.returns (name_of_methodNamed B.named B.method).1 s.heap [] _ hG va_S.rf (by rw [← lc_args, ← hq]; exact lv_entry As (by rw [hq, lc_len]; exact hn))
  rw [lg_entry_eq]
  exact h
theorem g_enterX {l : Launch} {G : GT} {L0 : Nat} {y : MethodName} {cc : ByteArray} {nL : Nat} {ret : Option FieldType} {rm : Room} {As : List Value} {w : Wd} {Qc : Array Value → State → Outcome → State → Prop} {XC : String → State → State → Prop} (hst : l.stackTraces = false) (hy : plainName y.cls = true) (q : List (Int32 ⊕ Option Nat)) (hq : As = q.map lcV) (hn : q.length ≤ nL)
    (body : ∀ (p : Program) (e : Env) (s : State) (m : MethodId) (args : Array Value) (below : List Frame) (meth : Method) (c : Code), GC l G L0 p s m args meth c cc nL y.cls → meth.sig.returnType = ret → meth.name = y.name → (∀ x ∈ c.exceptionTable.toList, False) → Gw l G L0 p e rm s m args below meth c nL 0 0 (vx_MQ below Qc XC args s rm.cells rm.slots (GA L0)) w 0 (lcEnum 0 q) []) : vx_Met l y (.code y cc nL ret :: wAll) rm (gPc G L0 As w) Qc XC rm.cells rm.slots (GA L0) := by
  refine vx_ofW (cc := cc) (maxL := nL) (ret := ret) hy rfl ?_
  intro p e s m args below meth c s₁ B hml htab hv
  obtain ⟨rfl, hGS, hG⟩ := hv
  have hts := atoms_spec (ws := .code y cc nL ret :: wAll) B.pre
  have hX : GC l G L0 p s m As.toArray meth c cc nL y.cls := ⟨⟨B.exec, B.bytes, hml, findClass_of_methodNamed B.named, fun x hx => hts x (List.mem_cons_of_mem _ hx)⟩, B.notSynchronized, hst, hGS⟩
  have h := body p e s m As.toArray below meth c hX B.returns (name_of_methodNamed B.named B.method).1 htab s.heap [] _ hG va_S.rf (by rw [← lc_args, ← hq]; exact lv_entry As (by rw [hq, lc_len]; exact hn))
  rw [lg_entry_eq]
  exact h
section GR2
variable {l : Launch} {G : GT} {L0 : Nat} {p : Program} {e : Env} {R : Room} {s : State} {m : MethodId} {args : Array Value} {below : List Frame} {meth : Method} {c : Code} {cc : ByteArray} {nL : Nat} {own : String} {cells slots mc ms : Nat} {Q : State → Prop} {w : Wd} {pc : Nat} {lv : Lc} {st : List Value}
theorem nar_z {v : Int32} (h : v = 0 ∨ v = 1) : narrow .boolean (.int v) = .int v := by
  rcases h with h | h <;> rw [h] <;> decide
theorem fit_z {v : Int32} (h : v = 0 ∨ v = 1) : fits .boolean (.int v) = true := by
  rcases h with h | h <;> rw [h] <;> decide
theorem g_iret (X : GC l G L0 p s m args meth c cc nL own) {v : Int32} {Q : Int32 → Wd → Prop} (hr : meth.sig.returnType = some .int) (h1 : cells ≤ mc) (h2 : slots ≤ ms) (hd : decode cc pc = .ok (.ireturn, 1)) (hq : Q v w) : Gw l G L0 p e R s m args below meth c nL cells slots (MQ below (gQi G L0 Q) args s mc ms (GA L0)) w pc lv [.int v] :=
  fun H locs ls hG hS hl => W.widen h1 h2 ((W.iret X.1.1 X.1.2.1 hr (fun t ht hW => ⟨⟨v, w, rfl, hq, by show GWd G L0 w t.heap; rw [ht]; exact hG⟩, hS.F ht⟩) hS.2.2 hd X.2.1))
theorem g_zret (X : GC l G L0 p s m args meth c cc nL own) {v : Int32} {Q : Int32 → Wd → Prop} (hr : meth.sig.returnType = some .boolean) (h1 : cells ≤ mc) (h2 : slots ≤ ms) (hd : decode cc pc = .ok (.ireturn, 1)) (hz : v = 0 ∨ v = 1) (hq : Q v w) : Gw l G L0 p e R s m args below meth c nL cells slots (MQ below (gQi G L0 Q) args s mc ms (GA L0)) w pc lv [.int v] :=
  fun H locs ls hG hS hl => W.widen h1 h2 ((W.zret X.1.1 X.1.2.1 hr (nar_z hz) (fun t ht hW => ⟨⟨v, w, rfl, hq, by show GWd G L0 w t.heap; rw [ht]; exact hG⟩, hS.F ht⟩) hS.2.2 hd X.2.1))
theorem g_vret (X : GC l G L0 p s m args meth c cc nL own) {Q : Wd → Prop} (hr : meth.sig.returnType = none) (h1 : cells ≤ mc) (h2 : slots ≤ ms) (hd : decode cc pc = .ok (.return_, 1)) (hq : Q w) : Gw l G L0 p e R s m args below meth c nL cells slots (MQ below (gQv G L0 Q) args s mc ms (GA L0)) w pc lv [] :=
  fun H locs ls hG hS hl => W.widen h1 h2 ((W.vret X.1.1 X.1.2.1 hr (fun t ht hW => ⟨⟨w, rfl, hq, by show GWd G L0 w t.heap; rw [ht]; exact hG⟩, hS.F ht⟩) hS.2.2 hd X.2.1))
theorem g_aret (X : GC l G L0 p s m args meth c cc nL own) {v : Option Nat} {rt : FieldType} {Q : Option Nat → Wd → Prop} (hr : meth.sig.returnType = some rt) (hrt : (∃ n, rt = .object n) ∨ ∃ t, rt = .array t) (h1 : cells ≤ mc) (h2 : slots ≤ ms) (hd : decode cc pc = .ok (.areturn, 1)) (hq : Q v w) : Gw l G L0 p e R s m args below meth c nL cells slots (MQ below (gQq G L0 Q) args s mc ms (GA L0)) w pc lv [va_rf v] :=
  fun H locs ls hG hS hl => W.widen h1 h2 ((W.aret X.1.1 X.1.2.1 hr hrt (by cases v with | none => exact Or.inl rfl | some a => exact Or.inr ⟨a, rfl⟩) (fun t ht hW => ⟨⟨v, w, rfl, hq, by show GWd G L0 w t.heap; rw [ht]; exact hG⟩, hS.F ht⟩) hS.2.2 hd X.2.1))
theorem g_iretX (X : GC l G L0 p s m args meth c cc nL own) {v : Int32} {Q : Int32 → Wd → Prop} {XC : String → State → State → Prop} (hr : meth.sig.returnType = some .int) (h1 : cells ≤ mc) (h2 : slots ≤ ms) (hd : decode cc pc = .ok (.ireturn, 1)) (hq : Q v w) : Gw l G L0 p e R s m args below meth c nL cells slots (vx_MQ below (gQi G L0 Q) XC args s mc ms (GA L0)) w pc lv [.int v] :=
  fun H locs ls hG hS hl => W.widen h1 h2 (vx_ret (W.iret X.1.1 X.1.2.1 hr (fun t ht hW => ⟨⟨v, w, rfl, hq, by show GWd G L0 w t.heap; rw [ht]; exact hG⟩, hS.F ht⟩) hS.2.2 hd X.2.1))
theorem g_zretX (X : GC l G L0 p s m args meth c cc nL own) {v : Int32} {Q : Int32 → Wd → Prop} {XC : String → State → State → Prop} (hr : meth.sig.returnType = some .boolean) (h1 : cells ≤ mc) (h2 : slots ≤ ms) (hd : decode cc pc = .ok (.ireturn, 1)) (hz : v = 0 ∨ v = 1) (hq : Q v w) : Gw l G L0 p e R s m args below meth c nL cells slots (vx_MQ below (gQi G L0 Q) XC args s mc ms (GA L0)) w pc lv [.int v] :=
  fun H locs ls hG hS hl => W.widen h1 h2 (vx_ret (W.zret X.1.1 X.1.2.1 hr (nar_z hz) (fun t ht hW => ⟨⟨v, w, rfl, hq, by show GWd G L0 w t.heap; rw [ht]; exact hG⟩, hS.F ht⟩) hS.2.2 hd X.2.1))
theorem g_vretX (X : GC l G L0 p s m args meth c cc nL own) {Q : Wd → Prop} {XC : String → State → State → Prop} (hr : meth.sig.returnType = none) (h1 : cells ≤ mc) (h2 : slots ≤ ms) (hd : decode cc pc = .ok (.return_, 1)) (hq : Q w) : Gw l G L0 p e R s m args below meth c nL cells slots (vx_MQ below (gQv G L0 Q) XC args s mc ms (GA L0)) w pc lv [] :=
  fun H locs ls hG hS hl => W.widen h1 h2 (vx_ret (W.vret X.1.1 X.1.2.1 hr (fun t ht hW => ⟨⟨w, rfl, hq, by show GWd G L0 w t.heap; rw [ht]; exact hG⟩, hS.F ht⟩) hS.2.2 hd X.2.1))
theorem g_aretX (X : GC l G L0 p s m args meth c cc nL own) {v : Option Nat} {rt : FieldType} {Q : Option Nat → Wd → Prop} {XC : String → State → State → Prop} (hr : meth.sig.returnType = some rt) (hrt : (∃ n, rt = .object n) ∨ ∃ t, rt = .array t) (h1 : cells ≤ mc) (h2 : slots ≤ ms) (hd : decode cc pc = .ok (.areturn, 1)) (hq : Q v w) : Gw l G L0 p e R s m args below meth c nL cells slots (vx_MQ below (gQq G L0 Q) XC args s mc ms (GA L0)) w pc lv [va_rf v] :=
  fun H locs ls hG hS hl => W.widen h1 h2 (vx_ret (W.aret X.1.1 X.1.2.1 hr hrt (by cases v with | none => exact Or.inl rfl | some a => exact Or.inr ⟨a, rfl⟩) (fun t ht hW => ⟨⟨v, w, rfl, hq, by show GWd G L0 w t.heap; rw [ht]; exact hG⟩, hS.F ht⟩) hS.2.2 hd X.2.1))
theorem g_callV_i (X : GC l G L0 p s m args meth c cc nL own) {y : MethodName} {bytes : ByteArray} {maxL n index : Nat} {ret : Option FieldType} {rm : Room} {b : Nat} {C : String} {T : u_T} {N ci k : Nat} {fs : List Value} {As stk : List Value} {Q1 : Int32 → Wd → Prop} (hM : GMi l G L0 y bytes maxL ret rm (.ref b :: As) w Q1) (hc : vwCl[ci]? = some (C, T, N)) (h0 : k ≠ 0 ∧ k ≠ 15) (hk : w.K b = k) (he : wE G w k b = .inr (ci, fs)) 
    (q1 : Cond.methodLink own index y ∈ wAll) (q2 : Cond.instanceMethod y ∈ wAll) (q3 : Cond.selects C y y ∈ wAll) (q4 : Cond.initialized y.cls ∈ wAll) (q5 : Cond.code y bytes maxL ret ∈ wAll) (hd0 : y.cls ≠ "java/lang/invoke/MethodHandle" ∧ y.cls ≠ "java/lang/invoke/VarHandle" ∧ (parseMethodDescriptor y.desc).map (fun d => d.parameters.length) = some n) (hR : rm.frames + 1 ≤ R.frames ∧ 8 + (maxL + 11) + rm.locals ≤ R.locals)
    (hn : As.length = n) (hst : stk = As.reverse ++ .ref b :: st) (hW : (st.map fun v => v.category).sum ≤ 8) (hf : cells + rm.cells ≤ R.cells ∧ slots + rm.slots ≤ R.slots) (hd : decode cc pc = .ok (.invokevirtual index, 3))
    (kk : ∀ (r : Int32) (w1 : Wd), Q1 r w1 → Gw l G L0 p e R s m args below meth c nL (cells + rm.cells) (slots + rm.slots) Q w1 (pc + 3) lv (.int r :: st)) : Gw l G L0 p e R s m args below meth c nL cells slots Q w pc lv stk := by
  intro H locs ls hG hS hl
  subst hst
  exact va_calli (va_runV X.1 hM ⟨callB_of (ws' := wAll) n X.1.2.2.2.2 (wA_good q5) rfl rfl rfl (X.1.2.2.2.2 _ q4) (X.1.2.2.2.2 _ q1) hd0 hR, X.1.2.2.2.2 _ q2, X.1.2.2.2.2 _ q3⟩ ⟨gPc_blind, va_recv X.2.2.2.2.1 (gw_one hG hk h0 he) (q0 := 0) hc rfl, fun U hU hW => ⟨rfl, GS.call X.2.2.2 hS hU hW, by rw [hU]; exact hG⟩⟩ rfl hn hl.1 rfl (lv_room hW) hd hf) hS (fun q _ h => h) (fun q h => h) (fun r u t H1 locs1 ht hvm hq hB hz hk1 hS1 => kk r u hq H1 locs1 ls (by rw [← ht]; exact hB) hS1 hl)
theorem g_callV_q (X : GC l G L0 p s m args meth c cc nL own) {y : MethodName} {bytes : ByteArray} {maxL n index : Nat} {ret : Option FieldType} {rm : Room} {b : Nat} {C : String} {T : u_T} {N ci k : Nat} {fs : List Value} {As stk : List Value} {Q1 : Option Nat → Wd → Prop} (hM : GMq l G L0 y bytes maxL ret rm (.ref b :: As) w Q1) (hc : vwCl[ci]? = some (C, T, N)) (h0 : k ≠ 0 ∧ k ≠ 15) (hk : w.K b = k) (he : wE G w k b = .inr (ci, fs)) 
    (q1 : Cond.methodLink own index y ∈ wAll) (q2 : Cond.instanceMethod y ∈ wAll) (q3 : Cond.selects C y y ∈ wAll) (q4 : Cond.initialized y.cls ∈ wAll) (q5 : Cond.code y bytes maxL ret ∈ wAll) (hd0 : y.cls ≠ "java/lang/invoke/MethodHandle" ∧ y.cls ≠ "java/lang/invoke/VarHandle" ∧ (parseMethodDescriptor y.desc).map (fun d => d.parameters.length) = some n) (hR : rm.frames + 1 ≤ R.frames ∧ 8 + (maxL + 11) + rm.locals ≤ R.locals)
    (hn : As.length = n) (hst : stk = As.reverse ++ .ref b :: st) (hW : (st.map fun v => v.category).sum ≤ 8) (hf : cells + rm.cells ≤ R.cells ∧ slots + rm.slots ≤ R.slots) (hd : decode cc pc = .ok (.invokevirtual index, 3))
    (kk : ∀ (r : Option Nat) (w1 : Wd), Q1 r w1 → Gw l G L0 p e R s m args below meth c nL (cells + rm.cells) (slots + rm.slots) Q w1 (pc + 3) lv (va_rf r :: st)) : Gw l G L0 p e R s m args below meth c nL cells slots Q w pc lv stk := by
  intro H locs ls hG hS hl
  subst hst
  exact va_callq (va_runV X.1 hM ⟨callB_of (ws' := wAll) n X.1.2.2.2.2 (wA_good q5) rfl rfl rfl (X.1.2.2.2.2 _ q4) (X.1.2.2.2.2 _ q1) hd0 hR, X.1.2.2.2.2 _ q2, X.1.2.2.2.2 _ q3⟩ ⟨gPc_blind, va_recv X.2.2.2.2.1 (gw_one hG hk h0 he) (q0 := 0) hc rfl, fun U hU hW => ⟨rfl, GS.call X.2.2.2 hS hU hW, by rw [hU]; exact hG⟩⟩ rfl hn hl.1 rfl (lv_room hW) hd hf) hS (fun q _ h => h) (fun q h => h) (fun r u t H1 locs1 ht hvm hq hB hz hk1 hS1 => kk r u hq H1 locs1 ls (by rw [← ht]; exact hB) hS1 hl)
theorem g_callV_v (X : GC l G L0 p s m args meth c cc nL own) {y : MethodName} {bytes : ByteArray} {maxL n index : Nat} {ret : Option FieldType} {rm : Room} {b : Nat} {C : String} {T : u_T} {N ci k : Nat} {fs : List Value} {As stk : List Value} {Q1 : Wd → Prop} (hM : GMv l G L0 y bytes maxL ret rm (.ref b :: As) w Q1) (hc : vwCl[ci]? = some (C, T, N)) (h0 : k ≠ 0 ∧ k ≠ 15) (hk : w.K b = k) (he : wE G w k b = .inr (ci, fs)) 
    (q1 : Cond.methodLink own index y ∈ wAll) (q2 : Cond.instanceMethod y ∈ wAll) (q3 : Cond.selects C y y ∈ wAll) (q4 : Cond.initialized y.cls ∈ wAll) (q5 : Cond.code y bytes maxL ret ∈ wAll) (hd0 : y.cls ≠ "java/lang/invoke/MethodHandle" ∧ y.cls ≠ "java/lang/invoke/VarHandle" ∧ (parseMethodDescriptor y.desc).map (fun d => d.parameters.length) = some n) (hR : rm.frames + 1 ≤ R.frames ∧ 8 + (maxL + 11) + rm.locals ≤ R.locals)
    (hn : As.length = n) (hst : stk = As.reverse ++ .ref b :: st) (hW : (st.map fun v => v.category).sum ≤ 8) (hf : cells + rm.cells ≤ R.cells ∧ slots + rm.slots ≤ R.slots) (hd : decode cc pc = .ok (.invokevirtual index, 3))
    (kk : ∀ w1 : Wd, Q1 w1 → Gw l G L0 p e R s m args below meth c nL (cells + rm.cells) (slots + rm.slots) Q w1 (pc + 3) lv (st)) : Gw l G L0 p e R s m args below meth c nL cells slots Q w pc lv stk := by
  intro H locs ls hG hS hl
  subst hst
  exact va_callv (va_runV X.1 hM ⟨callB_of (ws' := wAll) n X.1.2.2.2.2 (wA_good q5) rfl rfl rfl (X.1.2.2.2.2 _ q4) (X.1.2.2.2.2 _ q1) hd0 hR, X.1.2.2.2.2 _ q2, X.1.2.2.2.2 _ q3⟩ ⟨gPc_blind, va_recv X.2.2.2.2.1 (gw_one hG hk h0 he) (q0 := 0) hc rfl, fun U hU hW => ⟨rfl, GS.call X.2.2.2 hS hU hW, by rw [hU]; exact hG⟩⟩ rfl hn hl.1 rfl (lv_room hW) hd hf) hS (fun q _ h => h) (fun q h => h) (fun u t H1 locs1 ht hvm hq hB hz hk1 hS1 => kk u hq H1 locs1 ls (by rw [← ht]; exact hB) hS1 hl)
theorem g_callS_i (X : GC l G L0 p s m args meth c cc nL own) {y : MethodName} {bytes : ByteArray} {maxL n index : Nat} {ret : Option FieldType} {rm : Room} {As stk : List Value} {Q1 : Int32 → Wd → Prop} (hM : GMi l G L0 y bytes maxL ret rm (As) w Q1) 
    (q1 : Cond.methodLink own index y ∈ wAll) (q3 : Cond.static y ∈ wAll) (q4 : Cond.initialized y.cls ∈ wAll) (q5 : Cond.code y bytes maxL ret ∈ wAll) (hd0 : y.cls ≠ "java/lang/invoke/MethodHandle" ∧ y.cls ≠ "java/lang/invoke/VarHandle" ∧ (parseMethodDescriptor y.desc).map (fun d => d.parameters.length) = some n) (hR : rm.frames + 1 ≤ R.frames ∧ 8 + (maxL + 11) + rm.locals ≤ R.locals)
    (hn : As.length = n) (hst : stk = As.reverse ++ st) (hW : (st.map fun v => v.category).sum ≤ 8) (hf : cells + rm.cells ≤ R.cells ∧ slots + rm.slots ≤ R.slots) (hd : decode cc pc = .ok (.invokestatic index, 3))
    (kk : ∀ (r : Int32) (w1 : Wd), Q1 r w1 → Gw l G L0 p e R s m args below meth c nL (cells + rm.cells) (slots + rm.slots) Q w1 (pc + 3) lv (.int r :: st)) : Gw l G L0 p e R s m args below meth c nL cells slots Q w pc lv stk := by
  intro H locs ls hG hS hl
  subst hst
  exact va_calli (va_runS X.1 hM ⟨callB_of (ws' := wAll) n X.1.2.2.2.2 (wA_good q5) rfl rfl rfl (X.1.2.2.2.2 _ q4) (X.1.2.2.2.2 _ q1) hd0 hR, X.1.2.2.2.2 _ q3⟩ ⟨gPc_blind, fun U hU hW => ⟨rfl, GS.call X.2.2.2 hS hU hW, by rw [hU]; exact hG⟩⟩ rfl hn hl.1 rfl (lv_room hW) hd hf) hS (fun q _ h => h) (fun q h => h) (fun r u t H1 locs1 ht hvm hq hB hz hk1 hS1 => kk r u hq H1 locs1 ls (by rw [← ht]; exact hB) hS1 hl)
theorem g_callS_q (X : GC l G L0 p s m args meth c cc nL own) {y : MethodName} {bytes : ByteArray} {maxL n index : Nat} {ret : Option FieldType} {rm : Room} {As stk : List Value} {Q1 : Option Nat → Wd → Prop} (hM : GMq l G L0 y bytes maxL ret rm (As) w Q1) 
    (q1 : Cond.methodLink own index y ∈ wAll) (q3 : Cond.static y ∈ wAll) (q4 : Cond.initialized y.cls ∈ wAll) (q5 : Cond.code y bytes maxL ret ∈ wAll) (hd0 : y.cls ≠ "java/lang/invoke/MethodHandle" ∧ y.cls ≠ "java/lang/invoke/VarHandle" ∧ (parseMethodDescriptor y.desc).map (fun d => d.parameters.length) = some n) (hR : rm.frames + 1 ≤ R.frames ∧ 8 + (maxL + 11) + rm.locals ≤ R.locals)
    (hn : As.length = n) (hst : stk = As.reverse ++ st) (hW : (st.map fun v => v.category).sum ≤ 8) (hf : cells + rm.cells ≤ R.cells ∧ slots + rm.slots ≤ R.slots) (hd : decode cc pc = .ok (.invokestatic index, 3))
    (kk : ∀ (r : Option Nat) (w1 : Wd), Q1 r w1 → Gw l G L0 p e R s m args below meth c nL (cells + rm.cells) (slots + rm.slots) Q w1 (pc + 3) lv (va_rf r :: st)) : Gw l G L0 p e R s m args below meth c nL cells slots Q w pc lv stk := by
  intro H locs ls hG hS hl
  subst hst
  exact va_callq (va_runS X.1 hM ⟨callB_of (ws' := wAll) n X.1.2.2.2.2 (wA_good q5) rfl rfl rfl (X.1.2.2.2.2 _ q4) (X.1.2.2.2.2 _ q1) hd0 hR, X.1.2.2.2.2 _ q3⟩ ⟨gPc_blind, fun U hU hW => ⟨rfl, GS.call X.2.2.2 hS hU hW, by rw [hU]; exact hG⟩⟩ rfl hn hl.1 rfl (lv_room hW) hd hf) hS (fun q _ h => h) (fun q h => h) (fun r u t H1 locs1 ht hvm hq hB hz hk1 hS1 => kk r u hq H1 locs1 ls (by rw [← ht]; exact hB) hS1 hl)
theorem g_callS_v (X : GC l G L0 p s m args meth c cc nL own) {y : MethodName} {bytes : ByteArray} {maxL n index : Nat} {ret : Option FieldType} {rm : Room} {As stk : List Value} {Q1 : Wd → Prop} (hM : GMv l G L0 y bytes maxL ret rm (As) w Q1) 
    (q1 : Cond.methodLink own index y ∈ wAll) (q3 : Cond.static y ∈ wAll) (q4 : Cond.initialized y.cls ∈ wAll) (q5 : Cond.code y bytes maxL ret ∈ wAll) (hd0 : y.cls ≠ "java/lang/invoke/MethodHandle" ∧ y.cls ≠ "java/lang/invoke/VarHandle" ∧ (parseMethodDescriptor y.desc).map (fun d => d.parameters.length) = some n) (hR : rm.frames + 1 ≤ R.frames ∧ 8 + (maxL + 11) + rm.locals ≤ R.locals)
    (hn : As.length = n) (hst : stk = As.reverse ++ st) (hW : (st.map fun v => v.category).sum ≤ 8) (hf : cells + rm.cells ≤ R.cells ∧ slots + rm.slots ≤ R.slots) (hd : decode cc pc = .ok (.invokestatic index, 3))
    (kk : ∀ w1 : Wd, Q1 w1 → Gw l G L0 p e R s m args below meth c nL (cells + rm.cells) (slots + rm.slots) Q w1 (pc + 3) lv (st)) : Gw l G L0 p e R s m args below meth c nL cells slots Q w pc lv stk := by
  intro H locs ls hG hS hl
  subst hst
  exact va_callv (va_runS X.1 hM ⟨callB_of (ws' := wAll) n X.1.2.2.2.2 (wA_good q5) rfl rfl rfl (X.1.2.2.2.2 _ q4) (X.1.2.2.2.2 _ q1) hd0 hR, X.1.2.2.2.2 _ q3⟩ ⟨gPc_blind, fun U hU hW => ⟨rfl, GS.call X.2.2.2 hS hU hW, by rw [hU]; exact hG⟩⟩ rfl hn hl.1 rfl (lv_room hW) hd hf) hS (fun q _ h => h) (fun q h => h) (fun u t H1 locs1 ht hvm hq hB hz hk1 hS1 => kk u hq H1 locs1 ls (by rw [← ht]; exact hB) hS1 hl)
theorem g_callI_v (X : GC l G L0 p s m args meth c cc nL own) {y : MethodName} {bytes : ByteArray} {maxL n index : Nat} {rm : Room} {b : Nat} {As stk : List Value} {Q1 : Wd → Prop} (hM : GMv l G L0 y bytes maxL none rm (.ref b :: As) w Q1) 
    (q1 : Cond.methodLink own index y ∈ wAll) (q2 : Cond.instanceMethod y ∈ wAll) (hy1 : y.name = "<init>") (q4 : Cond.initialized y.cls ∈ wAll) (q5 : Cond.code y bytes maxL none ∈ wAll) (hd0 : y.cls ≠ "java/lang/invoke/MethodHandle" ∧ y.cls ≠ "java/lang/invoke/VarHandle" ∧ (parseMethodDescriptor y.desc).map (fun d => d.parameters.length) = some n) (hR : rm.frames + 1 ≤ R.frames ∧ 8 + (maxL + 11) + rm.locals ≤ R.locals)
    (hn : As.length = n) (hst : stk = As.reverse ++ .ref b :: st) (hW : (st.map fun v => v.category).sum ≤ 8) (hf : cells + rm.cells ≤ R.cells ∧ slots + rm.slots ≤ R.slots) (hd : decode cc pc = .ok (.invokespecial index, 3))
    (kk : ∀ w1 : Wd, Q1 w1 → Gw l G L0 p e R s m args below meth c nL (cells + rm.cells) (slots + rm.slots) Q w1 (pc + 3) lv (st)) : Gw l G L0 p e R s m args below meth c nL cells slots Q w pc lv stk := by
  intro H locs ls hG hS hl
  subst hst
  exact va_callv (va_runI X.1 hM ⟨callB_of (ws' := wAll) n X.1.2.2.2.2 (wA_good q5) rfl rfl rfl (X.1.2.2.2.2 _ q4) (X.1.2.2.2.2 _ q1) hd0 hR, hy1, X.1.2.2.2.2 _ q2⟩ ⟨gPc_blind, fun U hU hW => ⟨rfl, GS.call X.2.2.2 hS hU hW, by rw [hU]; exact hG⟩⟩ rfl hn hl.1 rfl (lv_room hW) hd hf) hS (fun q _ h => h) (fun q h => h) (fun u t H1 locs1 ht hvm hq hB hz hk1 hS1 => kk u hq H1 locs1 ls (by rw [← ht]; exact hB) hS1 hl)
theorem vx_callq {S SX : Type} {post : Option Nat → S → Prop} {px : SX → Prop} {B : S → State → Prop} {BX : String → SX → State → Prop} {AX A0 A1 free : Nat → Prop} {H H0 : Heap} {locs : List Loc} {a : Array Value} {ls : Array Slot} {st0 rest : List Value} (hr : vx_Run p l e R s m args below meth c H locs cells slots mc ms (F0 m pc ls st0) rest (va_Qq post B A1 a) (vx_X px BX AX) free) (hS : va_S A0 H0 H locs) (hA : ∀ q, q < H.size → A1 q → A0 q) (hf : ∀ q, free q → A0 q) (hAX : ∀ q, q < H.size → AX q → A0 q)
    (kx : ∀ (E : String) (ce : Cell) (q9 : Addr) (u : SX) (t : State) (H1 : Heap) (locs1 : List Loc), t.heap = H1 → s.vm.Alike t.vm → px u → BX E u t → H.size ≤ H1.size → (∀ q : Nat, q < H.size → ¬ AX q → H1[q]? = H[q]?) → va_S A0 H0 H1 locs1 → H1[q9]? = some ce → ce.vm = .none → s.vm.findClass E = some ce.cls → vx_W p l e R s m args below meth c H1 locs1 (cells + mc) (slots + ms) Q (F0 m pc ls rest) q9)
    (kk : ∀ (r : Option Nat) (u : S) (t : State) (H1 : Heap) (locs1 : List Loc), t.heap = H1 → s.vm.Alike t.vm → post r u → B u t → H.size ≤ H1.size → (∀ q : Nat, q < H.size → ¬ A1 q → H1[q]? = H[q]?) → va_S A0 H0 H1 locs1 → W p l e R s m args below meth c H1 locs1 (cells + mc) (slots + ms) Q (F0 m (pc + 3) ls (va_rf r :: rest))) : W p l e R s m args below meth c H locs cells slots Q (F0 m pc ls st0) := by
  intro T hT X
  rcases hr T hT X with ⟨v, st₀, t, T', L, h0, X', hL, e1, e2, ⟨⟨r, u, hv, hp, hb⟩, hF⟩, st⟩ | ⟨q, st₀, t, T', L, E, ce, h0, X', hL, e1, e2, ⟨u, hp, hb, hF⟩, hce, hcv, hcl, st⟩
  · cases hv
    obtain ⟨k1, k2, k3⟩ := vx_keep h0 e1 hS hA hf hL hF
    obtain ⟨t2, a1, b1⟩ := kk r u t T'.heap (locs ++ L) e1.symm (by rw [← e2]; exact X'.warmed.alike) hp hb k1 k2 k3 T' rfl X'
    exact ⟨t2, st t2 a1, b1⟩
  · obtain ⟨k1, k2, k3⟩ := vx_keep h0 e1 hS hAX hf hL hF
    obtain ⟨t2, a1, b1⟩ := kx E ce q u t T'.heap (locs ++ L) e1.symm (by rw [← e2]; exact X'.warmed.alike) hp hb k1 k2 k3 (by rw [e1]; exact hce) hcv hcl T' rfl X'
    exact ⟨t2, st.trans a1, b1⟩
theorem g_callXV_q (X : GC l G L0 p s m args meth c cc nL own) {y : MethodName} {bytes : ByteArray} {maxL n index : Nat} {ret : Option FieldType} {rm : Room} {b : Nat} {C : String} {T : u_T} {N ci k : Nat} {fs : List Value} {As stk : List Value} {Q1 : Option Nat → Wd → Prop} {QX1 : String → Wd → Prop} {Qc : Array Value → State → Outcome → State → Prop} {QX : String → Wd → Prop} (htab : ∀ x ∈ c.exceptionTable.toList, False) (hM : GXq l G L0 y bytes maxL ret rm (.ref b :: As) w Q1 QX1) (hc : vwCl[ci]? = some (C, T, N)) (h0 : k ≠ 0 ∧ k ≠ 15) (hk : w.K b = k) (he : wE G w k b = .inr (ci, fs)) 
    (q1 : Cond.methodLink own index y ∈ wAll) (q2 : Cond.instanceMethod y ∈ wAll) (q3 : Cond.selects C y y ∈ wAll) (q4 : Cond.initialized y.cls ∈ wAll) (q5 : Cond.code y bytes maxL ret ∈ wAll) (hd0 : y.cls ≠ "java/lang/invoke/MethodHandle" ∧ y.cls ≠ "java/lang/invoke/VarHandle" ∧ (parseMethodDescriptor y.desc).map (fun d => d.parameters.length) = some n) (hR : rm.frames + 1 ≤ R.frames ∧ 8 + (maxL + 11) + rm.locals ≤ R.locals)
    (hn : As.length = n) (hst : stk = As.reverse ++ .ref b :: st) (hW : (st.map fun v => v.category).sum ≤ 8) (hf : cells + rm.cells ≤ R.cells ∧ slots + rm.slots ≤ R.slots) (hd : decode cc pc = .ok (.invokevirtual index, 3))
    (hcm : cells + rm.cells ≤ mc) (hsm : slots + rm.slots ≤ ms) (kx : ∀ (E : String) (w1 : Wd), QX1 E w1 → QX E w1)
    (kk : ∀ (r : Option Nat) (w1 : Wd), Q1 r w1 → Gw l G L0 p e R s m args below meth c nL (cells + rm.cells) (slots + rm.slots) (vx_MQ below Qc (gXC G L0 QX) args s mc ms (GA L0)) w1 (pc + 3) lv (va_rf r :: st)) : Gw l G L0 p e R s m args below meth c nL cells slots (vx_MQ below Qc (gXC G L0 QX) args s mc ms (GA L0)) w pc lv stk := by
  intro H locs ls hG hS hl
  subst hst
  exact vx_callq (vx_runV X.1 hM ⟨callB_of (ws' := wAll) n X.1.2.2.2.2 (wA_good q5) rfl rfl rfl (X.1.2.2.2.2 _ q4) (X.1.2.2.2.2 _ q1) hd0 hR, X.1.2.2.2.2 _ q2, X.1.2.2.2.2 _ q3⟩ ⟨gPc_blind, va_recv X.2.2.2.2.1 (gw_one hG hk h0 he) (q0 := 0) hc rfl, fun U hU hW => ⟨rfl, GS.call X.2.2.2 hS hU hW, by rw [hU]; exact hG⟩⟩ rfl hn hl.1 rfl (lv_room hW) hd hf) hS (fun q _ h => h) (fun q h => h) (fun q _ h => h)
    (fun E ce q9 u t H1 locs1 ht hvm _ hB hz hk1 hS1 hce hcv hcl => vx_out (fun x hx => (htab x hx).elim) X.2.1 hce hcv hcl (fun t1 ht1 hvm1 => ⟨u, trivial, ⟨kx E u hB.1, by show GWd G L0 u t1.heap; rw [ht1, ← ht]; exact hB.2⟩, hS1.F ht1⟩) hS1.2.2 hcm hsm)
    (fun r u t H1 locs1 ht hvm hq hB hz hk1 hS1 => kk r u hq H1 locs1 ls (by rw [← ht]; exact hB) hS1 hl)
theorem g_callXS_v (X : GC l G L0 p s m args meth c cc nL own) {y : MethodName} {bytes : ByteArray} {maxL n index : Nat} {ret : Option FieldType} {rm : Room} {As stk : List Value} {Q1 : Wd → Prop} {QX1 : String → Wd → Prop} {Qc : Array Value → State → Outcome → State → Prop} {QX : String → Wd → Prop} (htab : ∀ x ∈ c.exceptionTable.toList, False) (hM : GXv l G L0 y bytes maxL ret rm (As) w Q1 QX1) 
    (q1 : Cond.methodLink own index y ∈ wAll) (q3 : Cond.static y ∈ wAll) (q4 : Cond.initialized y.cls ∈ wAll) (q5 : Cond.code y bytes maxL ret ∈ wAll) (hd0 : y.cls ≠ "java/lang/invoke/MethodHandle" ∧ y.cls ≠ "java/lang/invoke/VarHandle" ∧ (parseMethodDescriptor y.desc).map (fun d => d.parameters.length) = some n) (hR : rm.frames + 1 ≤ R.frames ∧ 8 + (maxL + 11) + rm.locals ≤ R.locals)
    (hn : As.length = n) (hst : stk = As.reverse ++ st) (hW : (st.map fun v => v.category).sum ≤ 8) (hf : cells + rm.cells ≤ R.cells ∧ slots + rm.slots ≤ R.slots) (hd : decode cc pc = .ok (.invokestatic index, 3))
    (hcm : cells + rm.cells ≤ mc) (hsm : slots + rm.slots ≤ ms) (kx : ∀ (E : String) (w1 : Wd), QX1 E w1 → QX E w1)
    (kk : ∀ w1 : Wd, Q1 w1 → Gw l G L0 p e R s m args below meth c nL (cells + rm.cells) (slots + rm.slots) (vx_MQ below Qc (gXC G L0 QX) args s mc ms (GA L0)) w1 (pc + 3) lv (st)) : Gw l G L0 p e R s m args below meth c nL cells slots (vx_MQ below Qc (gXC G L0 QX) args s mc ms (GA L0)) w pc lv stk := by
  intro H locs ls hG hS hl
  subst hst
  exact vx_callv (vx_runS X.1 hM ⟨callB_of (ws' := wAll) n X.1.2.2.2.2 (wA_good q5) rfl rfl rfl (X.1.2.2.2.2 _ q4) (X.1.2.2.2.2 _ q1) hd0 hR, X.1.2.2.2.2 _ q3⟩ ⟨gPc_blind, fun U hU hW => ⟨rfl, GS.call X.2.2.2 hS hU hW, by rw [hU]; exact hG⟩⟩ rfl hn hl.1 rfl (lv_room hW) hd hf) hS (fun q _ h => h) (fun q h => h) (fun q _ h => h)
    (fun E ce q9 u t H1 locs1 ht hvm _ hB hz hk1 hS1 hce hcv hcl => vx_out (fun x hx => (htab x hx).elim) X.2.1 hce hcv hcl (fun t1 ht1 hvm1 => ⟨u, trivial, ⟨kx E u hB.1, by show GWd G L0 u t1.heap; rw [ht1, ← ht]; exact hB.2⟩, hS1.F ht1⟩) hS1.2.2 hcm hsm)
    (fun u t H1 locs1 ht hvm hq hB hz hk1 hS1 => kk u hq H1 locs1 ls (by rw [← ht]; exact hB) hS1 hl)
theorem g_callYV_i (X : GC l G L0 p s m args meth c cc nL own) {y : MethodName} {bytes : ByteArray} {maxL n index : Nat} {ret : Option FieldType} {rm : Room} {b : Nat} {C : String} {T : u_T} {N ci k : Nat} {fs : List Value} {As stk : List Value} {Q1 : Int32 → Wd → Prop} {QX1 : String → Wd → Prop} {Q : State → Prop} (hM : GXi l G L0 y bytes maxL ret rm (.ref b :: As) w Q1 QX1) (hc : vwCl[ci]? = some (C, T, N)) (h0 : k ≠ 0 ∧ k ≠ 15) (hk : w.K b = k) (he : wE G w k b = .inr (ci, fs)) 
    (q1 : Cond.methodLink own index y ∈ wAll) (q2 : Cond.instanceMethod y ∈ wAll) (q3 : Cond.selects C y y ∈ wAll) (q4 : Cond.initialized y.cls ∈ wAll) (q5 : Cond.code y bytes maxL ret ∈ wAll) (hd0 : y.cls ≠ "java/lang/invoke/MethodHandle" ∧ y.cls ≠ "java/lang/invoke/VarHandle" ∧ (parseMethodDescriptor y.desc).map (fun d => d.parameters.length) = some n) (hR : rm.frames + 1 ≤ R.frames ∧ 8 + (maxL + 11) + rm.locals ≤ R.locals)
    (hn : As.length = n) (hst : stk = As.reverse ++ .ref b :: st) (hW : (st.map fun v => v.category).sum ≤ 8) (hf : cells + rm.cells ≤ R.cells ∧ slots + rm.slots ≤ R.slots) (hd : decode cc pc = .ok (.invokevirtual index, 3))
    (kx : ∀ (E : String) (w1 : Wd), QX1 E w1 → ∀ (H : Heap) (locs : List Loc) (ls : Array Slot) (ce : Cell) (q9 : Addr), GWd G L0 w1 H → va_S (GA L0) s.heap H locs → lv_has ls nL (lvV lv) → H[q9]? = some ce → ce.vm = .none → s.vm.findClass E = some ce.cls → vx_W p l e R s m args below meth c H locs (cells + rm.cells) (slots + rm.slots) Q (F0 m pc ls st) q9)
    (kk : ∀ (r : Int32) (w1 : Wd), Q1 r w1 → Gw l G L0 p e R s m args below meth c nL (cells + rm.cells) (slots + rm.slots) Q w1 (pc + 3) lv (.int r :: st)) : Gw l G L0 p e R s m args below meth c nL cells slots Q w pc lv stk := by
  intro H locs ls hG hS hl
  subst hst
  exact vx_calli (vx_runV X.1 hM ⟨callB_of (ws' := wAll) n X.1.2.2.2.2 (wA_good q5) rfl rfl rfl (X.1.2.2.2.2 _ q4) (X.1.2.2.2.2 _ q1) hd0 hR, X.1.2.2.2.2 _ q2, X.1.2.2.2.2 _ q3⟩ ⟨gPc_blind, va_recv X.2.2.2.2.1 (gw_one hG hk h0 he) (q0 := 0) hc rfl, fun U hU hW => ⟨rfl, GS.call X.2.2.2 hS hU hW, by rw [hU]; exact hG⟩⟩ rfl hn hl.1 rfl (lv_room hW) hd hf) hS (fun q _ h => h) (fun q h => h) (fun q _ h => h)
    (fun E ce q9 u t H1 locs1 ht hvm _ hB hz hk1 hS1 hce hcv hcl => kx E u hB.1 H1 locs1 ls ce q9 (by rw [← ht]; exact hB.2) hS1 hl hce hcv hcl)
    (fun r u t H1 locs1 ht hvm hq hB hz hk1 hS1 => kk r u hq H1 locs1 ls (by rw [← ht]; exact hB) hS1 hl)
theorem g_callFV_i (X : GC l G L0 p s m args meth c cc nL own) {y : MethodName} {bytes : ByteArray} {maxL n index : Nat} {ret : Option FieldType} {rm : Room} {b : Nat} {C : String} {T : u_T} {N ci k : Nat} {fs : List Value} {As stk : List Value} {Q1 : Int32 → Wd → Prop} {Q : State → Prop} (hM : GXi l G L0 y bytes maxL ret rm (.ref b :: As) w Q1 (fun _ _ => False)) (hc : vwCl[ci]? = some (C, T, N)) (h0 : k ≠ 0 ∧ k ≠ 15) (hk : w.K b = k) (he : wE G w k b = .inr (ci, fs)) 
    (q1 : Cond.methodLink own index y ∈ wAll) (q2 : Cond.instanceMethod y ∈ wAll) (q3 : Cond.selects C y y ∈ wAll) (q4 : Cond.initialized y.cls ∈ wAll) (q5 : Cond.code y bytes maxL ret ∈ wAll) (hd0 : y.cls ≠ "java/lang/invoke/MethodHandle" ∧ y.cls ≠ "java/lang/invoke/VarHandle" ∧ (parseMethodDescriptor y.desc).map (fun d => d.parameters.length) = some n) (hR : rm.frames + 1 ≤ R.frames ∧ 8 + (maxL + 11) + rm.locals ≤ R.locals)
    (hn : As.length = n) (hst : stk = As.reverse ++ .ref b :: st) (hW : (st.map fun v => v.category).sum ≤ 8) (hf : cells + rm.cells ≤ R.cells ∧ slots + rm.slots ≤ R.slots) (hd : decode cc pc = .ok (.invokevirtual index, 3))
    (kk : ∀ (r : Int32) (w1 : Wd), Q1 r w1 → Gw l G L0 p e R s m args below meth c nL (cells + rm.cells) (slots + rm.slots) Q w1 (pc + 3) lv (.int r :: st)) : Gw l G L0 p e R s m args below meth c nL cells slots Q w pc lv stk :=
  g_callYV_i X hM hc h0 hk he q1 q2 q3 q4 q5 hd0 hR hn hst hW hf hd (fun E w1 hE => hE.elim) kk
theorem g_objInit (X : GC l G L0 p s m args meth c cc nL own) {idx b : Nat} (q1 : Cond.methodLink own idx objectInit ∈ wAll) (q2 : Cond.instanceMethod objectInit ∈ wAll) (q3 : Cond.code objectInit ⟨#[0xb1]⟩ 1 none ∈ wAll) (hf : 1 ≤ R.frames) (hlo : (st.map fun v => v.category).sum + 12 ≤ R.locals) (hd : decode cc pc = .ok (.invokespecial idx, 3))
    (kk : Gw l G L0 p e R s m args below meth c nL cells slots Q w (pc + 3) lv st) : Gw l G L0 p e R s m args below meth c nL cells slots Q w pc lv (.ref b :: st) :=
  fun H locs ls hG hS hl => W.objInit X.1.1 X.1.2.1 X.1.2.2.2.1 (X.1.2.2.2.2 _ q1) (X.1.2.2.2.2 _ q2) (X.1.2.2.2.2 _ q3) rfl (hl.1.trans X.1.2.2.1.symm) rfl hd hf (by show 2 * 0 + _ + 12 ≤ _; omega) (kk H locs ls hG hS hl)
theorem g_throw (X : GC l G L0 p s m args meth c cc nL own) {Qc : Array Value → State → Outcome → State → Prop} {QX : String → Wd → Prop} {cls text : String} {ik is ic : Nat} (htab : ∀ x ∈ c.exceptionTable.toList, False) (hcls : Bundle.fit cls = true) (q1 : Cond.classLink own ik cls ∈ wAll) (q2 : Cond.initialized cls ∈ wAll) (q3 : (own, is, text) ∈ gStr)
    (hg : ∀ x ∈ (vx_atS own ic cls gN2).filter goodWord, x ∈ wAll) (hb : ∀ x ∈ (vx_atS own ic cls gN2).filter (fun x => !goodWord x), x ∈ gNG) (ho : ∀ x ∈ vx_atS own ic cls gN2, vx_ot x = true)
    (d0 : decode cc pc = .ok (.new ik, 3)) (d3 : decode cc (pc + 3) = .ok (.dup, 1)) (d4 : (decode cc (pc + 4) = .ok (.ldc is, 2) ∧ decode cc (pc + 6) = .ok (.invokespecial ic, 3) ∧ decode cc (pc + 9) = .ok (.athrow, 1)) ∨ (decode cc (pc + 4) = .ok (.ldc_w is, 3) ∧ decode cc (pc + 7) = .ok (.invokespecial ic, 3) ∧ decode cc (pc + 10) = .ok (.athrow, 1)))
    (hf : 6 ≤ R.frames) (hlo : (st.map fun v => v.category).sum + 82 ≤ R.locals) (hRc : cells + 1 ≤ R.cells) (hRs : slots + 6 ≤ R.slots) (hc : cells + 1 ≤ mc) (hs : slots + 6 ≤ ms) (hq : QX cls w) : Gw l G L0 p e R s m args below meth c nL cells slots (vx_MQ below Qc (gXC G L0 QX) args s mc ms (GA L0)) w pc lv st := by
  intro H locs ls hG hS hl
  obtain ⟨sa, hsa⟩ := X.2.2.2.2.2.2.2.2.2.2.2.2 _ q3
  have hat : ∀ x ∈ vx_atS own ic cls gN2, x.before args s = true := vx_hat (fun x h => X.1.2.2.2.2 x (hg x h)) hb (fun x hx => by
    rcases List.mem_append.mp hx with h | h
    · obtain ⟨q, hq, rfl⟩ := List.mem_map.mp h
      exact va_Nw.use rfl (X.2.2.2.2.2.2.1 q hq)
    · obtain ⟨q, hq, rfl⟩ := List.mem_map.mp h
      exact va_Nw.use rfl (X.2.2.2.2.2.2.2.2.2.2.2.1 q hq))
  have hot : ∀ x ∈ Cond.classLink own ik cls :: Cond.initialized cls :: vx_atS own ic cls gN2, vx_ot x = true := fun x hx => by
    rcases List.mem_cons.mp hx with h | h
    · rw [h]; rfl
    · rcases List.mem_cons.mp h with h | h
      · rw [h]; rfl
      · exact ho x h
  have hx : ∀ t : State, s.vm.Alike t.vm → H.size ≤ t.heap.size → (∀ q : Nat, q < H.size → t.heap[q]? = H[q]?) → gXC G L0 QX cls s t := by
    intro t _ h1 h2
    refine ⟨w, trivial, ⟨hq, gw_kept hG h2⟩, Nat.le_trans hS.1 h1, fun q h3 h4 => ?_⟩
    rw [h2 q (Nat.lt_of_lt_of_le h3 hS.1)]
    exact hS.2.1 q h3 h4
  rcases d4 with ⟨d4, d6, d9⟩ | ⟨d4, d6, d9⟩
  · exact vx_throwS (names := gN2) X.1.1 X.1.2.1 X.2.2.1 X.1.2.2.2.1 hcls (by decide +kernel) (X.1.2.2.2.2 _ q1) (X.1.2.2.2.2 _ q2) hsa hat hot X.2.2.2.2.2.1.1 X.2.2.2.2.2.1.2.1 hS (hl.1.trans X.1.2.2.1.symm) d0 d3 d4 d6 d9 (fun x hx => (htab x hx).elim) (by show 2 + 3 < _; omega) (by show _ + (13 * (2 + 1) + 43) ≤ _; omega) hRc hRs X.2.1 hx hS.2.2 hc hs
  · exact vx_throwSW (names := gN2) X.1.1 X.1.2.1 X.2.2.1 X.1.2.2.2.1 hcls (by decide +kernel) (X.1.2.2.2.2 _ q1) (X.1.2.2.2.2 _ q2) hsa hat hot X.2.2.2.2.2.1.1 X.2.2.2.2.2.1.2.1 hS (hl.1.trans X.1.2.2.1.symm) d0 d3 d4 d6 d9 (fun x hx => (htab x hx).elim) (by show 2 + 3 < _; omega) (by show _ + (13 * (2 + 1) + 43) ≤ _; omega) hRc hRs X.2.1 hx hS.2.2 hc hs
end GR2
end
section
section FLD
variable {l : Launch} {G : GT} {L0 : Nat} {p : Program} {e : Env} {R : Room} {s : State} {m : MethodId} {args : Array Value} {below : List Frame} {meth : Method} {c : Code} {cc : ByteArray} {nL : Nat} {own : String} {cells slots : Nat} {Q : State → Prop} {w : Wd} {pc : Nat} {lv : Lc} {st : List Value}
theorem in_X0 : ∀ x ∈ u_ws RX0 TX0 8, x ∈ wAll := by decide +kernel
def fs_1 (w : Wd) (a : Nat) : List Value := [.int (w.I 100 a), .int (w.I 101 a), va_rf (w.R 102 a), va_rf (w.R 103 a), .int (w.I 104 a), .int (w.I 105 a), .int (w.I 106 a), .int (w.I 107 a)]
theorem wE_1 (G : GT) (w : Wd) (a : Nat) : wE G w 1 a = .inr (1, fs_1 w a) := rfl
theorem gg_100 (X : GC l G L0 p s m args meth c cc nL own) {a index : Nat} (hk : w.K a = 1) (q : Cond.fieldLink own index "SusuRing$Circle" "sum" "I" ∈ wAll) (hd : decode cc pc = .ok (.getfield index, 3)) (kk : ∀ v : Int32, v = w.I 100 a → Gw l G L0 p e R s m args below meth c nL cells slots Q w (pc + 3) lv (.int v :: st)) : Gw l G L0 p e R s m args below meth c nL cells slots Q w pc lv (.ref a :: st) :=
  g_get X (C := RX0) (T := TX0) (N := 8) (ci := 1) (j := 0) in_X0 rfl (by decide) (by decide) hk (wE_1 G w a) rfl "SusuRing$Circle" (fun _ h => h) q hd (kk _ rfl)
theorem gp_100 (X : GC l G L0 p s m args meth c cc nL own) {a index : Nat} {v : Int32} (hk : w.K a = 1) (hin2 : meth.name = "<init>") (hown : RX0 = own) (q : Cond.fieldLink own index "SusuRing$Circle" "sum" "I" ∈ wAll) (hd : decode cc pc = .ok (.putfield index, 3)) (kk : ∀ w1 : Wd, w1 = w.setI 100 a v → Gw l G L0 p e R s m args below meth c nL cells slots Q w1 (pc + 3) lv st) : Gw l G L0 p e R s m args below meth c nL cells slots Q w pc lv (.int v :: .ref a :: st) :=
  g_putF X (C := RX0) (T := TX0) (N := 8) (ci := 1) (j := 0) (w1 := w.setI 100 a v) tyX0 tyX0_ok nmX0 in_X0 rfl (by decide) (by decide) hk (wE_1 G w a) (show 0 < 8 by decide) hin2 hown rfl rfl rfl rfl "SusuRing$Circle" (fun _ h => h) q hd rfl rfl (by show (Sum.inr (1, [.int (up2 w.I 100 a v 100 a), .int (up2 w.I 100 a v 101 a), va_rf (w.R 102 a), va_rf (w.R 103 a), .int (up2 w.I 100 a v 104 a), .int (up2 w.I 100 a v 105 a), .int (up2 w.I 100 a v 106 a), .int (up2 w.I 100 a v 107 a)]) : va_E) = Sum.inr (1, (fs_1 w a).set 0 (.int v)); simp [fs_1, up2]) (fun b hb => wE_I hb) (kk _ rfl)
theorem gg_101 (X : GC l G L0 p s m args meth c cc nL own) {a index : Nat} (hk : w.K a = 1) (q : Cond.fieldLink own index "SusuRing$Circle" "way" "I" ∈ wAll) (hd : decode cc pc = .ok (.getfield index, 3)) (kk : ∀ v : Int32, v = w.I 101 a → Gw l G L0 p e R s m args below meth c nL cells slots Q w (pc + 3) lv (.int v :: st)) : Gw l G L0 p e R s m args below meth c nL cells slots Q w pc lv (.ref a :: st) :=
  g_get X (C := RX0) (T := TX0) (N := 8) (ci := 1) (j := 1) in_X0 rfl (by decide) (by decide) hk (wE_1 G w a) rfl "SusuRing$Circle" (fun _ h => h) q hd (kk _ rfl)
theorem gp_101 (X : GC l G L0 p s m args meth c cc nL own) {a index : Nat} {v : Int32} (hk : w.K a = 1) (hin2 : meth.name = "<init>") (hown : RX0 = own) (q : Cond.fieldLink own index "SusuRing$Circle" "way" "I" ∈ wAll) (hd : decode cc pc = .ok (.putfield index, 3)) (kk : ∀ w1 : Wd, w1 = w.setI 101 a v → Gw l G L0 p e R s m args below meth c nL cells slots Q w1 (pc + 3) lv st) : Gw l G L0 p e R s m args below meth c nL cells slots Q w pc lv (.int v :: .ref a :: st) :=
  g_putF X (C := RX0) (T := TX0) (N := 8) (ci := 1) (j := 1) (w1 := w.setI 101 a v) tyX0 tyX0_ok nmX0 in_X0 rfl (by decide) (by decide) hk (wE_1 G w a) (show 1 < 8 by decide) hin2 hown rfl rfl rfl rfl "SusuRing$Circle" (fun _ h => h) q hd rfl rfl (by show (Sum.inr (1, [.int (up2 w.I 101 a v 100 a), .int (up2 w.I 101 a v 101 a), va_rf (w.R 102 a), va_rf (w.R 103 a), .int (up2 w.I 101 a v 104 a), .int (up2 w.I 101 a v 105 a), .int (up2 w.I 101 a v 106 a), .int (up2 w.I 101 a v 107 a)]) : va_E) = Sum.inr (1, (fs_1 w a).set 1 (.int v)); simp [fs_1, up2]) (fun b hb => wE_I hb) (kk _ rfl)
theorem gg_102 (X : GC l G L0 p s m args meth c cc nL own) {a index : Nat} (hk : w.K a = 1) (q : Cond.fieldLink own index "SusuRing$Circle" "places" "Ljava/util/ArrayList;" ∈ wAll) (hd : decode cc pc = .ok (.getfield index, 3)) (kk : ∀ v : Option Nat, v = w.R 102 a → Gw l G L0 p e R s m args below meth c nL cells slots Q w (pc + 3) lv (va_rf v :: st)) : Gw l G L0 p e R s m args below meth c nL cells slots Q w pc lv (.ref a :: st) :=
  g_get X (C := RX0) (T := TX0) (N := 8) (ci := 1) (j := 2) in_X0 rfl (by decide) (by decide) hk (wE_1 G w a) rfl "SusuRing$Circle" (fun _ h => h) q hd (kk _ rfl)
theorem gp_102 (X : GC l G L0 p s m args meth c cc nL own) {a index : Nat} {v : Option Nat} (hk : w.K a = 1) (hin2 : meth.name = "<init>") (hown : RX0 = own) (q : Cond.fieldLink own index "SusuRing$Circle" "places" "Ljava/util/ArrayList;" ∈ wAll) (hd : decode cc pc = .ok (.putfield index, 3)) (kk : ∀ w1 : Wd, w1 = w.setR 102 a v → Gw l G L0 p e R s m args below meth c nL cells slots Q w1 (pc + 3) lv st) : Gw l G L0 p e R s m args below meth c nL cells slots Q w pc lv (va_rf v :: .ref a :: st) :=
  g_putF X (C := RX0) (T := TX0) (N := 8) (ci := 1) (j := 2) (w1 := w.setR 102 a v) tyX0 tyX0_ok nmX0 in_X0 rfl (by decide) (by decide) hk (wE_1 G w a) (show 2 < 8 by decide) hin2 hown rfl rfl (by cases v <;> rfl) (by cases v <;> rfl) "SusuRing$Circle" (fun _ h => h) q hd rfl rfl (by show (Sum.inr (1, [.int (w.I 100 a), .int (w.I 101 a), va_rf (up2 w.R 102 a v 102 a), va_rf (up2 w.R 102 a v 103 a), .int (w.I 104 a), .int (w.I 105 a), .int (w.I 106 a), .int (w.I 107 a)]) : va_E) = Sum.inr (1, (fs_1 w a).set 2 (va_rf v)); simp [fs_1, up2]) (fun b hb => wE_R hb) (kk _ rfl)
theorem gg_103 (X : GC l G L0 p s m args meth c cc nL own) {a index : Nat} (hk : w.K a = 1) (q : Cond.fieldLink own index "SusuRing$Circle" "order" "Ljava/util/ArrayList;" ∈ wAll) (hd : decode cc pc = .ok (.getfield index, 3)) (kk : ∀ v : Option Nat, v = w.R 103 a → Gw l G L0 p e R s m args below meth c nL cells slots Q w (pc + 3) lv (va_rf v :: st)) : Gw l G L0 p e R s m args below meth c nL cells slots Q w pc lv (.ref a :: st) :=
  g_get X (C := RX0) (T := TX0) (N := 8) (ci := 1) (j := 3) in_X0 rfl (by decide) (by decide) hk (wE_1 G w a) rfl "SusuRing$Circle" (fun _ h => h) q hd (kk _ rfl)
theorem gp_103 (X : GC l G L0 p s m args meth c cc nL own) {a index : Nat} {v : Option Nat} (hk : w.K a = 1) (hin2 : meth.name = "<init>") (hown : RX0 = own) (q : Cond.fieldLink own index "SusuRing$Circle" "order" "Ljava/util/ArrayList;" ∈ wAll) (hd : decode cc pc = .ok (.putfield index, 3)) (kk : ∀ w1 : Wd, w1 = w.setR 103 a v → Gw l G L0 p e R s m args below meth c nL cells slots Q w1 (pc + 3) lv st) : Gw l G L0 p e R s m args below meth c nL cells slots Q w pc lv (va_rf v :: .ref a :: st) :=
  g_putF X (C := RX0) (T := TX0) (N := 8) (ci := 1) (j := 3) (w1 := w.setR 103 a v) tyX0 tyX0_ok nmX0 in_X0 rfl (by decide) (by decide) hk (wE_1 G w a) (show 3 < 8 by decide) hin2 hown rfl rfl (by cases v <;> rfl) (by cases v <;> rfl) "SusuRing$Circle" (fun _ h => h) q hd rfl rfl (by show (Sum.inr (1, [.int (w.I 100 a), .int (w.I 101 a), va_rf (up2 w.R 103 a v 102 a), va_rf (up2 w.R 103 a v 103 a), .int (w.I 104 a), .int (w.I 105 a), .int (w.I 106 a), .int (w.I 107 a)]) : va_E) = Sum.inr (1, (fs_1 w a).set 3 (va_rf v)); simp [fs_1, up2]) (fun b hb => wE_R hb) (kk _ rfl)
theorem gg_104 (X : GC l G L0 p s m args meth c cc nL own) {a index : Nat} (hk : w.K a = 1) (q : Cond.fieldLink own index "SusuRing$Circle" "started" "Z" ∈ wAll) (hd : decode cc pc = .ok (.getfield index, 3)) (kk : ∀ v : Int32, v = w.I 104 a → Gw l G L0 p e R s m args below meth c nL cells slots Q w (pc + 3) lv (.int v :: st)) : Gw l G L0 p e R s m args below meth c nL cells slots Q w pc lv (.ref a :: st) :=
  g_get X (C := RX0) (T := TX0) (N := 8) (ci := 1) (j := 4) in_X0 rfl (by decide) (by decide) hk (wE_1 G w a) rfl "SusuRing$Circle" (fun _ h => h) q hd (kk _ rfl)
theorem gp_104 (X : GC l G L0 p s m args meth c cc nL own) {a index : Nat} {v : Int32} (hk : w.K a = 1) (hz : v = 0 ∨ v = 1) (q : Cond.fieldLink own index "SusuRing$Circle" "started" "Z" ∈ wAll) (hd : decode cc pc = .ok (.putfield index, 3)) (kk : ∀ w1 : Wd, w1 = w.setI 104 a v → Gw l G L0 p e R s m args below meth c nL cells slots Q w1 (pc + 3) lv st) : Gw l G L0 p e R s m args below meth c nL cells slots Q w pc lv (.int v :: .ref a :: st) :=
  g_put X (C := RX0) (T := TX0) (N := 8) (ci := 1) (j := 4) (w1 := w.setI 104 a v) tyX0 tyX0_ok nmX0 in_X0 rfl (by decide) (by decide) hk (wE_1 G w a) (show 4 < 8 by decide) rfl rfl (nar_z hz) (fit_z hz) "SusuRing$Circle" (fun _ h => h) q hd rfl rfl (by show (Sum.inr (1, [.int (up2 w.I 104 a v 100 a), .int (up2 w.I 104 a v 101 a), va_rf (w.R 102 a), va_rf (w.R 103 a), .int (up2 w.I 104 a v 104 a), .int (up2 w.I 104 a v 105 a), .int (up2 w.I 104 a v 106 a), .int (up2 w.I 104 a v 107 a)]) : va_E) = Sum.inr (1, (fs_1 w a).set 4 (.int v)); simp [fs_1, up2]) (fun b hb => wE_I hb) (kk _ rfl)
theorem gg_105 (X : GC l G L0 p s m args meth c cc nL own) {a index : Nat} (hk : w.K a = 1) (q : Cond.fieldLink own index "SusuRing$Circle" "box" "I" ∈ wAll) (hd : decode cc pc = .ok (.getfield index, 3)) (kk : ∀ v : Int32, v = w.I 105 a → Gw l G L0 p e R s m args below meth c nL cells slots Q w (pc + 3) lv (.int v :: st)) : Gw l G L0 p e R s m args below meth c nL cells slots Q w pc lv (.ref a :: st) :=
  g_get X (C := RX0) (T := TX0) (N := 8) (ci := 1) (j := 5) in_X0 rfl (by decide) (by decide) hk (wE_1 G w a) rfl "SusuRing$Circle" (fun _ h => h) q hd (kk _ rfl)
theorem gp_105 (X : GC l G L0 p s m args meth c cc nL own) {a index : Nat} {v : Int32} (hk : w.K a = 1) (q : Cond.fieldLink own index "SusuRing$Circle" "box" "I" ∈ wAll) (hd : decode cc pc = .ok (.putfield index, 3)) (kk : ∀ w1 : Wd, w1 = w.setI 105 a v → Gw l G L0 p e R s m args below meth c nL cells slots Q w1 (pc + 3) lv st) : Gw l G L0 p e R s m args below meth c nL cells slots Q w pc lv (.int v :: .ref a :: st) :=
  g_put X (C := RX0) (T := TX0) (N := 8) (ci := 1) (j := 5) (w1 := w.setI 105 a v) tyX0 tyX0_ok nmX0 in_X0 rfl (by decide) (by decide) hk (wE_1 G w a) (show 5 < 8 by decide) rfl rfl rfl rfl "SusuRing$Circle" (fun _ h => h) q hd rfl rfl (by show (Sum.inr (1, [.int (up2 w.I 105 a v 100 a), .int (up2 w.I 105 a v 101 a), va_rf (w.R 102 a), va_rf (w.R 103 a), .int (up2 w.I 105 a v 104 a), .int (up2 w.I 105 a v 105 a), .int (up2 w.I 105 a v 106 a), .int (up2 w.I 105 a v 107 a)]) : va_E) = Sum.inr (1, (fs_1 w a).set 5 (.int v)); simp [fs_1, up2]) (fun b hb => wE_I hb) (kk _ rfl)
theorem gg_106 (X : GC l G L0 p s m args meth c cc nL own) {a index : Nat} (hk : w.K a = 1) (q : Cond.fieldLink own index "SusuRing$Circle" "meetings" "I" ∈ wAll) (hd : decode cc pc = .ok (.getfield index, 3)) (kk : ∀ v : Int32, v = w.I 106 a → Gw l G L0 p e R s m args below meth c nL cells slots Q w (pc + 3) lv (.int v :: st)) : Gw l G L0 p e R s m args below meth c nL cells slots Q w pc lv (.ref a :: st) :=
  g_get X (C := RX0) (T := TX0) (N := 8) (ci := 1) (j := 6) in_X0 rfl (by decide) (by decide) hk (wE_1 G w a) rfl "SusuRing$Circle" (fun _ h => h) q hd (kk _ rfl)
theorem gp_106 (X : GC l G L0 p s m args meth c cc nL own) {a index : Nat} {v : Int32} (hk : w.K a = 1) (q : Cond.fieldLink own index "SusuRing$Circle" "meetings" "I" ∈ wAll) (hd : decode cc pc = .ok (.putfield index, 3)) (kk : ∀ w1 : Wd, w1 = w.setI 106 a v → Gw l G L0 p e R s m args below meth c nL cells slots Q w1 (pc + 3) lv st) : Gw l G L0 p e R s m args below meth c nL cells slots Q w pc lv (.int v :: .ref a :: st) :=
  g_put X (C := RX0) (T := TX0) (N := 8) (ci := 1) (j := 6) (w1 := w.setI 106 a v) tyX0 tyX0_ok nmX0 in_X0 rfl (by decide) (by decide) hk (wE_1 G w a) (show 6 < 8 by decide) rfl rfl rfl rfl "SusuRing$Circle" (fun _ h => h) q hd rfl rfl (by show (Sum.inr (1, [.int (up2 w.I 106 a v 100 a), .int (up2 w.I 106 a v 101 a), va_rf (w.R 102 a), va_rf (w.R 103 a), .int (up2 w.I 106 a v 104 a), .int (up2 w.I 106 a v 105 a), .int (up2 w.I 106 a v 106 a), .int (up2 w.I 106 a v 107 a)]) : va_E) = Sum.inr (1, (fs_1 w a).set 6 (.int v)); simp [fs_1, up2]) (fun b hb => wE_I hb) (kk _ rfl)
theorem gg_107 (X : GC l G L0 p s m args meth c cc nL own) {a index : Nat} (hk : w.K a = 1) (q : Cond.fieldLink own index "SusuRing$Circle" "rounds" "I" ∈ wAll) (hd : decode cc pc = .ok (.getfield index, 3)) (kk : ∀ v : Int32, v = w.I 107 a → Gw l G L0 p e R s m args below meth c nL cells slots Q w (pc + 3) lv (.int v :: st)) : Gw l G L0 p e R s m args below meth c nL cells slots Q w pc lv (.ref a :: st) :=
  g_get X (C := RX0) (T := TX0) (N := 8) (ci := 1) (j := 7) in_X0 rfl (by decide) (by decide) hk (wE_1 G w a) rfl "SusuRing$Circle" (fun _ h => h) q hd (kk _ rfl)
theorem gp_107 (X : GC l G L0 p s m args meth c cc nL own) {a index : Nat} {v : Int32} (hk : w.K a = 1) (q : Cond.fieldLink own index "SusuRing$Circle" "rounds" "I" ∈ wAll) (hd : decode cc pc = .ok (.putfield index, 3)) (kk : ∀ w1 : Wd, w1 = w.setI 107 a v → Gw l G L0 p e R s m args below meth c nL cells slots Q w1 (pc + 3) lv st) : Gw l G L0 p e R s m args below meth c nL cells slots Q w pc lv (.int v :: .ref a :: st) :=
  g_put X (C := RX0) (T := TX0) (N := 8) (ci := 1) (j := 7) (w1 := w.setI 107 a v) tyX0 tyX0_ok nmX0 in_X0 rfl (by decide) (by decide) hk (wE_1 G w a) (show 7 < 8 by decide) rfl rfl rfl rfl "SusuRing$Circle" (fun _ h => h) q hd rfl rfl (by show (Sum.inr (1, [.int (up2 w.I 107 a v 100 a), .int (up2 w.I 107 a v 101 a), va_rf (w.R 102 a), va_rf (w.R 103 a), .int (up2 w.I 107 a v 104 a), .int (up2 w.I 107 a v 105 a), .int (up2 w.I 107 a v 106 a), .int (up2 w.I 107 a v 107 a)]) : va_E) = Sum.inr (1, (fs_1 w a).set 7 (.int v)); simp [fs_1, up2]) (fun b hb => wE_I hb) (kk _ rfl)
theorem in_X1 : ∀ x ∈ u_ws RX1 TX1 13, x ∈ wAll := by decide +kernel
def fs_2 (w : Wd) (a : Nat) : List Value := [.int (w.I 200 a), .int (w.I 201 a), .int (w.I 202 a), va_rf (w.R 203 a), .int (w.I 204 a), .int (w.I 205 a), .int (w.I 206 a), .int (w.I 207 a), va_rf (w.R 208 a), va_rf (w.R 209 a), .int (w.I 210 a), .int (w.I 211 a), .int (w.I 212 a)]
theorem wE_2 (G : GT) (w : Wd) (a : Nat) : wE G w 2 a = .inr (2, fs_2 w a) := rfl
theorem gg_200 (X : GC l G L0 p s m args meth c cc nL own) {a index : Nat} (hk : w.K a = 2) (q : Cond.fieldLink own index "SusuRing$Person" "number" "I" ∈ wAll) (hd : decode cc pc = .ok (.getfield index, 3)) (kk : ∀ v : Int32, v = w.I 200 a → Gw l G L0 p e R s m args below meth c nL cells slots Q w (pc + 3) lv (.int v :: st)) : Gw l G L0 p e R s m args below meth c nL cells slots Q w pc lv (.ref a :: st) :=
  g_get X (C := RX1) (T := TX1) (N := 13) (ci := 2) (j := 0) in_X1 rfl (by decide) (by decide) hk (wE_2 G w a) rfl "SusuRing$Person" (fun _ h => h) q hd (kk _ rfl)
theorem gp_200 (X : GC l G L0 p s m args meth c cc nL own) {a index : Nat} {v : Int32} (hk : w.K a = 2) (hin2 : meth.name = "<init>") (hown : RX1 = own) (q : Cond.fieldLink own index "SusuRing$Person" "number" "I" ∈ wAll) (hd : decode cc pc = .ok (.putfield index, 3)) (kk : ∀ w1 : Wd, w1 = w.setI 200 a v → Gw l G L0 p e R s m args below meth c nL cells slots Q w1 (pc + 3) lv st) : Gw l G L0 p e R s m args below meth c nL cells slots Q w pc lv (.int v :: .ref a :: st) :=
  g_putF X (C := RX1) (T := TX1) (N := 13) (ci := 2) (j := 0) (w1 := w.setI 200 a v) tyX1 tyX1_ok nmX1 in_X1 rfl (by decide) (by decide) hk (wE_2 G w a) (show 0 < 13 by decide) hin2 hown rfl rfl rfl rfl "SusuRing$Person" (fun _ h => h) q hd rfl rfl (by show (Sum.inr (2, [.int (up2 w.I 200 a v 200 a), .int (up2 w.I 200 a v 201 a), .int (up2 w.I 200 a v 202 a), va_rf (w.R 203 a), .int (up2 w.I 200 a v 204 a), .int (up2 w.I 200 a v 205 a), .int (up2 w.I 200 a v 206 a), .int (up2 w.I 200 a v 207 a), va_rf (w.R 208 a), va_rf (w.R 209 a), .int (up2 w.I 200 a v 210 a), .int (up2 w.I 200 a v 211 a), .int (up2 w.I 200 a v 212 a)]) : va_E) = Sum.inr (2, (fs_2 w a).set 0 (.int v)); simp [fs_2, up2]) (fun b hb => wE_I hb) (kk _ rfl)
theorem gg_201 (X : GC l G L0 p s m args meth c cc nL own) {a index : Nat} (hk : w.K a = 2) (q : Cond.fieldLink own index "SusuRing$Person" "age" "I" ∈ wAll) (hd : decode cc pc = .ok (.getfield index, 3)) (kk : ∀ v : Int32, v = w.I 201 a → Gw l G L0 p e R s m args below meth c nL cells slots Q w (pc + 3) lv (.int v :: st)) : Gw l G L0 p e R s m args below meth c nL cells slots Q w pc lv (.ref a :: st) :=
  g_get X (C := RX1) (T := TX1) (N := 13) (ci := 2) (j := 1) in_X1 rfl (by decide) (by decide) hk (wE_2 G w a) rfl "SusuRing$Person" (fun _ h => h) q hd (kk _ rfl)
theorem gp_201 (X : GC l G L0 p s m args meth c cc nL own) {a index : Nat} {v : Int32} (hk : w.K a = 2) (hin2 : meth.name = "<init>") (hown : RX1 = own) (q : Cond.fieldLink own index "SusuRing$Person" "age" "I" ∈ wAll) (hd : decode cc pc = .ok (.putfield index, 3)) (kk : ∀ w1 : Wd, w1 = w.setI 201 a v → Gw l G L0 p e R s m args below meth c nL cells slots Q w1 (pc + 3) lv st) : Gw l G L0 p e R s m args below meth c nL cells slots Q w pc lv (.int v :: .ref a :: st) :=
  g_putF X (C := RX1) (T := TX1) (N := 13) (ci := 2) (j := 1) (w1 := w.setI 201 a v) tyX1 tyX1_ok nmX1 in_X1 rfl (by decide) (by decide) hk (wE_2 G w a) (show 1 < 13 by decide) hin2 hown rfl rfl rfl rfl "SusuRing$Person" (fun _ h => h) q hd rfl rfl (by show (Sum.inr (2, [.int (up2 w.I 201 a v 200 a), .int (up2 w.I 201 a v 201 a), .int (up2 w.I 201 a v 202 a), va_rf (w.R 203 a), .int (up2 w.I 201 a v 204 a), .int (up2 w.I 201 a v 205 a), .int (up2 w.I 201 a v 206 a), .int (up2 w.I 201 a v 207 a), va_rf (w.R 208 a), va_rf (w.R 209 a), .int (up2 w.I 201 a v 210 a), .int (up2 w.I 201 a v 211 a), .int (up2 w.I 201 a v 212 a)]) : va_E) = Sum.inr (2, (fs_2 w a).set 1 (.int v)); simp [fs_2, up2]) (fun b hb => wE_I hb) (kk _ rfl)
theorem gg_202 (X : GC l G L0 p s m args meth c cc nL own) {a index : Nat} (hk : w.K a = 2) (q : Cond.fieldLink own index "SusuRing$Person" "name" "I" ∈ wAll) (hd : decode cc pc = .ok (.getfield index, 3)) (kk : ∀ v : Int32, v = w.I 202 a → Gw l G L0 p e R s m args below meth c nL cells slots Q w (pc + 3) lv (.int v :: st)) : Gw l G L0 p e R s m args below meth c nL cells slots Q w pc lv (.ref a :: st) :=
  g_get X (C := RX1) (T := TX1) (N := 13) (ci := 2) (j := 2) in_X1 rfl (by decide) (by decide) hk (wE_2 G w a) rfl "SusuRing$Person" (fun _ h => h) q hd (kk _ rfl)
theorem gp_202 (X : GC l G L0 p s m args meth c cc nL own) {a index : Nat} {v : Int32} (hk : w.K a = 2) (hin2 : meth.name = "<init>") (hown : RX1 = own) (q : Cond.fieldLink own index "SusuRing$Person" "name" "I" ∈ wAll) (hd : decode cc pc = .ok (.putfield index, 3)) (kk : ∀ w1 : Wd, w1 = w.setI 202 a v → Gw l G L0 p e R s m args below meth c nL cells slots Q w1 (pc + 3) lv st) : Gw l G L0 p e R s m args below meth c nL cells slots Q w pc lv (.int v :: .ref a :: st) :=
  g_putF X (C := RX1) (T := TX1) (N := 13) (ci := 2) (j := 2) (w1 := w.setI 202 a v) tyX1 tyX1_ok nmX1 in_X1 rfl (by decide) (by decide) hk (wE_2 G w a) (show 2 < 13 by decide) hin2 hown rfl rfl rfl rfl "SusuRing$Person" (fun _ h => h) q hd rfl rfl (by show (Sum.inr (2, [.int (up2 w.I 202 a v 200 a), .int (up2 w.I 202 a v 201 a), .int (up2 w.I 202 a v 202 a), va_rf (w.R 203 a), .int (up2 w.I 202 a v 204 a), .int (up2 w.I 202 a v 205 a), .int (up2 w.I 202 a v 206 a), .int (up2 w.I 202 a v 207 a), va_rf (w.R 208 a), va_rf (w.R 209 a), .int (up2 w.I 202 a v 210 a), .int (up2 w.I 202 a v 211 a), .int (up2 w.I 202 a v 212 a)]) : va_E) = Sum.inr (2, (fs_2 w a).set 2 (.int v)); simp [fs_2, up2]) (fun b hb => wE_I hb) (kk _ rfl)
theorem gg_203 (X : GC l G L0 p s m args meth c cc nL own) {a index : Nat} (hk : w.K a = 2) (q : Cond.fieldLink own index "SusuRing$Person" "notes" "[I" ∈ wAll) (hd : decode cc pc = .ok (.getfield index, 3)) (kk : ∀ v : Option Nat, v = w.R 203 a → Gw l G L0 p e R s m args below meth c nL cells slots Q w (pc + 3) lv (va_rf v :: st)) : Gw l G L0 p e R s m args below meth c nL cells slots Q w pc lv (.ref a :: st) :=
  g_get X (C := RX1) (T := TX1) (N := 13) (ci := 2) (j := 3) in_X1 rfl (by decide) (by decide) hk (wE_2 G w a) rfl "SusuRing$Person" (fun _ h => h) q hd (kk _ rfl)
theorem gp_203 (X : GC l G L0 p s m args meth c cc nL own) {a index : Nat} {v : Option Nat} (hk : w.K a = 2) (hin2 : meth.name = "<init>") (hown : RX1 = own) (q : Cond.fieldLink own index "SusuRing$Person" "notes" "[I" ∈ wAll) (hd : decode cc pc = .ok (.putfield index, 3)) (kk : ∀ w1 : Wd, w1 = w.setR 203 a v → Gw l G L0 p e R s m args below meth c nL cells slots Q w1 (pc + 3) lv st) : Gw l G L0 p e R s m args below meth c nL cells slots Q w pc lv (va_rf v :: .ref a :: st) :=
  g_putF X (C := RX1) (T := TX1) (N := 13) (ci := 2) (j := 3) (w1 := w.setR 203 a v) tyX1 tyX1_ok nmX1 in_X1 rfl (by decide) (by decide) hk (wE_2 G w a) (show 3 < 13 by decide) hin2 hown rfl rfl (by cases v <;> rfl) (by cases v <;> rfl) "SusuRing$Person" (fun _ h => h) q hd rfl rfl (by show (Sum.inr (2, [.int (w.I 200 a), .int (w.I 201 a), .int (w.I 202 a), va_rf (up2 w.R 203 a v 203 a), .int (w.I 204 a), .int (w.I 205 a), .int (w.I 206 a), .int (w.I 207 a), va_rf (up2 w.R 203 a v 208 a), va_rf (up2 w.R 203 a v 209 a), .int (w.I 210 a), .int (w.I 211 a), .int (w.I 212 a)]) : va_E) = Sum.inr (2, (fs_2 w a).set 3 (va_rf v)); simp [fs_2, up2]) (fun b hb => wE_R hb) (kk _ rfl)
theorem gg_204 (X : GC l G L0 p s m args meth c cc nL own) {a index : Nat} (hk : w.K a = 2) (q : Cond.fieldLink own index "SusuRing$Person" "purse" "I" ∈ wAll) (hd : decode cc pc = .ok (.getfield index, 3)) (kk : ∀ v : Int32, v = w.I 204 a → Gw l G L0 p e R s m args below meth c nL cells slots Q w (pc + 3) lv (.int v :: st)) : Gw l G L0 p e R s m args below meth c nL cells slots Q w pc lv (.ref a :: st) :=
  g_get X (C := RX1) (T := TX1) (N := 13) (ci := 2) (j := 4) in_X1 rfl (by decide) (by decide) hk (wE_2 G w a) rfl "SusuRing$Person" (fun _ h => h) q hd (kk _ rfl)
theorem gp_204 (X : GC l G L0 p s m args meth c cc nL own) {a index : Nat} {v : Int32} (hk : w.K a = 2) (q : Cond.fieldLink own index "SusuRing$Person" "purse" "I" ∈ wAll) (hd : decode cc pc = .ok (.putfield index, 3)) (kk : ∀ w1 : Wd, w1 = w.setI 204 a v → Gw l G L0 p e R s m args below meth c nL cells slots Q w1 (pc + 3) lv st) : Gw l G L0 p e R s m args below meth c nL cells slots Q w pc lv (.int v :: .ref a :: st) :=
  g_put X (C := RX1) (T := TX1) (N := 13) (ci := 2) (j := 4) (w1 := w.setI 204 a v) tyX1 tyX1_ok nmX1 in_X1 rfl (by decide) (by decide) hk (wE_2 G w a) (show 4 < 13 by decide) rfl rfl rfl rfl "SusuRing$Person" (fun _ h => h) q hd rfl rfl (by show (Sum.inr (2, [.int (up2 w.I 204 a v 200 a), .int (up2 w.I 204 a v 201 a), .int (up2 w.I 204 a v 202 a), va_rf (w.R 203 a), .int (up2 w.I 204 a v 204 a), .int (up2 w.I 204 a v 205 a), .int (up2 w.I 204 a v 206 a), .int (up2 w.I 204 a v 207 a), va_rf (w.R 208 a), va_rf (w.R 209 a), .int (up2 w.I 204 a v 210 a), .int (up2 w.I 204 a v 211 a), .int (up2 w.I 204 a v 212 a)]) : va_E) = Sum.inr (2, (fs_2 w a).set 4 (.int v)); simp [fs_2, up2]) (fun b hb => wE_I hb) (kk _ rfl)
theorem gg_205 (X : GC l G L0 p s m args meth c cc nL own) {a index : Nat} (hk : w.K a = 2) (q : Cond.fieldLink own index "SusuRing$Person" "shares" "I" ∈ wAll) (hd : decode cc pc = .ok (.getfield index, 3)) (kk : ∀ v : Int32, v = w.I 205 a → Gw l G L0 p e R s m args below meth c nL cells slots Q w (pc + 3) lv (.int v :: st)) : Gw l G L0 p e R s m args below meth c nL cells slots Q w pc lv (.ref a :: st) :=
  g_get X (C := RX1) (T := TX1) (N := 13) (ci := 2) (j := 5) in_X1 rfl (by decide) (by decide) hk (wE_2 G w a) rfl "SusuRing$Person" (fun _ h => h) q hd (kk _ rfl)
theorem gp_205 (X : GC l G L0 p s m args meth c cc nL own) {a index : Nat} {v : Int32} (hk : w.K a = 2) (q : Cond.fieldLink own index "SusuRing$Person" "shares" "I" ∈ wAll) (hd : decode cc pc = .ok (.putfield index, 3)) (kk : ∀ w1 : Wd, w1 = w.setI 205 a v → Gw l G L0 p e R s m args below meth c nL cells slots Q w1 (pc + 3) lv st) : Gw l G L0 p e R s m args below meth c nL cells slots Q w pc lv (.int v :: .ref a :: st) :=
  g_put X (C := RX1) (T := TX1) (N := 13) (ci := 2) (j := 5) (w1 := w.setI 205 a v) tyX1 tyX1_ok nmX1 in_X1 rfl (by decide) (by decide) hk (wE_2 G w a) (show 5 < 13 by decide) rfl rfl rfl rfl "SusuRing$Person" (fun _ h => h) q hd rfl rfl (by show (Sum.inr (2, [.int (up2 w.I 205 a v 200 a), .int (up2 w.I 205 a v 201 a), .int (up2 w.I 205 a v 202 a), va_rf (w.R 203 a), .int (up2 w.I 205 a v 204 a), .int (up2 w.I 205 a v 205 a), .int (up2 w.I 205 a v 206 a), .int (up2 w.I 205 a v 207 a), va_rf (w.R 208 a), va_rf (w.R 209 a), .int (up2 w.I 205 a v 210 a), .int (up2 w.I 205 a v 211 a), .int (up2 w.I 205 a v 212 a)]) : va_E) = Sum.inr (2, (fs_2 w a).set 5 (.int v)); simp [fs_2, up2]) (fun b hb => wE_I hb) (kk _ rfl)
theorem gg_206 (X : GC l G L0 p s m args meth c cc nL own) {a index : Nat} (hk : w.K a = 2) (q : Cond.fieldLink own index "SusuRing$Person" "debt" "I" ∈ wAll) (hd : decode cc pc = .ok (.getfield index, 3)) (kk : ∀ v : Int32, v = w.I 206 a → Gw l G L0 p e R s m args below meth c nL cells slots Q w (pc + 3) lv (.int v :: st)) : Gw l G L0 p e R s m args below meth c nL cells slots Q w pc lv (.ref a :: st) :=
  g_get X (C := RX1) (T := TX1) (N := 13) (ci := 2) (j := 6) in_X1 rfl (by decide) (by decide) hk (wE_2 G w a) rfl "SusuRing$Person" (fun _ h => h) q hd (kk _ rfl)
theorem gp_206 (X : GC l G L0 p s m args meth c cc nL own) {a index : Nat} {v : Int32} (hk : w.K a = 2) (q : Cond.fieldLink own index "SusuRing$Person" "debt" "I" ∈ wAll) (hd : decode cc pc = .ok (.putfield index, 3)) (kk : ∀ w1 : Wd, w1 = w.setI 206 a v → Gw l G L0 p e R s m args below meth c nL cells slots Q w1 (pc + 3) lv st) : Gw l G L0 p e R s m args below meth c nL cells slots Q w pc lv (.int v :: .ref a :: st) :=
  g_put X (C := RX1) (T := TX1) (N := 13) (ci := 2) (j := 6) (w1 := w.setI 206 a v) tyX1 tyX1_ok nmX1 in_X1 rfl (by decide) (by decide) hk (wE_2 G w a) (show 6 < 13 by decide) rfl rfl rfl rfl "SusuRing$Person" (fun _ h => h) q hd rfl rfl (by show (Sum.inr (2, [.int (up2 w.I 206 a v 200 a), .int (up2 w.I 206 a v 201 a), .int (up2 w.I 206 a v 202 a), va_rf (w.R 203 a), .int (up2 w.I 206 a v 204 a), .int (up2 w.I 206 a v 205 a), .int (up2 w.I 206 a v 206 a), .int (up2 w.I 206 a v 207 a), va_rf (w.R 208 a), va_rf (w.R 209 a), .int (up2 w.I 206 a v 210 a), .int (up2 w.I 206 a v 211 a), .int (up2 w.I 206 a v 212 a)]) : va_E) = Sum.inr (2, (fs_2 w a).set 6 (.int v)); simp [fs_2, up2]) (fun b hb => wE_I hb) (kk _ rfl)
theorem gg_207 (X : GC l G L0 p s m args meth c cc nL own) {a index : Nat} (hk : w.K a = 2) (q : Cond.fieldLink own index "SusuRing$Person" "loanMonths" "I" ∈ wAll) (hd : decode cc pc = .ok (.getfield index, 3)) (kk : ∀ v : Int32, v = w.I 207 a → Gw l G L0 p e R s m args below meth c nL cells slots Q w (pc + 3) lv (.int v :: st)) : Gw l G L0 p e R s m args below meth c nL cells slots Q w pc lv (.ref a :: st) :=
  g_get X (C := RX1) (T := TX1) (N := 13) (ci := 2) (j := 7) in_X1 rfl (by decide) (by decide) hk (wE_2 G w a) rfl "SusuRing$Person" (fun _ h => h) q hd (kk _ rfl)
theorem gp_207 (X : GC l G L0 p s m args meth c cc nL own) {a index : Nat} {v : Int32} (hk : w.K a = 2) (q : Cond.fieldLink own index "SusuRing$Person" "loanMonths" "I" ∈ wAll) (hd : decode cc pc = .ok (.putfield index, 3)) (kk : ∀ w1 : Wd, w1 = w.setI 207 a v → Gw l G L0 p e R s m args below meth c nL cells slots Q w1 (pc + 3) lv st) : Gw l G L0 p e R s m args below meth c nL cells slots Q w pc lv (.int v :: .ref a :: st) :=
  g_put X (C := RX1) (T := TX1) (N := 13) (ci := 2) (j := 7) (w1 := w.setI 207 a v) tyX1 tyX1_ok nmX1 in_X1 rfl (by decide) (by decide) hk (wE_2 G w a) (show 7 < 13 by decide) rfl rfl rfl rfl "SusuRing$Person" (fun _ h => h) q hd rfl rfl (by show (Sum.inr (2, [.int (up2 w.I 207 a v 200 a), .int (up2 w.I 207 a v 201 a), .int (up2 w.I 207 a v 202 a), va_rf (w.R 203 a), .int (up2 w.I 207 a v 204 a), .int (up2 w.I 207 a v 205 a), .int (up2 w.I 207 a v 206 a), .int (up2 w.I 207 a v 207 a), va_rf (w.R 208 a), va_rf (w.R 209 a), .int (up2 w.I 207 a v 210 a), .int (up2 w.I 207 a v 211 a), .int (up2 w.I 207 a v 212 a)]) : va_E) = Sum.inr (2, (fs_2 w a).set 7 (.int v)); simp [fs_2, up2]) (fun b hb => wE_I hb) (kk _ rfl)
theorem gg_208 (X : GC l G L0 p s m args meth c cc nL own) {a index : Nat} (hk : w.K a = 2) (q : Cond.fieldLink own index "SusuRing$Person" "first" "LSusuRing$Person;" ∈ wAll) (hd : decode cc pc = .ok (.getfield index, 3)) (kk : ∀ v : Option Nat, v = w.R 208 a → Gw l G L0 p e R s m args below meth c nL cells slots Q w (pc + 3) lv (va_rf v :: st)) : Gw l G L0 p e R s m args below meth c nL cells slots Q w pc lv (.ref a :: st) :=
  g_get X (C := RX1) (T := TX1) (N := 13) (ci := 2) (j := 8) in_X1 rfl (by decide) (by decide) hk (wE_2 G w a) rfl "SusuRing$Person" (fun _ h => h) q hd (kk _ rfl)
theorem gp_208 (X : GC l G L0 p s m args meth c cc nL own) {a index : Nat} {v : Option Nat} (hk : w.K a = 2) (q : Cond.fieldLink own index "SusuRing$Person" "first" "LSusuRing$Person;" ∈ wAll) (hd : decode cc pc = .ok (.putfield index, 3)) (kk : ∀ w1 : Wd, w1 = w.setR 208 a v → Gw l G L0 p e R s m args below meth c nL cells slots Q w1 (pc + 3) lv st) : Gw l G L0 p e R s m args below meth c nL cells slots Q w pc lv (va_rf v :: .ref a :: st) :=
  g_put X (C := RX1) (T := TX1) (N := 13) (ci := 2) (j := 8) (w1 := w.setR 208 a v) tyX1 tyX1_ok nmX1 in_X1 rfl (by decide) (by decide) hk (wE_2 G w a) (show 8 < 13 by decide) rfl rfl (by cases v <;> rfl) (by cases v <;> rfl) "SusuRing$Person" (fun _ h => h) q hd rfl rfl (by show (Sum.inr (2, [.int (w.I 200 a), .int (w.I 201 a), .int (w.I 202 a), va_rf (up2 w.R 208 a v 203 a), .int (w.I 204 a), .int (w.I 205 a), .int (w.I 206 a), .int (w.I 207 a), va_rf (up2 w.R 208 a v 208 a), va_rf (up2 w.R 208 a v 209 a), .int (w.I 210 a), .int (w.I 211 a), .int (w.I 212 a)]) : va_E) = Sum.inr (2, (fs_2 w a).set 8 (va_rf v)); simp [fs_2, up2]) (fun b hb => wE_R hb) (kk _ rfl)
theorem gg_209 (X : GC l G L0 p s m args meth c cc nL own) {a index : Nat} (hk : w.K a = 2) (q : Cond.fieldLink own index "SusuRing$Person" "second" "LSusuRing$Person;" ∈ wAll) (hd : decode cc pc = .ok (.getfield index, 3)) (kk : ∀ v : Option Nat, v = w.R 209 a → Gw l G L0 p e R s m args below meth c nL cells slots Q w (pc + 3) lv (va_rf v :: st)) : Gw l G L0 p e R s m args below meth c nL cells slots Q w pc lv (.ref a :: st) :=
  g_get X (C := RX1) (T := TX1) (N := 13) (ci := 2) (j := 9) in_X1 rfl (by decide) (by decide) hk (wE_2 G w a) rfl "SusuRing$Person" (fun _ h => h) q hd (kk _ rfl)
theorem gp_209 (X : GC l G L0 p s m args meth c cc nL own) {a index : Nat} {v : Option Nat} (hk : w.K a = 2) (q : Cond.fieldLink own index "SusuRing$Person" "second" "LSusuRing$Person;" ∈ wAll) (hd : decode cc pc = .ok (.putfield index, 3)) (kk : ∀ w1 : Wd, w1 = w.setR 209 a v → Gw l G L0 p e R s m args below meth c nL cells slots Q w1 (pc + 3) lv st) : Gw l G L0 p e R s m args below meth c nL cells slots Q w pc lv (va_rf v :: .ref a :: st) :=
  g_put X (C := RX1) (T := TX1) (N := 13) (ci := 2) (j := 9) (w1 := w.setR 209 a v) tyX1 tyX1_ok nmX1 in_X1 rfl (by decide) (by decide) hk (wE_2 G w a) (show 9 < 13 by decide) rfl rfl (by cases v <;> rfl) (by cases v <;> rfl) "SusuRing$Person" (fun _ h => h) q hd rfl rfl (by show (Sum.inr (2, [.int (w.I 200 a), .int (w.I 201 a), .int (w.I 202 a), va_rf (up2 w.R 209 a v 203 a), .int (w.I 204 a), .int (w.I 205 a), .int (w.I 206 a), .int (w.I 207 a), va_rf (up2 w.R 209 a v 208 a), va_rf (up2 w.R 209 a v 209 a), .int (w.I 210 a), .int (w.I 211 a), .int (w.I 212 a)]) : va_E) = Sum.inr (2, (fs_2 w a).set 9 (va_rf v)); simp [fs_2, up2]) (fun b hb => wE_R hb) (kk _ rfl)
theorem gg_210 (X : GC l G L0 p s m args meth c cc nL own) {a index : Nat} (hk : w.K a = 2) (q : Cond.fieldLink own index "SusuRing$Person" "paidBack" "I" ∈ wAll) (hd : decode cc pc = .ok (.getfield index, 3)) (kk : ∀ v : Int32, v = w.I 210 a → Gw l G L0 p e R s m args below meth c nL cells slots Q w (pc + 3) lv (.int v :: st)) : Gw l G L0 p e R s m args below meth c nL cells slots Q w pc lv (.ref a :: st) :=
  g_get X (C := RX1) (T := TX1) (N := 13) (ci := 2) (j := 10) in_X1 rfl (by decide) (by decide) hk (wE_2 G w a) rfl "SusuRing$Person" (fun _ h => h) q hd (kk _ rfl)
theorem gp_210 (X : GC l G L0 p s m args meth c cc nL own) {a index : Nat} {v : Int32} (hk : w.K a = 2) (q : Cond.fieldLink own index "SusuRing$Person" "paidBack" "I" ∈ wAll) (hd : decode cc pc = .ok (.putfield index, 3)) (kk : ∀ w1 : Wd, w1 = w.setI 210 a v → Gw l G L0 p e R s m args below meth c nL cells slots Q w1 (pc + 3) lv st) : Gw l G L0 p e R s m args below meth c nL cells slots Q w pc lv (.int v :: .ref a :: st) :=
  g_put X (C := RX1) (T := TX1) (N := 13) (ci := 2) (j := 10) (w1 := w.setI 210 a v) tyX1 tyX1_ok nmX1 in_X1 rfl (by decide) (by decide) hk (wE_2 G w a) (show 10 < 13 by decide) rfl rfl rfl rfl "SusuRing$Person" (fun _ h => h) q hd rfl rfl (by show (Sum.inr (2, [.int (up2 w.I 210 a v 200 a), .int (up2 w.I 210 a v 201 a), .int (up2 w.I 210 a v 202 a), va_rf (w.R 203 a), .int (up2 w.I 210 a v 204 a), .int (up2 w.I 210 a v 205 a), .int (up2 w.I 210 a v 206 a), .int (up2 w.I 210 a v 207 a), va_rf (w.R 208 a), va_rf (w.R 209 a), .int (up2 w.I 210 a v 210 a), .int (up2 w.I 210 a v 211 a), .int (up2 w.I 210 a v 212 a)]) : va_E) = Sum.inr (2, (fs_2 w a).set 10 (.int v)); simp [fs_2, up2]) (fun b hb => wE_I hb) (kk _ rfl)
theorem gg_211 (X : GC l G L0 p s m args meth c cc nL own) {a index : Nat} (hk : w.K a = 2) (q : Cond.fieldLink own index "SusuRing$Person" "truth" "I" ∈ wAll) (hd : decode cc pc = .ok (.getfield index, 3)) (kk : ∀ v : Int32, v = w.I 211 a → Gw l G L0 p e R s m args below meth c nL cells slots Q w (pc + 3) lv (.int v :: st)) : Gw l G L0 p e R s m args below meth c nL cells slots Q w pc lv (.ref a :: st) :=
  g_get X (C := RX1) (T := TX1) (N := 13) (ci := 2) (j := 11) in_X1 rfl (by decide) (by decide) hk (wE_2 G w a) rfl "SusuRing$Person" (fun _ h => h) q hd (kk _ rfl)
theorem gp_211 (X : GC l G L0 p s m args meth c cc nL own) {a index : Nat} {v : Int32} (hk : w.K a = 2) (q : Cond.fieldLink own index "SusuRing$Person" "truth" "I" ∈ wAll) (hd : decode cc pc = .ok (.putfield index, 3)) (kk : ∀ w1 : Wd, w1 = w.setI 211 a v → Gw l G L0 p e R s m args below meth c nL cells slots Q w1 (pc + 3) lv st) : Gw l G L0 p e R s m args below meth c nL cells slots Q w pc lv (.int v :: .ref a :: st) :=
  g_put X (C := RX1) (T := TX1) (N := 13) (ci := 2) (j := 11) (w1 := w.setI 211 a v) tyX1 tyX1_ok nmX1 in_X1 rfl (by decide) (by decide) hk (wE_2 G w a) (show 11 < 13 by decide) rfl rfl rfl rfl "SusuRing$Person" (fun _ h => h) q hd rfl rfl (by show (Sum.inr (2, [.int (up2 w.I 211 a v 200 a), .int (up2 w.I 211 a v 201 a), .int (up2 w.I 211 a v 202 a), va_rf (w.R 203 a), .int (up2 w.I 211 a v 204 a), .int (up2 w.I 211 a v 205 a), .int (up2 w.I 211 a v 206 a), .int (up2 w.I 211 a v 207 a), va_rf (w.R 208 a), va_rf (w.R 209 a), .int (up2 w.I 211 a v 210 a), .int (up2 w.I 211 a v 211 a), .int (up2 w.I 211 a v 212 a)]) : va_E) = Sum.inr (2, (fs_2 w a).set 11 (.int v)); simp [fs_2, up2]) (fun b hb => wE_I hb) (kk _ rfl)
theorem gg_212 (X : GC l G L0 p s m args meth c cc nL own) {a index : Nat} (hk : w.K a = 2) (q : Cond.fieldLink own index "SusuRing$Person" "dead" "Z" ∈ wAll) (hd : decode cc pc = .ok (.getfield index, 3)) (kk : ∀ v : Int32, v = w.I 212 a → Gw l G L0 p e R s m args below meth c nL cells slots Q w (pc + 3) lv (.int v :: st)) : Gw l G L0 p e R s m args below meth c nL cells slots Q w pc lv (.ref a :: st) :=
  g_get X (C := RX1) (T := TX1) (N := 13) (ci := 2) (j := 12) in_X1 rfl (by decide) (by decide) hk (wE_2 G w a) rfl "SusuRing$Person" (fun _ h => h) q hd (kk _ rfl)
theorem gp_212 (X : GC l G L0 p s m args meth c cc nL own) {a index : Nat} {v : Int32} (hk : w.K a = 2) (hz : v = 0 ∨ v = 1) (q : Cond.fieldLink own index "SusuRing$Person" "dead" "Z" ∈ wAll) (hd : decode cc pc = .ok (.putfield index, 3)) (kk : ∀ w1 : Wd, w1 = w.setI 212 a v → Gw l G L0 p e R s m args below meth c nL cells slots Q w1 (pc + 3) lv st) : Gw l G L0 p e R s m args below meth c nL cells slots Q w pc lv (.int v :: .ref a :: st) :=
  g_put X (C := RX1) (T := TX1) (N := 13) (ci := 2) (j := 12) (w1 := w.setI 212 a v) tyX1 tyX1_ok nmX1 in_X1 rfl (by decide) (by decide) hk (wE_2 G w a) (show 12 < 13 by decide) rfl rfl (nar_z hz) (fit_z hz) "SusuRing$Person" (fun _ h => h) q hd rfl rfl (by show (Sum.inr (2, [.int (up2 w.I 212 a v 200 a), .int (up2 w.I 212 a v 201 a), .int (up2 w.I 212 a v 202 a), va_rf (w.R 203 a), .int (up2 w.I 212 a v 204 a), .int (up2 w.I 212 a v 205 a), .int (up2 w.I 212 a v 206 a), .int (up2 w.I 212 a v 207 a), va_rf (w.R 208 a), va_rf (w.R 209 a), .int (up2 w.I 212 a v 210 a), .int (up2 w.I 212 a v 211 a), .int (up2 w.I 212 a v 212 a)]) : va_E) = Sum.inr (2, (fs_2 w a).set 12 (.int v)); simp [fs_2, up2]) (fun b hb => wE_I hb) (kk _ rfl)
theorem in_X2 : ∀ x ∈ u_ws RX2 TX2 6, x ∈ wAll := by decide +kernel
def fs_3 (w : Wd) (a : Nat) : List Value := [va_rf (w.R 300 a), .int (w.I 301 a), .int (w.I 302 a), .int (w.I 303 a), .int (w.I 304 a), .int (w.I 305 a)]
theorem wE_3 (G : GT) (w : Wd) (a : Nat) : wE G w 3 a = .inr (3, fs_3 w a) := rfl
theorem gg_300 (X : GC l G L0 p s m args meth c cc nL own) {a index : Nat} (hk : w.K a = 3) (q : Cond.fieldLink own index "SusuRing$Place" "holder" "LSusuRing$Person;" ∈ wAll) (hd : decode cc pc = .ok (.getfield index, 3)) (kk : ∀ v : Option Nat, v = w.R 300 a → Gw l G L0 p e R s m args below meth c nL cells slots Q w (pc + 3) lv (va_rf v :: st)) : Gw l G L0 p e R s m args below meth c nL cells slots Q w pc lv (.ref a :: st) :=
  g_get X (C := RX2) (T := TX2) (N := 6) (ci := 3) (j := 0) in_X2 rfl (by decide) (by decide) hk (wE_3 G w a) rfl "SusuRing$Place" (fun _ h => h) q hd (kk _ rfl)
theorem gp_300 (X : GC l G L0 p s m args meth c cc nL own) {a index : Nat} {v : Option Nat} (hk : w.K a = 3) (q : Cond.fieldLink own index "SusuRing$Place" "holder" "LSusuRing$Person;" ∈ wAll) (hd : decode cc pc = .ok (.putfield index, 3)) (kk : ∀ w1 : Wd, w1 = w.setR 300 a v → Gw l G L0 p e R s m args below meth c nL cells slots Q w1 (pc + 3) lv st) : Gw l G L0 p e R s m args below meth c nL cells slots Q w pc lv (va_rf v :: .ref a :: st) :=
  g_put X (C := RX2) (T := TX2) (N := 6) (ci := 3) (j := 0) (w1 := w.setR 300 a v) tyX2 tyX2_ok nmX2 in_X2 rfl (by decide) (by decide) hk (wE_3 G w a) (show 0 < 6 by decide) rfl rfl (by cases v <;> rfl) (by cases v <;> rfl) "SusuRing$Place" (fun _ h => h) q hd rfl rfl (by show (Sum.inr (3, [va_rf (up2 w.R 300 a v 300 a), .int (w.I 301 a), .int (w.I 302 a), .int (w.I 303 a), .int (w.I 304 a), .int (w.I 305 a)]) : va_E) = Sum.inr (3, (fs_3 w a).set 0 (va_rf v)); simp [fs_3, up2]) (fun b hb => wE_R hb) (kk _ rfl)
theorem gg_301 (X : GC l G L0 p s m args meth c cc nL own) {a index : Nat} (hk : w.K a = 3) (q : Cond.fieldLink own index "SusuRing$Place" "arrears" "I" ∈ wAll) (hd : decode cc pc = .ok (.getfield index, 3)) (kk : ∀ v : Int32, v = w.I 301 a → Gw l G L0 p e R s m args below meth c nL cells slots Q w (pc + 3) lv (.int v :: st)) : Gw l G L0 p e R s m args below meth c nL cells slots Q w pc lv (.ref a :: st) :=
  g_get X (C := RX2) (T := TX2) (N := 6) (ci := 3) (j := 1) in_X2 rfl (by decide) (by decide) hk (wE_3 G w a) rfl "SusuRing$Place" (fun _ h => h) q hd (kk _ rfl)
theorem gp_301 (X : GC l G L0 p s m args meth c cc nL own) {a index : Nat} {v : Int32} (hk : w.K a = 3) (q : Cond.fieldLink own index "SusuRing$Place" "arrears" "I" ∈ wAll) (hd : decode cc pc = .ok (.putfield index, 3)) (kk : ∀ w1 : Wd, w1 = w.setI 301 a v → Gw l G L0 p e R s m args below meth c nL cells slots Q w1 (pc + 3) lv st) : Gw l G L0 p e R s m args below meth c nL cells slots Q w pc lv (.int v :: .ref a :: st) :=
  g_put X (C := RX2) (T := TX2) (N := 6) (ci := 3) (j := 1) (w1 := w.setI 301 a v) tyX2 tyX2_ok nmX2 in_X2 rfl (by decide) (by decide) hk (wE_3 G w a) (show 1 < 6 by decide) rfl rfl rfl rfl "SusuRing$Place" (fun _ h => h) q hd rfl rfl (by show (Sum.inr (3, [va_rf (w.R 300 a), .int (up2 w.I 301 a v 301 a), .int (up2 w.I 301 a v 302 a), .int (up2 w.I 301 a v 303 a), .int (up2 w.I 301 a v 304 a), .int (up2 w.I 301 a v 305 a)]) : va_E) = Sum.inr (3, (fs_3 w a).set 1 (.int v)); simp [fs_3, up2]) (fun b hb => wE_I hb) (kk _ rfl)
theorem gg_302 (X : GC l G L0 p s m args meth c cc nL own) {a index : Nat} (hk : w.K a = 3) (q : Cond.fieldLink own index "SusuRing$Place" "need" "I" ∈ wAll) (hd : decode cc pc = .ok (.getfield index, 3)) (kk : ∀ v : Int32, v = w.I 302 a → Gw l G L0 p e R s m args below meth c nL cells slots Q w (pc + 3) lv (.int v :: st)) : Gw l G L0 p e R s m args below meth c nL cells slots Q w pc lv (.ref a :: st) :=
  g_get X (C := RX2) (T := TX2) (N := 6) (ci := 3) (j := 2) in_X2 rfl (by decide) (by decide) hk (wE_3 G w a) rfl "SusuRing$Place" (fun _ h => h) q hd (kk _ rfl)
theorem gp_302 (X : GC l G L0 p s m args meth c cc nL own) {a index : Nat} {v : Int32} (hk : w.K a = 3) (q : Cond.fieldLink own index "SusuRing$Place" "need" "I" ∈ wAll) (hd : decode cc pc = .ok (.putfield index, 3)) (kk : ∀ w1 : Wd, w1 = w.setI 302 a v → Gw l G L0 p e R s m args below meth c nL cells slots Q w1 (pc + 3) lv st) : Gw l G L0 p e R s m args below meth c nL cells slots Q w pc lv (.int v :: .ref a :: st) :=
  g_put X (C := RX2) (T := TX2) (N := 6) (ci := 3) (j := 2) (w1 := w.setI 302 a v) tyX2 tyX2_ok nmX2 in_X2 rfl (by decide) (by decide) hk (wE_3 G w a) (show 2 < 6 by decide) rfl rfl rfl rfl "SusuRing$Place" (fun _ h => h) q hd rfl rfl (by show (Sum.inr (3, [va_rf (w.R 300 a), .int (up2 w.I 302 a v 301 a), .int (up2 w.I 302 a v 302 a), .int (up2 w.I 302 a v 303 a), .int (up2 w.I 302 a v 304 a), .int (up2 w.I 302 a v 305 a)]) : va_E) = Sum.inr (3, (fs_3 w a).set 2 (.int v)); simp [fs_3, up2]) (fun b hb => wE_I hb) (kk _ rfl)
theorem gg_303 (X : GC l G L0 p s m args meth c cc nL own) {a index : Nat} (hk : w.K a = 3) (q : Cond.fieldLink own index "SusuRing$Place" "bid" "I" ∈ wAll) (hd : decode cc pc = .ok (.getfield index, 3)) (kk : ∀ v : Int32, v = w.I 303 a → Gw l G L0 p e R s m args below meth c nL cells slots Q w (pc + 3) lv (.int v :: st)) : Gw l G L0 p e R s m args below meth c nL cells slots Q w pc lv (.ref a :: st) :=
  g_get X (C := RX2) (T := TX2) (N := 6) (ci := 3) (j := 3) in_X2 rfl (by decide) (by decide) hk (wE_3 G w a) rfl "SusuRing$Place" (fun _ h => h) q hd (kk _ rfl)
theorem gp_303 (X : GC l G L0 p s m args meth c cc nL own) {a index : Nat} {v : Int32} (hk : w.K a = 3) (q : Cond.fieldLink own index "SusuRing$Place" "bid" "I" ∈ wAll) (hd : decode cc pc = .ok (.putfield index, 3)) (kk : ∀ w1 : Wd, w1 = w.setI 303 a v → Gw l G L0 p e R s m args below meth c nL cells slots Q w1 (pc + 3) lv st) : Gw l G L0 p e R s m args below meth c nL cells slots Q w pc lv (.int v :: .ref a :: st) :=
  g_put X (C := RX2) (T := TX2) (N := 6) (ci := 3) (j := 3) (w1 := w.setI 303 a v) tyX2 tyX2_ok nmX2 in_X2 rfl (by decide) (by decide) hk (wE_3 G w a) (show 3 < 6 by decide) rfl rfl rfl rfl "SusuRing$Place" (fun _ h => h) q hd rfl rfl (by show (Sum.inr (3, [va_rf (w.R 300 a), .int (up2 w.I 303 a v 301 a), .int (up2 w.I 303 a v 302 a), .int (up2 w.I 303 a v 303 a), .int (up2 w.I 303 a v 304 a), .int (up2 w.I 303 a v 305 a)]) : va_E) = Sum.inr (3, (fs_3 w a).set 3 (.int v)); simp [fs_3, up2]) (fun b hb => wE_I hb) (kk _ rfl)
theorem gg_304 (X : GC l G L0 p s m args meth c cc nL own) {a index : Nat} (hk : w.K a = 3) (q : Cond.fieldLink own index "SusuRing$Place" "paidIn" "I" ∈ wAll) (hd : decode cc pc = .ok (.getfield index, 3)) (kk : ∀ v : Int32, v = w.I 304 a → Gw l G L0 p e R s m args below meth c nL cells slots Q w (pc + 3) lv (.int v :: st)) : Gw l G L0 p e R s m args below meth c nL cells slots Q w pc lv (.ref a :: st) :=
  g_get X (C := RX2) (T := TX2) (N := 6) (ci := 3) (j := 4) in_X2 rfl (by decide) (by decide) hk (wE_3 G w a) rfl "SusuRing$Place" (fun _ h => h) q hd (kk _ rfl)
theorem gp_304 (X : GC l G L0 p s m args meth c cc nL own) {a index : Nat} {v : Int32} (hk : w.K a = 3) (q : Cond.fieldLink own index "SusuRing$Place" "paidIn" "I" ∈ wAll) (hd : decode cc pc = .ok (.putfield index, 3)) (kk : ∀ w1 : Wd, w1 = w.setI 304 a v → Gw l G L0 p e R s m args below meth c nL cells slots Q w1 (pc + 3) lv st) : Gw l G L0 p e R s m args below meth c nL cells slots Q w pc lv (.int v :: .ref a :: st) :=
  g_put X (C := RX2) (T := TX2) (N := 6) (ci := 3) (j := 4) (w1 := w.setI 304 a v) tyX2 tyX2_ok nmX2 in_X2 rfl (by decide) (by decide) hk (wE_3 G w a) (show 4 < 6 by decide) rfl rfl rfl rfl "SusuRing$Place" (fun _ h => h) q hd rfl rfl (by show (Sum.inr (3, [va_rf (w.R 300 a), .int (up2 w.I 304 a v 301 a), .int (up2 w.I 304 a v 302 a), .int (up2 w.I 304 a v 303 a), .int (up2 w.I 304 a v 304 a), .int (up2 w.I 304 a v 305 a)]) : va_E) = Sum.inr (3, (fs_3 w a).set 4 (.int v)); simp [fs_3, up2]) (fun b hb => wE_I hb) (kk _ rfl)
theorem gg_305 (X : GC l G L0 p s m args meth c cc nL own) {a index : Nat} (hk : w.K a = 3) (q : Cond.fieldLink own index "SusuRing$Place" "hadTurn" "Z" ∈ wAll) (hd : decode cc pc = .ok (.getfield index, 3)) (kk : ∀ v : Int32, v = w.I 305 a → Gw l G L0 p e R s m args below meth c nL cells slots Q w (pc + 3) lv (.int v :: st)) : Gw l G L0 p e R s m args below meth c nL cells slots Q w pc lv (.ref a :: st) :=
  g_get X (C := RX2) (T := TX2) (N := 6) (ci := 3) (j := 5) in_X2 rfl (by decide) (by decide) hk (wE_3 G w a) rfl "SusuRing$Place" (fun _ h => h) q hd (kk _ rfl)
theorem gp_305 (X : GC l G L0 p s m args meth c cc nL own) {a index : Nat} {v : Int32} (hk : w.K a = 3) (hz : v = 0 ∨ v = 1) (q : Cond.fieldLink own index "SusuRing$Place" "hadTurn" "Z" ∈ wAll) (hd : decode cc pc = .ok (.putfield index, 3)) (kk : ∀ w1 : Wd, w1 = w.setI 305 a v → Gw l G L0 p e R s m args below meth c nL cells slots Q w1 (pc + 3) lv st) : Gw l G L0 p e R s m args below meth c nL cells slots Q w pc lv (.int v :: .ref a :: st) :=
  g_put X (C := RX2) (T := TX2) (N := 6) (ci := 3) (j := 5) (w1 := w.setI 305 a v) tyX2 tyX2_ok nmX2 in_X2 rfl (by decide) (by decide) hk (wE_3 G w a) (show 5 < 6 by decide) rfl rfl (nar_z hz) (fit_z hz) "SusuRing$Place" (fun _ h => h) q hd rfl rfl (by show (Sum.inr (3, [va_rf (w.R 300 a), .int (up2 w.I 305 a v 301 a), .int (up2 w.I 305 a v 302 a), .int (up2 w.I 305 a v 303 a), .int (up2 w.I 305 a v 304 a), .int (up2 w.I 305 a v 305 a)]) : va_E) = Sum.inr (3, (fs_3 w a).set 5 (.int v)); simp [fs_3, up2]) (fun b hb => wE_I hb) (kk _ rfl)
theorem in_X3 : ∀ x ∈ u_ws RX3 TX3 4, x ∈ wAll := by decide +kernel
def fs_4 (w : Wd) (a : Nat) : List Value := [va_rf (w.R 400 a), va_rf (w.R 401 a), .int (w.I 402 a), .int (w.I 403 a)]
theorem wE_4 (G : GT) (w : Wd) (a : Nat) : wE G w 4 a = .inr (4, fs_4 w a) := rfl
theorem gg_400 (X : GC l G L0 p s m args meth c cc nL own) {a index : Nat} (hk : w.K a = 4) (q : Cond.fieldLink own index "SusuRing" "people" "Ljava/util/ArrayList;" ∈ wAll) (hd : decode cc pc = .ok (.getfield index, 3)) (kk : ∀ v : Option Nat, v = w.R 400 a → Gw l G L0 p e R s m args below meth c nL cells slots Q w (pc + 3) lv (va_rf v :: st)) : Gw l G L0 p e R s m args below meth c nL cells slots Q w pc lv (.ref a :: st) :=
  g_get X (C := RX3) (T := TX3) (N := 4) (ci := 4) (j := 0) in_X3 rfl (by decide) (by decide) hk (wE_4 G w a) rfl "SusuRing" (fun _ h => h) q hd (kk _ rfl)
theorem gp_400 (X : GC l G L0 p s m args meth c cc nL own) {a index : Nat} {v : Option Nat} (hk : w.K a = 4) (hin2 : meth.name = "<init>") (hown : RX3 = own) (q : Cond.fieldLink own index "SusuRing" "people" "Ljava/util/ArrayList;" ∈ wAll) (hd : decode cc pc = .ok (.putfield index, 3)) (kk : ∀ w1 : Wd, w1 = w.setR 400 a v → Gw l G L0 p e R s m args below meth c nL cells slots Q w1 (pc + 3) lv st) : Gw l G L0 p e R s m args below meth c nL cells slots Q w pc lv (va_rf v :: .ref a :: st) :=
  g_putF X (C := RX3) (T := TX3) (N := 4) (ci := 4) (j := 0) (w1 := w.setR 400 a v) tyX3 tyX3_ok nmX3 in_X3 rfl (by decide) (by decide) hk (wE_4 G w a) (show 0 < 4 by decide) hin2 hown rfl rfl (by cases v <;> rfl) (by cases v <;> rfl) "SusuRing" (fun _ h => h) q hd rfl rfl (by show (Sum.inr (4, [va_rf (up2 w.R 400 a v 400 a), va_rf (up2 w.R 400 a v 401 a), .int (w.I 402 a), .int (w.I 403 a)]) : va_E) = Sum.inr (4, (fs_4 w a).set 0 (va_rf v)); simp [fs_4, up2]) (fun b hb => wE_R hb) (kk _ rfl)
theorem gg_401 (X : GC l G L0 p s m args meth c cc nL own) {a index : Nat} (hk : w.K a = 4) (q : Cond.fieldLink own index "SusuRing" "circles" "Ljava/util/ArrayList;" ∈ wAll) (hd : decode cc pc = .ok (.getfield index, 3)) (kk : ∀ v : Option Nat, v = w.R 401 a → Gw l G L0 p e R s m args below meth c nL cells slots Q w (pc + 3) lv (va_rf v :: st)) : Gw l G L0 p e R s m args below meth c nL cells slots Q w pc lv (.ref a :: st) :=
  g_get X (C := RX3) (T := TX3) (N := 4) (ci := 4) (j := 1) in_X3 rfl (by decide) (by decide) hk (wE_4 G w a) rfl "SusuRing" (fun _ h => h) q hd (kk _ rfl)
theorem gp_401 (X : GC l G L0 p s m args meth c cc nL own) {a index : Nat} {v : Option Nat} (hk : w.K a = 4) (hin2 : meth.name = "<init>") (hown : RX3 = own) (q : Cond.fieldLink own index "SusuRing" "circles" "Ljava/util/ArrayList;" ∈ wAll) (hd : decode cc pc = .ok (.putfield index, 3)) (kk : ∀ w1 : Wd, w1 = w.setR 401 a v → Gw l G L0 p e R s m args below meth c nL cells slots Q w1 (pc + 3) lv st) : Gw l G L0 p e R s m args below meth c nL cells slots Q w pc lv (va_rf v :: .ref a :: st) :=
  g_putF X (C := RX3) (T := TX3) (N := 4) (ci := 4) (j := 1) (w1 := w.setR 401 a v) tyX3 tyX3_ok nmX3 in_X3 rfl (by decide) (by decide) hk (wE_4 G w a) (show 1 < 4 by decide) hin2 hown rfl rfl (by cases v <;> rfl) (by cases v <;> rfl) "SusuRing" (fun _ h => h) q hd rfl rfl (by show (Sum.inr (4, [va_rf (up2 w.R 401 a v 400 a), va_rf (up2 w.R 401 a v 401 a), .int (w.I 402 a), .int (w.I 403 a)]) : va_E) = Sum.inr (4, (fs_4 w a).set 1 (va_rf v)); simp [fs_4, up2]) (fun b hb => wE_R hb) (kk _ rfl)
theorem gg_402 (X : GC l G L0 p s m args meth c cc nL own) {a index : Nat} (hk : w.K a = 4) (q : Cond.fieldLink own index "SusuRing" "fundCash" "I" ∈ wAll) (hd : decode cc pc = .ok (.getfield index, 3)) (kk : ∀ v : Int32, v = w.I 402 a → Gw l G L0 p e R s m args below meth c nL cells slots Q w (pc + 3) lv (.int v :: st)) : Gw l G L0 p e R s m args below meth c nL cells slots Q w pc lv (.ref a :: st) :=
  g_get X (C := RX3) (T := TX3) (N := 4) (ci := 4) (j := 2) in_X3 rfl (by decide) (by decide) hk (wE_4 G w a) rfl "SusuRing" (fun _ h => h) q hd (kk _ rfl)
theorem gp_402 (X : GC l G L0 p s m args meth c cc nL own) {a index : Nat} {v : Int32} (hk : w.K a = 4) (q : Cond.fieldLink own index "SusuRing" "fundCash" "I" ∈ wAll) (hd : decode cc pc = .ok (.putfield index, 3)) (kk : ∀ w1 : Wd, w1 = w.setI 402 a v → Gw l G L0 p e R s m args below meth c nL cells slots Q w1 (pc + 3) lv st) : Gw l G L0 p e R s m args below meth c nL cells slots Q w pc lv (.int v :: .ref a :: st) :=
  g_put X (C := RX3) (T := TX3) (N := 4) (ci := 4) (j := 2) (w1 := w.setI 402 a v) tyX3 tyX3_ok nmX3 in_X3 rfl (by decide) (by decide) hk (wE_4 G w a) (show 2 < 4 by decide) rfl rfl rfl rfl "SusuRing" (fun _ h => h) q hd rfl rfl (by show (Sum.inr (4, [va_rf (w.R 400 a), va_rf (w.R 401 a), .int (up2 w.I 402 a v 402 a), .int (up2 w.I 402 a v 403 a)]) : va_E) = Sum.inr (4, (fs_4 w a).set 2 (.int v)); simp [fs_4, up2]) (fun b hb => wE_I hb) (kk _ rfl)
theorem gg_403 (X : GC l G L0 p s m args meth c cc nL own) {a index : Nat} (hk : w.K a = 4) (q : Cond.fieldLink own index "SusuRing" "earned" "I" ∈ wAll) (hd : decode cc pc = .ok (.getfield index, 3)) (kk : ∀ v : Int32, v = w.I 403 a → Gw l G L0 p e R s m args below meth c nL cells slots Q w (pc + 3) lv (.int v :: st)) : Gw l G L0 p e R s m args below meth c nL cells slots Q w pc lv (.ref a :: st) :=
  g_get X (C := RX3) (T := TX3) (N := 4) (ci := 4) (j := 3) in_X3 rfl (by decide) (by decide) hk (wE_4 G w a) rfl "SusuRing" (fun _ h => h) q hd (kk _ rfl)
theorem gp_403 (X : GC l G L0 p s m args meth c cc nL own) {a index : Nat} {v : Int32} (hk : w.K a = 4) (q : Cond.fieldLink own index "SusuRing" "earned" "I" ∈ wAll) (hd : decode cc pc = .ok (.putfield index, 3)) (kk : ∀ w1 : Wd, w1 = w.setI 403 a v → Gw l G L0 p e R s m args below meth c nL cells slots Q w1 (pc + 3) lv st) : Gw l G L0 p e R s m args below meth c nL cells slots Q w pc lv (.int v :: .ref a :: st) :=
  g_put X (C := RX3) (T := TX3) (N := 4) (ci := 4) (j := 3) (w1 := w.setI 403 a v) tyX3 tyX3_ok nmX3 in_X3 rfl (by decide) (by decide) hk (wE_4 G w a) (show 3 < 4 by decide) rfl rfl rfl rfl "SusuRing" (fun _ h => h) q hd rfl rfl (by show (Sum.inr (4, [va_rf (w.R 400 a), va_rf (w.R 401 a), .int (up2 w.I 403 a v 402 a), .int (up2 w.I 403 a v 403 a)]) : va_E) = Sum.inr (4, (fs_4 w a).set 3 (.int v)); simp [fs_4, up2]) (fun b hb => wE_I hb) (kk _ rfl)
theorem in_Jx4a65c : ∀ x ∈ u_ws RJx4a65c TJx4a65c 3, x ∈ wAll := by decide +kernel
def fs_6 (w : Wd) (a : Nat) : List Value := [.int (w.I 600 a), va_rf (w.R 601 a), .int (w.I 602 a)]
theorem wE_6 (G : GT) (w : Wd) (a : Nat) : wE G w 6 a = .inr (0, fs_6 w a) := rfl
theorem gg_600 (X : GC l G L0 p s m args meth c cc nL own) {a index : Nat} (hk : w.K a = 6) (ref : String) (hsame : ∀ x, s.fieldFound? "java/util/AbstractList" "modCount" "I" = some x → s.fieldFound? ref "modCount" "I" = some x) (q : Cond.fieldLink own index ref "modCount" "I" ∈ wAll) (hd : decode cc pc = .ok (.getfield index, 3)) (kk : ∀ v : Int32, v = w.I 600 a → Gw l G L0 p e R s m args below meth c nL cells slots Q w (pc + 3) lv (.int v :: st)) : Gw l G L0 p e R s m args below meth c nL cells slots Q w pc lv (.ref a :: st) :=
  g_get X (C := RJx4a65c) (T := TJx4a65c) (N := 3) (ci := 0) (j := 0) in_Jx4a65c rfl (by decide) (by decide) hk (wE_6 G w a) rfl ref hsame q hd (kk _ rfl)
theorem gp_600 (X : GC l G L0 p s m args meth c cc nL own) {a index : Nat} {v : Int32} (hk : w.K a = 6) (ref : String) (hsame : ∀ x, s.fieldFound? "java/util/AbstractList" "modCount" "I" = some x → s.fieldFound? ref "modCount" "I" = some x) (q : Cond.fieldLink own index ref "modCount" "I" ∈ wAll) (hd : decode cc pc = .ok (.putfield index, 3)) (kk : ∀ w1 : Wd, w1 = w.setI 600 a v → Gw l G L0 p e R s m args below meth c nL cells slots Q w1 (pc + 3) lv st) : Gw l G L0 p e R s m args below meth c nL cells slots Q w pc lv (.int v :: .ref a :: st) :=
  g_put X (C := RJx4a65c) (T := TJx4a65c) (N := 3) (ci := 0) (j := 0) (w1 := w.setI 600 a v) tyJx4a65c tyJx4a65c_ok nmJx4a65c in_Jx4a65c rfl (by decide) (by decide) hk (wE_6 G w a) (show 0 < 3 by decide) rfl rfl rfl rfl ref hsame q hd rfl rfl (by show (Sum.inr (0, [.int (up2 w.I 600 a v 600 a), va_rf (w.R 601 a), .int (up2 w.I 600 a v 602 a)]) : va_E) = Sum.inr (0, (fs_6 w a).set 0 (.int v)); simp [fs_6, up2]) (fun b hb => wE_I hb) (kk _ rfl)
theorem gg_601 (X : GC l G L0 p s m args meth c cc nL own) {a index : Nat} (hk : w.K a = 6) (q : Cond.fieldLink own index "java/util/ArrayList" "elementData" "[Ljava/lang/Object;" ∈ wAll) (hd : decode cc pc = .ok (.getfield index, 3)) (kk : ∀ v : Option Nat, v = w.R 601 a → Gw l G L0 p e R s m args below meth c nL cells slots Q w (pc + 3) lv (va_rf v :: st)) : Gw l G L0 p e R s m args below meth c nL cells slots Q w pc lv (.ref a :: st) :=
  g_get X (C := RJx4a65c) (T := TJx4a65c) (N := 3) (ci := 0) (j := 1) in_Jx4a65c rfl (by decide) (by decide) hk (wE_6 G w a) rfl "java/util/ArrayList" (fun _ h => h) q hd (kk _ rfl)
theorem gp_601 (X : GC l G L0 p s m args meth c cc nL own) {a index : Nat} {v : Option Nat} (hk : w.K a = 6) (q : Cond.fieldLink own index "java/util/ArrayList" "elementData" "[Ljava/lang/Object;" ∈ wAll) (hd : decode cc pc = .ok (.putfield index, 3)) (kk : ∀ w1 : Wd, w1 = w.setR 601 a v → Gw l G L0 p e R s m args below meth c nL cells slots Q w1 (pc + 3) lv st) : Gw l G L0 p e R s m args below meth c nL cells slots Q w pc lv (va_rf v :: .ref a :: st) :=
  g_put X (C := RJx4a65c) (T := TJx4a65c) (N := 3) (ci := 0) (j := 1) (w1 := w.setR 601 a v) tyJx4a65c tyJx4a65c_ok nmJx4a65c in_Jx4a65c rfl (by decide) (by decide) hk (wE_6 G w a) (show 1 < 3 by decide) rfl rfl (by cases v <;> rfl) (by cases v <;> rfl) "java/util/ArrayList" (fun _ h => h) q hd rfl rfl (by show (Sum.inr (0, [.int (w.I 600 a), va_rf (up2 w.R 601 a v 601 a), .int (w.I 602 a)]) : va_E) = Sum.inr (0, (fs_6 w a).set 1 (va_rf v)); simp [fs_6, up2]) (fun b hb => wE_R hb) (kk _ rfl)
theorem gg_602 (X : GC l G L0 p s m args meth c cc nL own) {a index : Nat} (hk : w.K a = 6) (q : Cond.fieldLink own index "java/util/ArrayList" "size" "I" ∈ wAll) (hd : decode cc pc = .ok (.getfield index, 3)) (kk : ∀ v : Int32, v = w.I 602 a → Gw l G L0 p e R s m args below meth c nL cells slots Q w (pc + 3) lv (.int v :: st)) : Gw l G L0 p e R s m args below meth c nL cells slots Q w pc lv (.ref a :: st) :=
  g_get X (C := RJx4a65c) (T := TJx4a65c) (N := 3) (ci := 0) (j := 2) in_Jx4a65c rfl (by decide) (by decide) hk (wE_6 G w a) rfl "java/util/ArrayList" (fun _ h => h) q hd (kk _ rfl)
theorem gp_602 (X : GC l G L0 p s m args meth c cc nL own) {a index : Nat} {v : Int32} (hk : w.K a = 6) (q : Cond.fieldLink own index "java/util/ArrayList" "size" "I" ∈ wAll) (hd : decode cc pc = .ok (.putfield index, 3)) (kk : ∀ w1 : Wd, w1 = w.setI 602 a v → Gw l G L0 p e R s m args below meth c nL cells slots Q w1 (pc + 3) lv st) : Gw l G L0 p e R s m args below meth c nL cells slots Q w pc lv (.int v :: .ref a :: st) :=
  g_put X (C := RJx4a65c) (T := TJx4a65c) (N := 3) (ci := 0) (j := 2) (w1 := w.setI 602 a v) tyJx4a65c tyJx4a65c_ok nmJx4a65c in_Jx4a65c rfl (by decide) (by decide) hk (wE_6 G w a) (show 2 < 3 by decide) rfl rfl rfl rfl "java/util/ArrayList" (fun _ h => h) q hd rfl rfl (by show (Sum.inr (0, [.int (up2 w.I 602 a v 600 a), va_rf (w.R 601 a), .int (up2 w.I 602 a v 602 a)]) : va_E) = Sum.inr (0, (fs_6 w a).set 2 (.int v)); simp [fs_6, up2]) (fun b hb => wE_I hb) (kk _ rfl)
theorem gnew_1 (X : GC l G L0 p s m args meth c cc nL own) {index : Nat} (q1 : Cond.classLink own index RX0 ∈ wAll) (q2 : Cond.instantiable RX0 8 ∈ wAll) (q3 : Cond.initialized RX0 ∈ wAll) (hcells : cells + 1 ≤ R.cells) (hslots : slots + 8 ≤ R.slots) (hd : decode cc pc = .ok (.new index, 3))
    (kk : ∀ a : Nat, w.K a = 0 → ∀ w1 : Wd, w1 = w.new 1 a → Gw l G L0 p e R s m args below meth c nL (cells + 1) (slots + 8) Q w1 (pc + 3) lv (va_rf (some a) :: st)) : Gw l G L0 p e R s m args below meth c nL cells slots Q w pc lv st :=
  g_new X (C := RX0) (T := TX0) (N := 8) (ci := 1) (k := 1) (fs := [.int 0, .int 0, va_rf none, va_rf none, .int 0, .int 0, .int 0, .int 0]) tyX0 tyX0_ok in_X0 rfl (by decide) (fun j hj => by rcases (show j = 0 ∨ j = 1 ∨ j = 2 ∨ j = 3 ∨ j = 4 ∨ j = 5 ∨ j = 6 ∨ j = 7 by omega) with rfl | rfl | rfl | rfl | rfl | rfl | rfl | rfl <;> rfl) (fun a => by show (Sum.inr (1, [.int (if a = a then 0 else w.I 100 a), .int (if a = a then 0 else w.I 101 a), va_rf (if a = a then none else w.R 102 a), va_rf (if a = a then none else w.R 103 a), .int (if a = a then 0 else w.I 104 a), .int (if a = a then 0 else w.I 105 a), .int (if a = a then 0 else w.I 106 a), .int (if a = a then 0 else w.I 107 a)]) : va_E) = Sum.inr (1, [.int 0, .int 0, va_rf none, va_rf none, .int 0, .int 0, .int 0, .int 0]); simp) q1 q2 q3 hcells hslots hd kk
theorem gnew_2 (X : GC l G L0 p s m args meth c cc nL own) {index : Nat} (q1 : Cond.classLink own index RX1 ∈ wAll) (q2 : Cond.instantiable RX1 13 ∈ wAll) (q3 : Cond.initialized RX1 ∈ wAll) (hcells : cells + 1 ≤ R.cells) (hslots : slots + 13 ≤ R.slots) (hd : decode cc pc = .ok (.new index, 3))
    (kk : ∀ a : Nat, w.K a = 0 → ∀ w1 : Wd, w1 = w.new 2 a → Gw l G L0 p e R s m args below meth c nL (cells + 1) (slots + 13) Q w1 (pc + 3) lv (va_rf (some a) :: st)) : Gw l G L0 p e R s m args below meth c nL cells slots Q w pc lv st :=
  g_new X (C := RX1) (T := TX1) (N := 13) (ci := 2) (k := 2) (fs := [.int 0, .int 0, .int 0, va_rf none, .int 0, .int 0, .int 0, .int 0, va_rf none, va_rf none, .int 0, .int 0, .int 0]) tyX1 tyX1_ok in_X1 rfl (by decide) (fun j hj => by rcases (show j = 0 ∨ j = 1 ∨ j = 2 ∨ j = 3 ∨ j = 4 ∨ j = 5 ∨ j = 6 ∨ j = 7 ∨ j = 8 ∨ j = 9 ∨ j = 10 ∨ j = 11 ∨ j = 12 by omega) with rfl | rfl | rfl | rfl | rfl | rfl | rfl | rfl | rfl | rfl | rfl | rfl | rfl <;> rfl) (fun a => by show (Sum.inr (2, [.int (if a = a then 0 else w.I 200 a), .int (if a = a then 0 else w.I 201 a), .int (if a = a then 0 else w.I 202 a), va_rf (if a = a then none else w.R 203 a), .int (if a = a then 0 else w.I 204 a), .int (if a = a then 0 else w.I 205 a), .int (if a = a then 0 else w.I 206 a), .int (if a = a then 0 else w.I 207 a), va_rf (if a = a then none else w.R 208 a), va_rf (if a = a then none else w.R 209 a), .int (if a = a then 0 else w.I 210 a), .int (if a = a then 0 else w.I 211 a), .int (if a = a then 0 else w.I 212 a)]) : va_E) = Sum.inr (2, [.int 0, .int 0, .int 0, va_rf none, .int 0, .int 0, .int 0, .int 0, va_rf none, va_rf none, .int 0, .int 0, .int 0]); simp) q1 q2 q3 hcells hslots hd kk
theorem gnew_3 (X : GC l G L0 p s m args meth c cc nL own) {index : Nat} (q1 : Cond.classLink own index RX2 ∈ wAll) (q2 : Cond.instantiable RX2 6 ∈ wAll) (q3 : Cond.initialized RX2 ∈ wAll) (hcells : cells + 1 ≤ R.cells) (hslots : slots + 6 ≤ R.slots) (hd : decode cc pc = .ok (.new index, 3))
    (kk : ∀ a : Nat, w.K a = 0 → ∀ w1 : Wd, w1 = w.new 3 a → Gw l G L0 p e R s m args below meth c nL (cells + 1) (slots + 6) Q w1 (pc + 3) lv (va_rf (some a) :: st)) : Gw l G L0 p e R s m args below meth c nL cells slots Q w pc lv st :=
  g_new X (C := RX2) (T := TX2) (N := 6) (ci := 3) (k := 3) (fs := [va_rf none, .int 0, .int 0, .int 0, .int 0, .int 0]) tyX2 tyX2_ok in_X2 rfl (by decide) (fun j hj => by rcases (show j = 0 ∨ j = 1 ∨ j = 2 ∨ j = 3 ∨ j = 4 ∨ j = 5 by omega) with rfl | rfl | rfl | rfl | rfl | rfl <;> rfl) (fun a => by show (Sum.inr (3, [va_rf (if a = a then none else w.R 300 a), .int (if a = a then 0 else w.I 301 a), .int (if a = a then 0 else w.I 302 a), .int (if a = a then 0 else w.I 303 a), .int (if a = a then 0 else w.I 304 a), .int (if a = a then 0 else w.I 305 a)]) : va_E) = Sum.inr (3, [va_rf none, .int 0, .int 0, .int 0, .int 0, .int 0]); simp) q1 q2 q3 hcells hslots hd kk
theorem gnew_4 (X : GC l G L0 p s m args meth c cc nL own) {index : Nat} (q1 : Cond.classLink own index RX3 ∈ wAll) (q2 : Cond.instantiable RX3 4 ∈ wAll) (q3 : Cond.initialized RX3 ∈ wAll) (hcells : cells + 1 ≤ R.cells) (hslots : slots + 4 ≤ R.slots) (hd : decode cc pc = .ok (.new index, 3))
    (kk : ∀ a : Nat, w.K a = 0 → ∀ w1 : Wd, w1 = w.new 4 a → Gw l G L0 p e R s m args below meth c nL (cells + 1) (slots + 4) Q w1 (pc + 3) lv (va_rf (some a) :: st)) : Gw l G L0 p e R s m args below meth c nL cells slots Q w pc lv st :=
  g_new X (C := RX3) (T := TX3) (N := 4) (ci := 4) (k := 4) (fs := [va_rf none, va_rf none, .int 0, .int 0]) tyX3 tyX3_ok in_X3 rfl (by decide) (fun j hj => by rcases (show j = 0 ∨ j = 1 ∨ j = 2 ∨ j = 3 by omega) with rfl | rfl | rfl | rfl <;> rfl) (fun a => by show (Sum.inr (4, [va_rf (if a = a then none else w.R 400 a), va_rf (if a = a then none else w.R 401 a), .int (if a = a then 0 else w.I 402 a), .int (if a = a then 0 else w.I 403 a)]) : va_E) = Sum.inr (4, [va_rf none, va_rf none, .int 0, .int 0]); simp) q1 q2 q3 hcells hslots hd kk
theorem gnew_6 (X : GC l G L0 p s m args meth c cc nL own) {index : Nat} (q1 : Cond.classLink own index RJx4a65c ∈ wAll) (q2 : Cond.instantiable RJx4a65c 3 ∈ wAll) (q3 : Cond.initialized RJx4a65c ∈ wAll) (hcells : cells + 1 ≤ R.cells) (hslots : slots + 3 ≤ R.slots) (hd : decode cc pc = .ok (.new index, 3))
    (kk : ∀ a : Nat, w.K a = 0 → ∀ w1 : Wd, w1 = w.new 6 a → Gw l G L0 p e R s m args below meth c nL (cells + 1) (slots + 3) Q w1 (pc + 3) lv (va_rf (some a) :: st)) : Gw l G L0 p e R s m args below meth c nL cells slots Q w pc lv st :=
  g_new X (C := RJx4a65c) (T := TJx4a65c) (N := 3) (ci := 0) (k := 6) (fs := [.int 0, va_rf none, .int 0]) tyJx4a65c tyJx4a65c_ok in_Jx4a65c rfl (by decide) (fun j hj => by rcases (show j = 0 ∨ j = 1 ∨ j = 2 by omega) with rfl | rfl | rfl <;> rfl) (fun a => by show (Sum.inr (0, [.int (if a = a then 0 else w.I 600 a), va_rf (if a = a then none else w.R 601 a), .int (if a = a then 0 else w.I 602 a)]) : va_E) = Sum.inr (0, [.int 0, va_rf none, .int 0]); simp) q1 q2 q3 hcells hslots hd kk
theorem gnewA_11 (X : GC l G L0 p s m args meth c cc nL own) {n : Nat} {i : Int32} (q1 : Cond.arrayClass .int ∈ wAll) (hi : i = nI n) (hn : n ≤ 65536) (hcells : cells + 1 ≤ R.cells) (hslots : slots + n ≤ R.slots) (hd : decode cc pc = .ok (.newarray .int, 2))
    (kk : ∀ a : Nat, w.K a = 0 → ∀ w1 : Wd, w1 = w.newA 11 a n → Gw l G L0 p e R s m args below meth c nL (cells + 1) (slots + n) Q w1 (pc + 2) lv (va_rf (some a) :: st)) : Gw l G L0 p e R s m args below meth c nL cells slots Q w pc lv (.int i :: st) :=
  g_newA X (atype := .int) (ty := .int) (k := 11) (t0 := 0) (cA := G.2.1) (a0 := (n, .inl (fun _ => 0))) q1 rfl rfl (fun C h => nomatch h) (by decide) (fun cA => rfl) hi hn (by decide) (fun a => by show (Sum.inl (G.2.1, (va_up w.N a n a, .inl (fun j => if a = a then 0 else w.A a j))) : va_E) = Sum.inl (G.2.1, (n, .inl (fun _ => 0))); rw [va_up_self]; simp) hcells hslots hd kk
theorem sw_2 (x : Int32) : x = 0 ∨ x = 1 ∨ x = 2 ∨ (x.toInt < 0 ∨ 2 < x.toInt) := by
  by_cases h1 : x.toInt < 0
  · simp [h1]
  · by_cases h2 : 2 < x.toInt
    · simp [h2]
    · have h : x.toInt = 0 ∨ x.toInt = 1 ∨ x.toInt = 2 := by omega
      rcases h with h | h | h
      · have h3 : x = 0 := Int32.toInt_inj.mp (h.trans (show (0 : Int) = (0 : Int32).toInt by decide)); subst h3; decide
      · have h3 : x = 1 := Int32.toInt_inj.mp (h.trans (show (1 : Int) = (1 : Int32).toInt by decide)); subst h3; decide
      · have h3 : x = 2 := Int32.toInt_inj.mp (h.trans (show (2 : Int) = (2 : Int32).toInt by decide)); subst h3; decide
theorem sw_3 (x : Int32) : x = 0 ∨ x = 1 ∨ x = 2 ∨ x = 3 ∨ (x.toInt < 0 ∨ 3 < x.toInt) := by
  by_cases h1 : x.toInt < 0
  · simp [h1]
  · by_cases h2 : 3 < x.toInt
    · simp [h2]
    · have h : x.toInt = 0 ∨ x.toInt = 1 ∨ x.toInt = 2 ∨ x.toInt = 3 := by omega
      rcases h with h | h | h | h
      · have h3 : x = 0 := Int32.toInt_inj.mp (h.trans (show (0 : Int) = (0 : Int32).toInt by decide)); subst h3; decide
      · have h3 : x = 1 := Int32.toInt_inj.mp (h.trans (show (1 : Int) = (1 : Int32).toInt by decide)); subst h3; decide
      · have h3 : x = 2 := Int32.toInt_inj.mp (h.trans (show (2 : Int) = (2 : Int32).toInt by decide)); subst h3; decide
      · have h3 : x = 3 := Int32.toInt_inj.mp (h.trans (show (3 : Int) = (3 : Int32).toInt by decide)); subst h3; decide
theorem sw_4 (x : Int32) : x = 0 ∨ x = 1 ∨ x = 2 ∨ x = 3 ∨ x = 4 ∨ (x.toInt < 0 ∨ 4 < x.toInt) := by
  by_cases h1 : x.toInt < 0
  · simp [h1]
  · by_cases h2 : 4 < x.toInt
    · simp [h2]
    · have h : x.toInt = 0 ∨ x.toInt = 1 ∨ x.toInt = 2 ∨ x.toInt = 3 ∨ x.toInt = 4 := by omega
      rcases h with h | h | h | h | h
      · have h3 : x = 0 := Int32.toInt_inj.mp (h.trans (show (0 : Int) = (0 : Int32).toInt by decide)); subst h3; decide
      · have h3 : x = 1 := Int32.toInt_inj.mp (h.trans (show (1 : Int) = (1 : Int32).toInt by decide)); subst h3; decide
      · have h3 : x = 2 := Int32.toInt_inj.mp (h.trans (show (2 : Int) = (2 : Int32).toInt by decide)); subst h3; decide
      · have h3 : x = 3 := Int32.toInt_inj.mp (h.trans (show (3 : Int) = (3 : Int32).toInt by decide)); subst h3; decide
      · have h3 : x = 4 := Int32.toInt_inj.mp (h.trans (show (4 : Int) = (4 : Int32).toInt by decide)); subst h3; decide
theorem sw_5 (x : Int32) : x = 0 ∨ x = 1 ∨ x = 2 ∨ x = 3 ∨ x = 4 ∨ x = 5 ∨ (x.toInt < 0 ∨ 5 < x.toInt) := by
  by_cases h1 : x.toInt < 0
  · simp [h1]
  · by_cases h2 : 5 < x.toInt
    · simp [h2]
    · have h : x.toInt = 0 ∨ x.toInt = 1 ∨ x.toInt = 2 ∨ x.toInt = 3 ∨ x.toInt = 4 ∨ x.toInt = 5 := by omega
      rcases h with h | h | h | h | h | h
      · have h3 : x = 0 := Int32.toInt_inj.mp (h.trans (show (0 : Int) = (0 : Int32).toInt by decide)); subst h3; decide
      · have h3 : x = 1 := Int32.toInt_inj.mp (h.trans (show (1 : Int) = (1 : Int32).toInt by decide)); subst h3; decide
      · have h3 : x = 2 := Int32.toInt_inj.mp (h.trans (show (2 : Int) = (2 : Int32).toInt by decide)); subst h3; decide
      · have h3 : x = 3 := Int32.toInt_inj.mp (h.trans (show (3 : Int) = (3 : Int32).toInt by decide)); subst h3; decide
      · have h3 : x = 4 := Int32.toInt_inj.mp (h.trans (show (4 : Int) = (4 : Int32).toInt by decide)); subst h3; decide
      · have h3 : x = 5 := Int32.toInt_inj.mp (h.trans (show (5 : Int) = (5 : Int32).toInt by decide)); subst h3; decide
theorem sw_20 (x : Int32) : x = 0 ∨ x = 1 ∨ x = 2 ∨ x = 3 ∨ x = 4 ∨ x = 5 ∨ x = 6 ∨ x = 7 ∨ x = 8 ∨ x = 9 ∨ x = 10 ∨ x = 11 ∨ x = 12 ∨ x = 13 ∨ x = 14 ∨ x = 15 ∨ x = 16 ∨ x = 17 ∨ x = 18 ∨ x = 19 ∨ x = 20 ∨ (x.toInt < 0 ∨ 20 < x.toInt) := by
  by_cases h1 : x.toInt < 0
  · simp [h1]
  · by_cases h2 : 20 < x.toInt
    · simp [h2]
    · have h : x.toInt = 0 ∨ x.toInt = 1 ∨ x.toInt = 2 ∨ x.toInt = 3 ∨ x.toInt = 4 ∨ x.toInt = 5 ∨ x.toInt = 6 ∨ x.toInt = 7 ∨ x.toInt = 8 ∨ x.toInt = 9 ∨ x.toInt = 10 ∨ x.toInt = 11 ∨ x.toInt = 12 ∨ x.toInt = 13 ∨ x.toInt = 14 ∨ x.toInt = 15 ∨ x.toInt = 16 ∨ x.toInt = 17 ∨ x.toInt = 18 ∨ x.toInt = 19 ∨ x.toInt = 20 := by omega
      rcases h with h | h | h | h | h | h | h | h | h | h | h | h | h | h | h | h | h | h | h | h | h
      · have h3 : x = 0 := Int32.toInt_inj.mp (h.trans (show (0 : Int) = (0 : Int32).toInt by decide)); subst h3; decide
      · have h3 : x = 1 := Int32.toInt_inj.mp (h.trans (show (1 : Int) = (1 : Int32).toInt by decide)); subst h3; decide
      · have h3 : x = 2 := Int32.toInt_inj.mp (h.trans (show (2 : Int) = (2 : Int32).toInt by decide)); subst h3; decide
      · have h3 : x = 3 := Int32.toInt_inj.mp (h.trans (show (3 : Int) = (3 : Int32).toInt by decide)); subst h3; decide
      · have h3 : x = 4 := Int32.toInt_inj.mp (h.trans (show (4 : Int) = (4 : Int32).toInt by decide)); subst h3; decide
      · have h3 : x = 5 := Int32.toInt_inj.mp (h.trans (show (5 : Int) = (5 : Int32).toInt by decide)); subst h3; decide
      · have h3 : x = 6 := Int32.toInt_inj.mp (h.trans (show (6 : Int) = (6 : Int32).toInt by decide)); subst h3; decide
      · have h3 : x = 7 := Int32.toInt_inj.mp (h.trans (show (7 : Int) = (7 : Int32).toInt by decide)); subst h3; decide
      · have h3 : x = 8 := Int32.toInt_inj.mp (h.trans (show (8 : Int) = (8 : Int32).toInt by decide)); subst h3; decide
      · have h3 : x = 9 := Int32.toInt_inj.mp (h.trans (show (9 : Int) = (9 : Int32).toInt by decide)); subst h3; decide
      · have h3 : x = 10 := Int32.toInt_inj.mp (h.trans (show (10 : Int) = (10 : Int32).toInt by decide)); subst h3; decide
      · have h3 : x = 11 := Int32.toInt_inj.mp (h.trans (show (11 : Int) = (11 : Int32).toInt by decide)); subst h3; decide
      · have h3 : x = 12 := Int32.toInt_inj.mp (h.trans (show (12 : Int) = (12 : Int32).toInt by decide)); subst h3; decide
      · have h3 : x = 13 := Int32.toInt_inj.mp (h.trans (show (13 : Int) = (13 : Int32).toInt by decide)); subst h3; decide
      · have h3 : x = 14 := Int32.toInt_inj.mp (h.trans (show (14 : Int) = (14 : Int32).toInt by decide)); subst h3; decide
      · have h3 : x = 15 := Int32.toInt_inj.mp (h.trans (show (15 : Int) = (15 : Int32).toInt by decide)); subst h3; decide
      · have h3 : x = 16 := Int32.toInt_inj.mp (h.trans (show (16 : Int) = (16 : Int32).toInt by decide)); subst h3; decide
      · have h3 : x = 17 := Int32.toInt_inj.mp (h.trans (show (17 : Int) = (17 : Int32).toInt by decide)); subst h3; decide
      · have h3 : x = 18 := Int32.toInt_inj.mp (h.trans (show (18 : Int) = (18 : Int32).toInt by decide)); subst h3; decide
      · have h3 : x = 19 := Int32.toInt_inj.mp (h.trans (show (19 : Int) = (19 : Int32).toInt by decide)); subst h3; decide
      · have h3 : x = 20 := Int32.toInt_inj.mp (h.trans (show (20 : Int) = (20 : Int32).toInt by decide)); subst h3; decide
end FLD
end
