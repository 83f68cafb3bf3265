section
-- ===== PART A: goes FIRST, ahead of the names: the tables' words, and 'selects' of the private methods out of them =====
/-- a private method of a class that the tables say can be made, by its rows of tables_1 -/
def lw_okq (q : MethodName × Nat) : Prop := (q.1.cls ≠ "java/lang/invoke/MethodHandle" ∧ q.1.cls ≠ "java/lang/invoke/VarHandle") ∧ Cond.instantiable q.1.cls q.2 ∈ tables_1 ∧ Cond.privateMethod q.1 ∈ tables_1 ∧ Cond.instanceMethod q.1 ∈ tables_1
theorem lw_p0 : lw_okq (⟨"SusuRing", "defaultLoan", "(LSusuRing$Person;)V"⟩, 4) := ⟨⟨by decide +kernel, by decide +kernel⟩, List.mem_of_getElem? (i := 29) (by decide +kernel), List.mem_of_getElem? (i := 107) (by decide +kernel), List.mem_of_getElem? (i := 108) (by decide +kernel)⟩
theorem lw_p1 : lw_okq (⟨"SusuRing", "payForOther", "(LSusuRing$Person;I)V"⟩, 4) := ⟨⟨by decide +kernel, by decide +kernel⟩, List.mem_of_getElem? (i := 29) (by decide +kernel), List.mem_of_getElem? (i := 111) (by decide +kernel), List.mem_of_getElem? (i := 112) (by decide +kernel)⟩
theorem lw_p2 : lw_okq (⟨"SusuRing", "payFund", "(LSusuRing$Person;I)V"⟩, 4) := ⟨⟨by decide +kernel, by decide +kernel⟩, List.mem_of_getElem? (i := 29) (by decide +kernel), List.mem_of_getElem? (i := 118) (by decide +kernel), List.mem_of_getElem? (i := 119) (by decide +kernel)⟩
theorem lw_p3 : lw_okq (⟨"java/lang/Throwable", "fillInStackTrace", "(I)Ljava/lang/Throwable;"⟩, 6) := ⟨⟨by decide +kernel, by decide +kernel⟩, List.mem_of_getElem? (i := 185) (by decide +kernel), List.mem_of_getElem? (i := 183) (by decide +kernel), List.mem_of_getElem? (i := 184) (by decide +kernel)⟩
theorem lw_p4 : lw_okq (⟨"java/util/ArrayList", "add", "(Ljava/lang/Object;[Ljava/lang/Object;I)V"⟩, 3) := ⟨⟨by decide +kernel, by decide +kernel⟩, List.mem_of_getElem? (i := 37) (by decide +kernel), List.mem_of_getElem? (i := 294) (by decide +kernel), List.mem_of_getElem? (i := 295) (by decide +kernel)⟩
theorem lw_p5 : lw_okq (⟨"java/util/ArrayList", "grow", "()[Ljava/lang/Object;"⟩, 3) := ⟨⟨by decide +kernel, by decide +kernel⟩, List.mem_of_getElem? (i := 37) (by decide +kernel), List.mem_of_getElem? (i := 298) (by decide +kernel), List.mem_of_getElem? (i := 299) (by decide +kernel)⟩
theorem lw_p6 : lw_okq (⟨"java/util/ArrayList", "grow", "(I)[Ljava/lang/Object;"⟩, 3) := ⟨⟨by decide +kernel, by decide +kernel⟩, List.mem_of_getElem? (i := 37) (by decide +kernel), List.mem_of_getElem? (i := 302) (by decide +kernel), List.mem_of_getElem? (i := 303) (by decide +kernel)⟩
theorem lw_p7 : lw_okq (⟨"SusuRing", "personAt", "(I)LSusuRing$Person;"⟩, 4) := ⟨⟨by decide +kernel, by decide +kernel⟩, List.mem_of_getElem? (i := 29) (by decide +kernel), List.mem_of_getElem? (i := 354) (by decide +kernel), List.mem_of_getElem? (i := 355) (by decide +kernel)⟩
theorem lw_p8 : lw_okq (⟨"java/util/ArrayList", "fastRemove", "([Ljava/lang/Object;I)V"⟩, 3) := ⟨⟨by decide +kernel, by decide +kernel⟩, List.mem_of_getElem? (i := 37) (by decide +kernel), List.mem_of_getElem? (i := 416) (by decide +kernel), List.mem_of_getElem? (i := 417) (by decide +kernel)⟩
theorem lw_p9 : lw_okq (⟨"SusuRing", "circleAt", "(I)LSusuRing$Circle;"⟩, 4) := ⟨⟨by decide +kernel, by decide +kernel⟩, List.mem_of_getElem? (i := 29) (by decide +kernel), List.mem_of_getElem? (i := 479) (by decide +kernel), List.mem_of_getElem? (i := 480) (by decide +kernel)⟩
theorem lw_p10 : lw_okq (⟨"java/util/ArrayList", "rangeCheckForAdd", "(I)V"⟩, 3) := ⟨⟨by decide +kernel, by decide +kernel⟩, List.mem_of_getElem? (i := 37) (by decide +kernel), List.mem_of_getElem? (i := 547) (by decide +kernel), List.mem_of_getElem? (i := 548) (by decide +kernel)⟩
theorem lw_p11 : lw_okq (⟨"java/util/ArrayList", "outOfBoundsMsg", "(I)Ljava/lang/String;"⟩, 3) := ⟨⟨by decide +kernel, by decide +kernel⟩, List.mem_of_getElem? (i := 37) (by decide +kernel), List.mem_of_getElem? (i := 552) (by decide +kernel), List.mem_of_getElem? (i := 553) (by decide +kernel)⟩
theorem lw_p12 : lw_okq (⟨"SusuRing", "highestLoan", "(LSusuRing$Person;)I"⟩, 4) := ⟨⟨by decide +kernel, by decide +kernel⟩, List.mem_of_getElem? (i := 29) (by decide +kernel), List.mem_of_getElem? (i := 886) (by decide +kernel), List.mem_of_getElem? (i := 887) (by decide +kernel)⟩
theorem lw_p13 : lw_okq (⟨"SusuRing", "houseDebts", "(LSusuRing$Person;)I"⟩, 4) := ⟨⟨by decide +kernel, by decide +kernel⟩, List.mem_of_getElem? (i := 29) (by decide +kernel), List.mem_of_getElem? (i := 890) (by decide +kernel), List.mem_of_getElem? (i := 891) (by decide +kernel)⟩
theorem lw_p14 : lw_okq (⟨"SusuRing", "houseSize", "(LSusuRing$Person;)I"⟩, 4) := ⟨⟨by decide +kernel, by decide +kernel⟩, List.mem_of_getElem? (i := 29) (by decide +kernel), List.mem_of_getElem? (i := 943) (by decide +kernel), List.mem_of_getElem? (i := 944) (by decide +kernel)⟩
theorem lw_p15 : lw_okq (⟨"SusuRingModel", "isOne", "(I)Z"⟩, 31) := ⟨⟨by decide +kernel, by decide +kernel⟩, List.mem_of_getElem? (i := 962) (by decide +kernel), List.mem_of_getElem? (i := 1079) (by decide +kernel), List.mem_of_getElem? (i := 1080) (by decide +kernel)⟩
def lw_privs_1 : List (MethodName × Nat) := [(⟨"SusuRing", "defaultLoan", "(LSusuRing$Person;)V"⟩, 4), (⟨"SusuRing", "payForOther", "(LSusuRing$Person;I)V"⟩, 4), (⟨"SusuRing", "payFund", "(LSusuRing$Person;I)V"⟩, 4), (⟨"java/lang/Throwable", "fillInStackTrace", "(I)Ljava/lang/Throwable;"⟩, 6), (⟨"java/util/ArrayList", "add", "(Ljava/lang/Object;[Ljava/lang/Object;I)V"⟩, 3), (⟨"java/util/ArrayList", "grow", "()[Ljava/lang/Object;"⟩, 3), (⟨"java/util/ArrayList", "grow", "(I)[Ljava/lang/Object;"⟩, 3), (⟨"SusuRing", "personAt", "(I)LSusuRing$Person;"⟩, 4), (⟨"java/util/ArrayList", "fastRemove", "([Ljava/lang/Object;I)V"⟩, 3), (⟨"SusuRing", "circleAt", "(I)LSusuRing$Circle;"⟩, 4), (⟨"java/util/ArrayList", "rangeCheckForAdd", "(I)V"⟩, 3), (⟨"java/util/ArrayList", "outOfBoundsMsg", "(I)Ljava/lang/String;"⟩, 3), (⟨"SusuRing", "highestLoan", "(LSusuRing$Person;)I"⟩, 4), (⟨"SusuRing", "houseDebts", "(LSusuRing$Person;)I"⟩, 4), (⟨"SusuRing", "houseSize", "(LSusuRing$Person;)I"⟩, 4), (⟨"SusuRingModel", "isOne", "(I)Z"⟩, 31)]
theorem lw_r1 : ∀ q ∈ lw_privs_1, lw_okq q := List.forall_mem_cons.mpr ⟨lw_p0, List.forall_mem_cons.mpr ⟨lw_p1, List.forall_mem_cons.mpr ⟨lw_p2, List.forall_mem_cons.mpr ⟨lw_p3, List.forall_mem_cons.mpr ⟨lw_p4, List.forall_mem_cons.mpr ⟨lw_p5, List.forall_mem_cons.mpr ⟨lw_p6, List.forall_mem_cons.mpr ⟨lw_p7, List.forall_mem_cons.mpr ⟨lw_p8, List.forall_mem_cons.mpr ⟨lw_p9, List.forall_mem_cons.mpr ⟨lw_p10, List.forall_mem_cons.mpr ⟨lw_p11, List.forall_mem_cons.mpr ⟨lw_p12, List.forall_mem_cons.mpr ⟨lw_p13, List.forall_mem_cons.mpr ⟨lw_p14, List.forall_mem_cons.mpr ⟨lw_p15, fun _ h => absurd h List.not_mem_nil⟩⟩⟩⟩⟩⟩⟩⟩⟩⟩⟩⟩⟩⟩⟩⟩
theorem lw_p16 : lw_okq (⟨"SusuRingModel", "leaves", "(II)V"⟩, 31) := ⟨⟨by decide +kernel, by decide +kernel⟩, List.mem_of_getElem? (i := 962) (by decide +kernel), List.mem_of_getElem? (i := 1088) (by decide +kernel), List.mem_of_getElem? (i := 1089) (by decide +kernel)⟩
theorem lw_p17 : lw_okq (⟨"SusuRingModel", "placeOf", "(II)I"⟩, 31) := ⟨⟨by decide +kernel, by decide +kernel⟩, List.mem_of_getElem? (i := 962) (by decide +kernel), List.mem_of_getElem? (i := 1092) (by decide +kernel), List.mem_of_getElem? (i := 1093) (by decide +kernel)⟩
theorem lw_p18 : lw_okq (⟨"SusuRingModel", "goes", "(II)V"⟩, 31) := ⟨⟨by decide +kernel, by decide +kernel⟩, List.mem_of_getElem? (i := 962) (by decide +kernel), List.mem_of_getElem? (i := 1096) (by decide +kernel), List.mem_of_getElem? (i := 1097) (by decide +kernel)⟩
theorem lw_p19 : lw_okq (⟨"SusuRingModel", "copies", "(II)V"⟩, 31) := ⟨⟨by decide +kernel, by decide +kernel⟩, List.mem_of_getElem? (i := 962) (by decide +kernel), List.mem_of_getElem? (i := 1100) (by decide +kernel), List.mem_of_getElem? (i := 1101) (by decide +kernel)⟩
theorem lw_p20 : lw_okq (⟨"SusuRingModel", "rounds", "(I)V"⟩, 31) := ⟨⟨by decide +kernel, by decide +kernel⟩, List.mem_of_getElem? (i := 962) (by decide +kernel), List.mem_of_getElem? (i := 1104) (by decide +kernel), List.mem_of_getElem? (i := 1105) (by decide +kernel)⟩
theorem lw_p21 : lw_okq (⟨"SusuRingModel", "isCircle", "(I)Z"⟩, 31) := ⟨⟨by decide +kernel, by decide +kernel⟩, List.mem_of_getElem? (i := 962) (by decide +kernel), List.mem_of_getElem? (i := 1116) (by decide +kernel), List.mem_of_getElem? (i := 1117) (by decide +kernel)⟩
theorem lw_p22 : lw_okq (⟨"SusuRingModel", "next", "(II)I"⟩, 31) := ⟨⟨by decide +kernel, by decide +kernel⟩, List.mem_of_getElem? (i := 962) (by decide +kernel), List.mem_of_getElem? (i := 1124) (by decide +kernel), List.mem_of_getElem? (i := 1125) (by decide +kernel)⟩
theorem lw_p23 : lw_okq (⟨"SusuRingModel", "collects", "(IIZ)V"⟩, 31) := ⟨⟨by decide +kernel, by decide +kernel⟩, List.mem_of_getElem? (i := 962) (by decide +kernel), List.mem_of_getElem? (i := 1136) (by decide +kernel), List.mem_of_getElem? (i := 1137) (by decide +kernel)⟩
theorem lw_p24 : lw_okq (⟨"SusuRingModel", "pays", "(II)V"⟩, 31) := ⟨⟨by decide +kernel, by decide +kernel⟩, List.mem_of_getElem? (i := 962) (by decide +kernel), List.mem_of_getElem? (i := 1140) (by decide +kernel), List.mem_of_getElem? (i := 1141) (by decide +kernel)⟩
theorem lw_p25 : lw_okq (⟨"SusuRingModel", "turnOf", "(I)I"⟩, 31) := ⟨⟨by decide +kernel, by decide +kernel⟩, List.mem_of_getElem? (i := 962) (by decide +kernel), List.mem_of_getElem? (i := 1144) (by decide +kernel), List.mem_of_getElem? (i := 1145) (by decide +kernel)⟩
theorem lw_p26 : lw_okq (⟨"SusuRingModel", "has", "(I)Z"⟩, 31) := ⟨⟨by decide +kernel, by decide +kernel⟩, List.mem_of_getElem? (i := 962) (by decide +kernel), List.mem_of_getElem? (i := 1160) (by decide +kernel), List.mem_of_getElem? (i := 1161) (by decide +kernel)⟩
theorem lw_p27 : lw_okq (⟨"SusuRingModel", "house", "(IZ)I"⟩, 31) := ⟨⟨by decide +kernel, by decide +kernel⟩, List.mem_of_getElem? (i := 962) (by decide +kernel), List.mem_of_getElem? (i := 1164) (by decide +kernel), List.mem_of_getElem? (i := 1165) (by decide +kernel)⟩
theorem lw_p28 : lw_okq (⟨"SusuRingModel", "vouches", "(II)V"⟩, 31) := ⟨⟨by decide +kernel, by decide +kernel⟩, List.mem_of_getElem? (i := 962) (by decide +kernel), List.mem_of_getElem? (i := 1179) (by decide +kernel), List.mem_of_getElem? (i := 1180) (by decide +kernel)⟩
def lw_privs_2 : List (MethodName × Nat) := [(⟨"SusuRingModel", "leaves", "(II)V"⟩, 31), (⟨"SusuRingModel", "placeOf", "(II)I"⟩, 31), (⟨"SusuRingModel", "goes", "(II)V"⟩, 31), (⟨"SusuRingModel", "copies", "(II)V"⟩, 31), (⟨"SusuRingModel", "rounds", "(I)V"⟩, 31), (⟨"SusuRingModel", "isCircle", "(I)Z"⟩, 31), (⟨"SusuRingModel", "next", "(II)I"⟩, 31), (⟨"SusuRingModel", "collects", "(IIZ)V"⟩, 31), (⟨"SusuRingModel", "pays", "(II)V"⟩, 31), (⟨"SusuRingModel", "turnOf", "(I)I"⟩, 31), (⟨"SusuRingModel", "has", "(I)Z"⟩, 31), (⟨"SusuRingModel", "house", "(IZ)I"⟩, 31), (⟨"SusuRingModel", "vouches", "(II)V"⟩, 31)]
theorem lw_r2 : ∀ q ∈ lw_privs_2, lw_okq q := List.forall_mem_cons.mpr ⟨lw_p16, List.forall_mem_cons.mpr ⟨lw_p17, List.forall_mem_cons.mpr ⟨lw_p18, List.forall_mem_cons.mpr ⟨lw_p19, List.forall_mem_cons.mpr ⟨lw_p20, List.forall_mem_cons.mpr ⟨lw_p21, List.forall_mem_cons.mpr ⟨lw_p22, List.forall_mem_cons.mpr ⟨lw_p23, List.forall_mem_cons.mpr ⟨lw_p24, List.forall_mem_cons.mpr ⟨lw_p25, List.forall_mem_cons.mpr ⟨lw_p26, List.forall_mem_cons.mpr ⟨lw_p27, List.forall_mem_cons.mpr ⟨lw_p28, fun _ h => absurd h List.not_mem_nil⟩⟩⟩⟩⟩⟩⟩⟩⟩⟩⟩⟩⟩
def lw_privs : List (MethodName × Nat) := lw_privs_1 ++ (lw_privs_2)
def lw_tbl : List Cond := k2_sels lw_privs ++ tables_1
theorem lw_privs_ok : ∀ q ∈ lw_privs, lw_okq q := by
  show ∀ q ∈ lw_privs_1 ++ (lw_privs_2), lw_okq q
  exact List.forall_mem_append.mpr ⟨lw_r1, lw_r2⟩
end
section
/-! ===== BEGIN words of one list among another's, by their places ===== -/
theorem goodIn_r {big : List Cond} (ws : List Cond) (ps : List Nat) (hp : ws = ps.filterMap (fun i => big[i]?)) (h : ws.all goodWord = true) : GoodIn big ws := by
  intro w hw
  have h1 := List.all_eq_true.mp h w hw
  rw [hp] at hw
  obtain ⟨i, -, hi⟩ := List.mem_filterMap.mp hw
  have hm : w ∈ big := by first | exact List.mem_of_getElem? hi | exact List.getElem?_mem hi
  exact ⟨hm, good_of_word h1⟩
theorem goodIn_app {big a b : List Cond} (ha : GoodIn big a) (hb : GoodIn big b) : GoodIn big (a ++ b) := fun w h => (List.mem_append.mp h).elim (ha w) (hb w)
theorem goodIn_ca {big a b : List Cond} {c : Cond} (ha : GoodIn big (c :: a)) (hb : GoodIn big b) : GoodIn big (c :: (a ++ b)) := fun w h => (List.mem_cons.mp h).elim (fun e => ha w (List.mem_cons.mpr (Or.inl e))) (fun h => (List.mem_append.mp h).elim (fun h => ha w (List.mem_cons.mpr (Or.inr h))) (hb w))
theorem goodIn_sub {big ws : List Cond} (hm : ∀ w ∈ ws, w ∈ big) (h : ws.all goodWord = true) : GoodIn big ws := fun w hw => ⟨hm w hw, good_of_word (List.all_eq_true.mp h w hw)⟩
/-! ===== END ===== -/

/-! ===== BEGIN exceptions that leave a method, and their catching by the caller (launches without stack traces) ===== -/
section VXA
/-! The laws vx_back, vx_callV, vx_callS, vx_callSW, vx_throw0, vx_throwS follow proofs of the library, with one case more: JvmDerived/Free/Laws.lean (Back.of_free), Shelf42/LK1.lean (callV, callS), Shelf/KitTraced.lean (throwNew0V, throwNewS). -/
/-- where a method has thrown q: the class by its name, the cell, what was written, the world -/
def vx_T (XC : String → State → State → Prop) (st : State) (q : Addr) (t : State) (mc ms : Nat) (free : Addr → Prop) : Prop :=
  ∃ (E : String) (ce : Cell) (L : List Loc), XC E st t ∧ t.heap[q]? = some ce ∧ ce.vm = .none ∧ st.vm.findClass E = some ce.cls ∧ st.WarmedH t.vm ∧ st.sameButNew ({ t with vm := st.vm } : State) L mc ms ∧ ∀ z ∈ L, free z.base
def vx_Q (Qc : Array Value → State → Outcome → State → Prop) (XC : String → State → State → Prop) (mc ms : Nat) (free : Addr → Prop) : Array Value → State → Outcome → State → Prop := fun a st o t =>
  (Qc a st o t ∧ ∃ L, FrameEnd st o t L mc ms ∧ ∀ q ∈ L, free q.base) ∨ ∃ q, o = .threw q ∧ vx_T XC st q t mc ms free
/-- a callee that returns or throws -/
def vx_Met (l : Launch) (y : MethodName) (ws : List Cond) (rm : Room) (Pc : Array Value → State → Prop) (Qc : Array Value → State → Outcome → State → Prop) (XC : String → State → State → Prop) (mc ms : Nat) (free : Addr → Prop) : Prop :=
  MetFree l y (headSpec ws rm) Pc (fun _ _ _ _ _ => True) (vx_Q Qc XC mc ms free)
def vx_Post (XC : String → State → State → Prop) (mc ms : Nat) (free : Addr → Prop) : Pt → Array Value → Addr → Pt → Prop := fun A a q B =>
  ∃ (g : JFrame) (mk : MethodId) (t : State) (L : List Loc) (E : String) (ce : Cell), B.U.heap = t.heap ∧ B.U.vm = t.vm ∧ XC E (A.U.calling g mk a) t ∧ t.heap[q]? = some ce ∧ ce.vm = .none ∧ A.U.vm.findClass E = some ce.cls ∧ B.locs = A.locs ++ L ∧ (∀ z ∈ L, free z.base) ∧ B.cells = A.cells + mc ∧ B.slots = A.slots + ms
def vx_Back (l : Launch) (R : Room) (p : Program) (e : Env) (below : List Frame) (s : State) (sargs : Array Value) (y : MethodName) (len W9 : Nat)
    (Pre : Pt → Array Value → Prop) (Post : Pt → Array Value → Option Value → Pt → Prop) (PostX : Pt → Array Value → Addr → Pt → Prop) : Prop :=
  ∀ (m : MethodId) (meth : Method) (c : Code) (A : Pt) (g : JFrame) (ig : Instr) (mk : MethodId) (a : Array Value),
    Stand p l e R s m sargs below meth c A.U A.locs A.cells A.slots → g.method = m → g.locals.size = c.maxLocals → decode c.code g.pc = .ok (ig, len) →
    2 * g.monitorRoom + (g.stack.map fun v => v.category).sum ≤ W9 → A.U.methodNamed? y = some mk → Pre A a →
    (∃ (v : Option Value) (B : Pt), Stand p l e R s m sargs below meth c B.U B.locs B.cells B.slots ∧ Post A a v B ∧
      Steps p.tables e below (doInvoke e (A.U.setTop g) [] mk a).1 (B.U.setTop { g with pc := g.pc + len, stack := v.toList ++ g.stack })) ∨
    (∃ (q : Addr) (B : Pt), Stand p l e R s m sargs below meth c B.U B.locs B.cells B.slots ∧ PostX A a q B ∧
      Steps p.tables e below (doInvoke e (A.U.setTop g) [] mk a).1 ((B.U.setTop g).pushFrame (.throwing q)))
section Payer
variable {l : Launch} {R : Room} {p : Program} {e : Env} {below : List Frame} {s : State} {sargs : Array Value} {y : MethodName} {len W9 : Nat}
theorem vx_back {ws : List Cond} {rm : Room} {Pc : Array Value → State → Prop} {Qc : Array Value → State → Outcome → State → Prop} {XC : String → State → State → Prop} {mc ms : Nat} {free : Addr → Prop} {bytes : ByteArray} {maxL : Nat} {ret : Option FieldType}
    (hM : vx_Met l y ws rm Pc Qc XC mc ms free) (hblind : FrameBlind Pc) (hrc : rm.cells = mc) (hrs : rm.slots = ms)
    (hframes : rm.frames + 1 ≤ R.frames) (hlocals : W9 + (maxL + 11) + rm.locals ≤ R.locals)
    (hws : ∀ w ∈ ws, ∀ a' U, s.WarmedH U.vm → w.before a' U = true) (hcode : Cond.code y bytes maxL ret ∈ ws) (hinit : ∀ a' U, s.WarmedH U.vm → (Cond.initialized y.cls).before a' U = true) :
    vx_Back l R p e below s sargs y len W9 (PreOf R mc ms Pc) (PostOf Qc mc ms free) (vx_Post XC mc ms free) := by
  intro m meth c A g ig mk a X hg hsize hdg hW hn hp
  have h1 : (headSpec ws rm).pre.before a A.U = true := atoms_intro fun w hw => hws w hw _ _ X.warmed
  have h2 : (Cond.code y bytes maxL ret).before a A.U = true := hws _ hcode _ _ X.warmed
  have h3 : (Cond.initialized y.cls).before a A.U = true := hinit _ _ X.warmed
  have h4 : A.cells + (headSpec ws rm).room.cells ≤ R.cells := by rw [show (headSpec ws rm).room.cells = mc from hrc]; exact hp.1
  have h5 : A.slots + (headSpec ws rm).room.slots ≤ R.slots := by rw [show (headSpec ws rm).room.slots = ms from hrs]; exact hp.2.1
  have hPc : Pc a (A.U.calling g mk a) := hblind _ _ _ _ hp.2.2
  obtain ⟨U, Ls, c0, s0⟩ := A
  dsimp only [Pt.U, Pt.locs, Pt.cells, Pt.slots] at h1 h2 h3 h4 h5 X hn hPc ⊢
  obtain ⟨methY, cY, hmY, hcY, -, hlY, -, -, -, -⟩ := Cond.code_spec hn h2
  obtain ⟨kY, hkY, -⟩ := className_of_methodNamed hn
  have hinitY : kY.init = .initialized := Cond.initialized_spec (findClass_of_methodNamed hn) hkY h3
  have h : At U g.method c below := by rw [hg]; exact X.here
  have hlocals9 : W9 + (maxL + 11) + (headSpec ws rm).room.locals ≤ R.locals := hlocals
  have happ : (headSpec ws rm).appliesLoose y e.platform (U.calling g mk a) = true :=
    Spec.appliesLoose_calling (g := g) h hdg hn hkY hinitY
      (X.room_calling (g := g) (R' := (headSpec ws rm).room) hsize hmY hcY hframes (by rw [hlY]; omega) h4 h5) h1
  obtain ⟨mid, hmid⟩ := h.above
  have hfr : (U.setTop g).frames = (.java g :: mid) ++ below := by rw [State.frames_setTop' g h.top, hmid]; rfl
  obtain ⟨o, s₂, hsteps, -, hend, hq⟩ := Steps.callFree hM p X.admits X.cas X.clock (acts := []) hfr happ hPc trivial
  have hq' : vx_Q Qc XC mc ms free a (U.calling g mk a) o s₂ := hq
  rw [State.frames_setTop' g h.top] at hend
  obtain ⟨g₀, hg0⟩ := Option.isSome_iff_exists.mp h.top
  obtain ⟨r, hr⟩ := State.topJava?_eq_some.mp hg0
  have hr' : (({ U with heap := s₂.heap, slotsUsed := s₂.slotsUsed } : State).setVm s₂.vm).frames = .java g₀ :: r := hr
  rcases hq' with ⟨hqc, L, hfe, hL⟩ | ⟨q, rfl, E, ce, L, hx, hce, hcv, hcl, hW₂, hsm, hL⟩
  · obtain ⟨⟨v, rfl⟩, hW₂, e2, q2, q3, q4, q5, q6⟩ := id hfe
    have e3 : s₂ = ({ (U.calling g mk a).setFrames s₂.frames with heap := s₂.heap, slotsUsed := s₂.slotsUsed } : State).setVm s₂.vm := by
      have : s₂ = ({ s₂ with vm := (U.calling g mk a).vm } : State).setVm s₂.vm := rfl
      rw [e2] at this
      exact this
    obtain ⟨c₂, i₂, len₂, hc₂, hd₂, hf₂⟩ := hend
    have hW' : U.WarmedH s₂.vm := hW₂
    have hcc : c₂ = c := by
      have h1 : s₂.code? g.method = U.code? g.method := by
        rw [State.code?_eq, State.code?_eq, hW'.alike.method?]
      exact Option.some.inj (hc₂.symm.trans (h1.trans h.code))
    subst hcc
    have hlen : len₂ = len := by rw [hdg] at hd₂; cases hd₂; rfl
    subst hlen
    have hs₂ : s₂ = (({ U with heap := s₂.heap, slotsUsed := s₂.slotsUsed } : State).setVm s₂.vm).setTop { g with pc := g.pc + len₂, stack := v.toList ++ g.stack } := by
      refine e3.trans ?_
      rw [hf₂, State.calling_eq h.top, State.setFrames_setFrames, State.setTop_of_frames _ hr', hr]
      rfl
    have hsame : U.sameButNew ({ U with heap := s₂.heap, slotsUsed := s₂.slotsUsed } : State) L mc ms := by
      refine ⟨?_, q2, q3, q4, q5, q6⟩
      obtain ⟨t, ht, -⟩ := State.frames_cons hr
      show ({ U with heap := s₂.heap, slotsUsed := s₂.slotsUsed } : State) = { U.setFrames U.frames with heap := s₂.heap, slotsUsed := s₂.slotsUsed }
      rw [State.setFrames_self ht]
    subst hg
    refine Or.inl ⟨v, ⟨(({ U with heap := s₂.heap, slotsUsed := s₂.slotsUsed } : State).setVm s₂.vm), Ls ++ L, c0 + mc, s0 + ms⟩,
      ⟨X.admits, X.cas, X.clock, X.frames, X.room, X.hears, X.method, X.code, (X.here.setHeapUsed s₂.heap s₂.slotsUsed).setVm hW'.alike, X.tail, State.WarmedH.trans X.warmed hW', X.limits, X.bytes, X.same.trans (hsame.setVm s.vm)⟩,
      ⟨g, mk, s₂, L, rfl, rfl, hqc, rfl, hL, rfl, rfl⟩, ?_⟩
    show Steps p.tables e below _ ((({ U with heap := s₂.heap, slotsUsed := s₂.slotsUsed } : State).setVm s₂.vm).setTop { g with pc := g.pc + len₂, stack := v.toList ++ g.stack })
    rw [← hs₂]
    exact hsteps
  · obtain ⟨e2, q2, q3, q4, q5, q6⟩ := id hsm
    have e3 : s₂ = ({ (U.calling g mk a).setFrames s₂.frames with heap := s₂.heap, slotsUsed := s₂.slotsUsed } : State).setVm s₂.vm := by
      have : s₂ = ({ s₂ with vm := (U.calling g mk a).vm } : State).setVm s₂.vm := rfl
      rw [e2] at this
      exact this
    have hf₂ : s₂.frames = .throwing q :: .java g :: U.frames.tail := hend
    have hW' : U.WarmedH s₂.vm := hW₂
    have hs₂ : s₂ = ((({ U with heap := s₂.heap, slotsUsed := s₂.slotsUsed } : State).setVm s₂.vm).setTop g).pushFrame (.throwing q) := by
      refine e3.trans ?_
      rw [hf₂, State.calling_eq h.top, State.setFrames_setFrames, State.pushFrame, State.frames_setTop _ hr', State.setTop_of_frames _ hr', State.setFrames_setFrames, hr]
      rfl
    have hsame : U.sameButNew ({ U with heap := s₂.heap, slotsUsed := s₂.slotsUsed } : State) L mc ms := by
      refine ⟨?_, q2, q3, q4, q5, q6⟩
      obtain ⟨t, ht, -⟩ := State.frames_cons hr
      show ({ U with heap := s₂.heap, slotsUsed := s₂.slotsUsed } : State) = { U.setFrames U.frames with heap := s₂.heap, slotsUsed := s₂.slotsUsed }
      rw [State.setFrames_self ht]
    subst hg
    refine Or.inr ⟨q, ⟨(({ U with heap := s₂.heap, slotsUsed := s₂.slotsUsed } : State).setVm s₂.vm), Ls ++ L, c0 + mc, s0 + ms⟩,
      ⟨X.admits, X.cas, X.clock, X.frames, X.room, X.hears, X.method, X.code, (X.here.setHeapUsed s₂.heap s₂.slotsUsed).setVm hW'.alike, X.tail, State.WarmedH.trans X.warmed hW', X.limits, X.bytes, X.same.trans (hsame.setVm s.vm)⟩,
      ⟨g, mk, s₂, L, E, ce, rfl, rfl, hx, hce, hcv, hcl, rfl, hL, rfl, rfl⟩, ?_⟩
    show Steps p.tables e below _ (((({ U with heap := s₂.heap, slotsUsed := s₂.slotsUsed } : State).setVm s₂.vm).setTop g).pushFrame (.throwing q))
    rw [← hs₂]
    exact hsteps
end Payer
section Calls
variable {p : Program} {l : Launch} {e : Env} {R : Room} {s : State} {m : MethodId} {args : Array Value} {below : List Frame} {meth : Method} {c : Code} {T : State} {locs : List Loc} {cells slots : Nat}
theorem vx_callV (X : Stand p l e R s m args below meth c T locs cells slots) (hexec : p.tables.exec = Jvm.exec) {own C : String} {index : Nat} {y : MethodName} {bytes : ByteArray} {maxL : Nat} {ret : Option FieldType}
    (hown : s.vm.findClass own = some m.cls) (hlink : (Cond.methodLink own index y).before args s = true) (hinst : (Cond.instanceMethod y).before args s = true) (hsel : (Cond.selects C y y).before args s = true)
    (hcode : (Cond.code y bytes maxL ret).before args s = true) (hy : y.cls ≠ "java/lang/invoke/MethodHandle" ∧ y.cls ≠ "java/lang/invoke/VarHandle")
    {W9 : Nat} {Pre : Pt → Array Value → Prop} {Post : Pt → Array Value → Option Value → Pt → Prop} {PostX : Pt → Array Value → Addr → Pt → Prop} (hK : vx_Back l R p e below s args y 3 W9 Pre Post PostX)
    {b : Addr} {cellB : Cell} (hcell : T.heap[b]? = some cellB) (hobj : cellB.vm.isStatics = false) (hcls : s.vm.findClass C = some cellB.cls)
    {g : JFrame} (hg : g.method = m) (hsize : g.locals.size = c.maxLocals) {argsL rest : List Value} (hlen : ∀ sig, parseMethodDescriptor y.desc = some sig → argsL.length = sig.parameters.length)
    (hstack : g.stack = argsL.reverse ++ .ref b :: rest) (hW : 2 * g.monitorRoom + (rest.map fun v => v.category).sum ≤ W9) (hdg : decode c.code g.pc = .ok (.invokevirtual index, 3))
    (hpre : ∀ vm₁, s.WarmedH vm₁ → Pre ⟨T.setVm vm₁, locs, cells, slots⟩ (Value.ref b :: argsL).toArray) :
    (∃ (v : Option Value) (vm₁ : Vm) (B : Pt), s.WarmedH vm₁ ∧ Stand p l e R s m args below meth c B.U B.locs B.cells B.slots ∧ Post ⟨T.setVm vm₁, locs, cells, slots⟩ (Value.ref b :: argsL).toArray v B ∧
      ∀ target, Steps p.tables e below (B.U.setTop { g with pc := g.pc + 3, stack := v.toList ++ rest }) target → Steps p.tables e below (T.setTop g) target) ∨
    (∃ (q : Addr) (vm₁ : Vm) (B : Pt), s.WarmedH vm₁ ∧ Stand p l e R s m args below meth c B.U B.locs B.cells B.slots ∧ PostX ⟨T.setVm vm₁, locs, cells, slots⟩ (Value.ref b :: argsL).toArray q B ∧
      Steps p.tables e below (T.setTop g) ((B.U.setTop { g with stack := rest }).pushFrame (.throwing q))) := by
  obtain ⟨mk, methM, hnamed, hmethM, hstM, habM⟩ := Cond.instanceMethod_spec hinst
  obtain ⟨methM', cM, hmethM', -, -, -, -, -, -, hsigM⟩ := Cond.code_spec hnamed hcode
  cases hmethM.symm.trans hmethM'
  obtain ⟨c2, r2, m2, q1, q2, q3, q4, kP, hkP, hkPi⟩ := Cond.selects_spec hsel
  cases hcls.symm.trans q1
  cases (State.methodFound?_of_named hnamed hy).symm.trans q2
  cases hnamed.symm.trans q3
  have hselP : selectMethod e.platform s.vm cellB.cls mk = .method mk := by rw [Launch.admits_selectMethod X.admits]; exact q4
  obtain ⟨vm₁, X₁, hstep₁⟩ := X.invokevirtual hexec hown hlink hnamed hmethM hstM hkP hkPi hy (a := b) (cell := cellB) hcell
    (fun z h => by rw [h] at hobj; cases hobj) hselP hmethM habM hkP hkPi (g := g) hg (argsL := argsL) (rest := rest) (hlen _ hsigM) hstack hdg
  rcases hK m meth c ⟨T.setVm vm₁, locs, cells, slots⟩ { g with stack := rest } (.invokevirtual index) mk (Value.ref b :: argsL).toArray X₁ hg hsize hdg hW (X₁.named hnamed) (hpre vm₁ X₁.warmed) with ⟨v, B, X', hpost, hsteps⟩ | ⟨q, B, X', hpost, hsteps⟩
  · exact Or.inl ⟨v, vm₁, B, X₁.warmed, X', hpost, fun target h => hstep₁ _ fun acts => by rw [doInvoke_state]; exact hsteps.trans h⟩
  · exact Or.inr ⟨q, vm₁, B, X₁.warmed, X', hpost, hstep₁ _ fun acts => by rw [doInvoke_state]; exact hsteps⟩
theorem vx_callS (X : Stand p l e R s m args below meth c T locs cells slots) (hexec : p.tables.exec = Jvm.exec) {own : String} {index : Nat} {y : MethodName} {bytes : ByteArray} {maxL : Nat} {ret : Option FieldType}
    (hown : s.vm.findClass own = some m.cls) (hlink : (Cond.methodLink own index y).before args s = true) (hstat : (Cond.static y).before args s = true) (hinit : (Cond.initialized y.cls).before args s = true)
    (hcode : (Cond.code y bytes maxL ret).before args s = true) (hy : y.cls ≠ "java/lang/invoke/MethodHandle" ∧ y.cls ≠ "java/lang/invoke/VarHandle")
    {W9 : Nat} {Pre : Pt → Array Value → Prop} {Post : Pt → Array Value → Option Value → Pt → Prop} {PostX : Pt → Array Value → Addr → Pt → Prop} (hK : vx_Back l R p e below s args y 3 W9 Pre Post PostX)
    {g : JFrame} (hg : g.method = m) (hsize : g.locals.size = c.maxLocals) {argsL rest : List Value} (hlen : ∀ sig, parseMethodDescriptor y.desc = some sig → argsL.length = sig.parameters.length)
    (hstack : g.stack = argsL.reverse ++ rest) (hW : 2 * g.monitorRoom + (rest.map fun v => v.category).sum ≤ W9) (hdg : decode c.code g.pc = .ok (.invokestatic index, 3))
    (hpre : ∀ vm₁, s.WarmedH vm₁ → Pre ⟨T.setVm vm₁, locs, cells, slots⟩ argsL.toArray) :
    (∃ (v : Option Value) (vm₁ : Vm) (B : Pt), s.WarmedH vm₁ ∧ Stand p l e R s m args below meth c B.U B.locs B.cells B.slots ∧ Post ⟨T.setVm vm₁, locs, cells, slots⟩ argsL.toArray v B ∧
      ∀ target, Steps p.tables e below (B.U.setTop { g with pc := g.pc + 3, stack := v.toList ++ rest }) target → Steps p.tables e below (T.setTop g) target) ∨
    (∃ (q : Addr) (vm₁ : Vm) (B : Pt), s.WarmedH vm₁ ∧ Stand p l e R s m args below meth c B.U B.locs B.cells B.slots ∧ PostX ⟨T.setVm vm₁, locs, cells, slots⟩ argsL.toArray q B ∧
      Steps p.tables e below (T.setTop g) ((B.U.setTop { g with stack := rest }).pushFrame (.throwing q))) := by
  obtain ⟨mk, hnamed⟩ := Cond.code_named hcode
  obtain ⟨methM, cM, hmethM, -, -, -, -, -, -, hsigM⟩ := Cond.code_spec hnamed hcode
  have hstatic : methM.isStatic = true := Cond.static_spec hnamed hmethM hstat
  obtain ⟨kP, hkP, -⟩ := className_of_methodNamed hnamed
  have hinitP : kP.init = .initialized := Cond.initialized_spec (findClass_of_methodNamed hnamed) hkP hinit
  obtain ⟨vm₁, X₁, hstep₁⟩ := X.invokestatic hexec hown hlink hnamed hmethM hstatic hkP hinitP hy (g := g) hg (argsL := argsL) (rest := rest) (hlen _ hsigM) hstack hdg
  rcases hK m meth c ⟨T.setVm vm₁, locs, cells, slots⟩ { g with stack := rest } (.invokestatic index) mk argsL.toArray X₁ hg hsize hdg hW (X₁.named hnamed) (hpre vm₁ X₁.warmed) with ⟨v, B, X', hpost, hsteps⟩ | ⟨q, B, X', hpost, hsteps⟩
  · exact Or.inl ⟨v, vm₁, B, X₁.warmed, X', hpost, fun target h => hstep₁ _ fun acts => by rw [doInvoke_state]; exact hsteps.trans h⟩
  · exact Or.inr ⟨q, vm₁, B, X₁.warmed, X', hpost, hstep₁ _ fun acts => by rw [doInvoke_state]; exact hsteps⟩
end Calls
theorem vx_cls {s : State} {T : State} {vm₁ : Vm} {E : String} {k : ClassId} (hW : s.WarmedH vm₁) (h : (T.setVm vm₁).vm.findClass E = some k) : s.vm.findClass E = some k := by
  have h1 : vm₁.findClass E = some k := h
  rw [hW.alike.findClass] at h1
  exact h1
/-- the method's frame g, with q thrown over it -/
def vx_W (p : Program) (l : Launch) (e : Env) (R : Room) (s : State) (m : MethodId) (args : Array Value) (below : List Frame) (meth : Method) (c : Code) (H : Heap) (locs : List Loc) (cells slots : Nat) (Q : State → Prop) (g : JFrame) (q : Addr) : Prop :=
  ∀ T : State, T.heap = H → Stand p l e R s m args below meth c T locs cells slots → ∃ t, Steps p.tables e below ((T.setTop g).pushFrame (.throwing q)) t ∧ Q t
def vx_Run (p : Program) (l : Launch) (e : Env) (R : Room) (s : State) (m : MethodId) (args : Array Value) (below : List Frame) (meth : Method) (c : Code) (H : Heap) (locs : List Loc) (cells slots mc ms : Nat) (g : JFrame) (rest : List Value) (Qa : State → Outcome → State → Prop) (XC : String → State → State → Prop) (free : Addr → Prop) : Prop :=
  ∀ T : State, T.heap = H → Stand p l e R s m args below meth c T locs cells slots →
    (∃ (v : Option Value) (st₀ t T' : State) (L : List Loc), st₀.heap = H ∧ Stand p l e R s m args below meth c T' (locs ++ L) (cells + mc) (slots + ms) ∧ (∀ q ∈ L, free q.base) ∧ T'.heap = t.heap ∧ T'.vm = t.vm ∧ Qa st₀ (.returned v) t ∧
      Goes p e below T g T' { g with pc := g.pc + 3, stack := v.toList ++ rest }) ∨
    (∃ (q : Addr) (st₀ t T' : State) (L : List Loc) (E : String) (ce : Cell), st₀.heap = H ∧ Stand p l e R s m args below meth c T' (locs ++ L) (cells + mc) (slots + ms) ∧ (∀ z ∈ L, free z.base) ∧ T'.heap = t.heap ∧ T'.vm = t.vm ∧ XC E st₀ t ∧ t.heap[q]? = some ce ∧ ce.vm = .none ∧ s.vm.findClass E = some ce.cls ∧
      Steps p.tables e below (T.setTop g) ((T'.setTop { g with stack := rest }).pushFrame (.throwing q)))
def vx_X {S : Type} (px : S → Prop) (B : String → S → State → Prop) (A : Nat → Prop) : String → State → State → Prop := fun E st t => ∃ u : S, px u ∧ B E u t ∧ va_F A st t
section Runs
variable {p : Program} {l : Launch} {e : Env} {R : Room} {s : State} {m : MethodId} {args : Array Value} {below : List Frame} {meth : Method} {c : Code} {H : Heap} {locs : List Loc} {cells slots : Nat}
variable {y : MethodName} {bytes cc : ByteArray} {maxL nL mc ms n index : Nat} {ret : Option FieldType} {ws : List Cond} {rm : Room} {Pc : Array Value → State → Prop} {Qc : Array Value → State → Outcome → State → Prop} {XC : String → State → State → Prop} {free : Addr → Prop} {Ts : List Cond} {own C : String} {b : Addr} {As rest : List Value} {g : JFrame}
theorem vx_callBack (cb : CallB R s args own index y bytes maxL ret ws rm mc ms n) (hM : vx_Met l y ws rm Pc Qc XC mc ms free) (hbl : FrameBlind Pc) : vx_Back l R p e below s args y 3 8 (PreOf R mc ms Pc) (PostOf Qc mc ms free) (vx_Post XC mc ms free) := by
  obtain ⟨hrc, hrs, hfr, hlo, hws, hcw, -, hini, -⟩ := cb
  exact vx_back (bytes := bytes) (maxL := maxL) (ret := ret) hM hbl hrc hrs hfr hlo hws hcw (fun a' U hW => word_at hW (Or.inl (by first | rfl | simp [Cond.onTables, Cond.keeps, Cond.steady])) hini)
theorem vx_runV (S : CallFix p m c cc nL s args Ts own) (hM : vx_Met l y ws rm Pc Qc XC mc ms free) (cw : CallW R s args own C index y bytes maxL ret ws rm mc ms n) (hp : PreV s H C b Pc As)
    (hg : g.method = m) (hn : As.length = n) (hsize : g.locals.size = nL) (hstack : g.stack = As.reverse ++ .ref b :: rest) (hW : 2 * g.monitorRoom + (rest.map fun v => v.category).sum ≤ 8) (hdg : decode cc g.pc = .ok (.invokevirtual index, 3)) (hf : cells + mc ≤ R.cells ∧ slots + ms ≤ R.slots) :
    vx_Run p l e R s m args below meth c H locs cells slots mc ms g rest (Qc (Value.ref b :: As).toArray) XC free := by
  have hK : vx_Back l R p e below s args y 3 8 (PreOf R mc ms Pc) (PostOf Qc mc ms free) (vx_Post XC mc ms free) := vx_callBack cw.1 hM hp.1
  obtain ⟨⟨-, -, -, -, -, -, hcode, -, hy, hlen, hl⟩, hin, hse⟩ := cw
  obtain ⟨hx, hb, hml, ho, -⟩ := S
  obtain ⟨-, ⟨cellB, hcB, hoB, hclB⟩, hPc⟩ := hp
  intro T hT X
  rcases vx_callV X hx (C := C) (bytes := bytes) (maxL := maxL) (ret := ret) ho hl hin hse hcode hy hK (by rw [hT]; exact hcB) hoB hclB hg (hsize.trans hml.symm) (argsL := As) (rest := rest) (fun sig h => hn.trans (hlen sig h)) hstack hW (by rw [hb]; exact hdg)
    (fun vm₁ hW₁ => ⟨hf.1, hf.2, hPc (T.setVm vm₁) hT hW₁⟩) with ⟨v, vm₁, ⟨U', l2, c2, s2⟩, hW₁, X', ⟨g', mk, t, L, e1, e2, hq, h1, hL, h2, h3⟩, st⟩ | ⟨q, vm₁, ⟨U', l2, c2, s2⟩, hW₁, X', ⟨g', mk, t, L, E, ce, e1, e2, hq, hce, hcv, hcl, h1, hL, h2, h3⟩, st⟩
  · dsimp only [Pt.U, Pt.locs, Pt.cells, Pt.slots] at X' e1 e2 h1 h2 h3 st
    subst h1; subst h2; subst h3
    exact Or.inl ⟨v, (T.setVm vm₁).calling g' mk (Value.ref b :: As).toArray, t, U', L, hT, X', hL, e1, e2, hq, st⟩
  · dsimp only [Pt.U, Pt.locs, Pt.cells, Pt.slots] at X' e1 e2 h1 h2 h3 st hcl
    subst h1; subst h2; subst h3
    exact Or.inr ⟨q, (T.setVm vm₁).calling g' mk (Value.ref b :: As).toArray, t, U', L, E, ce, hT, X', hL, e1, e2, hq, hce, hcv, vx_cls hW₁ hcl, st⟩
theorem vx_runS (S : CallFix p m c cc nL s args Ts own) (hM : vx_Met l y ws rm Pc Qc XC mc ms free) (cw : CallB R s args own index y bytes maxL ret ws rm mc ms n ∧ (Cond.static y).before args s = true) (hp : PreS s H Pc As)
    (hg : g.method = m) (hn : As.length = n) (hsize : g.locals.size = nL) (hstack : g.stack = As.reverse ++ rest) (hW : 2 * g.monitorRoom + (rest.map fun v => v.category).sum ≤ 8) (hdg : decode cc g.pc = .ok (.invokestatic index, 3)) (hf : cells + mc ≤ R.cells ∧ slots + ms ≤ R.slots) :
    vx_Run p l e R s m args below meth c H locs cells slots mc ms g rest (Qc As.toArray) XC free := by
  have hK : vx_Back l R p e below s args y 3 8 (PreOf R mc ms Pc) (PostOf Qc mc ms free) (vx_Post XC mc ms free) := vx_callBack cw.1 hM hp.1
  obtain ⟨⟨-, -, -, -, -, -, hcode, hini, hy, hlen, hl⟩, hstt⟩ := cw
  obtain ⟨hx, hb, hml, ho, -⟩ := S
  intro T hT X
  rcases vx_callS X hx (bytes := bytes) (maxL := maxL) (ret := ret) ho hl hstt hini hcode hy hK hg (hsize.trans hml.symm) (argsL := As) (rest := rest) (fun sig h => hn.trans (hlen sig h)) hstack hW (by rw [hb]; exact hdg)
    (fun vm₁ hW₁ => ⟨hf.1, hf.2, hp.2 (T.setVm vm₁) hT hW₁⟩) with ⟨v, vm₁, ⟨U', l2, c2, s2⟩, hW₁, X', ⟨g', mk, t, L, e1, e2, hq, h1, hL, h2, h3⟩, st⟩ | ⟨q, vm₁, ⟨U', l2, c2, s2⟩, hW₁, X', ⟨g', mk, t, L, E, ce, e1, e2, hq, hce, hcv, hcl, h1, hL, h2, h3⟩, st⟩
  · dsimp only [Pt.U, Pt.locs, Pt.cells, Pt.slots] at X' e1 e2 h1 h2 h3 st
    subst h1; subst h2; subst h3
    exact Or.inl ⟨v, (T.setVm vm₁).calling g' mk As.toArray, t, U', L, hT, X', hL, e1, e2, hq, st⟩
  · dsimp only [Pt.U, Pt.locs, Pt.cells, Pt.slots] at X' e1 e2 h1 h2 h3 st hcl
    subst h1; subst h2; subst h3
    exact Or.inr ⟨q, (T.setVm vm₁).calling g' mk As.toArray, t, U', L, E, ce, hT, X', hL, e1, e2, hq, hce, hcv, vx_cls hW₁ hcl, st⟩
end Runs
section Rows
variable {p : Program} {l : Launch} {e : Env} {R : Room} {s : State} {m : MethodId} {args : Array Value} {below : List Frame} {meth : Method} {c : Code} {H : Heap} {locs : List Loc} {cells slots : Nat} {Q : State → Prop}
variable {mc ms : Nat} {free : Addr → Prop} {A0 A1 : Nat → Prop} {H0 : Heap} {a : Array Value} {pc : Nat} {ls : Array Slot} {st0 rest : List Value}
theorem vx_keep {st₀ t T' : State} {L : List Loc} (h0 : st₀.heap = H) (e1 : T'.heap = t.heap) (hS : va_S A0 H0 H locs) (hA : ∀ q, q < H.size → A1 q → A0 q) (hf : ∀ q, free q → A0 q) (hL : ∀ q ∈ L, free q.base) (hF : va_F A1 st₀ t) :
    H.size ≤ T'.heap.size ∧ (∀ q : Nat, q < H.size → ¬ A1 q → T'.heap[q]? = H[q]?) ∧ va_S A0 H0 T'.heap (locs ++ L) := by
  obtain ⟨hz, hk⟩ := hF
  rw [h0] at hz hk
  exact ⟨by rw [e1]; exact hz, fun q h1 h2 => by rw [e1]; exact hk q h1 h2,
    ⟨Nat.le_trans hS.1 (by rw [e1]; exact hz), fun q h1 h2 => by rw [e1, hk q (Nat.lt_of_lt_of_le h1 hS.1) (fun z => h2 (hA q (Nat.lt_of_lt_of_le h1 hS.1) z))]; exact hS.2.1 q h1 h2, fun q hq => by
      rcases List.mem_append.mp hq with h | h
      · exact hS.2.2 q h
      · exact hf _ (hL q h)⟩⟩
theorem vx_calli {S SX : Type} {post : Int32 → S → Prop} {px : SX → Prop} {B : S → State → Prop} {BX : String → SX → State → Prop} {AX : Nat → Prop} (hr : vx_Run p l e R s m args below meth c H locs cells slots mc ms (F0 m pc ls st0) rest (va_Qi post B A1 a) (vx_X px BX AX) free) (hS : va_S A0 H0 H locs) (hA : ∀ q, q < H.size → A1 q → A0 q) (hf : ∀ q, free q → A0 q) (hAX : ∀ q, q < H.size → AX q → A0 q)
    (kx : ∀ (E : String) (ce : Cell) (q9 : Addr) (u : SX) (t : State) (H1 : Heap) (locs1 : List Loc), t.heap = H1 → s.vm.Alike t.vm → px u → BX E u t → H.size ≤ H1.size → (∀ q : Nat, q < H.size → ¬ AX q → H1[q]? = H[q]?) → va_S A0 H0 H1 locs1 → H1[q9]? = some ce → ce.vm = .none → s.vm.findClass E = some ce.cls → vx_W p l e R s m args below meth c H1 locs1 (cells + mc) (slots + ms) Q (F0 m pc ls rest) q9)
    (kk : ∀ (r : Int32) (u : S) (t : State) (H1 : Heap) (locs1 : List Loc), t.heap = H1 → s.vm.Alike t.vm → post r u → B u t → H.size ≤ H1.size → (∀ q : Nat, q < H.size → ¬ A1 q → H1[q]? = H[q]?) → va_S A0 H0 H1 locs1 → W p l e R s m args below meth c H1 locs1 (cells + mc) (slots + ms) Q (F0 m (pc + 3) ls (.int r :: rest))) : W p l e R s m args below meth c H locs cells slots Q (F0 m pc ls st0) := by
  intro T hT X
  rcases hr T hT X with ⟨v, st₀, t, T', L, h0, X', hL, e1, e2, ⟨⟨r, u, hv, hp, hb⟩, hF⟩, st⟩ | ⟨q, st₀, t, T', L, E, ce, h0, X', hL, e1, e2, ⟨u, hp, hb, hF⟩, hce, hcv, hcl, st⟩
  · cases hv
    obtain ⟨k1, k2, k3⟩ := vx_keep h0 e1 hS hA hf hL hF
    obtain ⟨t2, a1, b1⟩ := kk r u t T'.heap (locs ++ L) e1.symm (by rw [← e2]; exact X'.warmed.alike) hp hb k1 k2 k3 T' rfl X'
    exact ⟨t2, st t2 a1, b1⟩
  · obtain ⟨k1, k2, k3⟩ := vx_keep h0 e1 hS hAX hf hL hF
    obtain ⟨t2, a1, b1⟩ := kx E ce q u t T'.heap (locs ++ L) e1.symm (by rw [← e2]; exact X'.warmed.alike) hp hb k1 k2 k3 (by rw [e1]; exact hce) hcv hcl T' rfl X'
    exact ⟨t2, st.trans a1, b1⟩
theorem vx_calll {S SX : Type} {post : Int64 → S → Prop} {px : SX → Prop} {B : S → State → Prop} {BX : String → SX → State → Prop} {AX : Nat → Prop} (hr : vx_Run p l e R s m args below meth c H locs cells slots mc ms (F0 m pc ls st0) rest (va_Ql post B A1 a) (vx_X px BX AX) free) (hS : va_S A0 H0 H locs) (hA : ∀ q, q < H.size → A1 q → A0 q) (hf : ∀ q, free q → A0 q) (hAX : ∀ q, q < H.size → AX q → A0 q)
    (kx : ∀ (E : String) (ce : Cell) (q9 : Addr) (u : SX) (t : State) (H1 : Heap) (locs1 : List Loc), t.heap = H1 → s.vm.Alike t.vm → px u → BX E u t → H.size ≤ H1.size → (∀ q : Nat, q < H.size → ¬ AX q → H1[q]? = H[q]?) → va_S A0 H0 H1 locs1 → H1[q9]? = some ce → ce.vm = .none → s.vm.findClass E = some ce.cls → vx_W p l e R s m args below meth c H1 locs1 (cells + mc) (slots + ms) Q (F0 m pc ls rest) q9)
    (kk : ∀ (r : Int64) (u : S) (t : State) (H1 : Heap) (locs1 : List Loc), t.heap = H1 → s.vm.Alike t.vm → post r u → B u t → H.size ≤ H1.size → (∀ q : Nat, q < H.size → ¬ A1 q → H1[q]? = H[q]?) → va_S A0 H0 H1 locs1 → W p l e R s m args below meth c H1 locs1 (cells + mc) (slots + ms) Q (F0 m (pc + 3) ls (.long r :: rest))) : W p l e R s m args below meth c H locs cells slots Q (F0 m pc ls st0) := by
  intro T hT X
  rcases hr T hT X with ⟨v, st₀, t, T', L, h0, X', hL, e1, e2, ⟨⟨r, u, hv, hp, hb⟩, hF⟩, st⟩ | ⟨q, st₀, t, T', L, E, ce, h0, X', hL, e1, e2, ⟨u, hp, hb, hF⟩, hce, hcv, hcl, st⟩
  · cases hv
    obtain ⟨k1, k2, k3⟩ := vx_keep h0 e1 hS hA hf hL hF
    obtain ⟨t2, a1, b1⟩ := kk r u t T'.heap (locs ++ L) e1.symm (by rw [← e2]; exact X'.warmed.alike) hp hb k1 k2 k3 T' rfl X'
    exact ⟨t2, st t2 a1, b1⟩
  · obtain ⟨k1, k2, k3⟩ := vx_keep h0 e1 hS hAX hf hL hF
    obtain ⟨t2, a1, b1⟩ := kx E ce q u t T'.heap (locs ++ L) e1.symm (by rw [← e2]; exact X'.warmed.alike) hp hb k1 k2 k3 (by rw [e1]; exact hce) hcv hcl T' rfl X'
    exact ⟨t2, st.trans a1, b1⟩
theorem vx_callf {S SX : Type} {post : UInt32 → S → Prop} {px : SX → Prop} {B : S → State → Prop} {BX : String → SX → State → Prop} {AX : Nat → Prop} (hr : vx_Run p l e R s m args below meth c H locs cells slots mc ms (F0 m pc ls st0) rest (va_Qf post B A1 a) (vx_X px BX AX) free) (hS : va_S A0 H0 H locs) (hA : ∀ q, q < H.size → A1 q → A0 q) (hf : ∀ q, free q → A0 q) (hAX : ∀ q, q < H.size → AX q → A0 q)
    (kx : ∀ (E : String) (ce : Cell) (q9 : Addr) (u : SX) (t : State) (H1 : Heap) (locs1 : List Loc), t.heap = H1 → s.vm.Alike t.vm → px u → BX E u t → H.size ≤ H1.size → (∀ q : Nat, q < H.size → ¬ AX q → H1[q]? = H[q]?) → va_S A0 H0 H1 locs1 → H1[q9]? = some ce → ce.vm = .none → s.vm.findClass E = some ce.cls → vx_W p l e R s m args below meth c H1 locs1 (cells + mc) (slots + ms) Q (F0 m pc ls rest) q9)
    (kk : ∀ (r : UInt32) (u : S) (t : State) (H1 : Heap) (locs1 : List Loc), t.heap = H1 → s.vm.Alike t.vm → post r u → B u t → H.size ≤ H1.size → (∀ q : Nat, q < H.size → ¬ A1 q → H1[q]? = H[q]?) → va_S A0 H0 H1 locs1 → W p l e R s m args below meth c H1 locs1 (cells + mc) (slots + ms) Q (F0 m (pc + 3) ls (.float r :: rest))) : W p l e R s m args below meth c H locs cells slots Q (F0 m pc ls st0) := by
  intro T hT X
  rcases hr T hT X with ⟨v, st₀, t, T', L, h0, X', hL, e1, e2, ⟨⟨r, u, hv, hp, hb⟩, hF⟩, st⟩ | ⟨q, st₀, t, T', L, E, ce, h0, X', hL, e1, e2, ⟨u, hp, hb, hF⟩, hce, hcv, hcl, st⟩
  · cases hv
    obtain ⟨k1, k2, k3⟩ := vx_keep h0 e1 hS hA hf hL hF
    obtain ⟨t2, a1, b1⟩ := kk r u t T'.heap (locs ++ L) e1.symm (by rw [← e2]; exact X'.warmed.alike) hp hb k1 k2 k3 T' rfl X'
    exact ⟨t2, st t2 a1, b1⟩
  · obtain ⟨k1, k2, k3⟩ := vx_keep h0 e1 hS hAX hf hL hF
    obtain ⟨t2, a1, b1⟩ := kx E ce q u t T'.heap (locs ++ L) e1.symm (by rw [← e2]; exact X'.warmed.alike) hp hb k1 k2 k3 (by rw [e1]; exact hce) hcv hcl T' rfl X'
    exact ⟨t2, st.trans a1, b1⟩
theorem vx_calld {S SX : Type} {post : UInt64 → S → Prop} {px : SX → Prop} {B : S → State → Prop} {BX : String → SX → State → Prop} {AX : Nat → Prop} (hr : vx_Run p l e R s m args below meth c H locs cells slots mc ms (F0 m pc ls st0) rest (va_Qd post B A1 a) (vx_X px BX AX) free) (hS : va_S A0 H0 H locs) (hA : ∀ q, q < H.size → A1 q → A0 q) (hf : ∀ q, free q → A0 q) (hAX : ∀ q, q < H.size → AX q → A0 q)
    (kx : ∀ (E : String) (ce : Cell) (q9 : Addr) (u : SX) (t : State) (H1 : Heap) (locs1 : List Loc), t.heap = H1 → s.vm.Alike t.vm → px u → BX E u t → H.size ≤ H1.size → (∀ q : Nat, q < H.size → ¬ AX q → H1[q]? = H[q]?) → va_S A0 H0 H1 locs1 → H1[q9]? = some ce → ce.vm = .none → s.vm.findClass E = some ce.cls → vx_W p l e R s m args below meth c H1 locs1 (cells + mc) (slots + ms) Q (F0 m pc ls rest) q9)
    (kk : ∀ (r : UInt64) (u : S) (t : State) (H1 : Heap) (locs1 : List Loc), t.heap = H1 → s.vm.Alike t.vm → post r u → B u t → H.size ≤ H1.size → (∀ q : Nat, q < H.size → ¬ A1 q → H1[q]? = H[q]?) → va_S A0 H0 H1 locs1 → W p l e R s m args below meth c H1 locs1 (cells + mc) (slots + ms) Q (F0 m (pc + 3) ls (.double r :: rest))) : W p l e R s m args below meth c H locs cells slots Q (F0 m pc ls st0) := by
  intro T hT X
  rcases hr T hT X with ⟨v, st₀, t, T', L, h0, X', hL, e1, e2, ⟨⟨r, u, hv, hp, hb⟩, hF⟩, st⟩ | ⟨q, st₀, t, T', L, E, ce, h0, X', hL, e1, e2, ⟨u, hp, hb, hF⟩, hce, hcv, hcl, st⟩
  · cases hv
    obtain ⟨k1, k2, k3⟩ := vx_keep h0 e1 hS hA hf hL hF
    obtain ⟨t2, a1, b1⟩ := kk r u t T'.heap (locs ++ L) e1.symm (by rw [← e2]; exact X'.warmed.alike) hp hb k1 k2 k3 T' rfl X'
    exact ⟨t2, st t2 a1, b1⟩
  · obtain ⟨k1, k2, k3⟩ := vx_keep h0 e1 hS hAX hf hL hF
    obtain ⟨t2, a1, b1⟩ := kx E ce q u t T'.heap (locs ++ L) e1.symm (by rw [← e2]; exact X'.warmed.alike) hp hb k1 k2 k3 (by rw [e1]; exact hce) hcv hcl T' rfl X'
    exact ⟨t2, st.trans a1, b1⟩
theorem vx_callv {S SX : Type} {post : S → Prop} {px : SX → Prop} {B : S → State → Prop} {BX : String → SX → State → Prop} {AX : Nat → Prop} (hr : vx_Run p l e R s m args below meth c H locs cells slots mc ms (F0 m pc ls st0) rest (va_Qv post B A1 a) (vx_X px BX AX) free) (hS : va_S A0 H0 H locs) (hA : ∀ q, q < H.size → A1 q → A0 q) (hf : ∀ q, free q → A0 q) (hAX : ∀ q, q < H.size → AX q → A0 q)
    (kx : ∀ (E : String) (ce : Cell) (q9 : Addr) (u : SX) (t : State) (H1 : Heap) (locs1 : List Loc), t.heap = H1 → s.vm.Alike t.vm → px u → BX E u t → H.size ≤ H1.size → (∀ q : Nat, q < H.size → ¬ AX q → H1[q]? = H[q]?) → va_S A0 H0 H1 locs1 → H1[q9]? = some ce → ce.vm = .none → s.vm.findClass E = some ce.cls → vx_W p l e R s m args below meth c H1 locs1 (cells + mc) (slots + ms) Q (F0 m pc ls rest) q9)
    (kk : ∀ (u : S) (t : State) (H1 : Heap) (locs1 : List Loc), t.heap = H1 → s.vm.Alike t.vm → post u → B u t → H.size ≤ H1.size → (∀ q : Nat, q < H.size → ¬ A1 q → H1[q]? = H[q]?) → va_S A0 H0 H1 locs1 → W p l e R s m args below meth c H1 locs1 (cells + mc) (slots + ms) Q (F0 m (pc + 3) ls (rest))) : W p l e R s m args below meth c H locs cells slots Q (F0 m pc ls st0) := by
  intro T hT X
  rcases hr T hT X with ⟨v, st₀, t, T', L, h0, X', hL, e1, e2, ⟨⟨u, hv, hp, hb⟩, hF⟩, st⟩ | ⟨q, st₀, t, T', L, E, ce, h0, X', hL, e1, e2, ⟨u, hp, hb, hF⟩, hce, hcv, hcl, st⟩
  · cases hv
    obtain ⟨k1, k2, k3⟩ := vx_keep h0 e1 hS hA hf hL hF
    obtain ⟨t2, a1, b1⟩ := kk u t T'.heap (locs ++ L) e1.symm (by rw [← e2]; exact X'.warmed.alike) hp hb k1 k2 k3 T' rfl X'
    exact ⟨t2, st t2 a1, b1⟩
  · obtain ⟨k1, k2, k3⟩ := vx_keep h0 e1 hS hAX hf hL hF
    obtain ⟨t2, a1, b1⟩ := kx E ce q u t T'.heap (locs ++ L) e1.symm (by rw [← e2]; exact X'.warmed.alike) hp hb k1 k2 k3 (by rw [e1]; exact hce) hcv hcl T' rfl X'
    exact ⟨t2, st.trans a1, b1⟩
/-- caught by the row x of this method's table; the rows ahead don't take it -/
theorem vx_catch {own name : String} {E : String} {ce : Cell} {q : Addr} (hown : s.vm.findClass own = some m.cls) (pre : List ExceptionTableEntry) (x : ExceptionTableEntry) (suf : List ExceptionTableEntry) (hsplit : c.exceptionTable.toList = pre ++ x :: suf)
    (hpass : ∀ z ∈ pre, covers z pc = false ∨ (z.catchType ≠ 0 ∧ ∃ nm : String, (Cond.classLink own z.catchType nm).before args s = true ∧ va_Nc E nm s)) (hx : covers x pc = true) (h0 : x.catchType ≠ 0)
    (hlink : (Cond.classLink own x.catchType name).before args s = true) (hcast : (Cond.castable E name).before args s = true) (hcell : H[q]? = some ce) (hv : ce.vm = .none) (hcl : s.vm.findClass E = some ce.cls)
    (kk : W p l e R s m args below meth c H locs cells slots Q (F0 m x.handlerPc ls [.ref q])) : vx_W p l e R s m args below meth c H locs cells slots Q (F0 m pc ls rest) q := by
  intro T hT X
  have hpl : e.platform.magicAccessors = ({} : Platform).magicAccessors := by rw [X.admits.platform]
  obtain ⟨c3, c4, hc3, hc4, hasg⟩ := Cond.castable_spec hcast
  cases Option.some.inj (hc3.symm.trans hcl)
  obtain ⟨c5, hc5, hcl5⟩ := Cond.classLink_spec hown hlink e.platform hpl
  cases Option.some.inj (hc4.symm.trans hc5)
  obtain ⟨vm', X', st⟩ := X.thenCaughtThrough q (g := F0 m pc ls rest) rfl (Steps.refl _) (by rw [hT]; exact hcell) (by rw [hv]; rfl) (by obtain ⟨k9, h9, -⟩ := Vm.findClass_spec hcl; exact ⟨k9, h9⟩) pre x suf hsplit
    (fun z hz => by
      rcases hpass z hz with h | ⟨hz0, nm, hl1, hn1⟩
      · exact Or.inl h
      · obtain ⟨c6, hc6, hcl6⟩ := Cond.classLink_spec hown hl1 e.platform hpl
        obtain ⟨a8, b8, h1, h2, h3⟩ := hn1
        cases Option.some.inj (h1.symm.trans hcl)
        cases Option.some.inj (h2.symm.trans hc6)
        exact Or.inr ⟨hz0, _, hcl6, h3⟩) hx (Or.inr ⟨h0, c4, hcl5, hasg⟩)
  obtain ⟨t, a1, b1⟩ := kk (T.setVm vm') hT X'
  exact ⟨t, st.trans a1, b1⟩
end Rows
section Ends
variable {p : Program} {l : Launch} {e : Env} {R : Room} {s : State} {m : MethodId} {args : Array Value} {below : List Frame} {meth : Method} {c : Code} {H : Heap} {locs : List Loc} {cells slots : Nat} {Q : State → Prop}
variable {mc ms : Nat} {free : Addr → Prop} {A0 A1 : Nat → Prop} {H0 : Heap} {a : Array Value} {ls : Array Slot} {st0 rest : List Value}
variable {Qc : Array Value → State → Outcome → State → Prop} {XC : String → State → State → Prop}
/-- what a body that may throw owes at its end -/
def vx_MQ (below : List Frame) (Qc : Array Value → State → Outcome → State → Prop) (XC : String → State → State → Prop) (a : Array Value) (s : State) (mc ms : Nat) (free : Addr → Prop) : State → Prop := fun t =>
  ∃ o, t.status = .running ∧ Ended t below o ∧ vx_Q Qc XC mc ms free a s o t
theorem vx_ret {g : JFrame} {mc ms : Nat} (k : W p l e R s m args below meth c H locs cells slots (MQ below Qc args s mc ms free) g) : W p l e R s m args below meth c H locs cells slots (vx_MQ below Qc XC args s mc ms free) g := by
  intro T hT X
  obtain ⟨t, a1, o, b1, b2, b3, b4⟩ := k T hT X
  exact ⟨t, a1, o, b1, b2, Or.inl ⟨b3, b4⟩⟩
/-- not caught here: it goes on to the caller -/
theorem vx_widen {g : JFrame} {q : Addr} {k n : Nat} (h1 : cells ≤ k) (h2 : slots ≤ n) (kk : vx_W p l e R s m args below meth c H locs k n Q g q) : vx_W p l e R s m args below meth c H locs cells slots Q g q := fun T hT X => kk T hT (stand_widen X h1 h2)
theorem vx_out {pc : Nat} {E : String} {ce : Cell} {q : Addr} {mc ms : Nat} (hout : ∀ x ∈ c.exceptionTable.toList, covers x pc = false) (hlocks : meth.locks = false) (hcell : H[q]? = some ce) (hv : ce.vm = .none) (hcl : s.vm.findClass E = some ce.cls)
    (hx : ∀ t : State, t.heap = H → s.vm.Alike t.vm → XC E s t) (hf : ∀ z ∈ locs, free z.base) (hc : cells ≤ mc) (hs : slots ≤ ms) :
    vx_W p l e R s m args below meth c H locs cells slots (vx_MQ below Qc XC args s mc ms free) (F0 m pc ls rest) q := by
  intro T hT X
  obtain ⟨st1, hrun, hend, hW, hsm⟩ := X.leaveThrown q (g := F0 m pc ls rest) rfl rfl rfl hout hlocks
  have hcell9 : (T.setFrames (.throwing q :: below)).heap[q]? = some ce := by
    show T.heap[q]? = some ce
    rw [hT]; exact hcell
  exact ⟨_, st1, .threw q, hrun, hend, Or.inr ⟨q, rfl, E, ce, locs, hx _ hT hW.alike, hcell9, hv, hcl, hW, hsm.mono hc hs, hf⟩⟩
theorem vx_frame {U : State} {k n : Nat} (h : s.sameButNew ({ U with vm := s.vm } : State) locs k n) : s.heap.size ≤ U.heap.size ∧ ∀ q : Nat, q < s.heap.size → (∀ z ∈ locs, z.base ≠ q) → U.heap[q]? = s.heap[q]? := by
  obtain ⟨-, h2, -, -, -, h6⟩ := h
  refine ⟨h2, fun q hq hz => ?_⟩
  obtain ⟨c9, e1, e2, e3, e4⟩ := h6 q _ (Array.getElem?_eq_getElem hq)
  have hs : c9.slots = (s.heap[q]).slots := Array.ext_getElem? fun i => e4 i fun hm => hz _ hm rfl
  have h9 : c9 = s.heap[q] := by
    rw [hs] at e2
    exact e2
  have e5 : U.heap[q]? = some c9 := e1
  rw [e5, h9, Array.getElem?_eq_getElem hq]
/-- the words of a throw but the four that speak of the heap -/
def vx_no (w : Cond) : Bool := decide (w ≠ .isRef (.static Bundle.tN "UNASSIGNED_STACK" Bundle.steD)) && decide (w ≠ .isRef (.static Bundle.tN "SUPPRESSED_SENTINEL" Bundle.listD)) && decide (w ≠ .laysStatic Bundle.tN "UNASSIGNED_STACK" Bundle.steD) && decide (w ≠ .laysStatic Bundle.tN "SUPPRESSED_SENTINEL" Bundle.listD)
def vx_at0 (own : String) (ic : Nat) (X : String) (names : List String) : List Cond := (Bundle.ownAtoms0 own ic X names).filter vx_no
def vx_atS (own : String) (ic : Nat) (X : String) (names : List String) : List Cond := (Bundle.ownAtoms own ic X names).filter vx_no
/-- a word that the tables alone decide, or a good one -/
def vx_ot (w : Cond) : Bool := w.onTables || goodWord w
theorem vx_ot_at {args a' : Array Value} {s U : State} {w : Cond} (hW : s.WarmedH U.vm) (hvm : s.vm = U.vm) (hg : vx_ot w = true) (h : w.before args s = true) : w.before a' U = true := by
  simp only [vx_ot, Bool.or_eq_true] at hg
  rcases hg with hg | hg
  · exact va_tabs hg hvm h
  · exact word_at hW (good_of_word hg) h
/-- a list's words: the good ones out of the method's own list, the others by premises of their own -/
theorem vx_hat {args : Array Value} {s : State} {L B : List Cond} (h1 : ∀ w ∈ L.filter goodWord, w.before args s = true) (h2 : ∀ w ∈ L.filter (fun w => !goodWord w), w ∈ B) (h3 : ∀ w ∈ B, w.before args s = true) : ∀ w ∈ L, w.before args s = true := by
  intro w hw
  by_cases g : goodWord w = true
  · exact h1 w (List.mem_filter.mpr ⟨hw, g⟩)
  · refine h3 w (h2 w (List.mem_filter.mpr ⟨hw, ?_⟩))
    show (!goodWord w) = true
    cases hgw : goodWord w
    · rfl
    · exact absurd hgw g
theorem vx_c {args : Array Value} {s : State} {w : Cond} {B : List Cond} (h : w.before args s = true) (t : ∀ w ∈ B, w.before args s = true) : ∀ w' ∈ w :: B, w'.before args s = true := fun w' h' => (List.mem_cons.mp h').elim (fun e => by rw [e]; exact h) (t w')
theorem vx_n {args : Array Value} {s : State} : ∀ w ∈ ([] : List Cond), w.before args s = true := fun _ h => nomatch h
theorem vx_own {args : Array Value} {s : State} {L : List Cond} (h1 : ∀ w ∈ L.filter vx_no, w.before args s = true)
    (hU : (Cond.isRef (.static Bundle.tN "UNASSIGNED_STACK" Bundle.steD)).before args s = true) (hN : (Cond.isRef (.static Bundle.tN "SUPPRESSED_SENTINEL" Bundle.listD)).before args s = true)
    (lU : (Cond.laysStatic Bundle.tN "UNASSIGNED_STACK" Bundle.steD).before args s = true) (lN : (Cond.laysStatic Bundle.tN "SUPPRESSED_SENTINEL" Bundle.listD).before args s = true) : ∀ w ∈ L, w.before args s = true := by
  intro w hw
  by_cases e1 : w = .isRef (.static Bundle.tN "UNASSIGNED_STACK" Bundle.steD)
  · rw [e1]; exact hU
  · by_cases e2 : w = .isRef (.static Bundle.tN "SUPPRESSED_SENTINEL" Bundle.listD)
    · rw [e2]; exact hN
    · by_cases e3 : w = .laysStatic Bundle.tN "UNASSIGNED_STACK" Bundle.steD
      · rw [e3]; exact lU
      · by_cases e4 : w = .laysStatic Bundle.tN "SUPPRESSED_SENTINEL" Bundle.listD
        · rw [e4]; exact lN
        · exact h1 w (List.mem_filter.mpr ⟨hw, by unfold vx_no; rw [decide_eq_true e1, decide_eq_true e2, decide_eq_true e3, decide_eq_true e4]; rfl⟩)
/-- where a static field lies, its class's statics cell in H -/
def vx_L (C n d : String) (A : Nat → Prop) (U : State) (H : Heap) : Prop := ∃ (c : ClassId) (k : Class) (i : Nat) (f : Field) (a : Nat) (cell : Cell), U.vm.findClass C = some c ∧ U.fieldFound? C n d = some (c, k, i, f) ∧ f.isStatic = true ∧ k.statics = some a ∧ H[a]? = some cell ∧ cell.vm.isStatics = true ∧ cell.cls = c ∧ f.slot < cell.slots.size ∧ k.staticTypes[f.slot]? = some f.type ∧ ¬ A a
theorem vx_L.moved {C n d : String} {A : Nat → Prop} {u U : State} {H : Heap} (hvm : u.vm.Alike U.vm) (h : vx_L C n d A u H) : vx_L C n d A U H := by
  obtain ⟨c, k, i, f, a, cell, h1, h2, h3, h4, h5, h6, h7, h8, h9, h10⟩ := h
  obtain ⟨k', hi', he⟩ := State.fieldFound?_setVm hvm h2
  exact ⟨c, k', i, f, a, cell, by rw [hvm.findClass]; exact h1, hi', h3, by rw [he]; exact h4, h5, h6, h7, h8, by rw [he]; exact h9, h10⟩
theorem vx_L.kept {C n d : String} {A : Nat → Prop} {U : State} {H H1 : Heap} (h : vx_L C n d A U H) (hq : ∀ a : Nat, a < H.size → ¬ A a → H1[a]? = H[a]?) : vx_L C n d A U H1 := by
  obtain ⟨c, k, i, f, a, cell, h1, h2, h3, h4, h5, h6, h7, h8, h9, h10⟩ := h
  exact ⟨c, k, i, f, a, cell, h1, h2, h3, h4, by rw [hq a (Array.getElem?_eq_some_iff.mp h5).1 h10]; exact h5, h6, h7, h8, h9, h10⟩
theorem vx_L.narrow {C n d : String} {A B : Nat → Prop} {U : State} {H : Heap} (h : vx_L C n d A U H) (hAB : ∀ q, B q → A q) : vx_L C n d B U H := by
  obtain ⟨c, k, i, f, a, cell, h1, h2, h3, h4, h5, h6, h7, h8, h9, h10⟩ := h
  exact ⟨c, k, i, f, a, cell, h1, h2, h3, h4, h5, h6, h7, h8, h9, fun z => h10 (hAB _ z)⟩
theorem vx_L.word {C n d : String} {A : Nat → Prop} {s : State} {args : Array Value} (h : vx_L C n d A s s.heap) : (Cond.laysStatic C n d).before args s = true := by
  obtain ⟨c, k, i, f, a, cell, h1, h2, h3, h4, h5, h6, h7, h8, h9, -⟩ := h
  show (Cond.laysStatic C n d).holds args s none s [] = true
  exact Cond.laysStatic_of h1 h2 h3 h4 h5 h6 h7 h8 h9
/-- .. and what it holds: null or some reference -/
def vx_Zq (C n d : String) (A : Nat → Prop) (U : State) (H : Heap) : Prop := va_Zq C n d A U H ∧ vx_L C n d A U H
theorem vx_Zq.moved {C n d : String} {A : Nat → Prop} {u U : State} {H : Heap} (hvm : u.vm.Alike U.vm) (h : vx_Zq C n d A u H) : vx_Zq C n d A U H := ⟨va_Zq.moved hvm h.1, vx_L.moved hvm h.2⟩
theorem vx_Zq.kept {C n d : String} {A : Nat → Prop} {U : State} {H H1 : Heap} (h : vx_Zq C n d A U H) (hq : ∀ a : Nat, a < H.size → ¬ A a → H1[a]? = H[a]?) : vx_Zq C n d A U H1 := ⟨va_Zq.kept h.1 hq, vx_L.kept h.2 hq⟩
theorem vx_Zq.narrow {C n d : String} {A B : Nat → Prop} {U : State} {H : Heap} (h : vx_Zq C n d A U H) (hAB : ∀ q, B q → A q) : vx_Zq C n d B U H := ⟨va_Zq.narrow h.1 hAB, vx_L.narrow h.2 hAB⟩
theorem vx_Zqof {args : Array Value} {s : State} {C n d : String} {A : Nat → Prop} (hl : (Cond.laysStatic C n d).before args s = true) (hini : (Cond.initialized C).before args s = true) (h : (Cond.isRef (.static C n d)).before args s = true) (hA : ∀ a : Nat, a < s.heap.size → ¬ A a) : vx_Zq C n d A s s.heap := by
  refine ⟨va_Zqof hl hini h hA, ?_⟩
  obtain ⟨c, k, i, f, a, cell, h1, h2, h3, h4, h5, h6, h7, h8, h9⟩ := Cond.laysStatic_spec hl
  exact ⟨c, k, i, f, a, cell, h1, h2, h3, h4, h5, h6, h7, h8, h9, hA a (Array.getElem?_eq_some_iff.mp h5).1⟩
theorem vx_isRef {C n d : String} {v : Value} {A : Nat → Prop} {s : State} {args : Array Value} (h : va_Z C n d v A s s.heap) (hv : v.isRef = true) : (Cond.isRef (.static C n d)).before args s = true := by
  obtain ⟨cf, kf, fi, f, a, cell, h1, h2, h3, h4, h5, h6, h7, -⟩ := h
  have he : (Term.static C n d).eval args s none [] s = some v := by
    simp [Term.eval, State.fieldNamed?, h1, h2, h4, h5, h6, h7]
  simp only [Cond.before, Cond.holds, Cond.value, he]
  cases v <;> simp_all [Value.isRef]
theorem vx_isRefq {C n d : String} {A : Nat → Prop} {s : State} {args : Array Value} (h : va_Zq C n d A s s.heap) : (Cond.isRef (.static C n d)).before args s = true := by
  rcases h with h | ⟨t, h⟩
  · exact vx_isRef h rfl
  · exact vx_isRef h rfl
/-- the same frame, seen from here: as if the method were called anew in this heap -/
theorem vx_rebase {T : State} (X : Stand p l e R s m args below meth c T locs cells slots) {R' : Room} (hf : R'.frames ≤ R.frames) (hl : R'.locals ≤ R.locals) (hc : cells + R'.cells ≤ R.cells) (hs : slots + R'.slots ≤ R.slots) :
    Stand p l e R' ((T.setVm s.vm).setFrames (.invoking m args :: below)) m args below meth c T [] 0 0 := by
  have htop : (T.setVm s.vm).topJava?.isSome := X.here.top
  have hF : ((T.setVm s.vm).setFrames (.invoking m args :: below)).frames = .invoking m args :: below := State.frames_setFrames _ (State.cur_lt_of_top htop)
  obtain ⟨g₀, hg0⟩ := Option.isSome_iff_exists.mp htop
  obtain ⟨r, hr⟩ := State.topJava?_eq_some.mp hg0
  have hl9 : e.platform.stackLimits (T.setVm s.vm).me = e.platform.stackLimits s.me := X.limits
  have hb9 : (T.setVm s.vm).me.stackBytes = s.me.stackBytes := X.bytes
  refine ⟨X.admits, X.cas, X.clock, hF, ?_, X.hears, X.method, X.code, X.here, X.tail, X.warmed, ?_, ?_, ?_⟩
  · have h := X.room
    have hU : ((T.setVm s.vm).setFrames (.invoking m args :: below)).localsInUse = s.localsInUse := by
      rw [State.localsInUse_invoking hF (meth := meth) (c := c) X.method X.code, State.localsInUse_invoking X.frames X.method X.code]
    simp only [State.hasRoom, Bool.and_eq_true, decide_eq_true_eq] at h ⊢
    obtain ⟨⟨⟨⟨h1, h2, h3, h4, h5, h6⟩, h7⟩, h8⟩, h9⟩ := h
    rw [X.frames, List.length_cons] at h2 h3
    have q1 := X.heapSize
    have q2 := X.used
    simp only [hF, hU, List.length_cons, State.stackLimits_setFrames, State.stackBytes_setFrames, hl9, hb9]
    refine ⟨⟨⟨⟨by omega, by omega, by omega, by omega, by omega, h6⟩, ?_⟩, ?_⟩, X.book⟩
    · show T.heap.size + R'.cells ≤ e.platform.maxCells
      omega
    · show T.slotsUsed + R'.slots ≤ e.platform.maxSlots
      omega
  · rw [State.stackLimits_setFrames]; rfl
  · rw [State.stackBytes_setFrames]; rfl
  · refine ⟨?_, Nat.le_refl _, Nat.le_refl _, ?_, ?_, fun a c9 h9 => ⟨c9, h9, rfl, rfl, fun _ _ => rfl⟩⟩
    · obtain ⟨t, ht, -⟩ := State.frames_cons hr
      show T.setVm s.vm = { ((T.setVm s.vm).setFrames (.invoking m args :: below)).setFrames (T.setVm s.vm).frames with heap := T.heap, slotsUsed := T.slotsUsed }
      rw [State.setFrames_setFrames, State.setFrames_self ht]
      rfl
    · show T.slotsUsed = T.slotsUsed + ((T.heap.toList.drop T.heap.size).map (·.slots.size)).sum
      rw [List.drop_eq_nil_of_le (Nat.le_of_eq Array.length_toList)]
      rfl
    · show ((T.heap.toList.drop T.heap.size).map (·.slots.size)).sum ≤ 0
      rw [List.drop_eq_nil_of_le (Nat.le_of_eq Array.length_toList)]
      exact Nat.le_refl _
/-- 'throw new E()': new; dup; invokespecial; athrow -/
theorem vx_throw0 {cc : ByteArray} {pc : Nat} (hexec : p.tables.exec = Jvm.exec) (hb : c.code = cc) (hl : l.stackTraces = false) {own cls : String} {names : List String} {ik ic mc ms : Nat} {A : Nat → Prop}
    (hown : s.vm.findClass own = some m.cls) (hcls : Bundle.fit cls = true) (hnames : ∀ n ∈ names, Bundle.fit n = true)
    (hk : (Cond.classLink own ik cls).before args s = true) (hini : (Cond.initialized cls).before args s = true) (hat : ∀ w ∈ vx_at0 own ic cls names, w.before args s = true)
    (hgood : ∀ w ∈ Cond.classLink own ik cls :: Cond.initialized cls :: vx_at0 own ic cls names, vx_ot w = true)
    (hU : vx_Zq Bundle.tN "UNASSIGNED_STACK" Bundle.steD A s s.heap) (hN : vx_Zq Bundle.tN "SUPPRESSED_SENTINEL" Bundle.listD A s s.heap) (hS : va_S A s.heap H locs) (hsize : ls.size = c.maxLocals)
    (d0 : decode cc pc = .ok (.new ik, 3)) (d3 : decode cc (pc + 3) = .ok (.dup, 1)) (d4 : decode cc (pc + 4) = .ok (.invokespecial ic, 3)) (d7 : decode cc (pc + 7) = .ok (.athrow, 1))
    (hout : ∀ x ∈ c.exceptionTable.toList, covers x (pc + 7) = false)
    (hRframes : names.length + 3 < R.frames) (hRlocals : (rest.map fun v => v.category).sum + (13 * (names.length + 1) + 42) ≤ R.locals) (hRcells : cells + 1 ≤ R.cells) (hRslots : slots + 6 ≤ R.slots) (hlocks : meth.locks = false)
    (hx : ∀ t : State, s.vm.Alike t.vm → H.size ≤ t.heap.size → (∀ q : Nat, q < H.size → t.heap[q]? = H[q]?) → XC cls s t)
    (hf : ∀ z ∈ locs, free z.base) (hc : cells + 1 ≤ mc) (hs : slots + 6 ≤ ms) :
    W p l e R s m args below meth c H locs cells slots (vx_MQ below Qc XC args s mc ms free) (F0 m pc ls rest) := by
  intro T hT X
  have htr : e.platform.stackTraces = false := (show e.platform.stackTraces = l.stackTraces by rw [X.admits.platform]).trans hl
  have Y := vx_rebase X (R' := { frames := R.frames, locals := R.locals, cells := 1, slots := 6 }) (Nat.le_refl _) (Nat.le_refl _) hRcells hRslots
  obtain ⟨s', hA⟩ : ∃ z, z = (T.setVm s.vm).setFrames (.invoking m args :: below) := ⟨_, rfl⟩
  rw [← hA] at Y
  have hvm : s'.vm = s.vm := by rw [hA]; rfl
  have hhp : s'.heap = H := by rw [hA]; exact hT
  have hW0 : s.WarmedH s'.vm := by rw [hvm]; exact State.WarmedH.refl s
  have hat' : ∀ w ∈ vx_at0 own ic cls names, w.before args s' = true := fun w hw => vx_ot_at hW0 hvm.symm (hgood w (List.mem_cons_of_mem _ (List.mem_cons_of_mem _ hw))) (hat w hw)
  have hk' : (Cond.classLink own ik cls).before args s' = true := vx_ot_at hW0 hvm.symm (hgood _ List.mem_cons_self) hk
  have hini' : (Cond.initialized cls).before args s' = true := vx_ot_at hW0 hvm.symm (hgood _ (List.mem_cons_of_mem _ List.mem_cons_self)) hini
  have hU' : vx_Zq Bundle.tN "UNASSIGNED_STACK" Bundle.steD A s' s'.heap := by rw [hhp]; exact vx_Zq.moved hW0.alike (hU.kept hS.2.1)
  have hN' : vx_Zq Bundle.tN "SUPPRESSED_SENTINEL" Bundle.listD A s' s'.heap := by rw [hhp]; exact vx_Zq.moved hW0.alike (hN.kept hS.2.1)
  have h : ∀ w ∈ Bundle.ownAtoms0 own ic cls names, w.before args s' = true := vx_own hat' (vx_isRefq hU'.1) (vx_isRefq hN'.1) hU'.2.word hN'.2.word
  have hown' : s'.vm.findClass own = some m.cls := by rw [hvm]; exact hown
  have hins : (Cond.instantiable cls 6).before args s' = true := h _ (by simp [Bundle.ownAtoms0])
  obtain ⟨vm₁, cX, kX, hfX, hkX, -, -, X₁, st1⟩ := Y.newCold hexec (own := own) (C := cls) (index := ik) (n := 6) hown' hk' hins hini'
    (g := F0 m pc ls rest) rfl (by rw [hb]; exact d0) (Nat.le_refl _) (Nat.le_refl _)
  generalize hT1 : (T.setVm vm₁).pushCell { cls := cX, slots := kX.instanceTypes.map defaultValue, vm := .none } = T1 at X₁ st1
  have hcat : (Value.ref T.heap.size).category = 1 := rfl
  have hcellA : T1.heap[T.heap.size]? = some (freshCell cX kX) := by rw [← hT1]; exact State.heap_pushCell_size _ _
  have d3' : decode c.code (pc + 3) = .ok (.dup, 1) := by rw [hb]; exact d3
  obtain ⟨U, hsteps, hrun, hend, hW, hsame, ce, hce, hO⟩ := X₁.ctorThrow0 hexec htr (own := own) (cls := cls) (names := names) (ic := ic) hown' hcls hnames h (fun x hx => nomatch hx) hfX hkX hcellA (by rw [hhp, hT]; exact Nat.le_refl _)
    (g := { method := m, pc := pc + 4, locals := ls, stack := .ref T.heap.size :: .ref T.heap.size :: rest, locked := none }) rfl hsize rfl rfl (rest := rest) rfl
    (by rw [hb]; exact d4) (by rw [hb]; exact d7) hout hRframes (by simp only [List.map_cons, List.sum_cons, hcat]; omega) hlocks
  obtain ⟨f1, f2⟩ := vx_frame hsame
  rw [hhp] at f1 f2
  have hWs : s.WarmedH U.vm := State.WarmedH.trans hW0 hW
  have hcl : s.vm.findClass cls = some ce.cls := by
    have h9 := hO.cls
    rw [hvm] at h9
    exact h9
  have hall : s.sameButNew ({ U with vm := s.vm } : State) locs mc ms := by
    subst hA
    obtain ⟨e1, e2⟩ := hsame
    rw [State.setFrames_setFrames] at e1
    have h2 : (T.setVm s.vm).sameButNew ({ U with vm := s.vm } : State) [] (0 + 1) (0 + 6) := ⟨e1, e2⟩
    have h3 := X.same.trans h2
    rw [List.append_nil] at h3
    exact h3.mono hc hs
  refine ⟨U, ?_, .threw T.heap.size, hrun, hend, Or.inr ⟨T.heap.size, rfl, cls, ce, locs, hx U hWs.alike f1 (fun q hq => f2 q hq (fun z hz => nomatch hz)), hce, hO.vm, hcl, hWs, hall, hf⟩⟩
  refine st1 _ ?_
  show Steps p.tables e below (T1.setTop { method := m, pc := pc + 3, locals := ls, stack := .ref T.heap.size :: rest, locked := none }) _
  jvm_step X₁.here [X₁.here.top, hexec, d3', Value.category]
  exact hsteps
/-- 'throw new E("text")': new; dup; ldc; invokespecial; athrow -/
theorem vx_throwS {cc : ByteArray} {pc : Nat} (hexec : p.tables.exec = Jvm.exec) (hb : c.code = cc) (hl : l.stackTraces = false) {own cls text : String} {names : List String} {ik is ic mc ms sa : Nat} {A : Nat → Prop}
    (hown : s.vm.findClass own = some m.cls) (hcls : Bundle.fit cls = true) (hnames : ∀ n ∈ names, Bundle.fit n = true)
    (hk : (Cond.classLink own ik cls).before args s = true) (hini : (Cond.initialized cls).before args s = true) (hstr : vk_R own is text sa s) (hat : ∀ w ∈ vx_atS own ic cls names, w.before args s = true)
    (hgood : ∀ w ∈ Cond.classLink own ik cls :: Cond.initialized cls :: vx_atS own ic cls names, vx_ot w = true)
    (hU : vx_Zq Bundle.tN "UNASSIGNED_STACK" Bundle.steD A s s.heap) (hN : vx_Zq Bundle.tN "SUPPRESSED_SENTINEL" Bundle.listD A s s.heap) (hS : va_S A s.heap H locs) (hsize : ls.size = c.maxLocals)
    (d0 : decode cc pc = .ok (.new ik, 3)) (d3 : decode cc (pc + 3) = .ok (.dup, 1)) (d4 : decode cc (pc + 4) = .ok (.ldc is, 2)) (d6 : decode cc (pc + 6) = .ok (.invokespecial ic, 3)) (d9 : decode cc (pc + 9) = .ok (.athrow, 1))
    (hout : ∀ x ∈ c.exceptionTable.toList, covers x (pc + 9) = false)
    (hRframes : names.length + 3 < R.frames) (hRlocals : (rest.map fun v => v.category).sum + (13 * (names.length + 1) + 43) ≤ R.locals) (hRcells : cells + 1 ≤ R.cells) (hRslots : slots + 6 ≤ R.slots) (hlocks : meth.locks = false)
    (hx : ∀ t : State, s.vm.Alike t.vm → H.size ≤ t.heap.size → (∀ q : Nat, q < H.size → t.heap[q]? = H[q]?) → XC cls s t)
    (hf : ∀ z ∈ locs, free z.base) (hc : cells + 1 ≤ mc) (hs : slots + 6 ≤ ms) :
    W p l e R s m args below meth c H locs cells slots (vx_MQ below Qc XC args s mc ms free) (F0 m pc ls rest) := by
  intro T hT X
  have htr : e.platform.stackTraces = false := (show e.platform.stackTraces = l.stackTraces by rw [X.admits.platform]).trans hl
  have Y := vx_rebase X (R' := { frames := R.frames, locals := R.locals, cells := 1, slots := 6 }) (Nat.le_refl _) (Nat.le_refl _) hRcells hRslots
  obtain ⟨s', hA⟩ : ∃ z, z = (T.setVm s.vm).setFrames (.invoking m args :: below) := ⟨_, rfl⟩
  rw [← hA] at Y
  have hvm : s'.vm = s.vm := by rw [hA]; rfl
  have hhp : s'.heap = H := by rw [hA]; exact hT
  have hW0 : s.WarmedH s'.vm := by rw [hvm]; exact State.WarmedH.refl s
  have hat' : ∀ w ∈ vx_atS own ic cls names, w.before args s' = true := fun w hw => vx_ot_at hW0 hvm.symm (hgood w (List.mem_cons_of_mem _ (List.mem_cons_of_mem _ hw))) (hat w hw)
  have hk' : (Cond.classLink own ik cls).before args s' = true := vx_ot_at hW0 hvm.symm (hgood _ List.mem_cons_self) hk
  have hini' : (Cond.initialized cls).before args s' = true := vx_ot_at hW0 hvm.symm (hgood _ (List.mem_cons_of_mem _ List.mem_cons_self)) hini
  have hU' : vx_Zq Bundle.tN "UNASSIGNED_STACK" Bundle.steD A s' s'.heap := by rw [hhp]; exact vx_Zq.moved hW0.alike (hU.kept hS.2.1)
  have hN' : vx_Zq Bundle.tN "SUPPRESSED_SENTINEL" Bundle.listD A s' s'.heap := by rw [hhp]; exact vx_Zq.moved hW0.alike (hN.kept hS.2.1)
  have h : ∀ w ∈ Bundle.ownAtoms own ic cls names, w.before args s' = true := vx_own hat' (vx_isRefq hU'.1) (vx_isRefq hN'.1) hU'.2.word hN'.2.word
  have hown' : s'.vm.findClass own = some m.cls := by rw [hvm]; exact hown
  have hins : (Cond.instantiable cls 6).before args s' = true := h _ (by simp [Bundle.ownAtoms])
  obtain ⟨vm₁, cX, kX, hfX, hkX, -, -, X₁, st1⟩ := Y.newCold hexec (own := own) (C := cls) (index := ik) (n := 6) hown' hk' hins hini'
    (g := F0 m pc ls rest) rfl (by rw [hb]; exact d0) (Nat.le_refl _) (Nat.le_refl _)
  generalize hT1 : (T.setVm vm₁).pushCell { cls := cX, slots := kX.instanceTypes.map defaultValue, vm := .none } = T1 at X₁ st1
  have hcat : (Value.ref T.heap.size).category = 1 := rfl
  have hcellA : T1.heap[T.heap.size]? = some (freshCell cX kX) := by rw [← hT1]; exact State.heap_pushCell_size _ _
  have d3' : decode c.code (pc + 3) = .ok (.dup, 1) := by rw [hb]; exact d3
  have d4' : decode c.code (pc + 4) = .ok (.ldc is, 2) := by rw [hb]; exact d4
  have hstr' : vk_R own is text sa s' := vk_R.warm hW0 hstr
  obtain ⟨U, hsteps, hrun, hend, hW, hsame, ce, hce, hO⟩ := X₁.ctorThrowS hexec htr (own := own) (cls := cls) (names := names) (ic := ic) hown' hcls hnames h (fun x hx => nomatch hx) hfX hkX hcellA (by rw [hhp, hT]; exact Nat.le_refl _) (msg := .ref sa) rfl
    (g := { method := m, pc := pc + 6, locals := ls, stack := .ref sa :: .ref T.heap.size :: .ref T.heap.size :: rest, locked := none }) rfl hsize rfl rfl (rest := rest) rfl
    (by rw [hb]; exact d6) (by rw [hb]; exact d9) hout hRframes (by simp only [List.map_cons, List.sum_cons, hcat]; omega) hlocks
  obtain ⟨f1, f2⟩ := vx_frame hsame
  rw [hhp] at f1 f2
  have hWs : s.WarmedH U.vm := State.WarmedH.trans hW0 hW
  have hcl : s.vm.findClass cls = some ce.cls := by
    have h9 := hO.cls
    rw [hvm] at h9
    exact h9
  have hall : s.sameButNew ({ U with vm := s.vm } : State) locs mc ms := by
    subst hA
    obtain ⟨e1, e2⟩ := hsame
    rw [State.setFrames_setFrames] at e1
    have h2 : (T.setVm s.vm).sameButNew ({ U with vm := s.vm } : State) [] (0 + 1) (0 + 6) := ⟨e1, e2⟩
    have h3 := X.same.trans h2
    rw [List.append_nil] at h3
    exact h3.mono hc hs
  refine ⟨U, ?_, .threw T.heap.size, hrun, hend, Or.inr ⟨T.heap.size, rfl, cls, ce, locs, hx U hWs.alike f1 (fun q hq => f2 q hq (fun z hz => nomatch hz)), hce, hO.vm, hcl, hWs, hall, hf⟩⟩
  refine st1 _ ?_
  show Steps p.tables e below (T1.setTop { method := m, pc := pc + 3, locals := ls, stack := .ref T.heap.size :: rest, locked := none }) _
  jvm_step X₁.here [X₁.here.top, hexec, d3', Value.category]
  exact X₁.ldcString hexec (own := own) (text := text) (index := is) (a := sa) hown' hstr'.1 hstr'.2
    (g := { method := m, pc := pc + 4, locals := ls, stack := .ref T.heap.size :: .ref T.heap.size :: rest, locked := none }) rfl d4' _ hsteps
/-- 'throw new E("text")', the text by a wide index -/
theorem vx_throwSW {cc : ByteArray} {pc : Nat} (hexec : p.tables.exec = Jvm.exec) (hb : c.code = cc) (hl : l.stackTraces = false) {own cls text : String} {names : List String} {ik is ic mc ms sa : Nat} {A : Nat → Prop}
    (hown : s.vm.findClass own = some m.cls) (hcls : Bundle.fit cls = true) (hnames : ∀ n ∈ names, Bundle.fit n = true)
    (hk : (Cond.classLink own ik cls).before args s = true) (hini : (Cond.initialized cls).before args s = true) (hstr : vk_R own is text sa s) (hat : ∀ w ∈ vx_atS own ic cls names, w.before args s = true)
    (hgood : ∀ w ∈ Cond.classLink own ik cls :: Cond.initialized cls :: vx_atS own ic cls names, vx_ot w = true)
    (hU : vx_Zq Bundle.tN "UNASSIGNED_STACK" Bundle.steD A s s.heap) (hN : vx_Zq Bundle.tN "SUPPRESSED_SENTINEL" Bundle.listD A s s.heap) (hS : va_S A s.heap H locs) (hsize : ls.size = c.maxLocals)
    (d0 : decode cc pc = .ok (.new ik, 3)) (d3 : decode cc (pc + 3) = .ok (.dup, 1)) (d4 : decode cc (pc + 4) = .ok (.ldc_w is, 3)) (d7 : decode cc (pc + 7) = .ok (.invokespecial ic, 3)) (d10 : decode cc (pc + 10) = .ok (.athrow, 1))
    (hout : ∀ x ∈ c.exceptionTable.toList, covers x (pc + 10) = false)
    (hRframes : names.length + 3 < R.frames) (hRlocals : (rest.map fun v => v.category).sum + (13 * (names.length + 1) + 43) ≤ R.locals) (hRcells : cells + 1 ≤ R.cells) (hRslots : slots + 6 ≤ R.slots) (hlocks : meth.locks = false)
    (hx : ∀ t : State, s.vm.Alike t.vm → H.size ≤ t.heap.size → (∀ q : Nat, q < H.size → t.heap[q]? = H[q]?) → XC cls s t)
    (hf : ∀ z ∈ locs, free z.base) (hc : cells + 1 ≤ mc) (hs : slots + 6 ≤ ms) :
    W p l e R s m args below meth c H locs cells slots (vx_MQ below Qc XC args s mc ms free) (F0 m pc ls rest) := by
  intro T hT X
  have htr : e.platform.stackTraces = false := (show e.platform.stackTraces = l.stackTraces by rw [X.admits.platform]).trans hl
  have Y := vx_rebase X (R' := { frames := R.frames, locals := R.locals, cells := 1, slots := 6 }) (Nat.le_refl _) (Nat.le_refl _) hRcells hRslots
  obtain ⟨s', hA⟩ : ∃ z, z = (T.setVm s.vm).setFrames (.invoking m args :: below) := ⟨_, rfl⟩
  rw [← hA] at Y
  have hvm : s'.vm = s.vm := by rw [hA]; rfl
  have hhp : s'.heap = H := by rw [hA]; exact hT
  have hW0 : s.WarmedH s'.vm := by rw [hvm]; exact State.WarmedH.refl s
  have hat' : ∀ w ∈ vx_atS own ic cls names, w.before args s' = true := fun w hw => vx_ot_at hW0 hvm.symm (hgood w (List.mem_cons_of_mem _ (List.mem_cons_of_mem _ hw))) (hat w hw)
  have hk' : (Cond.classLink own ik cls).before args s' = true := vx_ot_at hW0 hvm.symm (hgood _ List.mem_cons_self) hk
  have hini' : (Cond.initialized cls).before args s' = true := vx_ot_at hW0 hvm.symm (hgood _ (List.mem_cons_of_mem _ List.mem_cons_self)) hini
  have hU' : vx_Zq Bundle.tN "UNASSIGNED_STACK" Bundle.steD A s' s'.heap := by rw [hhp]; exact vx_Zq.moved hW0.alike (hU.kept hS.2.1)
  have hN' : vx_Zq Bundle.tN "SUPPRESSED_SENTINEL" Bundle.listD A s' s'.heap := by rw [hhp]; exact vx_Zq.moved hW0.alike (hN.kept hS.2.1)
  have h : ∀ w ∈ Bundle.ownAtoms own ic cls names, w.before args s' = true := vx_own hat' (vx_isRefq hU'.1) (vx_isRefq hN'.1) hU'.2.word hN'.2.word
  have hown' : s'.vm.findClass own = some m.cls := by rw [hvm]; exact hown
  have hins : (Cond.instantiable cls 6).before args s' = true := h _ (by simp [Bundle.ownAtoms])
  obtain ⟨vm₁, cX, kX, hfX, hkX, -, -, X₁, st1⟩ := Y.newCold hexec (own := own) (C := cls) (index := ik) (n := 6) hown' hk' hins hini'
    (g := F0 m pc ls rest) rfl (by rw [hb]; exact d0) (Nat.le_refl _) (Nat.le_refl _)
  generalize hT1 : (T.setVm vm₁).pushCell { cls := cX, slots := kX.instanceTypes.map defaultValue, vm := .none } = T1 at X₁ st1
  have hcat : (Value.ref T.heap.size).category = 1 := rfl
  have hcellA : T1.heap[T.heap.size]? = some (freshCell cX kX) := by rw [← hT1]; exact State.heap_pushCell_size _ _
  have d3' : decode c.code (pc + 3) = .ok (.dup, 1) := by rw [hb]; exact d3
  have d4' : decode c.code (pc + 4) = .ok (.ldc_w is, 3) := by rw [hb]; exact d4
  have hstr' : vk_R own is text sa s' := vk_R.warm hW0 hstr
  obtain ⟨U, hsteps, hrun, hend, hW, hsame, ce, hce, hO⟩ := X₁.ctorThrowS hexec htr (own := own) (cls := cls) (names := names) (ic := ic) hown' hcls hnames h (fun x hx => nomatch hx) hfX hkX hcellA (by rw [hhp, hT]; exact Nat.le_refl _) (msg := .ref sa) rfl
    (g := { method := m, pc := pc + 7, locals := ls, stack := .ref sa :: .ref T.heap.size :: .ref T.heap.size :: rest, locked := none }) rfl hsize rfl rfl (rest := rest) rfl
    (by rw [hb]; exact d7) (by rw [hb]; exact d10) hout hRframes (by simp only [List.map_cons, List.sum_cons, hcat]; omega) hlocks
  obtain ⟨f1, f2⟩ := vx_frame hsame
  rw [hhp] at f1 f2
  have hWs : s.WarmedH U.vm := State.WarmedH.trans hW0 hW
  have hcl : s.vm.findClass cls = some ce.cls := by
    have h9 := hO.cls
    rw [hvm] at h9
    exact h9
  have hall : s.sameButNew ({ U with vm := s.vm } : State) locs mc ms := by
    subst hA
    obtain ⟨e1, e2⟩ := hsame
    rw [State.setFrames_setFrames] at e1
    have h2 : (T.setVm s.vm).sameButNew ({ U with vm := s.vm } : State) [] (0 + 1) (0 + 6) := ⟨e1, e2⟩
    have h3 := X.same.trans h2
    rw [List.append_nil] at h3
    exact h3.mono hc hs
  refine ⟨U, ?_, .threw T.heap.size, hrun, hend, Or.inr ⟨T.heap.size, rfl, cls, ce, locs, hx U hWs.alike f1 (fun q hq => f2 q hq (fun z hz => nomatch hz)), hce, hO.vm, hcl, hWs, hall, hf⟩⟩
  refine st1 _ ?_
  show Steps p.tables e below (T1.setTop { method := m, pc := pc + 3, locals := ls, stack := .ref T.heap.size :: rest, locked := none }) _
  jvm_step X₁.here [X₁.here.top, hexec, d3', Value.category]
  exact X₁.ldcStringW hexec (own := own) (text := text) (index := is) (a := sa) hown' hstr'.1 hstr'.2
    (g := { method := m, pc := pc + 4, locals := ls, stack := .ref T.heap.size :: .ref T.heap.size :: rest, locked := none }) rfl d4' _ hsteps
end Ends
section Bodies
variable {l : Launch}
theorem vx_ofW {y : MethodName} {ws ws' : List Cond} {rm : Room} {Pc : Array Value → State → Prop} {Qc : Array Value → State → Outcome → State → Prop} {XC : String → State → State → Prop} {mc ms : Nat} {free : Addr → Prop} {cc : ByteArray} {maxL : Nat} {ret : Option FieldType}
    (hy : plainName y.cls = true) (hw : ws = Cond.code y cc maxL ret :: ws')
    (body : ∀ p e s m args below meth c s₁, BodyLoose p l y (headSpec ws rm) cc maxL ret e s m args below meth c s₁ → c.maxLocals = maxL → (∀ x ∈ c.exceptionTable.toList, False) → Pc args s →
      W p l e (headSpec ws rm).room s m args below meth c s.heap [] 0 0 (vx_MQ below Qc XC args s mc ms free) (entryFrame m args maxL)) : vx_Met l y ws rm Pc Qc XC mc ms free := by
  refine MetFree.of_bodyS (code := cc) (maxLocals := maxL) (ret := ret) hy ?_ ?_
  · intro args s m h hn
    obtain ⟨meth, c, h1, h2, h3, h4, h5, h6, -, -⟩ := Cond.code_spec hn (atoms_spec (ws := ws) h _ (by rw [hw]; exact List.mem_cons_self))
    exact ⟨meth, c, h1, h2, h3, h4, h5, h6⟩
  · intro p e s m args below meth c s₁ B hml hP _
    have hh0 : s₁.heap = s.heap := by rw [B.state]; rfl
    have ht : ∀ x ∈ c.exceptionTable.toList, False := by
      obtain ⟨meth9, c9, h1, h2, -, -, -, -, h7, -⟩ := Cond.code_spec B.named (atoms_spec (ws := ws) B.pre _ (by rw [hw]; exact List.mem_cons_self))
      cases Option.some.inj (h1.symm.trans B.method)
      cases Option.some.inj (h2.symm.trans (Stand.of_body B).code)
      intro x hx
      rw [Array.isEmpty_iff.mp h7] at hx
      cases hx
    obtain ⟨t, a1, o, b1, b2, b3⟩ := body p e s m args below meth c s₁ B hml ht hP s₁ hh0 (Stand.of_body B)
    exact ⟨t, o, a1, b1, b2, b3⟩
/-- the table of a body with handlers -/
theorem vx_table {p : Program} {x y : MethodName} {S : Spec} {cc bytes : ByteArray} {maxL maxL' : Nat} {ret ret' : Option FieldType} {e : Env} {s s₁ : State} {m : MethodId} {args : Array Value} {below : List Frame} {meth : Method} {c : Code} {hh : List (Nat × Nat × Nat × Nat)}
    (B : BodyLoose p l y S cc maxL ret e s m args below meth c s₁) (h : (Cond.codeWith y bytes maxL' ret' hh).before args s = true) : c.exceptionTable.toList = tableOf hh := by
  obtain ⟨m9, meth9, c9, hn9, h1, h2, -, -, h6, -⟩ := Cond.codeWith_spec h
  cases Option.some.inj (hn9.symm.trans B.named)
  cases Option.some.inj (h1.symm.trans B.method)
  cases Option.some.inj (h2.symm.trans (Stand.of_body B).code)
  rw [← h6, table_eq]
end Bodies
end VXA
/-! ===== END ===== -/
/-! ===== BEGIN a static call of a method with an exception table ===== -/
section VXS
variable {p : Program} {l : Launch} {e : Env} {R : Room} {s : State} {m : MethodId} {args : Array Value} {below : List Frame} {meth : Method} {c : Code} {T : State} {H : Heap} {locs : List Loc} {cells slots : Nat}
abbrev vx_CSW (R : Room) (s : State) (args : Array Value) (own : String) (index : Nat) (y : MethodName) (bytes : ByteArray) (maxL : Nat) (ret : Option FieldType) (hh : List (Nat × Nat × Nat × Nat)) (ws : List Cond) (rm : Room) (mc ms n : Nat) : Prop :=
  (rm.cells = mc ∧ rm.slots = ms ∧ rm.frames + 1 ≤ R.frames ∧ 8 + (maxL + 11) + rm.locals ≤ R.locals ∧ (∀ w ∈ ws, ∀ (a' : Array Value) (U : State), s.WarmedH U.vm → w.before a' U = true) ∧ Cond.codeWith y bytes maxL ret hh ∈ ws) ∧
  (Cond.codeWith y bytes maxL ret hh).before args s = true ∧ (Cond.initialized y.cls).before args s = true ∧ (y.cls ≠ "java/lang/invoke/MethodHandle" ∧ y.cls ≠ "java/lang/invoke/VarHandle") ∧
  (∀ sig, parseMethodDescriptor y.desc = some sig → n = sig.parameters.length) ∧ (Cond.methodLink own index y).before args s = true ∧ (Cond.static y).before args s = true
theorem vx_cwSW {own : String} {index maxL mc ms : Nat} {y : MethodName} {bytes : ByteArray} {ret : Option FieldType} {hh : List (Nat × Nat × Nat × Nat)} {Ts ws ws' : List Cond} {rm : Room} (n : Nat) (ht : ∀ w ∈ Ts, w.before args s = true) (hT : GoodIn Ts (va_wsS own index y ws)) (hw : ws = Cond.codeWith y bytes maxL ret hh :: ws') (hrc : rm.cells = mc) (hrs : rm.slots = ms)
    (hd : y.cls ≠ "java/lang/invoke/MethodHandle" ∧ y.cls ≠ "java/lang/invoke/VarHandle" ∧ (parseMethodDescriptor y.desc).map (fun d => d.parameters.length) = some n) (hR : rm.frames + 1 ≤ R.frames ∧ 8 + (maxL + 11) + rm.locals ≤ R.locals) :
    vx_CSW R s args own index y bytes maxL ret hh ws rm mc ms n := by
  have ok : ∀ w ∈ va_wsS own index y ws, w.before args s = true := fun w h => ht w (hT w h).1
  have hG : GoodIn Ts ws := fun w h => hT w (by unfold va_wsS; exact List.mem_append_right _ h)
  have hc : Cond.codeWith y bytes maxL ret hh ∈ ws := by rw [hw]; exact List.mem_cons_self
  refine ⟨⟨hrc, hrs, hR.1, hR.2, pay_in ht hG, hc⟩, ht _ (hG _ hc).1, ok _ (by simp [va_wsS]), ⟨hd.1, hd.2.1⟩, fun sig h => ?_, ok _ (by simp [va_wsS]), ok _ (by simp [va_wsS])⟩
  have h2 := hd.2.2
  rw [h] at h2
  exact (Option.some.inj h2).symm
theorem vx_callSW (X : Stand p l e R s m args below meth c T locs cells slots) (hexec : p.tables.exec = Jvm.exec) {own : String} {index : Nat} {y : MethodName} {bytes : ByteArray} {maxL : Nat} {ret : Option FieldType} {hh : List (Nat × Nat × Nat × Nat)}
    (hown : s.vm.findClass own = some m.cls) (hlink : (Cond.methodLink own index y).before args s = true) (hstat : (Cond.static y).before args s = true) (hinit : (Cond.initialized y.cls).before args s = true)
    (hcode : (Cond.codeWith y bytes maxL ret hh).before args s = true) (hy : y.cls ≠ "java/lang/invoke/MethodHandle" ∧ y.cls ≠ "java/lang/invoke/VarHandle")
    {W9 : Nat} {Pre : Pt → Array Value → Prop} {Post : Pt → Array Value → Option Value → Pt → Prop} (hK : Back l R p e below s args y 3 W9 Pre Post)
    {g : JFrame} (hg : g.method = m) (hsize : g.locals.size = c.maxLocals) {argsL rest : List Value} (hlen : ∀ sig, parseMethodDescriptor y.desc = some sig → argsL.length = sig.parameters.length)
    (hstack : g.stack = argsL.reverse ++ rest) (hW : 2 * g.monitorRoom + (rest.map fun v => v.category).sum ≤ W9) (hdg : decode c.code g.pc = .ok (.invokestatic index, 3))
    (hpre : ∀ vm₁, s.WarmedH vm₁ → Pre ⟨T.setVm vm₁, locs, cells, slots⟩ argsL.toArray) :
    ∃ (v : Option Value) (vm₁ : Vm) (B : Pt), s.WarmedH vm₁ ∧ Stand p l e R s m args below meth c B.U B.locs B.cells B.slots ∧ Post ⟨T.setVm vm₁, locs, cells, slots⟩ argsL.toArray v B ∧
      ∀ target, Steps p.tables e below (B.U.setTop { g with pc := g.pc + 3, stack := v.toList ++ rest }) target → Steps p.tables e below (T.setTop g) target := by
  obtain ⟨mk, methM, cM, hnamed, hmethM, -, -, -, -, -, -, hsigM⟩ := Cond.codeWith_spec hcode
  have hstatic : methM.isStatic = true := Cond.static_spec hnamed hmethM hstat
  obtain ⟨kP, hkP, -⟩ := className_of_methodNamed hnamed
  have hinitP : kP.init = .initialized := Cond.initialized_spec (findClass_of_methodNamed hnamed) hkP hinit
  obtain ⟨vm₁, X₁, hstep₁⟩ := X.invokestatic hexec hown hlink hnamed hmethM hstatic hkP hinitP hy (g := g) hg (argsL := argsL) (rest := rest) (hlen _ hsigM) hstack hdg
  obtain ⟨v, B, X', hpost, hsteps⟩ := hK m meth c ⟨T.setVm vm₁, locs, cells, slots⟩ { g with stack := rest } (.invokestatic index) mk argsL.toArray X₁ hg hsize hdg hW (X₁.named hnamed) (hpre vm₁ X₁.warmed)
  exact ⟨v, vm₁, B, X₁.warmed, X', hpost, fun target h => hstep₁ _ fun acts => by rw [doInvoke_state]; exact hsteps.trans h⟩
theorem vx_runSW {y : MethodName} {bytes cc : ByteArray} {maxL nL mc ms n index : Nat} {ret : Option FieldType} {hh : List (Nat × Nat × Nat × Nat)} {ws : List Cond} {rm : Room} {Pc : Array Value → State → Prop} {Qc : Array Value → State → Outcome → State → Prop} {free : Addr → Prop} {Ts : List Cond} {own : String} {As rest : List Value} {g : JFrame}
    (S : CallFix p m c cc nL s args Ts own) (hM : Met l y ws rm Pc Qc mc ms free) (cw : vx_CSW R s args own index y bytes maxL ret hh ws rm mc ms n) (hp : PreS s H Pc As)
    (hg : g.method = m) (hn : As.length = n) (hsize : g.locals.size = nL) (hstack : g.stack = As.reverse ++ rest) (hW : 2 * g.monitorRoom + (rest.map fun v => v.category).sum ≤ 8) (hdg : decode cc g.pc = .ok (.invokestatic index, 3)) (hf : cells + mc ≤ R.cells ∧ slots + ms ≤ R.slots) :
    va_Run p l e R s m args below meth c H locs cells slots mc ms g rest (Qc As.toArray) (free) := by
  obtain ⟨⟨hrc, hrs, hfr, hlo, hws, hcw⟩, hcode, hini, hy, hlen, hl, hstt⟩ := cw
  have hK : Back l R p e below s args y 3 8 (PreOf R mc ms Pc) (PostOf Qc mc ms free) := va_backW (hh := hh) (bytes := bytes) (maxL := maxL) (ret := ret) hM hp.1 hrc hrs hfr hlo hws hcw (fun a' U hW => word_at hW (Or.inl (by first | rfl | simp [Cond.onTables, Cond.keeps, Cond.steady])) hini)
  obtain ⟨hx, hb, hml, ho, -⟩ := S
  intro T hT X
  obtain ⟨v, vm₁, ⟨U', l2, c2, s2⟩, hW₁, X', ⟨g', mk, t, L, e1, e2, hq, h1, hL, h2, h3⟩, st⟩ := vx_callSW X hx (hh := hh) (bytes := bytes) (maxL := maxL) (ret := ret) ho hl hstt hini hcode hy hK hg (hsize.trans hml.symm) (argsL := As) (rest := rest) (fun sig h => hn.trans (hlen sig h)) hstack hW (by rw [hb]; exact hdg)
    (fun vm₁ hW₁ => ⟨hf.1, hf.2, hp.2 (T.setVm vm₁) hT hW₁⟩)
  dsimp only [Pt.U, Pt.locs, Pt.cells, Pt.slots] at X' e1 e2 h1 h2 h3 st
  subst h1; subst h2; subst h3
  exact ⟨v, (T.setVm vm₁).calling g' mk As.toArray, t, U', L, hT, X', hL, e1, e2, hq, st⟩
/-- not caught here, past rows that name other classes: it goes on to the caller -/
theorem vx_outP {p : Program} {l : Launch} {e : Env} {R : Room} {s : State} {m : MethodId} {args : Array Value} {below : List Frame} {meth : Method} {c : Code} {H : Heap} {locs : List Loc} {cells slots : Nat} {free : Addr → Prop} {ls : Array Slot} {rest : List Value} {Qc : Array Value → State → Outcome → State → Prop} {XC : String → State → State → Prop}
    {pc : Nat} {own E : String} {ce : Cell} {q : Addr} {mc ms : Nat} (hown : s.vm.findClass own = some m.cls) (hlocks : meth.locks = false)
    (hpass : ∀ z ∈ c.exceptionTable.toList, covers z pc = false ∨ (z.catchType ≠ 0 ∧ ∃ nm : String, (Cond.classLink own z.catchType nm).before args s = true ∧ va_Nc E nm s)) (hcell : H[q]? = some ce) (hv : ce.vm = .none) (hcl : s.vm.findClass E = some ce.cls)
    (hx : ∀ t : State, t.heap = H → s.vm.Alike t.vm → XC E s t) (hf : ∀ z ∈ locs, free z.base) (hc : cells ≤ mc) (hs : slots ≤ ms) :
    vx_W p l e R s m args below meth c H locs cells slots (vx_MQ below Qc XC args s mc ms free) (F0 m pc ls rest) q := by
  intro T hT X
  have hpl : e.platform.magicAccessors = ({} : Platform).magicAccessors := by rw [X.admits.platform]
  obtain ⟨vm', hW', X', st⟩ := X.outThrough hlocks q (g := F0 m pc ls rest) rfl rfl rfl (cell := ce) (by rw [hT]; exact hcell) (by rw [hv]; rfl)
    (by obtain ⟨k9, h9, -⟩ := Vm.findClass_spec hcl; exact ⟨k9, h9⟩) (fun z hz => by
      rcases hpass z hz with h | ⟨hz0, nm, hl1, hn1⟩
      · exact Or.inl h
      · obtain ⟨c6, hc6, hcl6⟩ := Cond.classLink_spec hown hl1 e.platform hpl
        obtain ⟨a8, b8, h1, h2, h3⟩ := hn1
        cases Option.some.inj (h1.symm.trans hcl)
        cases Option.some.inj (h2.symm.trans hc6)
        exact Or.inr ⟨hz0, _, hcl6, h3⟩)
  obtain ⟨g₀, hfr⟩ := X'.frames_eq
  have hcell9 : ((T.setVm vm').setFrames (.throwing q :: below)).heap[q]? = some ce := by
    show T.heap[q]? = some ce
    rw [hT]; exact hcell
  have hend : Ended ((T.setVm vm').setFrames (.throwing q :: below)) below (.threw q) := State.frames_setFrames _ (State.cur_lt_of_frames hfr)
  refine ⟨(T.setVm vm').setFrames (.throwing q :: below), ?_, .threw q, X'.here.running, hend, Or.inr ⟨q, rfl, E, ce, locs, hx _ hT (X'.ends _).1.alike, hcell9, hv, hcl, (X'.ends _).1, (X'.ends _).2.mono hc hs, hf⟩⟩
  rw [X.pushThrowing_eq]
  exact st
/-- a thing of a world lies in the heap -/
theorem vx_lt {D : va_G} {cl : List vw_C} {ws : va_W} {H1 : Heap} (h : va_P D cl ws H1) {k : Nat} {q : Nat × va_E} (hk : ws[k]? = some q) : q.1 < H1.size := (h k q hk).lt
end VXS
/-! ===== END ===== -/
/-! ===== BEGIN methods with a table of their own: called by a name, returning or throwing ===== -/
section VXH
/-! vx_backW, vx_callVX, vx_callSX, vx_callVW, vx_runVW, vx_runVX, vx_runSX, vx_ofWH follow the same proofs as their sisters above (Free/Laws.lean, Shelf42/LK1.lean); vx_outP calls Shelf42/NT130.lean (outThrough). -/
section
variable {l : Launch} {R : Room} {p : Program} {e : Env} {below : List Frame} {s : State} {sargs : Array Value} {y : MethodName} {len W9 : Nat}
theorem vx_backW {ws : List Cond} {rm : Room} {Pc : Array Value → State → Prop} {Qc : Array Value → State → Outcome → State → Prop} {XC : String → State → State → Prop} {mc ms : Nat} {free : Addr → Prop} {bytes : ByteArray} {maxL : Nat} {ret : Option FieldType} {hh : List (Nat × Nat × Nat × Nat)}
    (hM : vx_Met l y ws rm Pc Qc XC mc ms free) (hblind : FrameBlind Pc) (hrc : rm.cells = mc) (hrs : rm.slots = ms)
    (hframes : rm.frames + 1 ≤ R.frames) (hlocals : W9 + (maxL + 11) + rm.locals ≤ R.locals)
    (hws : ∀ w ∈ ws, ∀ a' U, s.WarmedH U.vm → w.before a' U = true) (hcode : Cond.codeWith y bytes maxL ret hh ∈ ws) (hinit : ∀ a' U, s.WarmedH U.vm → (Cond.initialized y.cls).before a' U = true) :
    vx_Back l R p e below s sargs y len W9 (PreOf R mc ms Pc) (PostOf Qc mc ms free) (vx_Post XC mc ms free) := by
  intro m meth c A g ig mk a X hg hsize hdg hW hn hp
  have h1 : (headSpec ws rm).pre.before a A.U = true := atoms_intro fun w hw => hws w hw _ _ X.warmed
  have h2 : (Cond.codeWith y bytes maxL ret hh).before a A.U = true := hws _ hcode _ _ X.warmed
  have h3 : (Cond.initialized y.cls).before a A.U = true := hinit _ _ X.warmed
  have h4 : A.cells + (headSpec ws rm).room.cells ≤ R.cells := by rw [show (headSpec ws rm).room.cells = mc from hrc]; exact hp.1
  have h5 : A.slots + (headSpec ws rm).room.slots ≤ R.slots := by rw [show (headSpec ws rm).room.slots = ms from hrs]; exact hp.2.1
  have hPc : Pc a (A.U.calling g mk a) := hblind _ _ _ _ hp.2.2
  obtain ⟨U, Ls, c0, s0⟩ := A
  dsimp only [Pt.U, Pt.locs, Pt.cells, Pt.slots] at h1 h2 h3 h4 h5 X hn hPc ⊢
  obtain ⟨m9, methY, cY, hn9, hmY, hcY, -, hlY, -⟩ := Cond.codeWith_spec h2
  cases Option.some.inj (hn9.symm.trans hn)
  obtain ⟨kY, hkY, -⟩ := className_of_methodNamed hn
  have hinitY : kY.init = .initialized := Cond.initialized_spec (findClass_of_methodNamed hn) hkY h3
  have h : At U g.method c below := by rw [hg]; exact X.here
  have hlocals9 : W9 + (maxL + 11) + (headSpec ws rm).room.locals ≤ R.locals := hlocals
  have happ : (headSpec ws rm).appliesLoose y e.platform (U.calling g mk a) = true :=
    Spec.appliesLoose_calling (g := g) h hdg hn hkY hinitY
      (X.room_calling (g := g) (R' := (headSpec ws rm).room) hsize hmY hcY hframes (by rw [hlY]; omega) h4 h5) h1
  obtain ⟨mid, hmid⟩ := h.above
  have hfr : (U.setTop g).frames = (.java g :: mid) ++ below := by rw [State.frames_setTop' g h.top, hmid]; rfl
  obtain ⟨o, s₂, hsteps, -, hend, hq⟩ := Steps.callFree hM p X.admits X.cas X.clock (acts := []) hfr happ hPc trivial
  have hq' : vx_Q Qc XC mc ms free a (U.calling g mk a) o s₂ := hq
  rw [State.frames_setTop' g h.top] at hend
  obtain ⟨g₀, hg0⟩ := Option.isSome_iff_exists.mp h.top
  obtain ⟨r, hr⟩ := State.topJava?_eq_some.mp hg0
  have hr' : (({ U with heap := s₂.heap, slotsUsed := s₂.slotsUsed } : State).setVm s₂.vm).frames = .java g₀ :: r := hr
  rcases hq' with ⟨hqc, L, hfe, hL⟩ | ⟨q, rfl, E, ce, L, hx, hce, hcv, hcl, hW₂, hsm, hL⟩
  · obtain ⟨⟨v, rfl⟩, hW₂, e2, q2, q3, q4, q5, q6⟩ := id hfe
    have e3 : s₂ = ({ (U.calling g mk a).setFrames s₂.frames with heap := s₂.heap, slotsUsed := s₂.slotsUsed } : State).setVm s₂.vm := by
      have : s₂ = ({ s₂ with vm := (U.calling g mk a).vm } : State).setVm s₂.vm := rfl
      rw [e2] at this
      exact this
    obtain ⟨c₂, i₂, len₂, hc₂, hd₂, hf₂⟩ := hend
    have hW' : U.WarmedH s₂.vm := hW₂
    have hcc : c₂ = c := by
      have h1 : s₂.code? g.method = U.code? g.method := by
        rw [State.code?_eq, State.code?_eq, hW'.alike.method?]
      exact Option.some.inj (hc₂.symm.trans (h1.trans h.code))
    subst hcc
    have hlen : len₂ = len := by rw [hdg] at hd₂; cases hd₂; rfl
    subst hlen
    have hs₂ : s₂ = (({ U with heap := s₂.heap, slotsUsed := s₂.slotsUsed } : State).setVm s₂.vm).setTop { g with pc := g.pc + len₂, stack := v.toList ++ g.stack } := by
      refine e3.trans ?_
      rw [hf₂, State.calling_eq h.top, State.setFrames_setFrames, State.setTop_of_frames _ hr', hr]
      rfl
    have hsame : U.sameButNew ({ U with heap := s₂.heap, slotsUsed := s₂.slotsUsed } : State) L mc ms := by
      refine ⟨?_, q2, q3, q4, q5, q6⟩
      obtain ⟨t, ht, -⟩ := State.frames_cons hr
      show ({ U with heap := s₂.heap, slotsUsed := s₂.slotsUsed } : State) = { U.setFrames U.frames with heap := s₂.heap, slotsUsed := s₂.slotsUsed }
      rw [State.setFrames_self ht]
    subst hg
    refine Or.inl ⟨v, ⟨(({ U with heap := s₂.heap, slotsUsed := s₂.slotsUsed } : State).setVm s₂.vm), Ls ++ L, c0 + mc, s0 + ms⟩,
      ⟨X.admits, X.cas, X.clock, X.frames, X.room, X.hears, X.method, X.code, (X.here.setHeapUsed s₂.heap s₂.slotsUsed).setVm hW'.alike, X.tail, State.WarmedH.trans X.warmed hW', X.limits, X.bytes, X.same.trans (hsame.setVm s.vm)⟩,
      ⟨g, mk, s₂, L, rfl, rfl, hqc, rfl, hL, rfl, rfl⟩, ?_⟩
    show Steps p.tables e below _ ((({ U with heap := s₂.heap, slotsUsed := s₂.slotsUsed } : State).setVm s₂.vm).setTop { g with pc := g.pc + len₂, stack := v.toList ++ g.stack })
    rw [← hs₂]
    exact hsteps
  · obtain ⟨e2, q2, q3, q4, q5, q6⟩ := id hsm
    have e3 : s₂ = ({ (U.calling g mk a).setFrames s₂.frames with heap := s₂.heap, slotsUsed := s₂.slotsUsed } : State).setVm s₂.vm := by
      have : s₂ = ({ s₂ with vm := (U.calling g mk a).vm } : State).setVm s₂.vm := rfl
      rw [e2] at this
      exact this
    have hf₂ : s₂.frames = .throwing q :: .java g :: U.frames.tail := hend
    have hW' : U.WarmedH s₂.vm := hW₂
    have hs₂ : s₂ = ((({ U with heap := s₂.heap, slotsUsed := s₂.slotsUsed } : State).setVm s₂.vm).setTop g).pushFrame (.throwing q) := by
      refine e3.trans ?_
      rw [hf₂, State.calling_eq h.top, State.setFrames_setFrames, State.pushFrame, State.frames_setTop _ hr', State.setTop_of_frames _ hr', State.setFrames_setFrames, hr]
      rfl
    have hsame : U.sameButNew ({ U with heap := s₂.heap, slotsUsed := s₂.slotsUsed } : State) L mc ms := by
      refine ⟨?_, q2, q3, q4, q5, q6⟩
      obtain ⟨t, ht, -⟩ := State.frames_cons hr
      show ({ U with heap := s₂.heap, slotsUsed := s₂.slotsUsed } : State) = { U.setFrames U.frames with heap := s₂.heap, slotsUsed := s₂.slotsUsed }
      rw [State.setFrames_self ht]
    subst hg
    refine Or.inr ⟨q, ⟨(({ U with heap := s₂.heap, slotsUsed := s₂.slotsUsed } : State).setVm s₂.vm), Ls ++ L, c0 + mc, s0 + ms⟩,
      ⟨X.admits, X.cas, X.clock, X.frames, X.room, X.hears, X.method, X.code, (X.here.setHeapUsed s₂.heap s₂.slotsUsed).setVm hW'.alike, X.tail, State.WarmedH.trans X.warmed hW', X.limits, X.bytes, X.same.trans (hsame.setVm s.vm)⟩,
      ⟨g, mk, s₂, L, E, ce, rfl, rfl, hx, hce, hcv, hcl, rfl, hL, rfl, rfl⟩, ?_⟩
    show Steps p.tables e below _ (((({ U with heap := s₂.heap, slotsUsed := s₂.slotsUsed } : State).setVm s₂.vm).setTop g).pushFrame (.throwing q))
    rw [← hs₂]
    exact hsteps
end
variable {p : Program} {l : Launch} {e : Env} {R : Room} {s : State} {m : MethodId} {args : Array Value} {below : List Frame} {meth : Method} {c : Code} {T : State} {H : Heap} {locs : List Loc} {cells slots : Nat}
theorem vx_callVX (X : Stand p l e R s m args below meth c T locs cells slots) (hexec : p.tables.exec = Jvm.exec) {own C : String} {index : Nat} {y : MethodName} {bytes : ByteArray} {maxL : Nat} {ret : Option FieldType} {hh : List (Nat × Nat × Nat × Nat)}
    (hown : s.vm.findClass own = some m.cls) (hlink : (Cond.methodLink own index y).before args s = true) (hinst : (Cond.instanceMethod y).before args s = true) (hsel : (Cond.selects C y y).before args s = true)
    (hcode : (Cond.codeWith y bytes maxL ret hh).before args s = true) (hy : y.cls ≠ "java/lang/invoke/MethodHandle" ∧ y.cls ≠ "java/lang/invoke/VarHandle")
    {W9 : Nat} {Pre : Pt → Array Value → Prop} {Post : Pt → Array Value → Option Value → Pt → Prop} {PostX : Pt → Array Value → Addr → Pt → Prop} (hK : vx_Back l R p e below s args y 3 W9 Pre Post PostX)
    {b : Addr} {cellB : Cell} (hcell : T.heap[b]? = some cellB) (hobj : cellB.vm.isStatics = false) (hcls : s.vm.findClass C = some cellB.cls)
    {g : JFrame} (hg : g.method = m) (hsize : g.locals.size = c.maxLocals) {argsL rest : List Value} (hlen : ∀ sig, parseMethodDescriptor y.desc = some sig → argsL.length = sig.parameters.length)
    (hstack : g.stack = argsL.reverse ++ .ref b :: rest) (hW : 2 * g.monitorRoom + (rest.map fun v => v.category).sum ≤ W9) (hdg : decode c.code g.pc = .ok (.invokevirtual index, 3))
    (hpre : ∀ vm₁, s.WarmedH vm₁ → Pre ⟨T.setVm vm₁, locs, cells, slots⟩ (Value.ref b :: argsL).toArray) :
    (∃ (v : Option Value) (vm₁ : Vm) (B : Pt), s.WarmedH vm₁ ∧ Stand p l e R s m args below meth c B.U B.locs B.cells B.slots ∧ Post ⟨T.setVm vm₁, locs, cells, slots⟩ (Value.ref b :: argsL).toArray v B ∧
      ∀ target, Steps p.tables e below (B.U.setTop { g with pc := g.pc + 3, stack := v.toList ++ rest }) target → Steps p.tables e below (T.setTop g) target) ∨
    (∃ (q : Addr) (vm₁ : Vm) (B : Pt), s.WarmedH vm₁ ∧ Stand p l e R s m args below meth c B.U B.locs B.cells B.slots ∧ PostX ⟨T.setVm vm₁, locs, cells, slots⟩ (Value.ref b :: argsL).toArray q B ∧
      Steps p.tables e below (T.setTop g) ((B.U.setTop { g with stack := rest }).pushFrame (.throwing q))) := by
  obtain ⟨mk, methM, hnamed, hmethM, hstM, habM⟩ := Cond.instanceMethod_spec hinst
  obtain ⟨m8, methM', cM, hn8, hmethM', -, -, -, -, -, -, hsigM⟩ := Cond.codeWith_spec hcode
  cases Option.some.inj (hn8.symm.trans hnamed)
  cases hmethM.symm.trans hmethM'
  obtain ⟨c2, r2, m2, q1, q2, q3, q4, kP, hkP, hkPi⟩ := Cond.selects_spec hsel
  cases hcls.symm.trans q1
  cases (State.methodFound?_of_named hnamed hy).symm.trans q2
  cases hnamed.symm.trans q3
  have hselP : selectMethod e.platform s.vm cellB.cls mk = .method mk := by rw [Launch.admits_selectMethod X.admits]; exact q4
  obtain ⟨vm₁, X₁, hstep₁⟩ := X.invokevirtual hexec hown hlink hnamed hmethM hstM hkP hkPi hy (a := b) (cell := cellB) hcell
    (fun z h => by rw [h] at hobj; cases hobj) hselP hmethM habM hkP hkPi (g := g) hg (argsL := argsL) (rest := rest) (hlen _ hsigM) hstack hdg
  rcases hK m meth c ⟨T.setVm vm₁, locs, cells, slots⟩ { g with stack := rest } (.invokevirtual index) mk (Value.ref b :: argsL).toArray X₁ hg hsize hdg hW (X₁.named hnamed) (hpre vm₁ X₁.warmed) with ⟨v, B, X', hpost, hsteps⟩ | ⟨q, B, X', hpost, hsteps⟩
  · exact Or.inl ⟨v, vm₁, B, X₁.warmed, X', hpost, fun target h => hstep₁ _ fun acts => by rw [doInvoke_state]; exact hsteps.trans h⟩
  · exact Or.inr ⟨q, vm₁, B, X₁.warmed, X', hpost, hstep₁ _ fun acts => by rw [doInvoke_state]; exact hsteps⟩
theorem vx_callSX (X : Stand p l e R s m args below meth c T locs cells slots) (hexec : p.tables.exec = Jvm.exec) {own : String} {index : Nat} {y : MethodName} {bytes : ByteArray} {maxL : Nat} {ret : Option FieldType} {hh : List (Nat × Nat × Nat × Nat)}
    (hown : s.vm.findClass own = some m.cls) (hlink : (Cond.methodLink own index y).before args s = true) (hstat : (Cond.static y).before args s = true) (hinit : (Cond.initialized y.cls).before args s = true)
    (hcode : (Cond.codeWith y bytes maxL ret hh).before args s = true) (hy : y.cls ≠ "java/lang/invoke/MethodHandle" ∧ y.cls ≠ "java/lang/invoke/VarHandle")
    {W9 : Nat} {Pre : Pt → Array Value → Prop} {Post : Pt → Array Value → Option Value → Pt → Prop} {PostX : Pt → Array Value → Addr → Pt → Prop} (hK : vx_Back l R p e below s args y 3 W9 Pre Post PostX)
    {g : JFrame} (hg : g.method = m) (hsize : g.locals.size = c.maxLocals) {argsL rest : List Value} (hlen : ∀ sig, parseMethodDescriptor y.desc = some sig → argsL.length = sig.parameters.length)
    (hstack : g.stack = argsL.reverse ++ rest) (hW : 2 * g.monitorRoom + (rest.map fun v => v.category).sum ≤ W9) (hdg : decode c.code g.pc = .ok (.invokestatic index, 3))
    (hpre : ∀ vm₁, s.WarmedH vm₁ → Pre ⟨T.setVm vm₁, locs, cells, slots⟩ argsL.toArray) :
    (∃ (v : Option Value) (vm₁ : Vm) (B : Pt), s.WarmedH vm₁ ∧ Stand p l e R s m args below meth c B.U B.locs B.cells B.slots ∧ Post ⟨T.setVm vm₁, locs, cells, slots⟩ argsL.toArray v B ∧
      ∀ target, Steps p.tables e below (B.U.setTop { g with pc := g.pc + 3, stack := v.toList ++ rest }) target → Steps p.tables e below (T.setTop g) target) ∨
    (∃ (q : Addr) (vm₁ : Vm) (B : Pt), s.WarmedH vm₁ ∧ Stand p l e R s m args below meth c B.U B.locs B.cells B.slots ∧ PostX ⟨T.setVm vm₁, locs, cells, slots⟩ argsL.toArray q B ∧
      Steps p.tables e below (T.setTop g) ((B.U.setTop { g with stack := rest }).pushFrame (.throwing q))) := by
  obtain ⟨mk, methM, cM, hnamed, hmethM, -, -, -, -, -, -, hsigM⟩ := Cond.codeWith_spec hcode
  have hstatic : methM.isStatic = true := Cond.static_spec hnamed hmethM hstat
  obtain ⟨kP, hkP, -⟩ := className_of_methodNamed hnamed
  have hinitP : kP.init = .initialized := Cond.initialized_spec (findClass_of_methodNamed hnamed) hkP hinit
  obtain ⟨vm₁, X₁, hstep₁⟩ := X.invokestatic hexec hown hlink hnamed hmethM hstatic hkP hinitP hy (g := g) hg (argsL := argsL) (rest := rest) (hlen _ hsigM) hstack hdg
  rcases hK m meth c ⟨T.setVm vm₁, locs, cells, slots⟩ { g with stack := rest } (.invokestatic index) mk argsL.toArray X₁ hg hsize hdg hW (X₁.named hnamed) (hpre vm₁ X₁.warmed) with ⟨v, B, X', hpost, hsteps⟩ | ⟨q, B, X', hpost, hsteps⟩
  · exact Or.inl ⟨v, vm₁, B, X₁.warmed, X', hpost, fun target h => hstep₁ _ fun acts => by rw [doInvoke_state]; exact hsteps.trans h⟩
  · exact Or.inr ⟨q, vm₁, B, X₁.warmed, X', hpost, hstep₁ _ fun acts => by rw [doInvoke_state]; exact hsteps⟩
theorem vx_callVW (X : Stand p l e R s m args below meth c T locs cells slots) (hexec : p.tables.exec = Jvm.exec) {own C : String} {index : Nat} {y : MethodName} {bytes : ByteArray} {maxL : Nat} {ret : Option FieldType} {hh : List (Nat × Nat × Nat × Nat)}
    (hown : s.vm.findClass own = some m.cls) (hlink : (Cond.methodLink own index y).before args s = true) (hinst : (Cond.instanceMethod y).before args s = true) (hsel : (Cond.selects C y y).before args s = true)
    (hcode : (Cond.codeWith y bytes maxL ret hh).before args s = true) (hy : y.cls ≠ "java/lang/invoke/MethodHandle" ∧ y.cls ≠ "java/lang/invoke/VarHandle")
    {W9 : Nat} {Pre : Pt → Array Value → Prop} {Post : Pt → Array Value → Option Value → Pt → Prop} (hK : Back l R p e below s args y 3 W9 Pre Post)
    {b : Addr} {cellB : Cell} (hcell : T.heap[b]? = some cellB) (hobj : cellB.vm.isStatics = false) (hcls : s.vm.findClass C = some cellB.cls)
    {g : JFrame} (hg : g.method = m) (hsize : g.locals.size = c.maxLocals) {argsL rest : List Value} (hlen : ∀ sig, parseMethodDescriptor y.desc = some sig → argsL.length = sig.parameters.length)
    (hstack : g.stack = argsL.reverse ++ .ref b :: rest) (hW : 2 * g.monitorRoom + (rest.map fun v => v.category).sum ≤ W9) (hdg : decode c.code g.pc = .ok (.invokevirtual index, 3))
    (hpre : ∀ vm₁, s.WarmedH vm₁ → Pre ⟨T.setVm vm₁, locs, cells, slots⟩ (Value.ref b :: argsL).toArray) :
    ∃ (v : Option Value) (vm₁ : Vm) (B : Pt), s.WarmedH vm₁ ∧ Stand p l e R s m args below meth c B.U B.locs B.cells B.slots ∧ Post ⟨T.setVm vm₁, locs, cells, slots⟩ (Value.ref b :: argsL).toArray v B ∧
      ∀ target, Steps p.tables e below (B.U.setTop { g with pc := g.pc + 3, stack := v.toList ++ rest }) target → Steps p.tables e below (T.setTop g) target := by
  obtain ⟨mk, methM, hnamed, hmethM, hstM, habM⟩ := Cond.instanceMethod_spec hinst
  obtain ⟨m8, methM', cM, hn8, hmethM', -, -, -, -, -, -, hsigM⟩ := Cond.codeWith_spec hcode
  cases Option.some.inj (hn8.symm.trans hnamed)
  cases hmethM.symm.trans hmethM'
  obtain ⟨c2, r2, m2, q1, q2, q3, q4, kP, hkP, hkPi⟩ := Cond.selects_spec hsel
  cases hcls.symm.trans q1
  cases (State.methodFound?_of_named hnamed hy).symm.trans q2
  cases hnamed.symm.trans q3
  have hselP : selectMethod e.platform s.vm cellB.cls mk = .method mk := by rw [Launch.admits_selectMethod X.admits]; exact q4
  obtain ⟨vm₁, X₁, hstep₁⟩ := X.invokevirtual hexec hown hlink hnamed hmethM hstM hkP hkPi hy (a := b) (cell := cellB) hcell
    (fun z h => by rw [h] at hobj; cases hobj) hselP hmethM habM hkP hkPi (g := g) hg (argsL := argsL) (rest := rest) (hlen _ hsigM) hstack hdg
  obtain ⟨v, B, X', hpost, hsteps⟩ := hK m meth c ⟨T.setVm vm₁, locs, cells, slots⟩ { g with stack := rest } (.invokevirtual index) mk (Value.ref b :: argsL).toArray X₁ hg hsize hdg hW (X₁.named hnamed) (hpre vm₁ X₁.warmed)
  exact ⟨v, vm₁, B, X₁.warmed, X', hpost, fun target h => hstep₁ _ fun acts => by rw [doInvoke_state]; exact hsteps.trans h⟩
abbrev vx_CVW (R : Room) (s : State) (args : Array Value) (own C : String) (index : Nat) (y : MethodName) (bytes : ByteArray) (maxL : Nat) (ret : Option FieldType) (hh : List (Nat × Nat × Nat × Nat)) (ws : List Cond) (rm : Room) (mc ms n : Nat) : Prop :=
  (rm.cells = mc ∧ rm.slots = ms ∧ rm.frames + 1 ≤ R.frames ∧ 8 + (maxL + 11) + rm.locals ≤ R.locals ∧ (∀ w ∈ ws, ∀ (a' : Array Value) (U : State), s.WarmedH U.vm → w.before a' U = true) ∧ Cond.codeWith y bytes maxL ret hh ∈ ws) ∧
  (Cond.codeWith y bytes maxL ret hh).before args s = true ∧ (Cond.initialized y.cls).before args s = true ∧ (y.cls ≠ "java/lang/invoke/MethodHandle" ∧ y.cls ≠ "java/lang/invoke/VarHandle") ∧
  (∀ sig, parseMethodDescriptor y.desc = some sig → n = sig.parameters.length) ∧ (Cond.methodLink own index y).before args s = true ∧ (Cond.instanceMethod y).before args s = true ∧ (Cond.selects C y y).before args s = true
theorem vx_cwVW {own C : String} {index maxL mc ms : Nat} {y : MethodName} {bytes : ByteArray} {ret : Option FieldType} {hh : List (Nat × Nat × Nat × Nat)} {Ts ws ws' : List Cond} {rm : Room} (n : Nat) (ht : ∀ w ∈ Ts, w.before args s = true) (hT : GoodIn Ts (wsV own index C y ws)) (hw : ws = Cond.codeWith y bytes maxL ret hh :: ws') (hrc : rm.cells = mc) (hrs : rm.slots = ms)
    (hd : y.cls = C ∧ y.cls ≠ "java/lang/invoke/MethodHandle" ∧ y.cls ≠ "java/lang/invoke/VarHandle" ∧ (parseMethodDescriptor y.desc).map (fun d => d.parameters.length) = some n) (hR : rm.frames + 1 ≤ R.frames ∧ 8 + (maxL + 11) + rm.locals ≤ R.locals) :
    vx_CVW R s args own C index y bytes maxL ret hh ws rm mc ms n := by
  obtain ⟨hC, hd⟩ := hd
  subst hC
  have ok : ∀ w ∈ wsV own index y.cls y ws, w.before args s = true := fun w h => ht w (hT w h).1
  have hG : GoodIn Ts ws := fun w h => hT w (by unfold wsV; exact List.mem_append_right _ h)
  have hc : Cond.codeWith y bytes maxL ret hh ∈ ws := by rw [hw]; exact List.mem_cons_self
  refine ⟨⟨hrc, hrs, hR.1, hR.2, pay_in ht hG, hc⟩, ht _ (hG _ hc).1, ok _ (by simp [wsV]), ⟨hd.1, hd.2.1⟩, fun sig h => ?_, ok _ (by simp [wsV]), ok _ (by simp [wsV]), ok _ (by simp [wsV])⟩
  have h2 := hd.2.2
  rw [h] at h2
  exact (Option.some.inj h2).symm
theorem vx_runVW {y : MethodName} {bytes cc : ByteArray} {maxL nL mc ms n index : Nat} {ret : Option FieldType} {hh : List (Nat × Nat × Nat × Nat)} {ws : List Cond} {rm : Room} {Pc : Array Value → State → Prop} {Qc : Array Value → State → Outcome → State → Prop} {free : Addr → Prop} {Ts : List Cond} {own C : String} {b : Addr} {As rest : List Value} {g : JFrame}
    (S : CallFix p m c cc nL s args Ts own) (hM : Met l y ws rm Pc Qc mc ms free) (cw : vx_CVW R s args own C index y bytes maxL ret hh ws rm mc ms n) (hp : PreV s H C b Pc As)
    (hg : g.method = m) (hn : As.length = n) (hsize : g.locals.size = nL) (hstack : g.stack = As.reverse ++ .ref b :: rest) (hW : 2 * g.monitorRoom + (rest.map fun v => v.category).sum ≤ 8) (hdg : decode cc g.pc = .ok (.invokevirtual index, 3)) (hf : cells + mc ≤ R.cells ∧ slots + ms ≤ R.slots) :
    va_Run p l e R s m args below meth c H locs cells slots mc ms g rest (Qc (Value.ref b :: As).toArray) free := by
  obtain ⟨⟨hrc, hrs, hfr, hlo, hws, hcw⟩, hcode, hini, hy, hlen, hl, hin, hse⟩ := cw
  have hK : Back l R p e below s args y 3 8 (PreOf R mc ms Pc) (PostOf Qc mc ms free) := va_backW (hh := hh) (bytes := bytes) (maxL := maxL) (ret := ret) hM hp.1 hrc hrs hfr hlo hws hcw (fun a' U hW => word_at hW (Or.inl (by first | rfl | simp [Cond.onTables, Cond.keeps, Cond.steady])) hini)
  obtain ⟨hx, hb, hml, ho, -⟩ := S
  obtain ⟨-, ⟨cellB, hcB, hoB, hclB⟩, hPc⟩ := hp
  intro T hT X
  obtain ⟨v, vm₁, ⟨U', l2, c2, s2⟩, hW₁, X', ⟨g', mk, t, L, e1, e2, hq, h1, hL, h2, h3⟩, st⟩ := vx_callVW X hx (C := C) (hh := hh) (bytes := bytes) (maxL := maxL) (ret := ret) ho hl hin hse hcode hy hK (by rw [hT]; exact hcB) hoB hclB hg (hsize.trans hml.symm) (argsL := As) (rest := rest) (fun sig h => hn.trans (hlen sig h)) hstack hW (by rw [hb]; exact hdg)
    (fun vm₁ hW₁ => ⟨hf.1, hf.2, hPc (T.setVm vm₁) hT hW₁⟩)
  dsimp only [Pt.U, Pt.locs, Pt.cells, Pt.slots] at X' e1 e2 h1 h2 h3 st
  subst h1; subst h2; subst h3
  exact ⟨v, (T.setVm vm₁).calling g' mk (Value.ref b :: As).toArray, t, U', L, hT, X', hL, e1, e2, hq, st⟩
section
variable {y : MethodName} {bytes cc : ByteArray} {maxL nL mc ms n index : Nat} {ret : Option FieldType} {ws : List Cond} {rm : Room} {Pc : Array Value → State → Prop} {Qc : Array Value → State → Outcome → State → Prop} {XC : String → State → State → Prop} {free : Addr → Prop} {Ts : List Cond} {own C : String} {b : Addr} {As rest : List Value} {g : JFrame}
theorem vx_runVX {hh : List (Nat × Nat × Nat × Nat)} (S : CallFix p m c cc nL s args Ts own) (hM : vx_Met l y ws rm Pc Qc XC mc ms free) (cw : vx_CVW R s args own C index y bytes maxL ret hh ws rm mc ms n) (hp : PreV s H C b Pc As)
    (hg : g.method = m) (hn : As.length = n) (hsize : g.locals.size = nL) (hstack : g.stack = As.reverse ++ .ref b :: rest) (hW : 2 * g.monitorRoom + (rest.map fun v => v.category).sum ≤ 8) (hdg : decode cc g.pc = .ok (.invokevirtual index, 3)) (hf : cells + mc ≤ R.cells ∧ slots + ms ≤ R.slots) :
    vx_Run p l e R s m args below meth c H locs cells slots mc ms g rest (Qc (Value.ref b :: As).toArray) XC free := by
  obtain ⟨⟨hrc, hrs, hfr, hlo, hws, hcw⟩, hcode, hini, hy, hlen, hl, hin, hse⟩ := cw
  have hK : vx_Back l R p e below s args y 3 8 (PreOf R mc ms Pc) (PostOf Qc mc ms free) (vx_Post XC mc ms free) := vx_backW (hh := hh) (bytes := bytes) (maxL := maxL) (ret := ret) hM hp.1 hrc hrs hfr hlo hws hcw (fun a' U hW => word_at hW (Or.inl (by first | rfl | simp [Cond.onTables, Cond.keeps, Cond.steady])) hini)
  obtain ⟨hx, hb, hml, ho, -⟩ := S
  obtain ⟨-, ⟨cellB, hcB, hoB, hclB⟩, hPc⟩ := hp
  intro T hT X
  rcases vx_callVX X hx (C := C) (hh := hh) (bytes := bytes) (maxL := maxL) (ret := ret) ho hl hin hse hcode hy hK (by rw [hT]; exact hcB) hoB hclB hg (hsize.trans hml.symm) (argsL := As) (rest := rest) (fun sig h => hn.trans (hlen sig h)) hstack hW (by rw [hb]; exact hdg)
    (fun vm₁ hW₁ => ⟨hf.1, hf.2, hPc (T.setVm vm₁) hT hW₁⟩) with ⟨v, vm₁, ⟨U', l2, c2, s2⟩, hW₁, X', ⟨g', mk, t, L, e1, e2, hq, h1, hL, h2, h3⟩, st⟩ | ⟨q, vm₁, ⟨U', l2, c2, s2⟩, hW₁, X', ⟨g', mk, t, L, E, ce, e1, e2, hq, hce, hcv, hcl, h1, hL, h2, h3⟩, st⟩
  · dsimp only [Pt.U, Pt.locs, Pt.cells, Pt.slots] at X' e1 e2 h1 h2 h3 st
    subst h1; subst h2; subst h3
    exact Or.inl ⟨v, (T.setVm vm₁).calling g' mk (Value.ref b :: As).toArray, t, U', L, hT, X', hL, e1, e2, hq, st⟩
  · dsimp only [Pt.U, Pt.locs, Pt.cells, Pt.slots] at X' e1 e2 h1 h2 h3 st hcl
    subst h1; subst h2; subst h3
    exact Or.inr ⟨q, (T.setVm vm₁).calling g' mk (Value.ref b :: As).toArray, t, U', L, E, ce, hT, X', hL, e1, e2, hq, hce, hcv, vx_cls hW₁ hcl, st⟩
theorem vx_runSX {hh : List (Nat × Nat × Nat × Nat)} (S : CallFix p m c cc nL s args Ts own) (hM : vx_Met l y ws rm Pc Qc XC mc ms free) (cw : vx_CSW R s args own index y bytes maxL ret hh ws rm mc ms n) (hp : PreS s H Pc As)
    (hg : g.method = m) (hn : As.length = n) (hsize : g.locals.size = nL) (hstack : g.stack = As.reverse ++ rest) (hW : 2 * g.monitorRoom + (rest.map fun v => v.category).sum ≤ 8) (hdg : decode cc g.pc = .ok (.invokestatic index, 3)) (hf : cells + mc ≤ R.cells ∧ slots + ms ≤ R.slots) :
    vx_Run p l e R s m args below meth c H locs cells slots mc ms g rest (Qc As.toArray) XC free := by
  obtain ⟨⟨hrc, hrs, hfr, hlo, hws, hcw⟩, hcode, hini, hy, hlen, hl, hstt⟩ := cw
  have hK : vx_Back l R p e below s args y 3 8 (PreOf R mc ms Pc) (PostOf Qc mc ms free) (vx_Post XC mc ms free) := vx_backW (hh := hh) (bytes := bytes) (maxL := maxL) (ret := ret) hM hp.1 hrc hrs hfr hlo hws hcw (fun a' U hW => word_at hW (Or.inl (by first | rfl | simp [Cond.onTables, Cond.keeps, Cond.steady])) hini)
  obtain ⟨hx, hb, hml, ho, -⟩ := S
  intro T hT X
  rcases vx_callSX X hx (hh := hh) (bytes := bytes) (maxL := maxL) (ret := ret) ho hl hstt hini hcode hy hK hg (hsize.trans hml.symm) (argsL := As) (rest := rest) (fun sig h => hn.trans (hlen sig h)) hstack hW (by rw [hb]; exact hdg)
    (fun vm₁ hW₁ => ⟨hf.1, hf.2, hp.2 (T.setVm vm₁) hT hW₁⟩) with ⟨v, vm₁, ⟨U', l2, c2, s2⟩, hW₁, X', ⟨g', mk, t, L, e1, e2, hq, h1, hL, h2, h3⟩, st⟩ | ⟨q, vm₁, ⟨U', l2, c2, s2⟩, hW₁, X', ⟨g', mk, t, L, E, ce, e1, e2, hq, hce, hcv, hcl, h1, hL, h2, h3⟩, st⟩
  · dsimp only [Pt.U, Pt.locs, Pt.cells, Pt.slots] at X' e1 e2 h1 h2 h3 st
    subst h1; subst h2; subst h3
    exact Or.inl ⟨v, (T.setVm vm₁).calling g' mk As.toArray, t, U', L, hT, X', hL, e1, e2, hq, st⟩
  · dsimp only [Pt.U, Pt.locs, Pt.cells, Pt.slots] at X' e1 e2 h1 h2 h3 st hcl
    subst h1; subst h2; subst h3
    exact Or.inr ⟨q, (T.setVm vm₁).calling g' mk As.toArray, t, U', L, E, ce, hT, X', hL, e1, e2, hq, hce, hcv, vx_cls hW₁ hcl, st⟩
end
end VXH
theorem vx_ofWH {l : Launch} {y : MethodName} {ws ws' : List Cond} {rm : Room} {Pc : Array Value → State → Prop} {Qc : Array Value → State → Outcome → State → Prop} {XC : String → State → State → Prop} {mc ms : Nat} {free : Addr → Prop} {cc : ByteArray} {maxL : Nat} {ret : Option FieldType} {hh : List (Nat × Nat × Nat × Nat)}
    (hy : plainName y.cls = true) (hw : ws = Cond.codeWith y cc maxL ret hh :: ws')
    (body : ∀ p e s m args below meth c s₁, BodyLoose p l y (headSpec ws rm) cc maxL ret e s m args below meth c s₁ → c.maxLocals = maxL → Pc args s →
      W p l e (headSpec ws rm).room s m args below meth c s.heap [] 0 0 (vx_MQ below Qc XC args s mc ms free) (entryFrame m args maxL)) : vx_Met l y ws rm Pc Qc XC mc ms free := by
  refine MetFree.of_bodyS (code := cc) (maxLocals := maxL) (ret := ret) hy ?_ ?_
  · intro args s m h hn
    obtain ⟨m9, meth, c, hn9, h1, h2, h3, h4, -, h5, h6, -⟩ := Cond.codeWith_spec (atoms_spec (ws := ws) h _ (by rw [hw]; exact List.mem_cons_self))
    cases hn.symm.trans hn9
    exact ⟨meth, c, h1, h2, h3, h4, h5, h6⟩
  · intro p e s m args below meth c s₁ B hml hP _
    have hh0 : s₁.heap = s.heap := by rw [B.state]; rfl
    obtain ⟨t, a1, o, b1, b2, b3⟩ := body p e s m args below meth c s₁ B hml hP s₁ hh0 (Stand.of_body B)
    exact ⟨t, o, a1, b1, b2, b3⟩
/-! ===== END ===== -/
end
section
def RX0 : String := "SusuRing$Circle"
def TX0 : u_T := fun k => match k with
  | 0 => ("SusuRing$Circle", "sum", "I", true)
  | 1 => ("SusuRing$Circle", "way", "I", true)
  | 2 => ("SusuRing$Circle", "places", "Ljava/util/ArrayList;", true)
  | 3 => ("SusuRing$Circle", "order", "Ljava/util/ArrayList;", true)
  | 4 => ("SusuRing$Circle", "started", "Z", false)
  | 5 => ("SusuRing$Circle", "box", "I", false)
  | 6 => ("SusuRing$Circle", "meetings", "I", false)
  | _ => ("SusuRing$Circle", "rounds", "I", false)
def tyX0 : Nat → FieldType := fun k => match k with
  | 0 => .int
  | 1 => .int
  | 2 => .object "java/util/ArrayList"
  | 3 => .object "java/util/ArrayList"
  | 4 => .boolean
  | 5 => .int
  | 6 => .int
  | _ => .int
abbrev wsX00 : List Cond := u_ws RX0 TX0 8
theorem nmX0 : ∀ a, a < 8 → ∀ b, b < 8 → a ≠ b → (TX0 a).2.1 ≠ (TX0 b).2.1 := by decide +kernel
theorem tyX0_ok : ∀ k, k < 8 → parseFieldDescriptor (TX0 k).2.2.1 = some (tyX0 k) := by decide +kernel
abbrev cX0_init : ByteArray := prog_2_method_1_code
def yX0_init : MethodName := ⟨RX0, "<init>", "(II)V"⟩
abbrev cX0_hasOrder : ByteArray := prog_2_method_2_code
def yX0_hasOrder : MethodName := ⟨RX0, "hasOrder", "()Z"⟩
abbrev cX0_indexOf : ByteArray := prog_2_method_3_code
def yX0_indexOf : MethodName := ⟨RX0, "indexOf", "(LSusuRing$Person;)I"⟩
abbrev cX0_placeOf : ByteArray := prog_2_method_4_code
def yX0_placeOf : MethodName := ⟨RX0, "placeOf", "(LSusuRing$Person;)LSusuRing$Place;"⟩
abbrev cX0_makeOrder : ByteArray := prog_2_method_5_code
def yX0_makeOrder : MethodName := ⟨RX0, "makeOrder", "(I)V"⟩
abbrev cX0_drawn : ByteArray := prog_2_method_6_code
def yX0_drawn : MethodName := ⟨RX0, "drawn", "(II)I"⟩
abbrev cX0_eldest : ByteArray := prog_2_method_7_code
def yX0_eldest : MethodName := ⟨RX0, "eldest", "(I)I"⟩
abbrev cX0_upNext : ByteArray := prog_2_method_8_code
def yX0_upNext : MethodName := ⟨RX0, "upNext", "()LSusuRing$Place;"⟩
abbrev cX0_firstInOrder : ByteArray := prog_2_method_9_code
def yX0_firstInOrder : MethodName := ⟨RX0, "firstInOrder", "()LSusuRing$Place;"⟩
abbrev cX0_greatest : ByteArray := prog_2_method_10_code
def yX0_greatest : MethodName := ⟨RX0, "greatest", "()LSusuRing$Place;"⟩
abbrev cX0_collect : ByteArray := prog_2_method_11_code
def yX0_collect : MethodName := ⟨RX0, "collect", "(Z)V"⟩
abbrev cX0_payOut : ByteArray := prog_2_method_12_code
def yX0_payOut : MethodName := ⟨RX0, "payOut", "(LSusuRing$Place;)V"⟩
abbrev cX0_giveOut : ByteArray := prog_2_method_13_code
def yX0_giveOut : MethodName := ⟨RX0, "giveOut", "(LSusuRing$Place;I)V"⟩
abbrev cX0_clearBids : ByteArray := prog_2_method_14_code
def yX0_clearBids : MethodName := ⟨RX0, "clearBids", "()V"⟩
abbrev cX0_endRoundIfAllHadTurns : ByteArray := prog_2_method_15_code
def yX0_endRoundIfAllHadTurns : MethodName := ⟨RX0, "endRoundIfAllHadTurns", "()V"⟩
abbrev cX0_removePlace : ByteArray := prog_2_method_16_code
def yX0_removePlace : MethodName := ⟨RX0, "removePlace", "(LSusuRing$Place;)V"⟩
abbrev cX0_removeFrom : ByteArray := prog_2_method_17_code
def yX0_removeFrom : MethodName := ⟨RX0, "removeFrom", "(Ljava/util/ArrayList;LSusuRing$Place;)V"⟩
abbrev cX0_passOn : ByteArray := prog_2_method_18_code
def yX0_passOn : MethodName := ⟨RX0, "passOn", "(LSusuRing$Person;LSusuRing$Person;)Z"⟩
def RX1 : String := "SusuRing$Person"
def TX1 : u_T := fun k => match k with
  | 0 => ("SusuRing$Person", "number", "I", true)
  | 1 => ("SusuRing$Person", "age", "I", true)
  | 2 => ("SusuRing$Person", "name", "I", true)
  | 3 => ("SusuRing$Person", "notes", "[I", true)
  | 4 => ("SusuRing$Person", "purse", "I", false)
  | 5 => ("SusuRing$Person", "shares", "I", false)
  | 6 => ("SusuRing$Person", "debt", "I", false)
  | 7 => ("SusuRing$Person", "loanMonths", "I", false)
  | 8 => ("SusuRing$Person", "first", "LSusuRing$Person;", false)
  | 9 => ("SusuRing$Person", "second", "LSusuRing$Person;", false)
  | 10 => ("SusuRing$Person", "paidBack", "I", false)
  | 11 => ("SusuRing$Person", "truth", "I", false)
  | _ => ("SusuRing$Person", "dead", "Z", false)
def tyX1 : Nat → FieldType := fun k => match k with
  | 0 => .int
  | 1 => .int
  | 2 => .int
  | 3 => .array .int
  | 4 => .int
  | 5 => .int
  | 6 => .int
  | 7 => .int
  | 8 => .object "SusuRing$Person"
  | 9 => .object "SusuRing$Person"
  | 10 => .int
  | 11 => .int
  | _ => .boolean
abbrev wsX10 : List Cond := u_ws RX1 TX1 13
theorem nmX1 : ∀ a, a < 13 → ∀ b, b < 13 → a ≠ b → (TX1 a).2.1 ≠ (TX1 b).2.1 := by decide +kernel
theorem tyX1_ok : ∀ k, k < 13 → parseFieldDescriptor (TX1 k).2.2.1 = some (tyX1 k) := by decide +kernel
abbrev cX1_init : ByteArray := prog_3_method_1_code
def yX1_init : MethodName := ⟨RX1, "<init>", "(III)V"⟩
abbrev cX1_hasShare : ByteArray := prog_3_method_2_code
def yX1_hasShare : MethodName := ⟨RX1, "hasShare", "()Z"⟩
abbrev cX1_hasLoan : ByteArray := prog_3_method_3_code
def yX1_hasLoan : MethodName := ⟨RX1, "hasLoan", "()Z"⟩
abbrev cX1_isOfHouse : ByteArray := prog_3_method_4_code
def yX1_isOfHouse : MethodName := ⟨RX1, "isOfHouse", "(LSusuRing$Person;)Z"⟩
abbrev cX1_payIn : ByteArray := prog_3_method_5_code
def yX1_payIn : MethodName := ⟨RX1, "payIn", "(I)V"⟩
abbrev cX1_getOut : ByteArray := prog_3_method_6_code
def yX1_getOut : MethodName := ⟨RX1, "getOut", "(I)V"⟩
abbrev cX1_takeLoan : ByteArray := prog_3_method_7_code
def yX1_takeLoan : MethodName := ⟨RX1, "takeLoan", "(ILSusuRing$Person;LSusuRing$Person;)V"⟩
abbrev cX1_ageLoan : ByteArray := prog_3_method_8_code
def yX1_ageLoan : MethodName := ⟨RX1, "ageLoan", "()V"⟩
abbrev cX1_bequeath : ByteArray := prog_3_method_9_code
def yX1_bequeath : MethodName := ⟨RX1, "bequeath", "(LSusuRing$Person;)V"⟩
def RX2 : String := "SusuRing$Place"
def TX2 : u_T := fun k => match k with
  | 0 => ("SusuRing$Place", "holder", "LSusuRing$Person;", false)
  | 1 => ("SusuRing$Place", "arrears", "I", false)
  | 2 => ("SusuRing$Place", "need", "I", false)
  | 3 => ("SusuRing$Place", "bid", "I", false)
  | 4 => ("SusuRing$Place", "paidIn", "I", false)
  | _ => ("SusuRing$Place", "hadTurn", "Z", false)
def tyX2 : Nat → FieldType := fun k => match k with
  | 0 => .object "SusuRing$Person"
  | 1 => .int
  | 2 => .int
  | 3 => .int
  | 4 => .int
  | _ => .boolean
abbrev wsX20 : List Cond := u_ws RX2 TX2 6
theorem nmX2 : ∀ a, a < 6 → ∀ b, b < 6 → a ≠ b → (TX2 a).2.1 ≠ (TX2 b).2.1 := by decide +kernel
theorem tyX2_ok : ∀ k, k < 6 → parseFieldDescriptor (TX2 k).2.2.1 = some (tyX2 k) := by decide +kernel
abbrev cX2_init : ByteArray := prog_4_method_1_code
def yX2_init : MethodName := ⟨RX2, "<init>", "(LSusuRing$Person;)V"⟩
abbrev cX2_changeNeed : ByteArray := prog_4_method_2_code
def yX2_changeNeed : MethodName := ⟨RX2, "changeNeed", "(I)I"⟩
abbrev cX2_changeBid : ByteArray := prog_4_method_3_code
def yX2_changeBid : MethodName := ⟨RX2, "changeBid", "(I)I"⟩
abbrev cX2_rank : ByteArray := prog_4_method_4_code
def yX2_rank : MethodName := ⟨RX2, "rank", "(I)I"⟩
def RX3 : String := "SusuRing"
def TX3 : u_T := fun k => match k with
  | 0 => ("SusuRing", "people", "Ljava/util/ArrayList;", true)
  | 1 => ("SusuRing", "circles", "Ljava/util/ArrayList;", true)
  | 2 => ("SusuRing", "fundCash", "I", false)
  | _ => ("SusuRing", "earned", "I", false)
def tyX3 : Nat → FieldType := fun k => match k with
  | 0 => .object "java/util/ArrayList"
  | 1 => .object "java/util/ArrayList"
  | 2 => .int
  | _ => .int
abbrev wsX30 : List Cond := u_ws RX3 TX3 4
theorem nmX3 : ∀ a, a < 4 → ∀ b, b < 4 → a ≠ b → (TX3 a).2.1 ≠ (TX3 b).2.1 := by decide +kernel
theorem tyX3_ok : ∀ k, k < 4 → parseFieldDescriptor (TX3 k).2.2.1 = some (tyX3 k) := by decide +kernel
abbrev cX3_init : ByteArray := prog_1_method_1_code
def yX3_init : MethodName := ⟨RX3, "<init>", "()V"⟩
abbrev cX3_person : ByteArray := prog_1_method_2_code
def yX3_person : MethodName := ⟨RX3, "person", "(II)I"⟩
abbrev cX3_earn : ByteArray := prog_1_method_3_code
def yX3_earn : MethodName := ⟨RX3, "earn", "(II)I"⟩
abbrev cX3_die : ByteArray := prog_1_method_4_code
def yX3_die : MethodName := ⟨RX3, "die", "(II)I"⟩
abbrev cX3_circle : ByteArray := prog_1_method_5_code
def yX3_circle : MethodName := ⟨RX3, "circle", "(II)I"⟩
abbrev cX3_enter : ByteArray := prog_1_method_6_code
def yX3_enter : MethodName := ⟨RX3, "enter", "(II)I"⟩
abbrev cX3_start : ByteArray := prog_1_method_7_code
def yX3_start : MethodName := ⟨RX3, "start", "(II)I"⟩
abbrev cX3_want : ByteArray := prog_1_method_8_code
def yX3_want : MethodName := ⟨RX3, "want", "(IIIZ)I"⟩
abbrev cX3_meet : ByteArray := prog_1_method_9_code
def yX3_meet : MethodName := ⟨RX3, "meet", "(IZ)I"⟩
abbrev cX3_leave : ByteArray := prog_1_method_10_code
def yX3_leave : MethodName := ⟨RX3, "leave", "(II)I"⟩
abbrev cX3_buy : ByteArray := prog_1_method_11_code
def yX3_buy : MethodName := ⟨RX3, "buy", "(II)I"⟩
abbrev cX3_borrow : ByteArray := prog_1_method_12_code
def yX3_borrow : MethodName := ⟨RX3, "borrow", "(IIII)I"⟩
abbrev cX3_repay : ByteArray := prog_1_method_13_code
def yX3_repay : MethodName := ⟨RX3, "repay", "(II)I"⟩
abbrev cX3_month : ByteArray := prog_1_method_14_code
def yX3_month : MethodName := ⟨RX3, "month", "(Z)I"⟩
abbrev cX3_feast : ByteArray := prog_1_method_15_code
def yX3_feast : MethodName := ⟨RX3, "feast", "()I"⟩
abbrev cX3_note : ByteArray := prog_1_method_16_code
def yX3_note : MethodName := ⟨RX3, "note", "(III)I"⟩
abbrev cX3_audit : ByteArray := prog_1_method_17_code
def yX3_audit : MethodName := ⟨RX3, "audit", "(I)I"⟩
abbrev cX3_of : ByteArray := prog_1_method_18_code
def yX3_of : MethodName := ⟨RX3, "of", "(II)I"⟩
abbrev cX3_member : ByteArray := prog_1_method_19_code
def yX3_member : MethodName := ⟨RX3, "member", "(III)I"⟩
abbrev cX3_ofCircle : ByteArray := prog_1_method_20_code
def yX3_ofCircle : MethodName := ⟨RX3, "ofCircle", "(II)I"⟩
abbrev cX3_cash : ByteArray := prog_1_method_21_code
def yX3_cash : MethodName := ⟨RX3, "cash", "()I"⟩
abbrev cX3_coins : ByteArray := prog_1_method_22_code
def yX3_coins : MethodName := ⟨RX3, "coins", "()I"⟩
abbrev cX3_personAt : ByteArray := prog_1_method_23_code
def yX3_personAt : MethodName := ⟨RX3, "personAt", "(I)LSusuRing$Person;"⟩
abbrev cX3_circleAt : ByteArray := prog_1_method_24_code
def yX3_circleAt : MethodName := ⟨RX3, "circleAt", "(I)LSusuRing$Circle;"⟩
abbrev cX3_checkRange : ByteArray := prog_1_method_25_code
def yX3_checkRange : MethodName := ⟨RX3, "checkRange", "(III)V"⟩
abbrev cX3_numberAt : ByteArray := prog_1_method_26_code
def yX3_numberAt : MethodName := ⟨RX3, "numberAt", "(LSusuRing$Place;)I"⟩
abbrev cX3_payFund : ByteArray := prog_1_method_27_code
def yX3_payFund : MethodName := ⟨RX3, "payFund", "(LSusuRing$Person;I)V"⟩
abbrev cX3_highestLoan : ByteArray := prog_1_method_28_code
def yX3_highestLoan : MethodName := ⟨RX3, "highestLoan", "(LSusuRing$Person;)I"⟩
abbrev cX3_houseDebts : ByteArray := prog_1_method_29_code
def yX3_houseDebts : MethodName := ⟨RX3, "houseDebts", "(LSusuRing$Person;)I"⟩
abbrev cX3_houseSize : ByteArray := prog_1_method_30_code
def yX3_houseSize : MethodName := ⟨RX3, "houseSize", "(LSusuRing$Person;)I"⟩
abbrev cX3_defaultLoan : ByteArray := prog_1_method_31_code
def yX3_defaultLoan : MethodName := ⟨RX3, "defaultLoan", "(LSusuRing$Person;)V"⟩
abbrev cX3_payForOther : ByteArray := prog_1_method_32_code
def yX3_payForOther : MethodName := ⟨RX3, "payForOther", "(LSusuRing$Person;I)V"⟩
def RX4 : String := "SusuRingModel"
def TX4 : u_T := fun k => match k with
  | 0 => ("SusuRingModel", "thrown", "I", false)
  | 1 => ("SusuRingModel", "people", "I", false)
  | 2 => ("SusuRingModel", "age", "[I", true)
  | 3 => ("SusuRingModel", "name", "[I", true)
  | 4 => ("SusuRingModel", "purse", "[I", true)
  | 5 => ("SusuRingModel", "shares", "[I", true)
  | 6 => ("SusuRingModel", "debt", "[I", true)
  | 7 => ("SusuRingModel", "months", "[I", true)
  | 8 => ("SusuRingModel", "first", "[I", true)
  | 9 => ("SusuRingModel", "second", "[I", true)
  | 10 => ("SusuRingModel", "back", "[I", true)
  | 11 => ("SusuRingModel", "truth", "[I", true)
  | 12 => ("SusuRingModel", "isDead", "[Z", true)
  | 13 => ("SusuRingModel", "circles", "I", false)
  | 14 => ("SusuRingModel", "sum", "[I", true)
  | 15 => ("SusuRingModel", "way", "[I", true)
  | 16 => ("SusuRingModel", "box", "[I", true)
  | 17 => ("SusuRingModel", "many", "[I", true)
  | 18 => ("SusuRingModel", "meetings", "[I", true)
  | 19 => ("SusuRingModel", "rounds", "[I", true)
  | 20 => ("SusuRingModel", "isStarted", "[Z", true)
  | 21 => ("SusuRingModel", "who", "[I", true)
  | 22 => ("SusuRingModel", "arrears", "[I", true)
  | 23 => ("SusuRingModel", "need", "[I", true)
  | 24 => ("SusuRingModel", "bid", "[I", true)
  | 25 => ("SusuRingModel", "paid", "[I", true)
  | 26 => ("SusuRingModel", "turn", "[I", true)
  | 27 => ("SusuRingModel", "had", "[Z", true)
  | 28 => ("SusuRingModel", "fund", "I", false)
  | 29 => ("SusuRingModel", "earned", "I", false)
  | _ => ("SusuRingModel", "noted", "[I", true)
def tyX4 : Nat → FieldType := fun k => match k with
  | 0 => .int
  | 1 => .int
  | 2 => .array .int
  | 3 => .array .int
  | 4 => .array .int
  | 5 => .array .int
  | 6 => .array .int
  | 7 => .array .int
  | 8 => .array .int
  | 9 => .array .int
  | 10 => .array .int
  | 11 => .array .int
  | 12 => .array .boolean
  | 13 => .int
  | 14 => .array .int
  | 15 => .array .int
  | 16 => .array .int
  | 17 => .array .int
  | 18 => .array .int
  | 19 => .array .int
  | 20 => .array .boolean
  | 21 => .array .int
  | 22 => .array .int
  | 23 => .array .int
  | 24 => .array .int
  | 25 => .array .int
  | 26 => .array .int
  | 27 => .array .boolean
  | 28 => .int
  | 29 => .int
  | _ => .array .int
abbrev wsX40 : List Cond := u_ws RX4 TX4 31
theorem nmX4 : ∀ a, a < 31 → ∀ b, b < 31 → a ≠ b → (TX4 a).2.1 ≠ (TX4 b).2.1 := by decide +kernel
theorem tyX4_ok : ∀ k, k < 31 → parseFieldDescriptor (TX4 k).2.2.1 = some (tyX4 k) := by decide +kernel
abbrev cX4_init : ByteArray := prog_6_method_1_code
def yX4_init : MethodName := ⟨RX4, "<init>", "()V"⟩
abbrev cX4_thrown : ByteArray := prog_6_method_2_code
def yX4_thrown : MethodName := ⟨RX4, "thrown", "()I"⟩
abbrev cX4_in : ByteArray := prog_6_method_3_code
def yX4_in : MethodName := ⟨RX4, "in", "(III)Z"⟩
abbrev cX4_isOne : ByteArray := prog_6_method_4_code
def yX4_isOne : MethodName := ⟨RX4, "isOne", "(I)Z"⟩
abbrev cX4_isCircle : ByteArray := prog_6_method_5_code
def yX4_isCircle : MethodName := ⟨RX4, "isCircle", "(I)Z"⟩
abbrev cX4_areAlike : ByteArray := prog_6_method_6_code
def yX4_areAlike : MethodName := ⟨RX4, "areAlike", "(II)Z"⟩
abbrev cX4_placeOf : ByteArray := prog_6_method_7_code
def yX4_placeOf : MethodName := ⟨RX4, "placeOf", "(II)I"⟩
abbrev cX4_pays : ByteArray := prog_6_method_8_code
def yX4_pays : MethodName := ⟨RX4, "pays", "(II)V"⟩
abbrev cX4_person : ByteArray := prog_6_method_9_code
def yX4_person : MethodName := ⟨RX4, "person", "(II)I"⟩
abbrev cX4_earn : ByteArray := prog_6_method_10_code
def yX4_earn : MethodName := ⟨RX4, "earn", "(II)I"⟩
abbrev cX4_copies : ByteArray := prog_6_method_11_code
def yX4_copies : MethodName := ⟨RX4, "copies", "(II)V"⟩
abbrev cX4_goes : ByteArray := prog_6_method_12_code
def yX4_goes : MethodName := ⟨RX4, "goes", "(II)V"⟩
abbrev cX4_rounds : ByteArray := prog_6_method_13_code
def yX4_rounds : MethodName := ⟨RX4, "rounds", "(I)V"⟩
abbrev cX4_leaves : ByteArray := prog_6_method_14_code
def yX4_leaves : MethodName := ⟨RX4, "leaves", "(II)V"⟩
abbrev cX4_die : ByteArray := prog_6_method_15_code
def yX4_die : MethodName := ⟨RX4, "die", "(II)I"⟩
abbrev cX4_circle : ByteArray := prog_6_method_16_code
def yX4_circle : MethodName := ⟨RX4, "circle", "(II)I"⟩
abbrev cX4_enter : ByteArray := prog_6_method_17_code
def yX4_enter : MethodName := ⟨RX4, "enter", "(II)I"⟩
abbrev cX4_next : ByteArray := prog_6_method_18_code
def yX4_next : MethodName := ⟨RX4, "next", "(II)I"⟩
abbrev cX4_start : ByteArray := prog_6_method_19_code
def yX4_start : MethodName := ⟨RX4, "start", "(II)I"⟩
abbrev cX4_want : ByteArray := prog_6_method_20_code
def yX4_want : MethodName := ⟨RX4, "want", "(IIIZ)I"⟩
abbrev cX4_turnOf : ByteArray := prog_6_method_21_code
def yX4_turnOf : MethodName := ⟨RX4, "turnOf", "(I)I"⟩
abbrev cX4_collects : ByteArray := prog_6_method_22_code
def yX4_collects : MethodName := ⟨RX4, "collects", "(IIZ)V"⟩
abbrev cX4_meet : ByteArray := prog_6_method_23_code
def yX4_meet : MethodName := ⟨RX4, "meet", "(IZ)I"⟩
abbrev cX4_leave : ByteArray := prog_6_method_24_code
def yX4_leave : MethodName := ⟨RX4, "leave", "(II)I"⟩
abbrev cX4_buy : ByteArray := prog_6_method_25_code
def yX4_buy : MethodName := ⟨RX4, "buy", "(II)I"⟩
abbrev cX4_house : ByteArray := prog_6_method_26_code
def yX4_house : MethodName := ⟨RX4, "house", "(IZ)I"⟩
abbrev cX4_has : ByteArray := prog_6_method_27_code
def yX4_has : MethodName := ⟨RX4, "has", "(I)Z"⟩
abbrev cX4_borrow : ByteArray := prog_6_method_28_code
def yX4_borrow : MethodName := ⟨RX4, "borrow", "(IIII)I"⟩
abbrev cX4_repay : ByteArray := prog_6_method_29_code
def yX4_repay : MethodName := ⟨RX4, "repay", "(II)I"⟩
abbrev cX4_vouches : ByteArray := prog_6_method_30_code
def yX4_vouches : MethodName := ⟨RX4, "vouches", "(II)V"⟩
abbrev cX4_month : ByteArray := prog_6_method_31_code
def yX4_month : MethodName := ⟨RX4, "month", "(Z)I"⟩
abbrev cX4_feast : ByteArray := prog_6_method_32_code
def yX4_feast : MethodName := ⟨RX4, "feast", "()I"⟩
abbrev cX4_note : ByteArray := prog_6_method_33_code
def yX4_note : MethodName := ⟨RX4, "note", "(III)I"⟩
abbrev cX4_audit : ByteArray := prog_6_method_34_code
def yX4_audit : MethodName := ⟨RX4, "audit", "(I)I"⟩
abbrev cX4_of : ByteArray := prog_6_method_35_code
def yX4_of : MethodName := ⟨RX4, "of", "(II)I"⟩
abbrev cX4_member : ByteArray := prog_6_method_36_code
def yX4_member : MethodName := ⟨RX4, "member", "(III)I"⟩
abbrev cX4_ofCircle : ByteArray := prog_6_method_37_code
def yX4_ofCircle : MethodName := ⟨RX4, "ofCircle", "(II)I"⟩
abbrev cX4_cash : ByteArray := prog_6_method_38_code
def yX4_cash : MethodName := ⟨RX4, "cash", "()I"⟩
abbrev cX4_coins : ByteArray := prog_6_method_39_code
def yX4_coins : MethodName := ⟨RX4, "coins", "()I"⟩
def RJx145de : String := "java/io/Serializable"
def TJx145de : u_T := fun k => match k with
  | _ => ("", "", "", false)
def tyJx145de : Nat → FieldType := fun k => match k with
  | _ => .int
abbrev wsJx145de0 : List Cond := u_ws RJx145de TJx145de 0
theorem nmJx145de : ∀ a, a < 0 → ∀ b, b < 0 → a ≠ b → (TJx145de a).2.1 ≠ (TJx145de b).2.1 := by decide +kernel
theorem tyJx145de_ok : ∀ k, k < 0 → parseFieldDescriptor (TJx145de k).2.2.1 = some (tyJx145de k) := by decide +kernel
def RJ5 : String := "java/lang/AbstractStringBuilder"
def TJ5 : u_T := fun k => match k with
  | _ => ("", "", "", false)
def tyJ5 : Nat → FieldType := fun k => match k with
  | _ => .int
abbrev wsJ50 : List Cond := u_ws RJ5 TJ5 0
theorem nmJ5 : ∀ a, a < 0 → ∀ b, b < 0 → a ≠ b → (TJ5 a).2.1 ≠ (TJ5 b).2.1 := by decide +kernel
theorem tyJ5_ok : ∀ k, k < 0 → parseFieldDescriptor (TJ5 k).2.2.1 = some (tyJ5 k) := by decide +kernel
abbrev cJ5_init_d00df : ByteArray := prog_8_method_2_code
def yJ5_init_d00df : MethodName := ⟨RJ5, "<init>", "(I)V"⟩
abbrev cJ5_length_8abf5 : ByteArray := prog_8_method_6_code
def yJ5_length_8abf5 : MethodName := ⟨RJ5, "length", "()I"⟩
abbrev cJ5_ensureCapacityInternal_d00df : ByteArray := prog_8_method_9_code
def yJ5_ensureCapacityInternal_d00df : MethodName := ⟨RJ5, "ensureCapacityInternal", "(I)V"⟩
abbrev cJ5_newCapacity_0f7a4 : ByteArray := prog_8_method_10_code
def yJ5_newCapacity_0f7a4 : MethodName := ⟨RJ5, "newCapacity", "(I)I"⟩
abbrev cJ5_inflate_da8c8 : ByteArray := prog_8_method_11_code
def yJ5_inflate_da8c8 : MethodName := ⟨RJ5, "inflate", "()V"⟩
abbrev cJ5_append_cf1ce : ByteArray := prog_8_method_22_code
def yJ5_append_cf1ce : MethodName := ⟨RJ5, "append", "(Ljava/lang/String;)Ljava/lang/AbstractStringBuilder;"⟩
abbrev cJ5_appendNull_278bc : ByteArray := prog_8_method_26_code
def yJ5_appendNull_278bc : MethodName := ⟨RJ5, "appendNull", "()Ljava/lang/AbstractStringBuilder;"⟩
abbrev cJ5_append_c97b9 : ByteArray := prog_8_method_32_code
def yJ5_append_c97b9 : MethodName := ⟨RJ5, "append", "(I)Ljava/lang/AbstractStringBuilder;"⟩
abbrev cJ5_getValue_6d5f1 : ByteArray := prog_8_method_64_code
def yJ5_getValue_6d5f1 : MethodName := ⟨RJ5, "getValue", "()[B"⟩
abbrev cJ5_isLatin1_aae02 : ByteArray := prog_8_method_68_code
def yJ5_isLatin1_aae02 : MethodName := ⟨RJ5, "isLatin1", "()Z"⟩
abbrev cJ5_inflateIfNeededFor_a7421 : ByteArray := prog_8_method_71_code
def yJ5_inflateIfNeededFor_a7421 : MethodName := ⟨RJ5, "inflateIfNeededFor", "(Ljava/lang/String;)V"⟩
abbrev cJ5_putStringAt_47b60 : ByteArray := prog_8_method_73_code
def yJ5_putStringAt_47b60 : MethodName := ⟨RJ5, "putStringAt", "(ILjava/lang/String;)V"⟩
def RJx2cfe8 : String := "java/lang/Appendable"
def TJx2cfe8 : u_T := fun k => match k with
  | _ => ("", "", "", false)
def tyJx2cfe8 : Nat → FieldType := fun k => match k with
  | _ => .int
abbrev wsJx2cfe80 : List Cond := u_ws RJx2cfe8 TJx2cfe8 0
theorem nmJx2cfe8 : ∀ a, a < 0 → ∀ b, b < 0 → a ≠ b → (TJx2cfe8 a).2.1 ≠ (TJx2cfe8 b).2.1 := by decide +kernel
theorem tyJx2cfe8_ok : ∀ k, k < 0 → parseFieldDescriptor (TJx2cfe8 k).2.2.1 = some (tyJx2cfe8 k) := by decide +kernel
def RJx9f9b0 : String := "java/lang/CharSequence"
def TJx9f9b0 : u_T := fun k => match k with
  | _ => ("", "", "", false)
def tyJx9f9b0 : Nat → FieldType := fun k => match k with
  | _ => .int
abbrev wsJx9f9b00 : List Cond := u_ws RJx9f9b0 TJx9f9b0 0
theorem nmJx9f9b0 : ∀ a, a < 0 → ∀ b, b < 0 → a ≠ b → (TJx9f9b0 a).2.1 ≠ (TJx9f9b0 b).2.1 := by decide +kernel
theorem tyJx9f9b0_ok : ∀ k, k < 0 → parseFieldDescriptor (TJx9f9b0 k).2.2.1 = some (tyJx9f9b0 k) := by decide +kernel
def RJx8e188 : String := "java/lang/Cloneable"
def TJx8e188 : u_T := fun k => match k with
  | _ => ("", "", "", false)
def tyJx8e188 : Nat → FieldType := fun k => match k with
  | _ => .int
abbrev wsJx8e1880 : List Cond := u_ws RJx8e188 TJx8e188 0
theorem nmJx8e188 : ∀ a, a < 0 → ∀ b, b < 0 → a ≠ b → (TJx8e188 a).2.1 ≠ (TJx8e188 b).2.1 := by decide +kernel
theorem tyJx8e188_ok : ∀ k, k < 0 → parseFieldDescriptor (TJx8e188 k).2.2.1 = some (tyJx8e188 k) := by decide +kernel
def RJxb160c : String := "java/lang/Comparable"
def TJxb160c : u_T := fun k => match k with
  | _ => ("", "", "", false)
def tyJxb160c : Nat → FieldType := fun k => match k with
  | _ => .int
abbrev wsJxb160c0 : List Cond := u_ws RJxb160c TJxb160c 0
theorem nmJxb160c : ∀ a, a < 0 → ∀ b, b < 0 → a ≠ b → (TJxb160c a).2.1 ≠ (TJxb160c b).2.1 := by decide +kernel
theorem tyJxb160c_ok : ∀ k, k < 0 → parseFieldDescriptor (TJxb160c k).2.2.1 = some (tyJxb160c k) := by decide +kernel
def RJ6 : String := "java/lang/Integer"
def TJ6 : u_T := fun k => match k with
  | _ => ("", "", "", false)
def tyJ6 : Nat → FieldType := fun k => match k with
  | _ => .int
abbrev wsJ60 : List Cond := u_ws RJ6 TJ6 0
theorem nmJ6 : ∀ a, a < 0 → ∀ b, b < 0 → a ≠ b → (TJ6 a).2.1 ≠ (TJ6 b).2.1 := by decide +kernel
theorem tyJ6_ok : ∀ k, k < 0 → parseFieldDescriptor (TJ6 k).2.2.1 = some (tyJ6 k) := by decide +kernel
abbrev cJ6_getChars_ba4f3 : ByteArray := prog_17_method_12_code
def yJ6_getChars_ba4f3 : MethodName := ⟨RJ6, "getChars", "(II[B)I"⟩
abbrev cJ6_stringSize_0f7a4 : ByteArray := prog_17_method_13_code
def yJ6_stringSize_0f7a4 : MethodName := ⟨RJ6, "stringSize", "(I)I"⟩
def RJxab1ab : String := "java/lang/Iterable"
def TJxab1ab : u_T := fun k => match k with
  | _ => ("", "", "", false)
def tyJxab1ab : Nat → FieldType := fun k => match k with
  | _ => .int
abbrev wsJxab1ab0 : List Cond := u_ws RJxab1ab TJxab1ab 0
theorem nmJxab1ab : ∀ a, a < 0 → ∀ b, b < 0 → a ≠ b → (TJxab1ab a).2.1 ≠ (TJxab1ab b).2.1 := by decide +kernel
theorem tyJxab1ab_ok : ∀ k, k < 0 → parseFieldDescriptor (TJxab1ab k).2.2.1 = some (tyJxab1ab k) := by decide +kernel
def RJ9 : String := "java/lang/Math"
def TJ9 : u_T := fun k => match k with
  | _ => ("", "", "", false)
def tyJ9 : Nat → FieldType := fun k => match k with
  | _ => .int
abbrev wsJ90 : List Cond := u_ws RJ9 TJ9 0
theorem nmJ9 : ∀ a, a < 0 → ∀ b, b < 0 → a ≠ b → (TJ9 a).2.1 ≠ (TJ9 b).2.1 := by decide +kernel
theorem tyJ9_ok : ∀ k, k < 0 → parseFieldDescriptor (TJ9 k).2.2.1 = some (tyJ9 k) := by decide +kernel
abbrev cJ9_max_7cf53 : ByteArray := prog_19_method_65_code
def yJ9_max_7cf53 : MethodName := ⟨RJ9, "max", "(II)I"⟩
abbrev cJ9_min_7cf53 : ByteArray := prog_19_method_69_code
def yJ9_min_7cf53 : MethodName := ⟨RJ9, "min", "(II)I"⟩
def RJxd2413 : String := "java/lang/Number"
def TJxd2413 : u_T := fun k => match k with
  | _ => ("", "", "", false)
def tyJxd2413 : Nat → FieldType := fun k => match k with
  | _ => .int
abbrev wsJxd24130 : List Cond := u_ws RJxd2413 TJxd2413 0
theorem nmJxd2413 : ∀ a, a < 0 → ∀ b, b < 0 → a ≠ b → (TJxd2413 a).2.1 ≠ (TJxd2413 b).2.1 := by decide +kernel
theorem tyJxd2413_ok : ∀ k, k < 0 → parseFieldDescriptor (TJxd2413 k).2.2.1 = some (tyJxd2413 k) := by decide +kernel
def RJ0 : String := "java/lang/String"
def TJ0 : u_T := fun k => match k with
  | 0 => ("java/lang/String", "value", "[B", true)
  | 1 => ("java/lang/String", "coder", "B", true)
  | 2 => ("java/lang/String", "hash", "I", false)
  | _ => ("java/lang/String", "hashIsZero", "Z", false)
def tyJ0 : Nat → FieldType := fun k => match k with
  | 0 => .array .byte
  | 1 => .byte
  | 2 => .int
  | _ => .boolean
abbrev wsJ00 : List Cond := u_ws RJ0 TJ0 4
theorem nmJ0 : ∀ a, a < 4 → ∀ b, b < 4 → a ≠ b → (TJ0 a).2.1 ≠ (TJ0 b).2.1 := by decide +kernel
theorem tyJ0_ok : ∀ k, k < 4 → parseFieldDescriptor (TJ0 k).2.2.1 = some (tyJ0 k) := by decide +kernel
abbrev cJ0_init_81219 : ByteArray := prog_22_method_53_code
def yJ0_init_81219 : MethodName := ⟨RJ0, "<init>", "(Ljava/lang/StringBuilder;)V"⟩
abbrev cJ0_length_8abf5 : ByteArray := prog_22_method_54_code
def yJ0_length_8abf5 : MethodName := ⟨RJ0, "length", "()I"⟩
abbrev cJ0_getBytes_840e7 : ByteArray := prog_22_method_147_code
def yJ0_getBytes_840e7 : MethodName := ⟨RJ0, "getBytes", "([BIB)V"⟩
abbrev cJ0_init_db425 : ByteArray := prog_22_method_150_code
def yJ0_init_db425 : MethodName := ⟨RJ0, "<init>", "(Ljava/lang/AbstractStringBuilder;Ljava/lang/Void;)V"⟩
abbrev cJ0_coder_7d493 : ByteArray := prog_22_method_152_code
def yJ0_coder_7d493 : MethodName := ⟨RJ0, "coder", "()B"⟩
abbrev cJ0_checkBoundsOffCount_cabcc : ByteArray := prog_22_method_157_code
def yJ0_checkBoundsOffCount_cabcc : MethodName := ⟨RJ0, "checkBoundsOffCount", "(III)I"⟩
abbrev cJ0_checkBoundsBeginEnd_23922 : ByteArray := prog_22_method_158_code
def yJ0_checkBoundsBeginEnd_23922 : MethodName := ⟨RJ0, "checkBoundsBeginEnd", "(III)V"⟩
def RJ4 : String := "java/lang/StringBuilder"
def TJ4 : u_T := fun k => match k with
  | 0 => ("java/lang/AbstractStringBuilder", "value", "[B", false)
  | 1 => ("java/lang/AbstractStringBuilder", "coder", "B", false)
  | 2 => ("java/lang/AbstractStringBuilder", "maybeLatin1", "Z", false)
  | _ => ("java/lang/AbstractStringBuilder", "count", "I", false)
def tyJ4 : Nat → FieldType := fun k => match k with
  | 0 => .array .byte
  | 1 => .byte
  | 2 => .boolean
  | _ => .int
abbrev wsJ40 : List Cond := u_ws RJ4 TJ4 4
theorem nmJ4 : ∀ a, a < 4 → ∀ b, b < 4 → a ≠ b → (TJ4 a).2.1 ≠ (TJ4 b).2.1 := by decide +kernel
theorem tyJ4_ok : ∀ k, k < 4 → parseFieldDescriptor (TJ4 k).2.2.1 = some (tyJ4 k) := by decide +kernel
abbrev cJ4_init_da8c8 : ByteArray := prog_23_method_1_code
def yJ4_init_da8c8 : MethodName := ⟨RJ4, "<init>", "()V"⟩
abbrev cJ4_append_15ec4 : ByteArray := prog_23_method_7_code
def yJ4_append_15ec4 : MethodName := ⟨RJ4, "append", "(Ljava/lang/String;)Ljava/lang/StringBuilder;"⟩
abbrev cJ4_append_bf812 : ByteArray := prog_23_method_15_code
def yJ4_append_bf812 : MethodName := ⟨RJ4, "append", "(I)Ljava/lang/StringBuilder;"⟩
abbrev cJ4_toString_0e30d : ByteArray := prog_23_method_42_code
def yJ4_toString_0e30d : MethodName := ⟨RJ4, "toString", "()Ljava/lang/String;"⟩
abbrev cJ4_length_8abf5 : ByteArray := prog_23_method_93_code
def yJ4_length_8abf5 : MethodName := ⟨RJ4, "length", "()I"⟩
def RJ1 : String := "java/lang/StringLatin1"
def TJ1 : u_T := fun k => match k with
  | _ => ("", "", "", false)
def tyJ1 : Nat → FieldType := fun k => match k with
  | _ => .int
abbrev wsJ10 : List Cond := u_ws RJ1 TJ1 0
theorem nmJ1 : ∀ a, a < 0 → ∀ b, b < 0 → a ≠ b → (TJ1 a).2.1 ≠ (TJ1 b).2.1 := by decide +kernel
theorem tyJ1_ok : ∀ k, k < 0 → parseFieldDescriptor (TJ1 k).2.2.1 = some (tyJ1 k) := by decide +kernel
abbrev cJ1_inflate_0e8fd : ByteArray := prog_24_method_50_code
def yJ1_inflate_0e8fd : MethodName := ⟨RJ1, "inflate", "([BI[BII)V"⟩
def RJ2 : String := "java/lang/StringUTF16"
def TJ2 : u_T := fun k => match k with
  | _ => ("", "", "", false)
def tyJ2 : Nat → FieldType := fun k => match k with
  | _ => .int
abbrev wsJ20 : List Cond := u_ws RJ2 TJ2 0
theorem nmJ2 : ∀ a, a < 0 → ∀ b, b < 0 → a ≠ b → (TJ2 a).2.1 ≠ (TJ2 b).2.1 := by decide +kernel
theorem tyJ2_ok : ∀ k, k < 0 → parseFieldDescriptor (TJ2 k).2.2.1 = some (tyJ2 k) := by decide +kernel
abbrev cJ2_newBytesFor_77867 : ByteArray := prog_25_method_2_code
def yJ2_newBytesFor_77867 : MethodName := ⟨RJ2, "newBytesFor", "(I)[B"⟩
abbrev cJ2_newBytesLength_0f7a4 : ByteArray := prog_25_method_3_code
def yJ2_newBytesLength_0f7a4 : MethodName := ⟨RJ2, "newBytesLength", "(I)I"⟩
abbrev cJ2_putChar_b72d1 : ByteArray := prog_25_method_4_code
def yJ2_putChar_b72d1 : MethodName := ⟨RJ2, "putChar", "([BII)V"⟩
abbrev cJ2_getChar_3b067 : ByteArray := prog_25_method_5_code
def yJ2_getChar_3b067 : MethodName := ⟨RJ2, "getChar", "([BI)C"⟩
abbrev cJ2_length_9d52b : ByteArray := prog_25_method_6_code
def yJ2_length_9d52b : MethodName := ⟨RJ2, "length", "([B)I"⟩
abbrev cJ2_coderFromArrayLen_85cad : ByteArray := prog_25_method_15_code
def yJ2_coderFromArrayLen_85cad : MethodName := ⟨RJ2, "coderFromArrayLen", "([BI)B"⟩
abbrev cJ2_compress_39247 : ByteArray := prog_25_method_17_code
def yJ2_compress_39247 : MethodName := ⟨RJ2, "compress", "([BII)[B"⟩
abbrev cJ2_compress_5af95 : ByteArray := prog_25_method_22_code
def yJ2_compress_5af95 : MethodName := ⟨RJ2, "compress", "([BI[BII)I"⟩
abbrev cJ2_getChars_46870 : ByteArray := prog_25_method_77_code
def yJ2_getChars_46870 : MethodName := ⟨RJ2, "getChars", "(III[B)I"⟩
abbrev cJ2_putCharsAt_cd4e5 : ByteArray := prog_25_method_81_code
def yJ2_putCharsAt_cd4e5 : MethodName := ⟨RJ2, "putCharsAt", "([BICCCC)I"⟩
abbrev cJ2_inflate_0e8fd : ByteArray := prog_25_method_86_code
def yJ2_inflate_0e8fd : MethodName := ⟨RJ2, "inflate", "([BI[BII)V"⟩
abbrev cJ2_getChars_ba4f3 : ByteArray := prog_25_method_89_code
def yJ2_getChars_ba4f3 : MethodName := ⟨RJ2, "getChars", "(II[B)I"⟩
abbrev cJ2_checkBoundsBeginEnd_d044e : ByteArray := prog_25_method_93_code
def yJ2_checkBoundsBeginEnd_d044e : MethodName := ⟨RJ2, "checkBoundsBeginEnd", "(II[B)V"⟩
abbrev cJ2_checkBoundsOffCount_d044e : ByteArray := prog_25_method_94_code
def yJ2_checkBoundsOffCount_d044e : MethodName := ⟨RJ2, "checkBoundsOffCount", "(II[B)V"⟩
def RJ10 : String := "java/lang/System"
def TJ10 : u_T := fun k => match k with
  | _ => ("", "", "", false)
def tyJ10 : Nat → FieldType := fun k => match k with
  | _ => .int
abbrev wsJ100 : List Cond := u_ws RJ10 TJ10 0
theorem nmJ10 : ∀ a, a < 0 → ∀ b, b < 0 → a ≠ b → (TJ10 a).2.1 ≠ (TJ10 b).2.1 := by decide +kernel
theorem tyJ10_ok : ∀ k, k < 0 → parseFieldDescriptor (TJ10 k).2.2.1 = some (tyJ10 k) := by decide +kernel
def RJxfd54e : String := "java/lang/constant/Constable"
def TJxfd54e : u_T := fun k => match k with
  | _ => ("", "", "", false)
def tyJxfd54e : Nat → FieldType := fun k => match k with
  | _ => .int
abbrev wsJxfd54e0 : List Cond := u_ws RJxfd54e TJxfd54e 0
theorem nmJxfd54e : ∀ a, a < 0 → ∀ b, b < 0 → a ≠ b → (TJxfd54e a).2.1 ≠ (TJxfd54e b).2.1 := by decide +kernel
theorem tyJxfd54e_ok : ∀ k, k < 0 → parseFieldDescriptor (TJxfd54e k).2.2.1 = some (tyJxfd54e k) := by decide +kernel
def RJx3cf43 : String := "java/lang/constant/ConstantDesc"
def TJx3cf43 : u_T := fun k => match k with
  | _ => ("", "", "", false)
def tyJx3cf43 : Nat → FieldType := fun k => match k with
  | _ => .int
abbrev wsJx3cf430 : List Cond := u_ws RJx3cf43 TJx3cf43 0
theorem nmJx3cf43 : ∀ a, a < 0 → ∀ b, b < 0 → a ≠ b → (TJx3cf43 a).2.1 ≠ (TJx3cf43 b).2.1 := by decide +kernel
theorem tyJx3cf43_ok : ∀ k, k < 0 → parseFieldDescriptor (TJx3cf43 k).2.2.1 = some (tyJx3cf43 k) := by decide +kernel
def RJxa1e45 : String := "java/util/AbstractCollection"
def TJxa1e45 : u_T := fun k => match k with
  | _ => ("", "", "", false)
def tyJxa1e45 : Nat → FieldType := fun k => match k with
  | _ => .int
abbrev wsJxa1e450 : List Cond := u_ws RJxa1e45 TJxa1e45 0
theorem nmJxa1e45 : ∀ a, a < 0 → ∀ b, b < 0 → a ≠ b → (TJxa1e45 a).2.1 ≠ (TJxa1e45 b).2.1 := by decide +kernel
theorem tyJxa1e45_ok : ∀ k, k < 0 → parseFieldDescriptor (TJxa1e45 k).2.2.1 = some (tyJxa1e45 k) := by decide +kernel
abbrev cJxa1e45_init_da8c8 : ByteArray := prog_30_method_1_code
def yJxa1e45_init_da8c8 : MethodName := ⟨RJxa1e45, "<init>", "()V"⟩
def RJxc12de : String := "java/util/AbstractList"
def TJxc12de : u_T := fun k => match k with
  | _ => ("", "", "", false)
def tyJxc12de : Nat → FieldType := fun k => match k with
  | _ => .int
abbrev wsJxc12de0 : List Cond := u_ws RJxc12de TJxc12de 0
theorem nmJxc12de : ∀ a, a < 0 → ∀ b, b < 0 → a ≠ b → (TJxc12de a).2.1 ≠ (TJxc12de b).2.1 := by decide +kernel
theorem tyJxc12de_ok : ∀ k, k < 0 → parseFieldDescriptor (TJxc12de k).2.2.1 = some (tyJxc12de k) := by decide +kernel
abbrev cJxc12de_init_da8c8 : ByteArray := prog_31_method_1_code
def yJxc12de_init_da8c8 : MethodName := ⟨RJxc12de, "<init>", "()V"⟩
def RJx4a65c : String := "java/util/ArrayList"
def TJx4a65c : u_T := fun k => match k with
  | 0 => ("java/util/AbstractList", "modCount", "I", false)
  | 1 => ("java/util/ArrayList", "elementData", "[Ljava/lang/Object;", false)
  | _ => ("java/util/ArrayList", "size", "I", false)
def tyJx4a65c : Nat → FieldType := fun k => match k with
  | 0 => .int
  | 1 => .array (.object "java/lang/Object")
  | _ => .int
abbrev wsJx4a65c0 : List Cond := u_ws RJx4a65c TJx4a65c 3
theorem nmJx4a65c : ∀ a, a < 3 → ∀ b, b < 3 → a ≠ b → (TJx4a65c a).2.1 ≠ (TJx4a65c b).2.1 := by decide +kernel
theorem tyJx4a65c_ok : ∀ k, k < 3 → parseFieldDescriptor (TJx4a65c k).2.2.1 = some (tyJx4a65c k) := by decide +kernel
abbrev cJx4a65c_init_da8c8 : ByteArray := prog_32_method_2_code
def yJx4a65c_init_da8c8 : MethodName := ⟨RJx4a65c, "<init>", "()V"⟩
abbrev cJx4a65c_grow_92f84 : ByteArray := prog_32_method_6_code
def yJx4a65c_grow_92f84 : MethodName := ⟨RJx4a65c, "grow", "(I)[Ljava/lang/Object;"⟩
abbrev cJx4a65c_grow_d5877 : ByteArray := prog_32_method_7_code
def yJx4a65c_grow_d5877 : MethodName := ⟨RJx4a65c, "grow", "()[Ljava/lang/Object;"⟩
abbrev cJx4a65c_size_8abf5 : ByteArray := prog_32_method_8_code
def yJx4a65c_size_8abf5 : MethodName := ⟨RJx4a65c, "size", "()I"⟩
abbrev cJx4a65c_isEmpty_aae02 : ByteArray := prog_32_method_9_code
def yJx4a65c_isEmpty_aae02 : MethodName := ⟨RJx4a65c, "isEmpty", "()Z"⟩
abbrev cJx4a65c_elementData_915e3 : ByteArray := prog_32_method_18_code
def yJx4a65c_elementData_915e3 : MethodName := ⟨RJx4a65c, "elementData", "(I)Ljava/lang/Object;"⟩
abbrev cJx4a65c_get_915e3 : ByteArray := prog_32_method_20_code
def yJx4a65c_get_915e3 : MethodName := ⟨RJx4a65c, "get", "(I)Ljava/lang/Object;"⟩
abbrev cJx4a65c_add_72be8 : ByteArray := prog_32_method_24_code
def yJx4a65c_add_72be8 : MethodName := ⟨RJx4a65c, "add", "(Ljava/lang/Object;[Ljava/lang/Object;I)V"⟩
abbrev cJx4a65c_add_9ea2d : ByteArray := prog_32_method_25_code
def yJx4a65c_add_9ea2d : MethodName := ⟨RJx4a65c, "add", "(Ljava/lang/Object;)Z"⟩
abbrev cJx4a65c_add_7a177 : ByteArray := prog_32_method_26_code
def yJx4a65c_add_7a177 : MethodName := ⟨RJx4a65c, "add", "(ILjava/lang/Object;)V"⟩
abbrev cJx4a65c_remove_915e3 : ByteArray := prog_32_method_29_code
def yJx4a65c_remove_915e3 : MethodName := ⟨RJx4a65c, "remove", "(I)Ljava/lang/Object;"⟩
abbrev cJx4a65c_fastRemove_b59b0 : ByteArray := prog_32_method_39_code
def yJx4a65c_fastRemove_b59b0 : MethodName := ⟨RJx4a65c, "fastRemove", "([Ljava/lang/Object;I)V"⟩
abbrev cJx4a65c_rangeCheckForAdd_d00df : ByteArray := prog_32_method_45_code
def yJx4a65c_rangeCheckForAdd_d00df : MethodName := ⟨RJx4a65c, "rangeCheckForAdd", "(I)V"⟩
abbrev cJx4a65c_outOfBoundsMsg_b52d3 : ByteArray := prog_32_method_46_code
def yJx4a65c_outOfBoundsMsg_b52d3 : MethodName := ⟨RJx4a65c, "outOfBoundsMsg", "(I)Ljava/lang/String;"⟩
def RJ7 : String := "java/util/Arrays"
def TJ7 : u_T := fun k => match k with
  | _ => ("", "", "", false)
def tyJ7 : Nat → FieldType := fun k => match k with
  | _ => .int
abbrev wsJ70 : List Cond := u_ws RJ7 TJ7 0
theorem nmJ7 : ∀ a, a < 0 → ∀ b, b < 0 → a ≠ b → (TJ7 a).2.1 ≠ (TJ7 b).2.1 := by decide +kernel
theorem tyJ7_ok : ∀ k, k < 0 → parseFieldDescriptor (TJ7 k).2.2.1 = some (tyJ7 k) := by decide +kernel
abbrev cJ7_copyOf_1904c : ByteArray := prog_33_method_119_code
def yJ7_copyOf_1904c : MethodName := ⟨RJ7, "copyOf", "([Ljava/lang/Object;I)[Ljava/lang/Object;"⟩
abbrev cJ7_copyOf_6403c : ByteArray := prog_33_method_120_code
def yJ7_copyOf_6403c : MethodName := ⟨RJ7, "copyOf", "([Ljava/lang/Object;ILjava/lang/Class;)[Ljava/lang/Object;"⟩
abbrev cJ7_copyOf_9075b : ByteArray := prog_33_method_121_code
def yJ7_copyOf_9075b : MethodName := ⟨RJ7, "copyOf", "([BI)[B"⟩
abbrev cJ7_checkLength_df160 : ByteArray := prog_33_method_131_code
def yJ7_checkLength_df160 : MethodName := ⟨RJ7, "checkLength", "(II)V"⟩
abbrev cJ7_copyOfRange_39247 : ByteArray := prog_33_method_132_code
def yJ7_copyOfRange_39247 : MethodName := ⟨RJ7, "copyOfRange", "([BII)[B"⟩
abbrev cJ7_copyOfRangeByte_39247 : ByteArray := prog_33_method_133_code
def yJ7_copyOfRangeByte_39247 : MethodName := ⟨RJ7, "copyOfRangeByte", "([BII)[B"⟩
def RJx5ef63 : String := "java/util/Collection"
def TJx5ef63 : u_T := fun k => match k with
  | _ => ("", "", "", false)
def tyJx5ef63 : Nat → FieldType := fun k => match k with
  | _ => .int
abbrev wsJx5ef630 : List Cond := u_ws RJx5ef63 TJx5ef63 0
theorem nmJx5ef63 : ∀ a, a < 0 → ∀ b, b < 0 → a ≠ b → (TJx5ef63 a).2.1 ≠ (TJx5ef63 b).2.1 := by decide +kernel
theorem tyJx5ef63_ok : ∀ k, k < 0 → parseFieldDescriptor (TJx5ef63 k).2.2.1 = some (tyJx5ef63 k) := by decide +kernel
def RJxbd725 : String := "java/util/List"
def TJxbd725 : u_T := fun k => match k with
  | _ => ("", "", "", false)
def tyJxbd725 : Nat → FieldType := fun k => match k with
  | _ => .int
abbrev wsJxbd7250 : List Cond := u_ws RJxbd725 TJxbd725 0
theorem nmJxbd725 : ∀ a, a < 0 → ∀ b, b < 0 → a ≠ b → (TJxbd725 a).2.1 ≠ (TJxbd725 b).2.1 := by decide +kernel
theorem tyJxbd725_ok : ∀ k, k < 0 → parseFieldDescriptor (TJxbd725 k).2.2.1 = some (tyJxbd725 k) := by decide +kernel
def RJ15 : String := "java/util/Objects"
def TJ15 : u_T := fun k => match k with
  | _ => ("", "", "", false)
def tyJ15 : Nat → FieldType := fun k => match k with
  | _ => .int
abbrev wsJ150 : List Cond := u_ws RJ15 TJ15 0
theorem nmJ15 : ∀ a, a < 0 → ∀ b, b < 0 → a ≠ b → (TJ15 a).2.1 ≠ (TJ15 b).2.1 := by decide +kernel
theorem tyJ15_ok : ∀ k, k < 0 → parseFieldDescriptor (TJ15 k).2.2.1 = some (tyJ15 k) := by decide +kernel
abbrev cJ15_checkIndex_7cf53 : ByteArray := prog_36_method_17_code
def yJ15_checkIndex_7cf53 : MethodName := ⟨RJ15, "checkIndex", "(II)I"⟩
def RJxf0a74 : String := "java/util/RandomAccess"
def TJxf0a74 : u_T := fun k => match k with
  | _ => ("", "", "", false)
def tyJxf0a74 : Nat → FieldType := fun k => match k with
  | _ => .int
abbrev wsJxf0a740 : List Cond := u_ws RJxf0a74 TJxf0a74 0
theorem nmJxf0a74 : ∀ a, a < 0 → ∀ b, b < 0 → a ≠ b → (TJxf0a74 a).2.1 ≠ (TJxf0a74 b).2.1 := by decide +kernel
theorem tyJxf0a74_ok : ∀ k, k < 0 → parseFieldDescriptor (TJxf0a74 k).2.2.1 = some (tyJxf0a74 k) := by decide +kernel
def RJxa66e6 : String := "java/util/SequencedCollection"
def TJxa66e6 : u_T := fun k => match k with
  | _ => ("", "", "", false)
def tyJxa66e6 : Nat → FieldType := fun k => match k with
  | _ => .int
abbrev wsJxa66e60 : List Cond := u_ws RJxa66e6 TJxa66e6 0
theorem nmJxa66e6 : ∀ a, a < 0 → ∀ b, b < 0 → a ≠ b → (TJxa66e6 a).2.1 ≠ (TJxa66e6 b).2.1 := by decide +kernel
theorem tyJxa66e6_ok : ∀ k, k < 0 → parseFieldDescriptor (TJxa66e6 k).2.2.1 = some (tyJxa66e6 k) := by decide +kernel
def RJ8 : String := "jdk/internal/util/ArraysSupport"
def TJ8 : u_T := fun k => match k with
  | _ => ("", "", "", false)
def tyJ8 : Nat → FieldType := fun k => match k with
  | _ => .int
abbrev wsJ80 : List Cond := u_ws RJ8 TJ8 0
theorem nmJ8 : ∀ a, a < 0 → ∀ b, b < 0 → a ≠ b → (TJ8 a).2.1 ≠ (TJ8 b).2.1 := by decide +kernel
theorem tyJ8_ok : ∀ k, k < 0 → parseFieldDescriptor (TJ8 k).2.2.1 = some (tyJ8 k) := by decide +kernel
abbrev cJ8_newLength_cabcc : ByteArray := prog_39_method_27_code
def yJ8_newLength_cabcc : MethodName := ⟨RJ8, "newLength", "(III)I"⟩
abbrev cJ8_hugeLength_7cf53 : ByteArray := prog_39_method_28_code
def yJ8_hugeLength_7cf53 : MethodName := ⟨RJ8, "hugeLength", "(II)I"⟩
def RJ3 : String := "jdk/internal/util/Preconditions"
def TJ3 : u_T := fun k => match k with
  | _ => ("", "", "", false)
def tyJ3 : Nat → FieldType := fun k => match k with
  | _ => .int
abbrev wsJ30 : List Cond := u_ws RJ3 TJ3 0
theorem nmJ3 : ∀ a, a < 0 → ∀ b, b < 0 → a ≠ b → (TJ3 a).2.1 ≠ (TJ3 b).2.1 := by decide +kernel
theorem tyJ3_ok : ∀ k, k < 0 → parseFieldDescriptor (TJ3 k).2.2.1 = some (tyJ3 k) := by decide +kernel
abbrev cJ3_checkIndex_8e157 : ByteArray := prog_40_method_11_code
def yJ3_checkIndex_8e157 : MethodName := ⟨RJ3, "checkIndex", "(IILjava/util/function/BiFunction;)I"⟩
abbrev cJ3_checkFromToIndex_8c36e : ByteArray := prog_40_method_12_code
def yJ3_checkFromToIndex_8c36e : MethodName := ⟨RJ3, "checkFromToIndex", "(IIILjava/util/function/BiFunction;)I"⟩
abbrev cJ3_checkFromIndexSize_8c36e : ByteArray := prog_40_method_13_code
def yJ3_checkFromIndexSize_8c36e : MethodName := ⟨RJ3, "checkFromIndexSize", "(IIILjava/util/function/BiFunction;)I"⟩
def RL : String := "SusuRingLaw"
abbrev cL_person : ByteArray := method_3_code
def yL_person : MethodName := ⟨RL, "person", "(LSusuRing;II[J)I"⟩
abbrev cL_earn : ByteArray := method_4_code
def yL_earn : MethodName := ⟨RL, "earn", "(LSusuRing;II[J)I"⟩
abbrev cL_die : ByteArray := method_5_code
def yL_die : MethodName := ⟨RL, "die", "(LSusuRing;II[J)I"⟩
abbrev cL_circle : ByteArray := method_6_code
def yL_circle : MethodName := ⟨RL, "circle", "(LSusuRing;II[J)I"⟩
abbrev cL_enter : ByteArray := method_7_code
def yL_enter : MethodName := ⟨RL, "enter", "(LSusuRing;II[J)I"⟩
abbrev cL_start : ByteArray := method_8_code
def yL_start : MethodName := ⟨RL, "start", "(LSusuRing;II[J)I"⟩
abbrev cL_want : ByteArray := method_9_code
def yL_want : MethodName := ⟨RL, "want", "(LSusuRing;IIIZ[J)I"⟩
abbrev cL_meet : ByteArray := method_10_code
def yL_meet : MethodName := ⟨RL, "meet", "(LSusuRing;IZ[J)I"⟩
abbrev cL_leave : ByteArray := method_11_code
def yL_leave : MethodName := ⟨RL, "leave", "(LSusuRing;II[J)I"⟩
abbrev cL_buy : ByteArray := method_12_code
def yL_buy : MethodName := ⟨RL, "buy", "(LSusuRing;II[J)I"⟩
abbrev cL_borrow : ByteArray := method_13_code
def yL_borrow : MethodName := ⟨RL, "borrow", "(LSusuRing;IIII[J)I"⟩
abbrev cL_repay : ByteArray := method_14_code
def yL_repay : MethodName := ⟨RL, "repay", "(LSusuRing;II[J)I"⟩
abbrev cL_feast : ByteArray := method_15_code
def yL_feast : MethodName := ⟨RL, "feast", "(LSusuRing;[J)I"⟩
abbrev cL_note : ByteArray := method_16_code
def yL_note : MethodName := ⟨RL, "note", "(LSusuRing;III[J)I"⟩
abbrev cL_audit : ByteArray := method_17_code
def yL_audit : MethodName := ⟨RL, "audit", "(LSusuRing;I[J)I"⟩
abbrev cL_of : ByteArray := method_18_code
def yL_of : MethodName := ⟨RL, "of", "(LSusuRing;II[J)I"⟩
abbrev cL_member : ByteArray := method_19_code
def yL_member : MethodName := ⟨RL, "member", "(LSusuRing;III[J)I"⟩
abbrev cL_ofCircle : ByteArray := method_20_code
def yL_ofCircle : MethodName := ⟨RL, "ofCircle", "(LSusuRing;II[J)I"⟩
abbrev cL_law : ByteArray := code
def yL_law : MethodName := ⟨RL, "law", "([I)Z"⟩
theorem dX0_init_0 : decode cX0_init 0 = .ok (.aload_n 0, 1) := by decide +kernel
theorem dX0_init_1 : decode cX0_init 1 = .ok (.invokespecial 3, 3) := by decide +kernel
theorem dX0_init_4 : decode cX0_init 4 = .ok (.aload_n 0, 1) := by decide +kernel
theorem dX0_init_5 : decode cX0_init 5 = .ok (.iload_n 1, 1) := by decide +kernel
theorem dX0_init_6 : decode cX0_init 6 = .ok (.putfield 9, 3) := by decide +kernel
theorem dX0_init_9 : decode cX0_init 9 = .ok (.aload_n 0, 1) := by decide +kernel
theorem dX0_init_10 : decode cX0_init 10 = .ok (.iload_n 2, 1) := by decide +kernel
theorem dX0_init_11 : decode cX0_init 11 = .ok (.putfield 15, 3) := by decide +kernel
theorem dX0_init_14 : decode cX0_init 14 = .ok (.aload_n 0, 1) := by decide +kernel
theorem dX0_init_15 : decode cX0_init 15 = .ok (.new 18, 3) := by decide +kernel
theorem dX0_init_18 : decode cX0_init 18 = .ok (.dup, 1) := by decide +kernel
theorem dX0_init_19 : decode cX0_init 19 = .ok (.invokespecial 20, 3) := by decide +kernel
theorem dX0_init_22 : decode cX0_init 22 = .ok (.putfield 21, 3) := by decide +kernel
theorem dX0_init_25 : decode cX0_init 25 = .ok (.aload_n 0, 1) := by decide +kernel
theorem dX0_init_26 : decode cX0_init 26 = .ok (.new 18, 3) := by decide +kernel
theorem dX0_init_29 : decode cX0_init 29 = .ok (.dup, 1) := by decide +kernel
theorem dX0_init_30 : decode cX0_init 30 = .ok (.invokespecial 20, 3) := by decide +kernel
theorem dX0_init_33 : decode cX0_init 33 = .ok (.putfield 25, 3) := by decide +kernel
theorem dX0_init_36 : decode cX0_init 36 = .ok (.return_, 1) := by decide +kernel
theorem dX0_hasOrder_0 : decode cX0_hasOrder 0 = .ok (.aload_n 0, 1) := by decide +kernel
theorem dX0_hasOrder_1 : decode cX0_hasOrder 1 = .ok (.getfield 15, 3) := by decide +kernel
theorem dX0_hasOrder_4 : decode cX0_hasOrder 4 = .ok (.ifCond .eq 11, 3) := by decide +kernel
theorem dX0_hasOrder_7 : decode cX0_hasOrder 7 = .ok (.aload_n 0, 1) := by decide +kernel
theorem dX0_hasOrder_8 : decode cX0_hasOrder 8 = .ok (.getfield 15, 3) := by decide +kernel
theorem dX0_hasOrder_11 : decode cX0_hasOrder 11 = .ok (.iconst 1, 1) := by decide +kernel
theorem dX0_hasOrder_12 : decode cX0_hasOrder 12 = .ok (.if_icmp .ne 7, 3) := by decide +kernel
theorem dX0_hasOrder_15 : decode cX0_hasOrder 15 = .ok (.iconst 1, 1) := by decide +kernel
theorem dX0_hasOrder_16 : decode cX0_hasOrder 16 = .ok (.goto 4, 3) := by decide +kernel
theorem dX0_hasOrder_19 : decode cX0_hasOrder 19 = .ok (.iconst 0, 1) := by decide +kernel
theorem dX0_hasOrder_20 : decode cX0_hasOrder 20 = .ok (.ireturn, 1) := by decide +kernel
theorem dX0_indexOf_0 : decode cX0_indexOf 0 = .ok (.iconst 0, 1) := by decide +kernel
theorem dX0_indexOf_1 : decode cX0_indexOf 1 = .ok (.istore_n 2, 1) := by decide +kernel
theorem dX0_indexOf_2 : decode cX0_indexOf 2 = .ok (.iload_n 2, 1) := by decide +kernel
theorem dX0_indexOf_3 : decode cX0_indexOf 3 = .ok (.aload_n 0, 1) := by decide +kernel
theorem dX0_indexOf_4 : decode cX0_indexOf 4 = .ok (.getfield 21, 3) := by decide +kernel
theorem dX0_indexOf_7 : decode cX0_indexOf 7 = .ok (.invokevirtual 28, 3) := by decide +kernel
theorem dX0_indexOf_10 : decode cX0_indexOf 10 = .ok (.if_icmp .ge 29, 3) := by decide +kernel
theorem dX0_indexOf_13 : decode cX0_indexOf 13 = .ok (.aload_n 0, 1) := by decide +kernel
theorem dX0_indexOf_14 : decode cX0_indexOf 14 = .ok (.getfield 21, 3) := by decide +kernel
theorem dX0_indexOf_17 : decode cX0_indexOf 17 = .ok (.iload_n 2, 1) := by decide +kernel
theorem dX0_indexOf_18 : decode cX0_indexOf 18 = .ok (.invokevirtual 32, 3) := by decide +kernel
theorem dX0_indexOf_21 : decode cX0_indexOf 21 = .ok (.checkcast 36, 3) := by decide +kernel
theorem dX0_indexOf_24 : decode cX0_indexOf 24 = .ok (.getfield 38, 3) := by decide +kernel
theorem dX0_indexOf_27 : decode cX0_indexOf 27 = .ok (.aload_n 1, 1) := by decide +kernel
theorem dX0_indexOf_28 : decode cX0_indexOf 28 = .ok (.if_acmp .ne 5, 3) := by decide +kernel
theorem dX0_indexOf_31 : decode cX0_indexOf 31 = .ok (.iload_n 2, 1) := by decide +kernel
theorem dX0_indexOf_32 : decode cX0_indexOf 32 = .ok (.ireturn, 1) := by decide +kernel
theorem dX0_indexOf_33 : decode cX0_indexOf 33 = .ok (.iinc 2 1, 3) := by decide +kernel
theorem dX0_indexOf_36 : decode cX0_indexOf 36 = .ok (.goto (-34), 3) := by decide +kernel
theorem dX0_indexOf_39 : decode cX0_indexOf 39 = .ok (.iconst (-1), 1) := by decide +kernel
theorem dX0_indexOf_40 : decode cX0_indexOf 40 = .ok (.ireturn, 1) := by decide +kernel
theorem dX0_placeOf_0 : decode cX0_placeOf 0 = .ok (.aload_n 0, 1) := by decide +kernel
theorem dX0_placeOf_1 : decode cX0_placeOf 1 = .ok (.aload_n 1, 1) := by decide +kernel
theorem dX0_placeOf_2 : decode cX0_placeOf 2 = .ok (.invokevirtual 42, 3) := by decide +kernel
theorem dX0_placeOf_5 : decode cX0_placeOf 5 = .ok (.istore_n 2, 1) := by decide +kernel
theorem dX0_placeOf_6 : decode cX0_placeOf 6 = .ok (.iload_n 2, 1) := by decide +kernel
theorem dX0_placeOf_7 : decode cX0_placeOf 7 = .ok (.ifCond .lt 28, 3) := by decide +kernel
theorem dX0_placeOf_10 : decode cX0_placeOf 10 = .ok (.iload_n 2, 1) := by decide +kernel
theorem dX0_placeOf_11 : decode cX0_placeOf 11 = .ok (.aload_n 0, 1) := by decide +kernel
theorem dX0_placeOf_12 : decode cX0_placeOf 12 = .ok (.getfield 21, 3) := by decide +kernel
theorem dX0_placeOf_15 : decode cX0_placeOf 15 = .ok (.invokevirtual 28, 3) := by decide +kernel
theorem dX0_placeOf_18 : decode cX0_placeOf 18 = .ok (.if_icmp .ge 17, 3) := by decide +kernel
theorem dX0_placeOf_21 : decode cX0_placeOf 21 = .ok (.aload_n 0, 1) := by decide +kernel
theorem dX0_placeOf_22 : decode cX0_placeOf 22 = .ok (.getfield 21, 3) := by decide +kernel
theorem dX0_placeOf_25 : decode cX0_placeOf 25 = .ok (.iload_n 2, 1) := by decide +kernel
theorem dX0_placeOf_26 : decode cX0_placeOf 26 = .ok (.invokevirtual 32, 3) := by decide +kernel
theorem dX0_placeOf_29 : decode cX0_placeOf 29 = .ok (.checkcast 36, 3) := by decide +kernel
theorem dX0_placeOf_32 : decode cX0_placeOf 32 = .ok (.goto 4, 3) := by decide +kernel
theorem dX0_placeOf_35 : decode cX0_placeOf 35 = .ok (.aconst_null, 1) := by decide +kernel
theorem dX0_placeOf_36 : decode cX0_placeOf 36 = .ok (.areturn, 1) := by decide +kernel
theorem dX0_makeOrder_0 : decode cX0_makeOrder 0 = .ok (.iconst 0, 1) := by decide +kernel
theorem dX0_makeOrder_1 : decode cX0_makeOrder 1 = .ok (.istore_n 2, 1) := by decide +kernel
theorem dX0_makeOrder_2 : decode cX0_makeOrder 2 = .ok (.iload_n 2, 1) := by decide +kernel
theorem dX0_makeOrder_3 : decode cX0_makeOrder 3 = .ok (.aload_n 0, 1) := by decide +kernel
theorem dX0_makeOrder_4 : decode cX0_makeOrder 4 = .ok (.getfield 21, 3) := by decide +kernel
theorem dX0_makeOrder_7 : decode cX0_makeOrder 7 = .ok (.invokevirtual 28, 3) := by decide +kernel
theorem dX0_makeOrder_10 : decode cX0_makeOrder 10 = .ok (.if_icmp .ge 35, 3) := by decide +kernel
theorem dX0_makeOrder_13 : decode cX0_makeOrder 13 = .ok (.aload_n 0, 1) := by decide +kernel
theorem dX0_makeOrder_14 : decode cX0_makeOrder 14 = .ok (.invokevirtual 46, 3) := by decide +kernel
theorem dX0_makeOrder_17 : decode cX0_makeOrder 17 = .ok (.ifCond .eq 28, 3) := by decide +kernel
theorem dX0_makeOrder_20 : decode cX0_makeOrder 20 = .ok (.aload_n 0, 1) := by decide +kernel
theorem dX0_makeOrder_21 : decode cX0_makeOrder 21 = .ok (.getfield 25, 3) := by decide +kernel
theorem dX0_makeOrder_24 : decode cX0_makeOrder 24 = .ok (.aload_n 0, 1) := by decide +kernel
theorem dX0_makeOrder_25 : decode cX0_makeOrder 25 = .ok (.getfield 21, 3) := by decide +kernel
theorem dX0_makeOrder_28 : decode cX0_makeOrder 28 = .ok (.iload_n 2, 1) := by decide +kernel
theorem dX0_makeOrder_29 : decode cX0_makeOrder 29 = .ok (.invokevirtual 32, 3) := by decide +kernel
theorem dX0_makeOrder_32 : decode cX0_makeOrder 32 = .ok (.checkcast 36, 3) := by decide +kernel
theorem dX0_makeOrder_35 : decode cX0_makeOrder 35 = .ok (.invokevirtual 50, 3) := by decide +kernel
theorem dX0_makeOrder_38 : decode cX0_makeOrder 38 = .ok (.pop, 1) := by decide +kernel
theorem dX0_makeOrder_39 : decode cX0_makeOrder 39 = .ok (.iinc 2 1, 3) := by decide +kernel
theorem dX0_makeOrder_42 : decode cX0_makeOrder 42 = .ok (.goto (-40), 3) := by decide +kernel
theorem dX0_makeOrder_45 : decode cX0_makeOrder 45 = .ok (.aload_n 0, 1) := by decide +kernel
theorem dX0_makeOrder_46 : decode cX0_makeOrder 46 = .ok (.getfield 25, 3) := by decide +kernel
theorem dX0_makeOrder_49 : decode cX0_makeOrder 49 = .ok (.invokevirtual 28, 3) := by decide +kernel
theorem dX0_makeOrder_52 : decode cX0_makeOrder 52 = .ok (.istore_n 2, 1) := by decide +kernel
theorem dX0_makeOrder_53 : decode cX0_makeOrder 53 = .ok (.iconst 0, 1) := by decide +kernel
theorem dX0_makeOrder_54 : decode cX0_makeOrder 54 = .ok (.istore_n 3, 1) := by decide +kernel
theorem dX0_makeOrder_55 : decode cX0_makeOrder 55 = .ok (.iload_n 3, 1) := by decide +kernel
theorem dX0_makeOrder_56 : decode cX0_makeOrder 56 = .ok (.iload_n 2, 1) := by decide +kernel
theorem dX0_makeOrder_57 : decode cX0_makeOrder 57 = .ok (.if_icmp .ge 84, 3) := by decide +kernel
theorem dX0_makeOrder_60 : decode cX0_makeOrder 60 = .ok (.aload_n 0, 1) := by decide +kernel
theorem dX0_makeOrder_61 : decode cX0_makeOrder 61 = .ok (.getfield 15, 3) := by decide +kernel
theorem dX0_makeOrder_64 : decode cX0_makeOrder 64 = .ok (.ifCond .ne 12, 3) := by decide +kernel
theorem dX0_makeOrder_67 : decode cX0_makeOrder 67 = .ok (.aload_n 0, 1) := by decide +kernel
theorem dX0_makeOrder_68 : decode cX0_makeOrder 68 = .ok (.iload_n 1, 1) := by decide +kernel
theorem dX0_makeOrder_69 : decode cX0_makeOrder 69 = .ok (.iload_n 3, 1) := by decide +kernel
theorem dX0_makeOrder_70 : decode cX0_makeOrder 70 = .ok (.invokevirtual 54, 3) := by decide +kernel
theorem dX0_makeOrder_73 : decode cX0_makeOrder 73 = .ok (.goto 8, 3) := by decide +kernel
theorem dX0_makeOrder_76 : decode cX0_makeOrder 76 = .ok (.aload_n 0, 1) := by decide +kernel
theorem dX0_makeOrder_77 : decode cX0_makeOrder 77 = .ok (.iload_n 3, 1) := by decide +kernel
theorem dX0_makeOrder_78 : decode cX0_makeOrder 78 = .ok (.invokevirtual 58, 3) := by decide +kernel
theorem dX0_makeOrder_81 : decode cX0_makeOrder 81 = .ok (.istore 4, 2) := by decide +kernel
theorem dX0_makeOrder_83 : decode cX0_makeOrder 83 = .ok (.iload 4, 2) := by decide +kernel
theorem dX0_makeOrder_85 : decode cX0_makeOrder 85 = .ok (.iload_n 3, 1) := by decide +kernel
theorem dX0_makeOrder_86 : decode cX0_makeOrder 86 = .ok (.if_icmp .lt 49, 3) := by decide +kernel
theorem dX0_makeOrder_89 : decode cX0_makeOrder 89 = .ok (.iload 4, 2) := by decide +kernel
theorem dX0_makeOrder_91 : decode cX0_makeOrder 91 = .ok (.aload_n 0, 1) := by decide +kernel
theorem dX0_makeOrder_92 : decode cX0_makeOrder 92 = .ok (.getfield 25, 3) := by decide +kernel
theorem dX0_makeOrder_95 : decode cX0_makeOrder 95 = .ok (.invokevirtual 28, 3) := by decide +kernel
theorem dX0_makeOrder_98 : decode cX0_makeOrder 98 = .ok (.if_icmp .ge 37, 3) := by decide +kernel
theorem dX0_makeOrder_101 : decode cX0_makeOrder 101 = .ok (.aload_n 0, 1) := by decide +kernel
theorem dX0_makeOrder_102 : decode cX0_makeOrder 102 = .ok (.getfield 25, 3) := by decide +kernel
theorem dX0_makeOrder_105 : decode cX0_makeOrder 105 = .ok (.iload 4, 2) := by decide +kernel
theorem dX0_makeOrder_107 : decode cX0_makeOrder 107 = .ok (.invokevirtual 32, 3) := by decide +kernel
theorem dX0_makeOrder_110 : decode cX0_makeOrder 110 = .ok (.checkcast 36, 3) := by decide +kernel
theorem dX0_makeOrder_113 : decode cX0_makeOrder 113 = .ok (.astore 5, 2) := by decide +kernel
theorem dX0_makeOrder_115 : decode cX0_makeOrder 115 = .ok (.aload_n 0, 1) := by decide +kernel
theorem dX0_makeOrder_116 : decode cX0_makeOrder 116 = .ok (.getfield 25, 3) := by decide +kernel
theorem dX0_makeOrder_119 : decode cX0_makeOrder 119 = .ok (.iload 4, 2) := by decide +kernel
theorem dX0_makeOrder_121 : decode cX0_makeOrder 121 = .ok (.invokevirtual 62, 3) := by decide +kernel
theorem dX0_makeOrder_124 : decode cX0_makeOrder 124 = .ok (.pop, 1) := by decide +kernel
theorem dX0_makeOrder_125 : decode cX0_makeOrder 125 = .ok (.aload_n 0, 1) := by decide +kernel
theorem dX0_makeOrder_126 : decode cX0_makeOrder 126 = .ok (.getfield 25, 3) := by decide +kernel
theorem dX0_makeOrder_129 : decode cX0_makeOrder 129 = .ok (.iload_n 3, 1) := by decide +kernel
theorem dX0_makeOrder_130 : decode cX0_makeOrder 130 = .ok (.aload 5, 2) := by decide +kernel
theorem dX0_makeOrder_132 : decode cX0_makeOrder 132 = .ok (.invokevirtual 65, 3) := by decide +kernel
theorem dX0_makeOrder_135 : decode cX0_makeOrder 135 = .ok (.iinc 3 1, 3) := by decide +kernel
theorem dX0_makeOrder_138 : decode cX0_makeOrder 138 = .ok (.goto (-83), 3) := by decide +kernel
theorem dX0_makeOrder_141 : decode cX0_makeOrder 141 = .ok (.return_, 1) := by decide +kernel
theorem dX0_drawn_0 : decode cX0_drawn 0 = .ok (.aload_n 0, 1) := by decide +kernel
theorem dX0_drawn_1 : decode cX0_drawn 1 = .ok (.getfield 25, 3) := by decide +kernel
theorem dX0_drawn_4 : decode cX0_drawn 4 = .ok (.invokevirtual 28, 3) := by decide +kernel
theorem dX0_drawn_7 : decode cX0_drawn 7 = .ok (.iload_n 2, 1) := by decide +kernel
theorem dX0_drawn_8 : decode cX0_drawn 8 = .ok (.isub, 1) := by decide +kernel
theorem dX0_drawn_9 : decode cX0_drawn 9 = .ok (.istore_n 3, 1) := by decide +kernel
theorem dX0_drawn_10 : decode cX0_drawn 10 = .ok (.iload_n 3, 1) := by decide +kernel
theorem dX0_drawn_11 : decode cX0_drawn 11 = .ok (.ifCond .le 16, 3) := by decide +kernel
theorem dX0_drawn_14 : decode cX0_drawn 14 = .ok (.iload_n 2, 1) := by decide +kernel
theorem dX0_drawn_15 : decode cX0_drawn 15 = .ok (.iload_n 1, 1) := by decide +kernel
theorem dX0_drawn_16 : decode cX0_drawn 16 = .ok (.bipush 31, 2) := by decide +kernel
theorem dX0_drawn_18 : decode cX0_drawn 18 = .ok (.iload_n 2, 1) := by decide +kernel
theorem dX0_drawn_19 : decode cX0_drawn 19 = .ok (.imul, 1) := by decide +kernel
theorem dX0_drawn_20 : decode cX0_drawn 20 = .ok (.iadd, 1) := by decide +kernel
theorem dX0_drawn_21 : decode cX0_drawn 21 = .ok (.iload_n 3, 1) := by decide +kernel
theorem dX0_drawn_22 : decode cX0_drawn 22 = .ok (.irem, 1) := by decide +kernel
theorem dX0_drawn_23 : decode cX0_drawn 23 = .ok (.iadd, 1) := by decide +kernel
theorem dX0_drawn_24 : decode cX0_drawn 24 = .ok (.goto 4, 3) := by decide +kernel
theorem dX0_drawn_27 : decode cX0_drawn 27 = .ok (.iload_n 2, 1) := by decide +kernel
theorem dX0_drawn_28 : decode cX0_drawn 28 = .ok (.ireturn, 1) := by decide +kernel
theorem dX0_eldest_0 : decode cX0_eldest 0 = .ok (.iload_n 1, 1) := by decide +kernel
theorem dX0_eldest_1 : decode cX0_eldest 1 = .ok (.istore_n 2, 1) := by decide +kernel
theorem dX0_eldest_2 : decode cX0_eldest 2 = .ok (.iconst 0, 1) := by decide +kernel
theorem dX0_eldest_3 : decode cX0_eldest 3 = .ok (.istore_n 3, 1) := by decide +kernel
theorem dX0_eldest_4 : decode cX0_eldest 4 = .ok (.iload_n 1, 1) := by decide +kernel
theorem dX0_eldest_5 : decode cX0_eldest 5 = .ok (.istore 4, 2) := by decide +kernel
theorem dX0_eldest_7 : decode cX0_eldest 7 = .ok (.iload 4, 2) := by decide +kernel
theorem dX0_eldest_9 : decode cX0_eldest 9 = .ok (.aload_n 0, 1) := by decide +kernel
theorem dX0_eldest_10 : decode cX0_eldest 10 = .ok (.getfield 25, 3) := by decide +kernel
theorem dX0_eldest_13 : decode cX0_eldest 13 = .ok (.invokevirtual 28, 3) := by decide +kernel
theorem dX0_eldest_16 : decode cX0_eldest 16 = .ok (.if_icmp .ge 41, 3) := by decide +kernel
theorem dX0_eldest_19 : decode cX0_eldest 19 = .ok (.aload_n 0, 1) := by decide +kernel
theorem dX0_eldest_20 : decode cX0_eldest 20 = .ok (.getfield 25, 3) := by decide +kernel
theorem dX0_eldest_23 : decode cX0_eldest 23 = .ok (.iload 4, 2) := by decide +kernel
theorem dX0_eldest_25 : decode cX0_eldest 25 = .ok (.invokevirtual 32, 3) := by decide +kernel
theorem dX0_eldest_28 : decode cX0_eldest 28 = .ok (.checkcast 36, 3) := by decide +kernel
theorem dX0_eldest_31 : decode cX0_eldest 31 = .ok (.getfield 38, 3) := by decide +kernel
theorem dX0_eldest_34 : decode cX0_eldest 34 = .ok (.getfield 68, 3) := by decide +kernel
theorem dX0_eldest_37 : decode cX0_eldest 37 = .ok (.istore 5, 2) := by decide +kernel
theorem dX0_eldest_39 : decode cX0_eldest 39 = .ok (.iload 5, 2) := by decide +kernel
theorem dX0_eldest_41 : decode cX0_eldest 41 = .ok (.iload_n 3, 1) := by decide +kernel
theorem dX0_eldest_42 : decode cX0_eldest 42 = .ok (.if_icmp .le 9, 3) := by decide +kernel
theorem dX0_eldest_45 : decode cX0_eldest 45 = .ok (.iload 4, 2) := by decide +kernel
theorem dX0_eldest_47 : decode cX0_eldest 47 = .ok (.istore_n 2, 1) := by decide +kernel
theorem dX0_eldest_48 : decode cX0_eldest 48 = .ok (.iload 5, 2) := by decide +kernel
theorem dX0_eldest_50 : decode cX0_eldest 50 = .ok (.istore_n 3, 1) := by decide +kernel
theorem dX0_eldest_51 : decode cX0_eldest 51 = .ok (.iinc 4 1, 3) := by decide +kernel
theorem dX0_eldest_54 : decode cX0_eldest 54 = .ok (.goto (-47), 3) := by decide +kernel
theorem dX0_eldest_57 : decode cX0_eldest 57 = .ok (.iload_n 2, 1) := by decide +kernel
theorem dX0_eldest_58 : decode cX0_eldest 58 = .ok (.ireturn, 1) := by decide +kernel
theorem dX0_upNext_0 : decode cX0_upNext 0 = .ok (.aload_n 0, 1) := by decide +kernel
theorem dX0_upNext_1 : decode cX0_upNext 1 = .ok (.invokevirtual 46, 3) := by decide +kernel
theorem dX0_upNext_4 : decode cX0_upNext 4 = .ok (.ifCond .eq 10, 3) := by decide +kernel
theorem dX0_upNext_7 : decode cX0_upNext 7 = .ok (.aload_n 0, 1) := by decide +kernel
theorem dX0_upNext_8 : decode cX0_upNext 8 = .ok (.invokevirtual 73, 3) := by decide +kernel
theorem dX0_upNext_11 : decode cX0_upNext 11 = .ok (.goto 7, 3) := by decide +kernel
theorem dX0_upNext_14 : decode cX0_upNext 14 = .ok (.aload_n 0, 1) := by decide +kernel
theorem dX0_upNext_15 : decode cX0_upNext 15 = .ok (.invokevirtual 77, 3) := by decide +kernel
theorem dX0_upNext_18 : decode cX0_upNext 18 = .ok (.areturn, 1) := by decide +kernel
theorem dX0_firstInOrder_0 : decode cX0_firstInOrder 0 = .ok (.iconst 0, 1) := by decide +kernel
theorem dX0_firstInOrder_1 : decode cX0_firstInOrder 1 = .ok (.istore_n 1, 1) := by decide +kernel
theorem dX0_firstInOrder_2 : decode cX0_firstInOrder 2 = .ok (.iload_n 1, 1) := by decide +kernel
theorem dX0_firstInOrder_3 : decode cX0_firstInOrder 3 = .ok (.aload_n 0, 1) := by decide +kernel
theorem dX0_firstInOrder_4 : decode cX0_firstInOrder 4 = .ok (.getfield 25, 3) := by decide +kernel
theorem dX0_firstInOrder_7 : decode cX0_firstInOrder 7 = .ok (.invokevirtual 28, 3) := by decide +kernel
theorem dX0_firstInOrder_10 : decode cX0_firstInOrder 10 = .ok (.if_icmp .ge 38, 3) := by decide +kernel
theorem dX0_firstInOrder_13 : decode cX0_firstInOrder 13 = .ok (.aload_n 0, 1) := by decide +kernel
theorem dX0_firstInOrder_14 : decode cX0_firstInOrder 14 = .ok (.getfield 25, 3) := by decide +kernel
theorem dX0_firstInOrder_17 : decode cX0_firstInOrder 17 = .ok (.iload_n 1, 1) := by decide +kernel
theorem dX0_firstInOrder_18 : decode cX0_firstInOrder 18 = .ok (.invokevirtual 32, 3) := by decide +kernel
theorem dX0_firstInOrder_21 : decode cX0_firstInOrder 21 = .ok (.checkcast 36, 3) := by decide +kernel
theorem dX0_firstInOrder_24 : decode cX0_firstInOrder 24 = .ok (.getfield 80, 3) := by decide +kernel
theorem dX0_firstInOrder_27 : decode cX0_firstInOrder 27 = .ok (.ifCond .ne 15, 3) := by decide +kernel
theorem dX0_firstInOrder_30 : decode cX0_firstInOrder 30 = .ok (.aload_n 0, 1) := by decide +kernel
theorem dX0_firstInOrder_31 : decode cX0_firstInOrder 31 = .ok (.getfield 25, 3) := by decide +kernel
theorem dX0_firstInOrder_34 : decode cX0_firstInOrder 34 = .ok (.iload_n 1, 1) := by decide +kernel
theorem dX0_firstInOrder_35 : decode cX0_firstInOrder 35 = .ok (.invokevirtual 32, 3) := by decide +kernel
theorem dX0_firstInOrder_38 : decode cX0_firstInOrder 38 = .ok (.checkcast 36, 3) := by decide +kernel
theorem dX0_firstInOrder_41 : decode cX0_firstInOrder 41 = .ok (.areturn, 1) := by decide +kernel
theorem dX0_firstInOrder_42 : decode cX0_firstInOrder 42 = .ok (.iinc 1 1, 3) := by decide +kernel
theorem dX0_firstInOrder_45 : decode cX0_firstInOrder 45 = .ok (.goto (-43), 3) := by decide +kernel
theorem dX0_firstInOrder_48 : decode cX0_firstInOrder 48 = .ok (.aconst_null, 1) := by decide +kernel
theorem dX0_firstInOrder_49 : decode cX0_firstInOrder 49 = .ok (.areturn, 1) := by decide +kernel
theorem dX0_greatest_0 : decode cX0_greatest 0 = .ok (.aconst_null, 1) := by decide +kernel
theorem dX0_greatest_1 : decode cX0_greatest 1 = .ok (.astore_n 1, 1) := by decide +kernel
theorem dX0_greatest_2 : decode cX0_greatest 2 = .ok (.iconst 0, 1) := by decide +kernel
theorem dX0_greatest_3 : decode cX0_greatest 3 = .ok (.istore_n 2, 1) := by decide +kernel
theorem dX0_greatest_4 : decode cX0_greatest 4 = .ok (.iload_n 2, 1) := by decide +kernel
theorem dX0_greatest_5 : decode cX0_greatest 5 = .ok (.aload_n 0, 1) := by decide +kernel
theorem dX0_greatest_6 : decode cX0_greatest 6 = .ok (.getfield 21, 3) := by decide +kernel
theorem dX0_greatest_9 : decode cX0_greatest 9 = .ok (.invokevirtual 28, 3) := by decide +kernel
theorem dX0_greatest_12 : decode cX0_greatest 12 = .ok (.if_icmp .ge 53, 3) := by decide +kernel
theorem dX0_greatest_15 : decode cX0_greatest 15 = .ok (.aload_n 0, 1) := by decide +kernel
theorem dX0_greatest_16 : decode cX0_greatest 16 = .ok (.getfield 21, 3) := by decide +kernel
theorem dX0_greatest_19 : decode cX0_greatest 19 = .ok (.iload_n 2, 1) := by decide +kernel
theorem dX0_greatest_20 : decode cX0_greatest 20 = .ok (.invokevirtual 32, 3) := by decide +kernel
theorem dX0_greatest_23 : decode cX0_greatest 23 = .ok (.checkcast 36, 3) := by decide +kernel
theorem dX0_greatest_26 : decode cX0_greatest 26 = .ok (.astore_n 3, 1) := by decide +kernel
theorem dX0_greatest_27 : decode cX0_greatest 27 = .ok (.aload_n 3, 1) := by decide +kernel
theorem dX0_greatest_28 : decode cX0_greatest 28 = .ok (.getfield 80, 3) := by decide +kernel
theorem dX0_greatest_31 : decode cX0_greatest 31 = .ok (.ifCond .ne 28, 3) := by decide +kernel
theorem dX0_greatest_34 : decode cX0_greatest 34 = .ok (.aload_n 1, 1) := by decide +kernel
theorem dX0_greatest_35 : decode cX0_greatest 35 = .ok (.ifnull 22, 3) := by decide +kernel
theorem dX0_greatest_38 : decode cX0_greatest 38 = .ok (.aload_n 3, 1) := by decide +kernel
theorem dX0_greatest_39 : decode cX0_greatest 39 = .ok (.aload_n 0, 1) := by decide +kernel
theorem dX0_greatest_40 : decode cX0_greatest 40 = .ok (.getfield 15, 3) := by decide +kernel
theorem dX0_greatest_43 : decode cX0_greatest 43 = .ok (.invokevirtual 84, 3) := by decide +kernel
theorem dX0_greatest_46 : decode cX0_greatest 46 = .ok (.aload_n 1, 1) := by decide +kernel
theorem dX0_greatest_47 : decode cX0_greatest 47 = .ok (.aload_n 0, 1) := by decide +kernel
theorem dX0_greatest_48 : decode cX0_greatest 48 = .ok (.getfield 15, 3) := by decide +kernel
theorem dX0_greatest_51 : decode cX0_greatest 51 = .ok (.invokevirtual 84, 3) := by decide +kernel
theorem dX0_greatest_54 : decode cX0_greatest 54 = .ok (.if_icmp .le 5, 3) := by decide +kernel
theorem dX0_greatest_57 : decode cX0_greatest 57 = .ok (.aload_n 3, 1) := by decide +kernel
theorem dX0_greatest_58 : decode cX0_greatest 58 = .ok (.astore_n 1, 1) := by decide +kernel
theorem dX0_greatest_59 : decode cX0_greatest 59 = .ok (.iinc 2 1, 3) := by decide +kernel
theorem dX0_greatest_62 : decode cX0_greatest 62 = .ok (.goto (-58), 3) := by decide +kernel
theorem dX0_greatest_65 : decode cX0_greatest 65 = .ok (.aload_n 1, 1) := by decide +kernel
theorem dX0_greatest_66 : decode cX0_greatest 66 = .ok (.areturn, 1) := by decide +kernel
theorem dX0_collect_0 : decode cX0_collect 0 = .ok (.iconst 0, 1) := by decide +kernel
theorem dX0_collect_1 : decode cX0_collect 1 = .ok (.istore_n 2, 1) := by decide +kernel
theorem dX0_collect_2 : decode cX0_collect 2 = .ok (.iload_n 2, 1) := by decide +kernel
theorem dX0_collect_3 : decode cX0_collect 3 = .ok (.aload_n 0, 1) := by decide +kernel
theorem dX0_collect_4 : decode cX0_collect 4 = .ok (.getfield 21, 3) := by decide +kernel
theorem dX0_collect_7 : decode cX0_collect 7 = .ok (.invokevirtual 28, 3) := by decide +kernel
theorem dX0_collect_10 : decode cX0_collect 10 = .ok (.if_icmp .ge 113, 3) := by decide +kernel
theorem dX0_collect_13 : decode cX0_collect 13 = .ok (.aload_n 0, 1) := by decide +kernel
theorem dX0_collect_14 : decode cX0_collect 14 = .ok (.getfield 21, 3) := by decide +kernel
theorem dX0_collect_17 : decode cX0_collect 17 = .ok (.iload_n 2, 1) := by decide +kernel
theorem dX0_collect_18 : decode cX0_collect 18 = .ok (.invokevirtual 32, 3) := by decide +kernel
theorem dX0_collect_21 : decode cX0_collect 21 = .ok (.checkcast 36, 3) := by decide +kernel
theorem dX0_collect_24 : decode cX0_collect 24 = .ok (.astore_n 3, 1) := by decide +kernel
theorem dX0_collect_25 : decode cX0_collect 25 = .ok (.aload_n 0, 1) := by decide +kernel
theorem dX0_collect_26 : decode cX0_collect 26 = .ok (.getfield 9, 3) := by decide +kernel
theorem dX0_collect_29 : decode cX0_collect 29 = .ok (.aload_n 3, 1) := by decide +kernel
theorem dX0_collect_30 : decode cX0_collect 30 = .ok (.getfield 87, 3) := by decide +kernel
theorem dX0_collect_33 : decode cX0_collect 33 = .ok (.iadd, 1) := by decide +kernel
theorem dX0_collect_34 : decode cX0_collect 34 = .ok (.istore 4, 2) := by decide +kernel
theorem dX0_collect_36 : decode cX0_collect 36 = .ok (.iload 4, 2) := by decide +kernel
theorem dX0_collect_38 : decode cX0_collect 38 = .ok (.aload_n 3, 1) := by decide +kernel
theorem dX0_collect_39 : decode cX0_collect 39 = .ok (.getfield 38, 3) := by decide +kernel
theorem dX0_collect_42 : decode cX0_collect 42 = .ok (.getfield 90, 3) := by decide +kernel
theorem dX0_collect_45 : decode cX0_collect 45 = .ok (.invokestatic 93, 3) := by decide +kernel
theorem dX0_collect_48 : decode cX0_collect 48 = .ok (.istore 5, 2) := by decide +kernel
theorem dX0_collect_50 : decode cX0_collect 50 = .ok (.aload_n 3, 1) := by decide +kernel
theorem dX0_collect_51 : decode cX0_collect 51 = .ok (.getfield 38, 3) := by decide +kernel
theorem dX0_collect_54 : decode cX0_collect 54 = .ok (.iload 5, 2) := by decide +kernel
theorem dX0_collect_56 : decode cX0_collect 56 = .ok (.invokevirtual 98, 3) := by decide +kernel
theorem dX0_collect_59 : decode cX0_collect 59 = .ok (.aload_n 3, 1) := by decide +kernel
theorem dX0_collect_60 : decode cX0_collect 60 = .ok (.dup, 1) := by decide +kernel
theorem dX0_collect_61 : decode cX0_collect 61 = .ok (.getfield 102, 3) := by decide +kernel
theorem dX0_collect_64 : decode cX0_collect 64 = .ok (.iload 5, 2) := by decide +kernel
theorem dX0_collect_66 : decode cX0_collect 66 = .ok (.iadd, 1) := by decide +kernel
theorem dX0_collect_67 : decode cX0_collect 67 = .ok (.putfield 102, 3) := by decide +kernel
theorem dX0_collect_70 : decode cX0_collect 70 = .ok (.aload_n 0, 1) := by decide +kernel
theorem dX0_collect_71 : decode cX0_collect 71 = .ok (.dup, 1) := by decide +kernel
theorem dX0_collect_72 : decode cX0_collect 72 = .ok (.getfield 105, 3) := by decide +kernel
theorem dX0_collect_75 : decode cX0_collect 75 = .ok (.iload 5, 2) := by decide +kernel
theorem dX0_collect_77 : decode cX0_collect 77 = .ok (.iadd, 1) := by decide +kernel
theorem dX0_collect_78 : decode cX0_collect 78 = .ok (.putfield 105, 3) := by decide +kernel
theorem dX0_collect_81 : decode cX0_collect 81 = .ok (.aload_n 3, 1) := by decide +kernel
theorem dX0_collect_82 : decode cX0_collect 82 = .ok (.iload 4, 2) := by decide +kernel
theorem dX0_collect_84 : decode cX0_collect 84 = .ok (.iload 5, 2) := by decide +kernel
theorem dX0_collect_86 : decode cX0_collect 86 = .ok (.isub, 1) := by decide +kernel
theorem dX0_collect_87 : decode cX0_collect 87 = .ok (.putfield 87, 3) := by decide +kernel
theorem dX0_collect_90 : decode cX0_collect 90 = .ok (.aload_n 3, 1) := by decide +kernel
theorem dX0_collect_91 : decode cX0_collect 91 = .ok (.getfield 87, 3) := by decide +kernel
theorem dX0_collect_94 : decode cX0_collect 94 = .ok (.ifCond .le 23, 3) := by decide +kernel
theorem dX0_collect_97 : decode cX0_collect 97 = .ok (.iload_n 1, 1) := by decide +kernel
theorem dX0_collect_98 : decode cX0_collect 98 = .ok (.ifCond .ne 19, 3) := by decide +kernel
theorem dX0_collect_101 : decode cX0_collect 101 = .ok (.aload_n 3, 1) := by decide +kernel
theorem dX0_collect_102 : decode cX0_collect 102 = .ok (.dup, 1) := by decide +kernel
theorem dX0_collect_103 : decode cX0_collect 103 = .ok (.getfield 87, 3) := by decide +kernel
theorem dX0_collect_106 : decode cX0_collect 106 = .ok (.aload_n 0, 1) := by decide +kernel
theorem dX0_collect_107 : decode cX0_collect 107 = .ok (.getfield 9, 3) := by decide +kernel
theorem dX0_collect_110 : decode cX0_collect 110 = .ok (.bipush 10, 2) := by decide +kernel
theorem dX0_collect_112 : decode cX0_collect 112 = .ok (.idiv, 1) := by decide +kernel
theorem dX0_collect_113 : decode cX0_collect 113 = .ok (.iadd, 1) := by decide +kernel
theorem dX0_collect_114 : decode cX0_collect 114 = .ok (.putfield 87, 3) := by decide +kernel
theorem dX0_collect_117 : decode cX0_collect 117 = .ok (.iinc 2 1, 3) := by decide +kernel
theorem dX0_collect_120 : decode cX0_collect 120 = .ok (.goto (-118), 3) := by decide +kernel
theorem dX0_collect_123 : decode cX0_collect 123 = .ok (.return_, 1) := by decide +kernel
theorem dX0_payOut_0 : decode cX0_payOut 0 = .ok (.aload_n 1, 1) := by decide +kernel
theorem dX0_payOut_1 : decode cX0_payOut 1 = .ok (.ifnonnull 4, 3) := by decide +kernel
theorem dX0_payOut_4 : decode cX0_payOut 4 = .ok (.return_, 1) := by decide +kernel
theorem dX0_payOut_5 : decode cX0_payOut 5 = .ok (.aload_n 0, 1) := by decide +kernel
theorem dX0_payOut_6 : decode cX0_payOut 6 = .ok (.getfield 105, 3) := by decide +kernel
theorem dX0_payOut_9 : decode cX0_payOut 9 = .ok (.aload_n 0, 1) := by decide +kernel
theorem dX0_payOut_10 : decode cX0_payOut 10 = .ok (.getfield 9, 3) := by decide +kernel
theorem dX0_payOut_13 : decode cX0_payOut 13 = .ok (.aload_n 0, 1) := by decide +kernel
theorem dX0_payOut_14 : decode cX0_payOut 14 = .ok (.getfield 21, 3) := by decide +kernel
theorem dX0_payOut_17 : decode cX0_payOut 17 = .ok (.invokevirtual 28, 3) := by decide +kernel
theorem dX0_payOut_20 : decode cX0_payOut 20 = .ok (.imul, 1) := by decide +kernel
theorem dX0_payOut_21 : decode cX0_payOut 21 = .ok (.invokestatic 93, 3) := by decide +kernel
theorem dX0_payOut_24 : decode cX0_payOut 24 = .ok (.istore_n 2, 1) := by decide +kernel
theorem dX0_payOut_25 : decode cX0_payOut 25 = .ok (.aload_n 0, 1) := by decide +kernel
theorem dX0_payOut_26 : decode cX0_payOut 26 = .ok (.getfield 15, 3) := by decide +kernel
theorem dX0_payOut_29 : decode cX0_payOut 29 = .ok (.iconst 3, 1) := by decide +kernel
theorem dX0_payOut_30 : decode cX0_payOut 30 = .ok (.if_icmp .ne 16, 3) := by decide +kernel
theorem dX0_payOut_33 : decode cX0_payOut 33 = .ok (.aload_n 1, 1) := by decide +kernel
theorem dX0_payOut_34 : decode cX0_payOut 34 = .ok (.getfield 108, 3) := by decide +kernel
theorem dX0_payOut_37 : decode cX0_payOut 37 = .ok (.iload_n 2, 1) := by decide +kernel
theorem dX0_payOut_38 : decode cX0_payOut 38 = .ok (.iconst 2, 1) := by decide +kernel
theorem dX0_payOut_39 : decode cX0_payOut 39 = .ok (.idiv, 1) := by decide +kernel
theorem dX0_payOut_40 : decode cX0_payOut 40 = .ok (.invokestatic 93, 3) := by decide +kernel
theorem dX0_payOut_43 : decode cX0_payOut 43 = .ok (.goto 4, 3) := by decide +kernel
theorem dX0_payOut_46 : decode cX0_payOut 46 = .ok (.iconst 0, 1) := by decide +kernel
theorem dX0_payOut_47 : decode cX0_payOut 47 = .ok (.istore_n 3, 1) := by decide +kernel
theorem dX0_payOut_48 : decode cX0_payOut 48 = .ok (.aload_n 0, 1) := by decide +kernel
theorem dX0_payOut_49 : decode cX0_payOut 49 = .ok (.getfield 21, 3) := by decide +kernel
theorem dX0_payOut_52 : decode cX0_payOut 52 = .ok (.invokevirtual 28, 3) := by decide +kernel
theorem dX0_payOut_55 : decode cX0_payOut 55 = .ok (.iconst 1, 1) := by decide +kernel
theorem dX0_payOut_56 : decode cX0_payOut 56 = .ok (.isub, 1) := by decide +kernel
theorem dX0_payOut_57 : decode cX0_payOut 57 = .ok (.istore 4, 2) := by decide +kernel
theorem dX0_payOut_59 : decode cX0_payOut 59 = .ok (.iload 4, 2) := by decide +kernel
theorem dX0_payOut_61 : decode cX0_payOut 61 = .ok (.ifCond .le 10, 3) := by decide +kernel
theorem dX0_payOut_64 : decode cX0_payOut 64 = .ok (.iload_n 3, 1) := by decide +kernel
theorem dX0_payOut_65 : decode cX0_payOut 65 = .ok (.iload 4, 2) := by decide +kernel
theorem dX0_payOut_67 : decode cX0_payOut 67 = .ok (.idiv, 1) := by decide +kernel
theorem dX0_payOut_68 : decode cX0_payOut 68 = .ok (.goto 4, 3) := by decide +kernel
theorem dX0_payOut_71 : decode cX0_payOut 71 = .ok (.iconst 0, 1) := by decide +kernel
theorem dX0_payOut_72 : decode cX0_payOut 72 = .ok (.istore 5, 2) := by decide +kernel
theorem dX0_payOut_74 : decode cX0_payOut 74 = .ok (.iconst 0, 1) := by decide +kernel
theorem dX0_payOut_75 : decode cX0_payOut 75 = .ok (.istore 6, 2) := by decide +kernel
theorem dX0_payOut_77 : decode cX0_payOut 77 = .ok (.iload 6, 2) := by decide +kernel
theorem dX0_payOut_79 : decode cX0_payOut 79 = .ok (.aload_n 0, 1) := by decide +kernel
theorem dX0_payOut_80 : decode cX0_payOut 80 = .ok (.getfield 21, 3) := by decide +kernel
theorem dX0_payOut_83 : decode cX0_payOut 83 = .ok (.invokevirtual 28, 3) := by decide +kernel
theorem dX0_payOut_86 : decode cX0_payOut 86 = .ok (.if_icmp .ge 43, 3) := by decide +kernel
theorem dX0_payOut_89 : decode cX0_payOut 89 = .ok (.aload_n 0, 1) := by decide +kernel
theorem dX0_payOut_90 : decode cX0_payOut 90 = .ok (.getfield 21, 3) := by decide +kernel
theorem dX0_payOut_93 : decode cX0_payOut 93 = .ok (.iload 6, 2) := by decide +kernel
theorem dX0_payOut_95 : decode cX0_payOut 95 = .ok (.invokevirtual 32, 3) := by decide +kernel
theorem dX0_payOut_98 : decode cX0_payOut 98 = .ok (.checkcast 36, 3) := by decide +kernel
theorem dX0_payOut_101 : decode cX0_payOut 101 = .ok (.astore 7, 2) := by decide +kernel
theorem dX0_payOut_103 : decode cX0_payOut 103 = .ok (.aload_n 0, 1) := by decide +kernel
theorem dX0_payOut_104 : decode cX0_payOut 104 = .ok (.aload 7, 2) := by decide +kernel
theorem dX0_payOut_106 : decode cX0_payOut 106 = .ok (.aload 7, 2) := by decide +kernel
theorem dX0_payOut_108 : decode cX0_payOut 108 = .ok (.aload_n 1, 1) := by decide +kernel
theorem dX0_payOut_109 : decode cX0_payOut 109 = .ok (.if_acmp .ne 9, 3) := by decide +kernel
theorem dX0_payOut_112 : decode cX0_payOut 112 = .ok (.iload_n 2, 1) := by decide +kernel
theorem dX0_payOut_113 : decode cX0_payOut 113 = .ok (.iload_n 3, 1) := by decide +kernel
theorem dX0_payOut_114 : decode cX0_payOut 114 = .ok (.isub, 1) := by decide +kernel
theorem dX0_payOut_115 : decode cX0_payOut 115 = .ok (.goto 5, 3) := by decide +kernel
theorem dX0_payOut_118 : decode cX0_payOut 118 = .ok (.iload 5, 2) := by decide +kernel
theorem dX0_payOut_120 : decode cX0_payOut 120 = .ok (.invokevirtual 111, 3) := by decide +kernel
theorem dX0_payOut_123 : decode cX0_payOut 123 = .ok (.iinc 6 1, 3) := by decide +kernel
theorem dX0_payOut_126 : decode cX0_payOut 126 = .ok (.goto (-49), 3) := by decide +kernel
theorem dX0_payOut_129 : decode cX0_payOut 129 = .ok (.aload_n 1, 1) := by decide +kernel
theorem dX0_payOut_130 : decode cX0_payOut 130 = .ok (.iconst 1, 1) := by decide +kernel
theorem dX0_payOut_131 : decode cX0_payOut 131 = .ok (.putfield 80, 3) := by decide +kernel
theorem dX0_payOut_134 : decode cX0_payOut 134 = .ok (.return_, 1) := by decide +kernel
theorem dX0_giveOut_0 : decode cX0_giveOut 0 = .ok (.aload_n 0, 1) := by decide +kernel
theorem dX0_giveOut_1 : decode cX0_giveOut 1 = .ok (.dup, 1) := by decide +kernel
theorem dX0_giveOut_2 : decode cX0_giveOut 2 = .ok (.getfield 105, 3) := by decide +kernel
theorem dX0_giveOut_5 : decode cX0_giveOut 5 = .ok (.iload_n 2, 1) := by decide +kernel
theorem dX0_giveOut_6 : decode cX0_giveOut 6 = .ok (.isub, 1) := by decide +kernel
theorem dX0_giveOut_7 : decode cX0_giveOut 7 = .ok (.putfield 105, 3) := by decide +kernel
theorem dX0_giveOut_10 : decode cX0_giveOut 10 = .ok (.aload_n 1, 1) := by decide +kernel
theorem dX0_giveOut_11 : decode cX0_giveOut 11 = .ok (.getfield 38, 3) := by decide +kernel
theorem dX0_giveOut_14 : decode cX0_giveOut 14 = .ok (.iload_n 2, 1) := by decide +kernel
theorem dX0_giveOut_15 : decode cX0_giveOut 15 = .ok (.invokevirtual 115, 3) := by decide +kernel
theorem dX0_giveOut_18 : decode cX0_giveOut 18 = .ok (.return_, 1) := by decide +kernel
theorem dX0_clearBids_0 : decode cX0_clearBids 0 = .ok (.iconst 0, 1) := by decide +kernel
theorem dX0_clearBids_1 : decode cX0_clearBids 1 = .ok (.istore_n 1, 1) := by decide +kernel
theorem dX0_clearBids_2 : decode cX0_clearBids 2 = .ok (.iload_n 1, 1) := by decide +kernel
theorem dX0_clearBids_3 : decode cX0_clearBids 3 = .ok (.aload_n 0, 1) := by decide +kernel
theorem dX0_clearBids_4 : decode cX0_clearBids 4 = .ok (.getfield 21, 3) := by decide +kernel
theorem dX0_clearBids_7 : decode cX0_clearBids 7 = .ok (.invokevirtual 28, 3) := by decide +kernel
theorem dX0_clearBids_10 : decode cX0_clearBids 10 = .ok (.if_icmp .ge 24, 3) := by decide +kernel
theorem dX0_clearBids_13 : decode cX0_clearBids 13 = .ok (.aload_n 0, 1) := by decide +kernel
theorem dX0_clearBids_14 : decode cX0_clearBids 14 = .ok (.getfield 21, 3) := by decide +kernel
theorem dX0_clearBids_17 : decode cX0_clearBids 17 = .ok (.iload_n 1, 1) := by decide +kernel
theorem dX0_clearBids_18 : decode cX0_clearBids 18 = .ok (.invokevirtual 32, 3) := by decide +kernel
theorem dX0_clearBids_21 : decode cX0_clearBids 21 = .ok (.checkcast 36, 3) := by decide +kernel
theorem dX0_clearBids_24 : decode cX0_clearBids 24 = .ok (.iconst 0, 1) := by decide +kernel
theorem dX0_clearBids_25 : decode cX0_clearBids 25 = .ok (.putfield 108, 3) := by decide +kernel
theorem dX0_clearBids_28 : decode cX0_clearBids 28 = .ok (.iinc 1 1, 3) := by decide +kernel
theorem dX0_clearBids_31 : decode cX0_clearBids 31 = .ok (.goto (-29), 3) := by decide +kernel
theorem dX0_clearBids_34 : decode cX0_clearBids 34 = .ok (.return_, 1) := by decide +kernel
theorem dX0_endRoundIfAllHadTurns_0 : decode cX0_endRoundIfAllHadTurns 0 = .ok (.aload_n 0, 1) := by decide +kernel
theorem dX0_endRoundIfAllHadTurns_1 : decode cX0_endRoundIfAllHadTurns 1 = .ok (.getfield 21, 3) := by decide +kernel
theorem dX0_endRoundIfAllHadTurns_4 : decode cX0_endRoundIfAllHadTurns 4 = .ok (.invokevirtual 118, 3) := by decide +kernel
theorem dX0_endRoundIfAllHadTurns_7 : decode cX0_endRoundIfAllHadTurns 7 = .ok (.ifCond .eq 4, 3) := by decide +kernel
theorem dX0_endRoundIfAllHadTurns_10 : decode cX0_endRoundIfAllHadTurns 10 = .ok (.return_, 1) := by decide +kernel
theorem dX0_endRoundIfAllHadTurns_11 : decode cX0_endRoundIfAllHadTurns 11 = .ok (.iconst 0, 1) := by decide +kernel
theorem dX0_endRoundIfAllHadTurns_12 : decode cX0_endRoundIfAllHadTurns 12 = .ok (.istore_n 1, 1) := by decide +kernel
theorem dX0_endRoundIfAllHadTurns_13 : decode cX0_endRoundIfAllHadTurns 13 = .ok (.iload_n 1, 1) := by decide +kernel
theorem dX0_endRoundIfAllHadTurns_14 : decode cX0_endRoundIfAllHadTurns 14 = .ok (.aload_n 0, 1) := by decide +kernel
theorem dX0_endRoundIfAllHadTurns_15 : decode cX0_endRoundIfAllHadTurns 15 = .ok (.getfield 21, 3) := by decide +kernel
theorem dX0_endRoundIfAllHadTurns_18 : decode cX0_endRoundIfAllHadTurns 18 = .ok (.invokevirtual 28, 3) := by decide +kernel
theorem dX0_endRoundIfAllHadTurns_21 : decode cX0_endRoundIfAllHadTurns 21 = .ok (.if_icmp .ge 27, 3) := by decide +kernel
theorem dX0_endRoundIfAllHadTurns_24 : decode cX0_endRoundIfAllHadTurns 24 = .ok (.aload_n 0, 1) := by decide +kernel
theorem dX0_endRoundIfAllHadTurns_25 : decode cX0_endRoundIfAllHadTurns 25 = .ok (.getfield 21, 3) := by decide +kernel
theorem dX0_endRoundIfAllHadTurns_28 : decode cX0_endRoundIfAllHadTurns 28 = .ok (.iload_n 1, 1) := by decide +kernel
theorem dX0_endRoundIfAllHadTurns_29 : decode cX0_endRoundIfAllHadTurns 29 = .ok (.invokevirtual 32, 3) := by decide +kernel
theorem dX0_endRoundIfAllHadTurns_32 : decode cX0_endRoundIfAllHadTurns 32 = .ok (.checkcast 36, 3) := by decide +kernel
theorem dX0_endRoundIfAllHadTurns_35 : decode cX0_endRoundIfAllHadTurns 35 = .ok (.getfield 80, 3) := by decide +kernel
theorem dX0_endRoundIfAllHadTurns_38 : decode cX0_endRoundIfAllHadTurns 38 = .ok (.ifCond .ne 4, 3) := by decide +kernel
theorem dX0_endRoundIfAllHadTurns_41 : decode cX0_endRoundIfAllHadTurns 41 = .ok (.return_, 1) := by decide +kernel
theorem dX0_endRoundIfAllHadTurns_42 : decode cX0_endRoundIfAllHadTurns 42 = .ok (.iinc 1 1, 3) := by decide +kernel
theorem dX0_endRoundIfAllHadTurns_45 : decode cX0_endRoundIfAllHadTurns 45 = .ok (.goto (-32), 3) := by decide +kernel
theorem dX0_endRoundIfAllHadTurns_48 : decode cX0_endRoundIfAllHadTurns 48 = .ok (.iconst 0, 1) := by decide +kernel
theorem dX0_endRoundIfAllHadTurns_49 : decode cX0_endRoundIfAllHadTurns 49 = .ok (.istore_n 1, 1) := by decide +kernel
theorem dX0_endRoundIfAllHadTurns_50 : decode cX0_endRoundIfAllHadTurns 50 = .ok (.iload_n 1, 1) := by decide +kernel
theorem dX0_endRoundIfAllHadTurns_51 : decode cX0_endRoundIfAllHadTurns 51 = .ok (.aload_n 0, 1) := by decide +kernel
theorem dX0_endRoundIfAllHadTurns_52 : decode cX0_endRoundIfAllHadTurns 52 = .ok (.getfield 21, 3) := by decide +kernel
theorem dX0_endRoundIfAllHadTurns_55 : decode cX0_endRoundIfAllHadTurns 55 = .ok (.invokevirtual 28, 3) := by decide +kernel
theorem dX0_endRoundIfAllHadTurns_58 : decode cX0_endRoundIfAllHadTurns 58 = .ok (.if_icmp .ge 39, 3) := by decide +kernel
theorem dX0_endRoundIfAllHadTurns_61 : decode cX0_endRoundIfAllHadTurns 61 = .ok (.aload_n 0, 1) := by decide +kernel
theorem dX0_endRoundIfAllHadTurns_62 : decode cX0_endRoundIfAllHadTurns 62 = .ok (.getfield 21, 3) := by decide +kernel
theorem dX0_endRoundIfAllHadTurns_65 : decode cX0_endRoundIfAllHadTurns 65 = .ok (.iload_n 1, 1) := by decide +kernel
theorem dX0_endRoundIfAllHadTurns_66 : decode cX0_endRoundIfAllHadTurns 66 = .ok (.invokevirtual 32, 3) := by decide +kernel
theorem dX0_endRoundIfAllHadTurns_69 : decode cX0_endRoundIfAllHadTurns 69 = .ok (.checkcast 36, 3) := by decide +kernel
theorem dX0_endRoundIfAllHadTurns_72 : decode cX0_endRoundIfAllHadTurns 72 = .ok (.iconst 0, 1) := by decide +kernel
theorem dX0_endRoundIfAllHadTurns_73 : decode cX0_endRoundIfAllHadTurns 73 = .ok (.putfield 80, 3) := by decide +kernel
theorem dX0_endRoundIfAllHadTurns_76 : decode cX0_endRoundIfAllHadTurns 76 = .ok (.aload_n 0, 1) := by decide +kernel
theorem dX0_endRoundIfAllHadTurns_77 : decode cX0_endRoundIfAllHadTurns 77 = .ok (.getfield 21, 3) := by decide +kernel
theorem dX0_endRoundIfAllHadTurns_80 : decode cX0_endRoundIfAllHadTurns 80 = .ok (.iload_n 1, 1) := by decide +kernel
theorem dX0_endRoundIfAllHadTurns_81 : decode cX0_endRoundIfAllHadTurns 81 = .ok (.invokevirtual 32, 3) := by decide +kernel
theorem dX0_endRoundIfAllHadTurns_84 : decode cX0_endRoundIfAllHadTurns 84 = .ok (.checkcast 36, 3) := by decide +kernel
theorem dX0_endRoundIfAllHadTurns_87 : decode cX0_endRoundIfAllHadTurns 87 = .ok (.iconst 0, 1) := by decide +kernel
theorem dX0_endRoundIfAllHadTurns_88 : decode cX0_endRoundIfAllHadTurns 88 = .ok (.putfield 102, 3) := by decide +kernel
theorem dX0_endRoundIfAllHadTurns_91 : decode cX0_endRoundIfAllHadTurns 91 = .ok (.iinc 1 1, 3) := by decide +kernel
theorem dX0_endRoundIfAllHadTurns_94 : decode cX0_endRoundIfAllHadTurns 94 = .ok (.goto (-44), 3) := by decide +kernel
theorem dX0_endRoundIfAllHadTurns_97 : decode cX0_endRoundIfAllHadTurns 97 = .ok (.aload_n 0, 1) := by decide +kernel
theorem dX0_endRoundIfAllHadTurns_98 : decode cX0_endRoundIfAllHadTurns 98 = .ok (.dup, 1) := by decide +kernel
theorem dX0_endRoundIfAllHadTurns_99 : decode cX0_endRoundIfAllHadTurns 99 = .ok (.getfield 121, 3) := by decide +kernel
theorem dX0_endRoundIfAllHadTurns_102 : decode cX0_endRoundIfAllHadTurns 102 = .ok (.iconst 1, 1) := by decide +kernel
theorem dX0_endRoundIfAllHadTurns_103 : decode cX0_endRoundIfAllHadTurns 103 = .ok (.iadd, 1) := by decide +kernel
theorem dX0_endRoundIfAllHadTurns_104 : decode cX0_endRoundIfAllHadTurns 104 = .ok (.putfield 121, 3) := by decide +kernel
theorem dX0_endRoundIfAllHadTurns_107 : decode cX0_endRoundIfAllHadTurns 107 = .ok (.return_, 1) := by decide +kernel
theorem dX0_removePlace_0 : decode cX0_removePlace 0 = .ok (.aload_n 0, 1) := by decide +kernel
theorem dX0_removePlace_1 : decode cX0_removePlace 1 = .ok (.getfield 21, 3) := by decide +kernel
theorem dX0_removePlace_4 : decode cX0_removePlace 4 = .ok (.aload_n 1, 1) := by decide +kernel
theorem dX0_removePlace_5 : decode cX0_removePlace 5 = .ok (.invokestatic 124, 3) := by decide +kernel
theorem dX0_removePlace_8 : decode cX0_removePlace 8 = .ok (.aload_n 0, 1) := by decide +kernel
theorem dX0_removePlace_9 : decode cX0_removePlace 9 = .ok (.getfield 25, 3) := by decide +kernel
theorem dX0_removePlace_12 : decode cX0_removePlace 12 = .ok (.aload_n 1, 1) := by decide +kernel
theorem dX0_removePlace_13 : decode cX0_removePlace 13 = .ok (.invokestatic 124, 3) := by decide +kernel
theorem dX0_removePlace_16 : decode cX0_removePlace 16 = .ok (.aload_n 0, 1) := by decide +kernel
theorem dX0_removePlace_17 : decode cX0_removePlace 17 = .ok (.invokevirtual 128, 3) := by decide +kernel
theorem dX0_removePlace_20 : decode cX0_removePlace 20 = .ok (.return_, 1) := by decide +kernel
theorem dX0_removeFrom_0 : decode cX0_removeFrom 0 = .ok (.iconst 0, 1) := by decide +kernel
theorem dX0_removeFrom_1 : decode cX0_removeFrom 1 = .ok (.istore_n 2, 1) := by decide +kernel
theorem dX0_removeFrom_2 : decode cX0_removeFrom 2 = .ok (.iload_n 2, 1) := by decide +kernel
theorem dX0_removeFrom_3 : decode cX0_removeFrom 3 = .ok (.aload_n 0, 1) := by decide +kernel
theorem dX0_removeFrom_4 : decode cX0_removeFrom 4 = .ok (.invokevirtual 28, 3) := by decide +kernel
theorem dX0_removeFrom_7 : decode cX0_removeFrom 7 = .ok (.if_icmp .ge 25, 3) := by decide +kernel
theorem dX0_removeFrom_10 : decode cX0_removeFrom 10 = .ok (.aload_n 0, 1) := by decide +kernel
theorem dX0_removeFrom_11 : decode cX0_removeFrom 11 = .ok (.iload_n 2, 1) := by decide +kernel
theorem dX0_removeFrom_12 : decode cX0_removeFrom 12 = .ok (.invokevirtual 32, 3) := by decide +kernel
theorem dX0_removeFrom_15 : decode cX0_removeFrom 15 = .ok (.aload_n 1, 1) := by decide +kernel
theorem dX0_removeFrom_16 : decode cX0_removeFrom 16 = .ok (.if_acmp .ne 10, 3) := by decide +kernel
theorem dX0_removeFrom_19 : decode cX0_removeFrom 19 = .ok (.aload_n 0, 1) := by decide +kernel
theorem dX0_removeFrom_20 : decode cX0_removeFrom 20 = .ok (.iload_n 2, 1) := by decide +kernel
theorem dX0_removeFrom_21 : decode cX0_removeFrom 21 = .ok (.invokevirtual 62, 3) := by decide +kernel
theorem dX0_removeFrom_24 : decode cX0_removeFrom 24 = .ok (.pop, 1) := by decide +kernel
theorem dX0_removeFrom_25 : decode cX0_removeFrom 25 = .ok (.return_, 1) := by decide +kernel
theorem dX0_removeFrom_26 : decode cX0_removeFrom 26 = .ok (.iinc 2 1, 3) := by decide +kernel
theorem dX0_removeFrom_29 : decode cX0_removeFrom 29 = .ok (.goto (-27), 3) := by decide +kernel
theorem dX0_removeFrom_32 : decode cX0_removeFrom 32 = .ok (.return_, 1) := by decide +kernel
theorem dX0_passOn_0 : decode cX0_passOn 0 = .ok (.aload_n 0, 1) := by decide +kernel
theorem dX0_passOn_1 : decode cX0_passOn 1 = .ok (.aload_n 1, 1) := by decide +kernel
theorem dX0_passOn_2 : decode cX0_passOn 2 = .ok (.invokevirtual 131, 3) := by decide +kernel
theorem dX0_passOn_5 : decode cX0_passOn 5 = .ok (.astore_n 3, 1) := by decide +kernel
theorem dX0_passOn_6 : decode cX0_passOn 6 = .ok (.aload_n 3, 1) := by decide +kernel
theorem dX0_passOn_7 : decode cX0_passOn 7 = .ok (.ifnonnull 5, 3) := by decide +kernel
theorem dX0_passOn_10 : decode cX0_passOn 10 = .ok (.iconst 0, 1) := by decide +kernel
theorem dX0_passOn_11 : decode cX0_passOn 11 = .ok (.ireturn, 1) := by decide +kernel
theorem dX0_passOn_12 : decode cX0_passOn 12 = .ok (.aload_n 0, 1) := by decide +kernel
theorem dX0_passOn_13 : decode cX0_passOn 13 = .ok (.aload_n 2, 1) := by decide +kernel
theorem dX0_passOn_14 : decode cX0_passOn 14 = .ok (.invokevirtual 131, 3) := by decide +kernel
theorem dX0_passOn_17 : decode cX0_passOn 17 = .ok (.astore 4, 2) := by decide +kernel
theorem dX0_passOn_19 : decode cX0_passOn 19 = .ok (.aload 4, 2) := by decide +kernel
theorem dX0_passOn_21 : decode cX0_passOn 21 = .ok (.ifnonnull 10, 3) := by decide +kernel
theorem dX0_passOn_24 : decode cX0_passOn 24 = .ok (.aload_n 3, 1) := by decide +kernel
theorem dX0_passOn_25 : decode cX0_passOn 25 = .ok (.aload_n 2, 1) := by decide +kernel
theorem dX0_passOn_26 : decode cX0_passOn 26 = .ok (.putfield 38, 3) := by decide +kernel
theorem dX0_passOn_29 : decode cX0_passOn 29 = .ok (.iconst 1, 1) := by decide +kernel
theorem dX0_passOn_30 : decode cX0_passOn 30 = .ok (.ireturn, 1) := by decide +kernel
theorem dX0_passOn_31 : decode cX0_passOn 31 = .ok (.aload 4, 2) := by decide +kernel
theorem dX0_passOn_33 : decode cX0_passOn 33 = .ok (.dup, 1) := by decide +kernel
theorem dX0_passOn_34 : decode cX0_passOn 34 = .ok (.getfield 87, 3) := by decide +kernel
theorem dX0_passOn_37 : decode cX0_passOn 37 = .ok (.aload_n 3, 1) := by decide +kernel
theorem dX0_passOn_38 : decode cX0_passOn 38 = .ok (.getfield 87, 3) := by decide +kernel
theorem dX0_passOn_41 : decode cX0_passOn 41 = .ok (.iadd, 1) := by decide +kernel
theorem dX0_passOn_42 : decode cX0_passOn 42 = .ok (.putfield 87, 3) := by decide +kernel
theorem dX0_passOn_45 : decode cX0_passOn 45 = .ok (.aload_n 0, 1) := by decide +kernel
theorem dX0_passOn_46 : decode cX0_passOn 46 = .ok (.aload_n 3, 1) := by decide +kernel
theorem dX0_passOn_47 : decode cX0_passOn 47 = .ok (.invokevirtual 135, 3) := by decide +kernel
theorem dX0_passOn_50 : decode cX0_passOn 50 = .ok (.iconst 0, 1) := by decide +kernel
theorem dX0_passOn_51 : decode cX0_passOn 51 = .ok (.ireturn, 1) := by decide +kernel
theorem dX1_init_0 : decode cX1_init 0 = .ok (.aload_n 0, 1) := by decide +kernel
theorem dX1_init_1 : decode cX1_init 1 = .ok (.invokespecial 3, 3) := by decide +kernel
theorem dX1_init_4 : decode cX1_init 4 = .ok (.aload_n 0, 1) := by decide +kernel
theorem dX1_init_5 : decode cX1_init 5 = .ok (.iload_n 1, 1) := by decide +kernel
theorem dX1_init_6 : decode cX1_init 6 = .ok (.putfield 9, 3) := by decide +kernel
theorem dX1_init_9 : decode cX1_init 9 = .ok (.aload_n 0, 1) := by decide +kernel
theorem dX1_init_10 : decode cX1_init 10 = .ok (.iload_n 2, 1) := by decide +kernel
theorem dX1_init_11 : decode cX1_init 11 = .ok (.putfield 15, 3) := by decide +kernel
theorem dX1_init_14 : decode cX1_init 14 = .ok (.aload_n 0, 1) := by decide +kernel
theorem dX1_init_15 : decode cX1_init 15 = .ok (.iload_n 3, 1) := by decide +kernel
theorem dX1_init_16 : decode cX1_init 16 = .ok (.putfield 18, 3) := by decide +kernel
theorem dX1_init_19 : decode cX1_init 19 = .ok (.aload_n 0, 1) := by decide +kernel
theorem dX1_init_20 : decode cX1_init 20 = .ok (.iconst 3, 1) := by decide +kernel
theorem dX1_init_21 : decode cX1_init 21 = .ok (.newarray .int, 2) := by decide +kernel
theorem dX1_init_23 : decode cX1_init 23 = .ok (.putfield 21, 3) := by decide +kernel
theorem dX1_init_26 : decode cX1_init 26 = .ok (.return_, 1) := by decide +kernel
theorem dX1_hasShare_0 : decode cX1_hasShare 0 = .ok (.aload_n 0, 1) := by decide +kernel
theorem dX1_hasShare_1 : decode cX1_hasShare 1 = .ok (.getfield 25, 3) := by decide +kernel
theorem dX1_hasShare_4 : decode cX1_hasShare 4 = .ok (.ifCond .ne 14, 3) := by decide +kernel
theorem dX1_hasShare_7 : decode cX1_hasShare 7 = .ok (.aload_n 0, 1) := by decide +kernel
theorem dX1_hasShare_8 : decode cX1_hasShare 8 = .ok (.getfield 29, 3) := by decide +kernel
theorem dX1_hasShare_11 : decode cX1_hasShare 11 = .ok (.ifCond .le 7, 3) := by decide +kernel
theorem dX1_hasShare_14 : decode cX1_hasShare 14 = .ok (.iconst 1, 1) := by decide +kernel
theorem dX1_hasShare_15 : decode cX1_hasShare 15 = .ok (.goto 4, 3) := by decide +kernel
theorem dX1_hasShare_18 : decode cX1_hasShare 18 = .ok (.iconst 0, 1) := by decide +kernel
theorem dX1_hasShare_19 : decode cX1_hasShare 19 = .ok (.ireturn, 1) := by decide +kernel
theorem dX1_hasLoan_0 : decode cX1_hasLoan 0 = .ok (.aload_n 0, 1) := by decide +kernel
theorem dX1_hasLoan_1 : decode cX1_hasLoan 1 = .ok (.getfield 32, 3) := by decide +kernel
theorem dX1_hasLoan_4 : decode cX1_hasLoan 4 = .ok (.ifCond .le 7, 3) := by decide +kernel
theorem dX1_hasLoan_7 : decode cX1_hasLoan 7 = .ok (.iconst 1, 1) := by decide +kernel
theorem dX1_hasLoan_8 : decode cX1_hasLoan 8 = .ok (.goto 4, 3) := by decide +kernel
theorem dX1_hasLoan_11 : decode cX1_hasLoan 11 = .ok (.iconst 0, 1) := by decide +kernel
theorem dX1_hasLoan_12 : decode cX1_hasLoan 12 = .ok (.ireturn, 1) := by decide +kernel
theorem dX1_isOfHouse_0 : decode cX1_isOfHouse 0 = .ok (.aload_n 0, 1) := by decide +kernel
theorem dX1_isOfHouse_1 : decode cX1_isOfHouse 1 = .ok (.getfield 18, 3) := by decide +kernel
theorem dX1_isOfHouse_4 : decode cX1_isOfHouse 4 = .ok (.istore_n 2, 1) := by decide +kernel
theorem dX1_isOfHouse_5 : decode cX1_isOfHouse 5 = .ok (.aload_n 1, 1) := by decide +kernel
theorem dX1_isOfHouse_6 : decode cX1_isOfHouse 6 = .ok (.getfield 18, 3) := by decide +kernel
theorem dX1_isOfHouse_9 : decode cX1_isOfHouse 9 = .ok (.istore_n 3, 1) := by decide +kernel
theorem dX1_isOfHouse_10 : decode cX1_isOfHouse 10 = .ok (.iconst 0, 1) := by decide +kernel
theorem dX1_isOfHouse_11 : decode cX1_isOfHouse 11 = .ok (.istore 4, 2) := by decide +kernel
theorem dX1_isOfHouse_13 : decode cX1_isOfHouse 13 = .ok (.iconst 0, 1) := by decide +kernel
theorem dX1_isOfHouse_14 : decode cX1_isOfHouse 14 = .ok (.istore 5, 2) := by decide +kernel
theorem dX1_isOfHouse_16 : decode cX1_isOfHouse 16 = .ok (.iload 5, 2) := by decide +kernel
theorem dX1_isOfHouse_18 : decode cX1_isOfHouse 18 = .ok (.iconst 5, 1) := by decide +kernel
theorem dX1_isOfHouse_19 : decode cX1_isOfHouse 19 = .ok (.if_icmp .ge 33, 3) := by decide +kernel
theorem dX1_isOfHouse_22 : decode cX1_isOfHouse 22 = .ok (.iload_n 2, 1) := by decide +kernel
theorem dX1_isOfHouse_23 : decode cX1_isOfHouse 23 = .ok (.bipush 10, 2) := by decide +kernel
theorem dX1_isOfHouse_25 : decode cX1_isOfHouse 25 = .ok (.irem, 1) := by decide +kernel
theorem dX1_isOfHouse_26 : decode cX1_isOfHouse 26 = .ok (.iload_n 3, 1) := by decide +kernel
theorem dX1_isOfHouse_27 : decode cX1_isOfHouse 27 = .ok (.bipush 10, 2) := by decide +kernel
theorem dX1_isOfHouse_29 : decode cX1_isOfHouse 29 = .ok (.irem, 1) := by decide +kernel
theorem dX1_isOfHouse_30 : decode cX1_isOfHouse 30 = .ok (.if_icmp .eq 6, 3) := by decide +kernel
theorem dX1_isOfHouse_33 : decode cX1_isOfHouse 33 = .ok (.iinc 4 1, 3) := by decide +kernel
theorem dX1_isOfHouse_36 : decode cX1_isOfHouse 36 = .ok (.iload_n 2, 1) := by decide +kernel
theorem dX1_isOfHouse_37 : decode cX1_isOfHouse 37 = .ok (.bipush 10, 2) := by decide +kernel
theorem dX1_isOfHouse_39 : decode cX1_isOfHouse 39 = .ok (.idiv, 1) := by decide +kernel
theorem dX1_isOfHouse_40 : decode cX1_isOfHouse 40 = .ok (.istore_n 2, 1) := by decide +kernel
theorem dX1_isOfHouse_41 : decode cX1_isOfHouse 41 = .ok (.iload_n 3, 1) := by decide +kernel
theorem dX1_isOfHouse_42 : decode cX1_isOfHouse 42 = .ok (.bipush 10, 2) := by decide +kernel
theorem dX1_isOfHouse_44 : decode cX1_isOfHouse 44 = .ok (.idiv, 1) := by decide +kernel
theorem dX1_isOfHouse_45 : decode cX1_isOfHouse 45 = .ok (.istore_n 3, 1) := by decide +kernel
theorem dX1_isOfHouse_46 : decode cX1_isOfHouse 46 = .ok (.iinc 5 1, 3) := by decide +kernel
theorem dX1_isOfHouse_49 : decode cX1_isOfHouse 49 = .ok (.goto (-33), 3) := by decide +kernel
theorem dX1_isOfHouse_52 : decode cX1_isOfHouse 52 = .ok (.iload 4, 2) := by decide +kernel
theorem dX1_isOfHouse_54 : decode cX1_isOfHouse 54 = .ok (.iconst 1, 1) := by decide +kernel
theorem dX1_isOfHouse_55 : decode cX1_isOfHouse 55 = .ok (.if_icmp .gt 7, 3) := by decide +kernel
theorem dX1_isOfHouse_58 : decode cX1_isOfHouse 58 = .ok (.iconst 1, 1) := by decide +kernel
theorem dX1_isOfHouse_59 : decode cX1_isOfHouse 59 = .ok (.goto 4, 3) := by decide +kernel
theorem dX1_isOfHouse_62 : decode cX1_isOfHouse 62 = .ok (.iconst 0, 1) := by decide +kernel
theorem dX1_isOfHouse_63 : decode cX1_isOfHouse 63 = .ok (.ireturn, 1) := by decide +kernel
theorem dX1_payIn_0 : decode cX1_payIn 0 = .ok (.aload_n 0, 1) := by decide +kernel
theorem dX1_payIn_1 : decode cX1_payIn 1 = .ok (.dup, 1) := by decide +kernel
theorem dX1_payIn_2 : decode cX1_payIn 2 = .ok (.getfield 35, 3) := by decide +kernel
theorem dX1_payIn_5 : decode cX1_payIn 5 = .ok (.iload_n 1, 1) := by decide +kernel
theorem dX1_payIn_6 : decode cX1_payIn 6 = .ok (.isub, 1) := by decide +kernel
theorem dX1_payIn_7 : decode cX1_payIn 7 = .ok (.putfield 35, 3) := by decide +kernel
theorem dX1_payIn_10 : decode cX1_payIn 10 = .ok (.aload_n 0, 1) := by decide +kernel
theorem dX1_payIn_11 : decode cX1_payIn 11 = .ok (.dup, 1) := by decide +kernel
theorem dX1_payIn_12 : decode cX1_payIn 12 = .ok (.getfield 38, 3) := by decide +kernel
theorem dX1_payIn_15 : decode cX1_payIn 15 = .ok (.iload_n 1, 1) := by decide +kernel
theorem dX1_payIn_16 : decode cX1_payIn 16 = .ok (.iadd, 1) := by decide +kernel
theorem dX1_payIn_17 : decode cX1_payIn 17 = .ok (.putfield 38, 3) := by decide +kernel
theorem dX1_payIn_20 : decode cX1_payIn 20 = .ok (.return_, 1) := by decide +kernel
theorem dX1_getOut_0 : decode cX1_getOut 0 = .ok (.aload_n 0, 1) := by decide +kernel
theorem dX1_getOut_1 : decode cX1_getOut 1 = .ok (.dup, 1) := by decide +kernel
theorem dX1_getOut_2 : decode cX1_getOut 2 = .ok (.getfield 35, 3) := by decide +kernel
theorem dX1_getOut_5 : decode cX1_getOut 5 = .ok (.iload_n 1, 1) := by decide +kernel
theorem dX1_getOut_6 : decode cX1_getOut 6 = .ok (.iadd, 1) := by decide +kernel
theorem dX1_getOut_7 : decode cX1_getOut 7 = .ok (.putfield 35, 3) := by decide +kernel
theorem dX1_getOut_10 : decode cX1_getOut 10 = .ok (.aload_n 0, 1) := by decide +kernel
theorem dX1_getOut_11 : decode cX1_getOut 11 = .ok (.dup, 1) := by decide +kernel
theorem dX1_getOut_12 : decode cX1_getOut 12 = .ok (.getfield 38, 3) := by decide +kernel
theorem dX1_getOut_15 : decode cX1_getOut 15 = .ok (.iload_n 1, 1) := by decide +kernel
theorem dX1_getOut_16 : decode cX1_getOut 16 = .ok (.isub, 1) := by decide +kernel
theorem dX1_getOut_17 : decode cX1_getOut 17 = .ok (.putfield 38, 3) := by decide +kernel
theorem dX1_getOut_20 : decode cX1_getOut 20 = .ok (.return_, 1) := by decide +kernel
theorem dX1_takeLoan_0 : decode cX1_takeLoan 0 = .ok (.aload_n 0, 1) := by decide +kernel
theorem dX1_takeLoan_1 : decode cX1_takeLoan 1 = .ok (.iload_n 1, 1) := by decide +kernel
theorem dX1_takeLoan_2 : decode cX1_takeLoan 2 = .ok (.putfield 32, 3) := by decide +kernel
theorem dX1_takeLoan_5 : decode cX1_takeLoan 5 = .ok (.aload_n 0, 1) := by decide +kernel
theorem dX1_takeLoan_6 : decode cX1_takeLoan 6 = .ok (.iconst 0, 1) := by decide +kernel
theorem dX1_takeLoan_7 : decode cX1_takeLoan 7 = .ok (.putfield 41, 3) := by decide +kernel
theorem dX1_takeLoan_10 : decode cX1_takeLoan 10 = .ok (.aload_n 0, 1) := by decide +kernel
theorem dX1_takeLoan_11 : decode cX1_takeLoan 11 = .ok (.aload_n 2, 1) := by decide +kernel
theorem dX1_takeLoan_12 : decode cX1_takeLoan 12 = .ok (.putfield 44, 3) := by decide +kernel
theorem dX1_takeLoan_15 : decode cX1_takeLoan 15 = .ok (.aload_n 0, 1) := by decide +kernel
theorem dX1_takeLoan_16 : decode cX1_takeLoan 16 = .ok (.aload_n 3, 1) := by decide +kernel
theorem dX1_takeLoan_17 : decode cX1_takeLoan 17 = .ok (.putfield 48, 3) := by decide +kernel
theorem dX1_takeLoan_20 : decode cX1_takeLoan 20 = .ok (.aload_n 0, 1) := by decide +kernel
theorem dX1_takeLoan_21 : decode cX1_takeLoan 21 = .ok (.iload_n 1, 1) := by decide +kernel
theorem dX1_takeLoan_22 : decode cX1_takeLoan 22 = .ok (.invokevirtual 51, 3) := by decide +kernel
theorem dX1_takeLoan_25 : decode cX1_takeLoan 25 = .ok (.return_, 1) := by decide +kernel
theorem dX1_ageLoan_0 : decode cX1_ageLoan 0 = .ok (.aload_n 0, 1) := by decide +kernel
theorem dX1_ageLoan_1 : decode cX1_ageLoan 1 = .ok (.dup, 1) := by decide +kernel
theorem dX1_ageLoan_2 : decode cX1_ageLoan 2 = .ok (.getfield 32, 3) := by decide +kernel
theorem dX1_ageLoan_5 : decode cX1_ageLoan 5 = .ok (.aload_n 0, 1) := by decide +kernel
theorem dX1_ageLoan_6 : decode cX1_ageLoan 6 = .ok (.getfield 32, 3) := by decide +kernel
theorem dX1_ageLoan_9 : decode cX1_ageLoan 9 = .ok (.bipush 19, 2) := by decide +kernel
theorem dX1_ageLoan_11 : decode cX1_ageLoan 11 = .ok (.iadd, 1) := by decide +kernel
theorem dX1_ageLoan_12 : decode cX1_ageLoan 12 = .ok (.bipush 20, 2) := by decide +kernel
theorem dX1_ageLoan_14 : decode cX1_ageLoan 14 = .ok (.idiv, 1) := by decide +kernel
theorem dX1_ageLoan_15 : decode cX1_ageLoan 15 = .ok (.iadd, 1) := by decide +kernel
theorem dX1_ageLoan_16 : decode cX1_ageLoan 16 = .ok (.putfield 32, 3) := by decide +kernel
theorem dX1_ageLoan_19 : decode cX1_ageLoan 19 = .ok (.aload_n 0, 1) := by decide +kernel
theorem dX1_ageLoan_20 : decode cX1_ageLoan 20 = .ok (.dup, 1) := by decide +kernel
theorem dX1_ageLoan_21 : decode cX1_ageLoan 21 = .ok (.getfield 41, 3) := by decide +kernel
theorem dX1_ageLoan_24 : decode cX1_ageLoan 24 = .ok (.iconst 1, 1) := by decide +kernel
theorem dX1_ageLoan_25 : decode cX1_ageLoan 25 = .ok (.iadd, 1) := by decide +kernel
theorem dX1_ageLoan_26 : decode cX1_ageLoan 26 = .ok (.putfield 41, 3) := by decide +kernel
theorem dX1_ageLoan_29 : decode cX1_ageLoan 29 = .ok (.return_, 1) := by decide +kernel
theorem dX1_bequeath_0 : decode cX1_bequeath 0 = .ok (.aload_n 1, 1) := by decide +kernel
theorem dX1_bequeath_1 : decode cX1_bequeath 1 = .ok (.dup, 1) := by decide +kernel
theorem dX1_bequeath_2 : decode cX1_bequeath 2 = .ok (.getfield 35, 3) := by decide +kernel
theorem dX1_bequeath_5 : decode cX1_bequeath 5 = .ok (.aload_n 0, 1) := by decide +kernel
theorem dX1_bequeath_6 : decode cX1_bequeath 6 = .ok (.getfield 35, 3) := by decide +kernel
theorem dX1_bequeath_9 : decode cX1_bequeath 9 = .ok (.iadd, 1) := by decide +kernel
theorem dX1_bequeath_10 : decode cX1_bequeath 10 = .ok (.putfield 35, 3) := by decide +kernel
theorem dX1_bequeath_13 : decode cX1_bequeath 13 = .ok (.aload_n 1, 1) := by decide +kernel
theorem dX1_bequeath_14 : decode cX1_bequeath 14 = .ok (.dup, 1) := by decide +kernel
theorem dX1_bequeath_15 : decode cX1_bequeath 15 = .ok (.getfield 29, 3) := by decide +kernel
theorem dX1_bequeath_18 : decode cX1_bequeath 18 = .ok (.aload_n 0, 1) := by decide +kernel
theorem dX1_bequeath_19 : decode cX1_bequeath 19 = .ok (.getfield 29, 3) := by decide +kernel
theorem dX1_bequeath_22 : decode cX1_bequeath 22 = .ok (.iadd, 1) := by decide +kernel
theorem dX1_bequeath_23 : decode cX1_bequeath 23 = .ok (.putfield 29, 3) := by decide +kernel
theorem dX1_bequeath_26 : decode cX1_bequeath 26 = .ok (.aload_n 1, 1) := by decide +kernel
theorem dX1_bequeath_27 : decode cX1_bequeath 27 = .ok (.invokevirtual 55, 3) := by decide +kernel
theorem dX1_bequeath_30 : decode cX1_bequeath 30 = .ok (.ifCond .ne 27, 3) := by decide +kernel
theorem dX1_bequeath_33 : decode cX1_bequeath 33 = .ok (.aload_n 1, 1) := by decide +kernel
theorem dX1_bequeath_34 : decode cX1_bequeath 34 = .ok (.aload_n 0, 1) := by decide +kernel
theorem dX1_bequeath_35 : decode cX1_bequeath 35 = .ok (.getfield 41, 3) := by decide +kernel
theorem dX1_bequeath_38 : decode cX1_bequeath 38 = .ok (.putfield 41, 3) := by decide +kernel
theorem dX1_bequeath_41 : decode cX1_bequeath 41 = .ok (.aload_n 1, 1) := by decide +kernel
theorem dX1_bequeath_42 : decode cX1_bequeath 42 = .ok (.aload_n 0, 1) := by decide +kernel
theorem dX1_bequeath_43 : decode cX1_bequeath 43 = .ok (.getfield 44, 3) := by decide +kernel
theorem dX1_bequeath_46 : decode cX1_bequeath 46 = .ok (.putfield 44, 3) := by decide +kernel
theorem dX1_bequeath_49 : decode cX1_bequeath 49 = .ok (.aload_n 1, 1) := by decide +kernel
theorem dX1_bequeath_50 : decode cX1_bequeath 50 = .ok (.aload_n 0, 1) := by decide +kernel
theorem dX1_bequeath_51 : decode cX1_bequeath 51 = .ok (.getfield 48, 3) := by decide +kernel
theorem dX1_bequeath_54 : decode cX1_bequeath 54 = .ok (.putfield 48, 3) := by decide +kernel
theorem dX1_bequeath_57 : decode cX1_bequeath 57 = .ok (.aload_n 1, 1) := by decide +kernel
theorem dX1_bequeath_58 : decode cX1_bequeath 58 = .ok (.dup, 1) := by decide +kernel
theorem dX1_bequeath_59 : decode cX1_bequeath 59 = .ok (.getfield 32, 3) := by decide +kernel
theorem dX1_bequeath_62 : decode cX1_bequeath 62 = .ok (.aload_n 0, 1) := by decide +kernel
theorem dX1_bequeath_63 : decode cX1_bequeath 63 = .ok (.getfield 32, 3) := by decide +kernel
theorem dX1_bequeath_66 : decode cX1_bequeath 66 = .ok (.iadd, 1) := by decide +kernel
theorem dX1_bequeath_67 : decode cX1_bequeath 67 = .ok (.putfield 32, 3) := by decide +kernel
theorem dX1_bequeath_70 : decode cX1_bequeath 70 = .ok (.aload_n 0, 1) := by decide +kernel
theorem dX1_bequeath_71 : decode cX1_bequeath 71 = .ok (.iconst 0, 1) := by decide +kernel
theorem dX1_bequeath_72 : decode cX1_bequeath 72 = .ok (.putfield 35, 3) := by decide +kernel
theorem dX1_bequeath_75 : decode cX1_bequeath 75 = .ok (.aload_n 0, 1) := by decide +kernel
theorem dX1_bequeath_76 : decode cX1_bequeath 76 = .ok (.iconst 0, 1) := by decide +kernel
theorem dX1_bequeath_77 : decode cX1_bequeath 77 = .ok (.putfield 29, 3) := by decide +kernel
theorem dX1_bequeath_80 : decode cX1_bequeath 80 = .ok (.aload_n 0, 1) := by decide +kernel
theorem dX1_bequeath_81 : decode cX1_bequeath 81 = .ok (.iconst 0, 1) := by decide +kernel
theorem dX1_bequeath_82 : decode cX1_bequeath 82 = .ok (.putfield 32, 3) := by decide +kernel
theorem dX1_bequeath_85 : decode cX1_bequeath 85 = .ok (.aload_n 0, 1) := by decide +kernel
theorem dX1_bequeath_86 : decode cX1_bequeath 86 = .ok (.iconst 1, 1) := by decide +kernel
theorem dX1_bequeath_87 : decode cX1_bequeath 87 = .ok (.putfield 25, 3) := by decide +kernel
theorem dX1_bequeath_90 : decode cX1_bequeath 90 = .ok (.return_, 1) := by decide +kernel
theorem dX2_init_0 : decode cX2_init 0 = .ok (.aload_n 0, 1) := by decide +kernel
theorem dX2_init_1 : decode cX2_init 1 = .ok (.invokespecial 3, 3) := by decide +kernel
theorem dX2_init_4 : decode cX2_init 4 = .ok (.aload_n 0, 1) := by decide +kernel
theorem dX2_init_5 : decode cX2_init 5 = .ok (.aload_n 1, 1) := by decide +kernel
theorem dX2_init_6 : decode cX2_init 6 = .ok (.putfield 9, 3) := by decide +kernel
theorem dX2_init_9 : decode cX2_init 9 = .ok (.return_, 1) := by decide +kernel
theorem dX2_changeNeed_0 : decode cX2_changeNeed 0 = .ok (.aload_n 0, 1) := by decide +kernel
theorem dX2_changeNeed_1 : decode cX2_changeNeed 1 = .ok (.getfield 15, 3) := by decide +kernel
theorem dX2_changeNeed_4 : decode cX2_changeNeed 4 = .ok (.istore_n 2, 1) := by decide +kernel
theorem dX2_changeNeed_5 : decode cX2_changeNeed 5 = .ok (.aload_n 0, 1) := by decide +kernel
theorem dX2_changeNeed_6 : decode cX2_changeNeed 6 = .ok (.iload_n 1, 1) := by decide +kernel
theorem dX2_changeNeed_7 : decode cX2_changeNeed 7 = .ok (.putfield 15, 3) := by decide +kernel
theorem dX2_changeNeed_10 : decode cX2_changeNeed 10 = .ok (.iload_n 2, 1) := by decide +kernel
theorem dX2_changeNeed_11 : decode cX2_changeNeed 11 = .ok (.ireturn, 1) := by decide +kernel
theorem dX2_changeBid_0 : decode cX2_changeBid 0 = .ok (.aload_n 0, 1) := by decide +kernel
theorem dX2_changeBid_1 : decode cX2_changeBid 1 = .ok (.getfield 19, 3) := by decide +kernel
theorem dX2_changeBid_4 : decode cX2_changeBid 4 = .ok (.istore_n 2, 1) := by decide +kernel
theorem dX2_changeBid_5 : decode cX2_changeBid 5 = .ok (.aload_n 0, 1) := by decide +kernel
theorem dX2_changeBid_6 : decode cX2_changeBid 6 = .ok (.iload_n 1, 1) := by decide +kernel
theorem dX2_changeBid_7 : decode cX2_changeBid 7 = .ok (.putfield 19, 3) := by decide +kernel
theorem dX2_changeBid_10 : decode cX2_changeBid 10 = .ok (.iload_n 2, 1) := by decide +kernel
theorem dX2_changeBid_11 : decode cX2_changeBid 11 = .ok (.ireturn, 1) := by decide +kernel
theorem dX2_rank_0 : decode cX2_rank 0 = .ok (.iload_n 1, 1) := by decide +kernel
theorem dX2_rank_1 : decode cX2_rank 1 = .ok (.iconst 2, 1) := by decide +kernel
theorem dX2_rank_2 : decode cX2_rank 2 = .ok (.if_icmp .ne 10, 3) := by decide +kernel
theorem dX2_rank_5 : decode cX2_rank 5 = .ok (.aload_n 0, 1) := by decide +kernel
theorem dX2_rank_6 : decode cX2_rank 6 = .ok (.getfield 15, 3) := by decide +kernel
theorem dX2_rank_9 : decode cX2_rank 9 = .ok (.goto 7, 3) := by decide +kernel
theorem dX2_rank_12 : decode cX2_rank 12 = .ok (.aload_n 0, 1) := by decide +kernel
theorem dX2_rank_13 : decode cX2_rank 13 = .ok (.getfield 19, 3) := by decide +kernel
theorem dX2_rank_16 : decode cX2_rank 16 = .ok (.ireturn, 1) := by decide +kernel
theorem dX3_init_0 : decode cX3_init 0 = .ok (.aload_n 0, 1) := by decide +kernel
theorem dX3_init_1 : decode cX3_init 1 = .ok (.invokespecial 1, 3) := by decide +kernel
theorem dX3_init_4 : decode cX3_init 4 = .ok (.aload_n 0, 1) := by decide +kernel
theorem dX3_init_5 : decode cX3_init 5 = .ok (.new 7, 3) := by decide +kernel
theorem dX3_init_8 : decode cX3_init 8 = .ok (.dup, 1) := by decide +kernel
theorem dX3_init_9 : decode cX3_init 9 = .ok (.invokespecial 9, 3) := by decide +kernel
theorem dX3_init_12 : decode cX3_init 12 = .ok (.putfield 10, 3) := by decide +kernel
theorem dX3_init_15 : decode cX3_init 15 = .ok (.aload_n 0, 1) := by decide +kernel
theorem dX3_init_16 : decode cX3_init 16 = .ok (.new 7, 3) := by decide +kernel
theorem dX3_init_19 : decode cX3_init 19 = .ok (.dup, 1) := by decide +kernel
theorem dX3_init_20 : decode cX3_init 20 = .ok (.invokespecial 9, 3) := by decide +kernel
theorem dX3_init_23 : decode cX3_init 23 = .ok (.putfield 16, 3) := by decide +kernel
theorem dX3_init_26 : decode cX3_init 26 = .ok (.return_, 1) := by decide +kernel
theorem dX3_person_0 : decode cX3_person 0 = .ok (.iload_n 1, 1) := by decide +kernel
theorem dX3_person_1 : decode cX3_person 1 = .ok (.iconst 1, 1) := by decide +kernel
theorem dX3_person_2 : decode cX3_person 2 = .ok (.bipush 120, 2) := by decide +kernel
theorem dX3_person_4 : decode cX3_person 4 = .ok (.invokestatic 19, 3) := by decide +kernel
theorem dX3_person_7 : decode cX3_person 7 = .ok (.iload_n 2, 1) := by decide +kernel
theorem dX3_person_8 : decode cX3_person 8 = .ok (.iconst 0, 1) := by decide +kernel
theorem dX3_person_9 : decode cX3_person 9 = .ok (.ldc 23, 2) := by decide +kernel
theorem dX3_person_11 : decode cX3_person 11 = .ok (.invokestatic 19, 3) := by decide +kernel
theorem dX3_person_14 : decode cX3_person 14 = .ok (.aload_n 0, 1) := by decide +kernel
theorem dX3_person_15 : decode cX3_person 15 = .ok (.getfield 10, 3) := by decide +kernel
theorem dX3_person_18 : decode cX3_person 18 = .ok (.invokevirtual 24, 3) := by decide +kernel
theorem dX3_person_21 : decode cX3_person 21 = .ok (.bipush 16, 2) := by decide +kernel
theorem dX3_person_23 : decode cX3_person 23 = .ok (.if_icmp .lt 13, 3) := by decide +kernel
theorem dX3_person_26 : decode cX3_person 26 = .ok (.new 28, 3) := by decide +kernel
theorem dX3_person_29 : decode cX3_person 29 = .ok (.dup, 1) := by decide +kernel
theorem dX3_person_30 : decode cX3_person 30 = .ok (.ldc 30, 2) := by decide +kernel
theorem dX3_person_32 : decode cX3_person 32 = .ok (.invokespecial 32, 3) := by decide +kernel
theorem dX3_person_35 : decode cX3_person 35 = .ok (.athrow, 1) := by decide +kernel
theorem dX3_person_36 : decode cX3_person 36 = .ok (.new 35, 3) := by decide +kernel
theorem dX3_person_39 : decode cX3_person 39 = .ok (.dup, 1) := by decide +kernel
theorem dX3_person_40 : decode cX3_person 40 = .ok (.aload_n 0, 1) := by decide +kernel
theorem dX3_person_41 : decode cX3_person 41 = .ok (.getfield 10, 3) := by decide +kernel
theorem dX3_person_44 : decode cX3_person 44 = .ok (.invokevirtual 24, 3) := by decide +kernel
theorem dX3_person_47 : decode cX3_person 47 = .ok (.iload_n 1, 1) := by decide +kernel
theorem dX3_person_48 : decode cX3_person 48 = .ok (.iload_n 2, 1) := by decide +kernel
theorem dX3_person_49 : decode cX3_person 49 = .ok (.invokespecial 37, 3) := by decide +kernel
theorem dX3_person_52 : decode cX3_person 52 = .ok (.astore_n 3, 1) := by decide +kernel
theorem dX3_person_53 : decode cX3_person 53 = .ok (.aload_n 0, 1) := by decide +kernel
theorem dX3_person_54 : decode cX3_person 54 = .ok (.getfield 10, 3) := by decide +kernel
theorem dX3_person_57 : decode cX3_person 57 = .ok (.aload_n 3, 1) := by decide +kernel
theorem dX3_person_58 : decode cX3_person 58 = .ok (.invokevirtual 39, 3) := by decide +kernel
theorem dX3_person_61 : decode cX3_person 61 = .ok (.pop, 1) := by decide +kernel
theorem dX3_person_62 : decode cX3_person 62 = .ok (.aload_n 3, 1) := by decide +kernel
theorem dX3_person_63 : decode cX3_person 63 = .ok (.getfield 43, 3) := by decide +kernel
theorem dX3_person_66 : decode cX3_person 66 = .ok (.ireturn, 1) := by decide +kernel
theorem dX3_earn_0 : decode cX3_earn 0 = .ok (.aload_n 0, 1) := by decide +kernel
theorem dX3_earn_1 : decode cX3_earn 1 = .ok (.iload_n 1, 1) := by decide +kernel
theorem dX3_earn_2 : decode cX3_earn 2 = .ok (.invokevirtual 47, 3) := by decide +kernel
theorem dX3_earn_5 : decode cX3_earn 5 = .ok (.astore_n 3, 1) := by decide +kernel
theorem dX3_earn_6 : decode cX3_earn 6 = .ok (.iload_n 2, 1) := by decide +kernel
theorem dX3_earn_7 : decode cX3_earn 7 = .ok (.sipush (-10000), 3) := by decide +kernel
theorem dX3_earn_10 : decode cX3_earn 10 = .ok (.sipush 10000, 3) := by decide +kernel
theorem dX3_earn_13 : decode cX3_earn 13 = .ok (.invokestatic 19, 3) := by decide +kernel
theorem dX3_earn_16 : decode cX3_earn 16 = .ok (.aload_n 3, 1) := by decide +kernel
theorem dX3_earn_17 : decode cX3_earn 17 = .ok (.getfield 51, 3) := by decide +kernel
theorem dX3_earn_20 : decode cX3_earn 20 = .ok (.iload_n 2, 1) := by decide +kernel
theorem dX3_earn_21 : decode cX3_earn 21 = .ok (.iadd, 1) := by decide +kernel
theorem dX3_earn_22 : decode cX3_earn 22 = .ok (.istore 4, 2) := by decide +kernel
theorem dX3_earn_24 : decode cX3_earn 24 = .ok (.aload_n 3, 1) := by decide +kernel
theorem dX3_earn_25 : decode cX3_earn 25 = .ok (.getfield 54, 3) := by decide +kernel
theorem dX3_earn_28 : decode cX3_earn 28 = .ok (.ifCond .ne 15, 3) := by decide +kernel
theorem dX3_earn_31 : decode cX3_earn 31 = .ok (.iload 4, 2) := by decide +kernel
theorem dX3_earn_33 : decode cX3_earn 33 = .ok (.ifCond .lt 10, 3) := by decide +kernel
theorem dX3_earn_36 : decode cX3_earn 36 = .ok (.iload 4, 2) := by decide +kernel
theorem dX3_earn_38 : decode cX3_earn 38 = .ok (.ldc 58, 2) := by decide +kernel
theorem dX3_earn_40 : decode cX3_earn 40 = .ok (.if_icmp .le 13, 3) := by decide +kernel
theorem dX3_earn_43 : decode cX3_earn 43 = .ok (.new 28, 3) := by decide +kernel
theorem dX3_earn_46 : decode cX3_earn 46 = .ok (.dup, 1) := by decide +kernel
theorem dX3_earn_47 : decode cX3_earn 47 = .ok (.ldc 59, 2) := by decide +kernel
theorem dX3_earn_49 : decode cX3_earn 49 = .ok (.invokespecial 32, 3) := by decide +kernel
theorem dX3_earn_52 : decode cX3_earn 52 = .ok (.athrow, 1) := by decide +kernel
theorem dX3_earn_53 : decode cX3_earn 53 = .ok (.aload_n 3, 1) := by decide +kernel
theorem dX3_earn_54 : decode cX3_earn 54 = .ok (.iload 4, 2) := by decide +kernel
theorem dX3_earn_56 : decode cX3_earn 56 = .ok (.putfield 51, 3) := by decide +kernel
theorem dX3_earn_59 : decode cX3_earn 59 = .ok (.aload_n 0, 1) := by decide +kernel
theorem dX3_earn_60 : decode cX3_earn 60 = .ok (.dup, 1) := by decide +kernel
theorem dX3_earn_61 : decode cX3_earn 61 = .ok (.getfield 61, 3) := by decide +kernel
theorem dX3_earn_64 : decode cX3_earn 64 = .ok (.iload_n 2, 1) := by decide +kernel
theorem dX3_earn_65 : decode cX3_earn 65 = .ok (.iadd, 1) := by decide +kernel
theorem dX3_earn_66 : decode cX3_earn 66 = .ok (.putfield 61, 3) := by decide +kernel
theorem dX3_earn_69 : decode cX3_earn 69 = .ok (.iload 4, 2) := by decide +kernel
theorem dX3_earn_71 : decode cX3_earn 71 = .ok (.ireturn, 1) := by decide +kernel
theorem dX3_die_0 : decode cX3_die 0 = .ok (.aload_n 0, 1) := by decide +kernel
theorem dX3_die_1 : decode cX3_die 1 = .ok (.iload_n 1, 1) := by decide +kernel
theorem dX3_die_2 : decode cX3_die 2 = .ok (.invokevirtual 47, 3) := by decide +kernel
theorem dX3_die_5 : decode cX3_die 5 = .ok (.astore_n 3, 1) := by decide +kernel
theorem dX3_die_6 : decode cX3_die 6 = .ok (.aload_n 0, 1) := by decide +kernel
theorem dX3_die_7 : decode cX3_die 7 = .ok (.iload_n 2, 1) := by decide +kernel
theorem dX3_die_8 : decode cX3_die 8 = .ok (.invokevirtual 47, 3) := by decide +kernel
theorem dX3_die_11 : decode cX3_die 11 = .ok (.astore 4, 2) := by decide +kernel
theorem dX3_die_13 : decode cX3_die 13 = .ok (.iload_n 1, 1) := by decide +kernel
theorem dX3_die_14 : decode cX3_die 14 = .ok (.iload_n 2, 1) := by decide +kernel
theorem dX3_die_15 : decode cX3_die 15 = .ok (.if_icmp .ne 13, 3) := by decide +kernel
theorem dX3_die_18 : decode cX3_die 18 = .ok (.new 64, 3) := by decide +kernel
theorem dX3_die_21 : decode cX3_die 21 = .ok (.dup, 1) := by decide +kernel
theorem dX3_die_22 : decode cX3_die 22 = .ok (.ldc 66, 2) := by decide +kernel
theorem dX3_die_24 : decode cX3_die 24 = .ok (.invokespecial 68, 3) := by decide +kernel
theorem dX3_die_27 : decode cX3_die 27 = .ok (.athrow, 1) := by decide +kernel
theorem dX3_die_28 : decode cX3_die 28 = .ok (.aload_n 3, 1) := by decide +kernel
theorem dX3_die_29 : decode cX3_die 29 = .ok (.getfield 54, 3) := by decide +kernel
theorem dX3_die_32 : decode cX3_die 32 = .ok (.ifCond .ne 26, 3) := by decide +kernel
theorem dX3_die_35 : decode cX3_die 35 = .ok (.aload 4, 2) := by decide +kernel
theorem dX3_die_37 : decode cX3_die 37 = .ok (.getfield 54, 3) := by decide +kernel
theorem dX3_die_40 : decode cX3_die 40 = .ok (.ifCond .ne 18, 3) := by decide +kernel
theorem dX3_die_43 : decode cX3_die 43 = .ok (.aload_n 3, 1) := by decide +kernel
theorem dX3_die_44 : decode cX3_die 44 = .ok (.getfield 69, 3) := by decide +kernel
theorem dX3_die_47 : decode cX3_die 47 = .ok (.aload 4, 2) := by decide +kernel
theorem dX3_die_49 : decode cX3_die 49 = .ok (.getfield 69, 3) := by decide +kernel
theorem dX3_die_52 : decode cX3_die 52 = .ok (.iadd, 1) := by decide +kernel
theorem dX3_die_53 : decode cX3_die 53 = .ok (.bipush 100, 2) := by decide +kernel
theorem dX3_die_55 : decode cX3_die 55 = .ok (.if_icmp .le 13, 3) := by decide +kernel
theorem dX3_die_58 : decode cX3_die 58 = .ok (.new 28, 3) := by decide +kernel
theorem dX3_die_61 : decode cX3_die 61 = .ok (.dup, 1) := by decide +kernel
theorem dX3_die_62 : decode cX3_die 62 = .ok (.ldc 72, 2) := by decide +kernel
theorem dX3_die_64 : decode cX3_die 64 = .ok (.invokespecial 32, 3) := by decide +kernel
theorem dX3_die_67 : decode cX3_die 67 = .ok (.athrow, 1) := by decide +kernel
theorem dX3_die_68 : decode cX3_die 68 = .ok (.aload_n 3, 1) := by decide +kernel
theorem dX3_die_69 : decode cX3_die 69 = .ok (.aload 4, 2) := by decide +kernel
theorem dX3_die_71 : decode cX3_die 71 = .ok (.invokevirtual 74, 3) := by decide +kernel
theorem dX3_die_74 : decode cX3_die 74 = .ok (.iconst 0, 1) := by decide +kernel
theorem dX3_die_75 : decode cX3_die 75 = .ok (.istore 5, 2) := by decide +kernel
theorem dX3_die_77 : decode cX3_die 77 = .ok (.iconst 0, 1) := by decide +kernel
theorem dX3_die_78 : decode cX3_die 78 = .ok (.istore 6, 2) := by decide +kernel
theorem dX3_die_80 : decode cX3_die 80 = .ok (.iload 6, 2) := by decide +kernel
theorem dX3_die_82 : decode cX3_die 82 = .ok (.aload_n 0, 1) := by decide +kernel
theorem dX3_die_83 : decode cX3_die 83 = .ok (.getfield 16, 3) := by decide +kernel
theorem dX3_die_86 : decode cX3_die 86 = .ok (.invokevirtual 24, 3) := by decide +kernel
theorem dX3_die_89 : decode cX3_die 89 = .ok (.if_icmp .ge 33, 3) := by decide +kernel
theorem dX3_die_92 : decode cX3_die 92 = .ok (.aload_n 0, 1) := by decide +kernel
theorem dX3_die_93 : decode cX3_die 93 = .ok (.getfield 16, 3) := by decide +kernel
theorem dX3_die_96 : decode cX3_die 96 = .ok (.iload 6, 2) := by decide +kernel
theorem dX3_die_98 : decode cX3_die 98 = .ok (.invokevirtual 78, 3) := by decide +kernel
theorem dX3_die_101 : decode cX3_die 101 = .ok (.checkcast 82, 3) := by decide +kernel
theorem dX3_die_104 : decode cX3_die 104 = .ok (.aload_n 3, 1) := by decide +kernel
theorem dX3_die_105 : decode cX3_die 105 = .ok (.aload 4, 2) := by decide +kernel
theorem dX3_die_107 : decode cX3_die 107 = .ok (.invokevirtual 84, 3) := by decide +kernel
theorem dX3_die_110 : decode cX3_die 110 = .ok (.ifCond .eq 6, 3) := by decide +kernel
theorem dX3_die_113 : decode cX3_die 113 = .ok (.iinc 5 1, 3) := by decide +kernel
theorem dX3_die_116 : decode cX3_die 116 = .ok (.iinc 6 1, 3) := by decide +kernel
theorem dX3_die_119 : decode cX3_die 119 = .ok (.goto (-39), 3) := by decide +kernel
theorem dX3_die_122 : decode cX3_die 122 = .ok (.iload 5, 2) := by decide +kernel
theorem dX3_die_124 : decode cX3_die 124 = .ok (.ireturn, 1) := by decide +kernel
theorem dX3_circle_0 : decode cX3_circle 0 = .ok (.iload_n 1, 1) := by decide +kernel
theorem dX3_circle_1 : decode cX3_circle 1 = .ok (.iconst 1, 1) := by decide +kernel
theorem dX3_circle_2 : decode cX3_circle 2 = .ok (.sipush 1000, 3) := by decide +kernel
theorem dX3_circle_5 : decode cX3_circle 5 = .ok (.invokestatic 19, 3) := by decide +kernel
theorem dX3_circle_8 : decode cX3_circle 8 = .ok (.iload_n 2, 1) := by decide +kernel
theorem dX3_circle_9 : decode cX3_circle 9 = .ok (.iconst 0, 1) := by decide +kernel
theorem dX3_circle_10 : decode cX3_circle 10 = .ok (.iconst 3, 1) := by decide +kernel
theorem dX3_circle_11 : decode cX3_circle 11 = .ok (.invokestatic 19, 3) := by decide +kernel
theorem dX3_circle_14 : decode cX3_circle 14 = .ok (.aload_n 0, 1) := by decide +kernel
theorem dX3_circle_15 : decode cX3_circle 15 = .ok (.getfield 16, 3) := by decide +kernel
theorem dX3_circle_18 : decode cX3_circle 18 = .ok (.invokevirtual 24, 3) := by decide +kernel
theorem dX3_circle_21 : decode cX3_circle 21 = .ok (.iconst 4, 1) := by decide +kernel
theorem dX3_circle_22 : decode cX3_circle 22 = .ok (.if_icmp .lt 13, 3) := by decide +kernel
theorem dX3_circle_25 : decode cX3_circle 25 = .ok (.new 28, 3) := by decide +kernel
theorem dX3_circle_28 : decode cX3_circle 28 = .ok (.dup, 1) := by decide +kernel
theorem dX3_circle_29 : decode cX3_circle 29 = .ok (.ldc 88, 2) := by decide +kernel
theorem dX3_circle_31 : decode cX3_circle 31 = .ok (.invokespecial 32, 3) := by decide +kernel
theorem dX3_circle_34 : decode cX3_circle 34 = .ok (.athrow, 1) := by decide +kernel
theorem dX3_circle_35 : decode cX3_circle 35 = .ok (.aload_n 0, 1) := by decide +kernel
theorem dX3_circle_36 : decode cX3_circle 36 = .ok (.getfield 16, 3) := by decide +kernel
theorem dX3_circle_39 : decode cX3_circle 39 = .ok (.new 82, 3) := by decide +kernel
theorem dX3_circle_42 : decode cX3_circle 42 = .ok (.dup, 1) := by decide +kernel
theorem dX3_circle_43 : decode cX3_circle 43 = .ok (.iload_n 1, 1) := by decide +kernel
theorem dX3_circle_44 : decode cX3_circle 44 = .ok (.iload_n 2, 1) := by decide +kernel
theorem dX3_circle_45 : decode cX3_circle 45 = .ok (.invokespecial 90, 3) := by decide +kernel
theorem dX3_circle_48 : decode cX3_circle 48 = .ok (.invokevirtual 39, 3) := by decide +kernel
theorem dX3_circle_51 : decode cX3_circle 51 = .ok (.pop, 1) := by decide +kernel
theorem dX3_circle_52 : decode cX3_circle 52 = .ok (.aload_n 0, 1) := by decide +kernel
theorem dX3_circle_53 : decode cX3_circle 53 = .ok (.getfield 16, 3) := by decide +kernel
theorem dX3_circle_56 : decode cX3_circle 56 = .ok (.invokevirtual 24, 3) := by decide +kernel
theorem dX3_circle_59 : decode cX3_circle 59 = .ok (.iconst 1, 1) := by decide +kernel
theorem dX3_circle_60 : decode cX3_circle 60 = .ok (.isub, 1) := by decide +kernel
theorem dX3_circle_61 : decode cX3_circle 61 = .ok (.ireturn, 1) := by decide +kernel
theorem dX3_enter_0 : decode cX3_enter 0 = .ok (.aload_n 0, 1) := by decide +kernel
theorem dX3_enter_1 : decode cX3_enter 1 = .ok (.iload_n 1, 1) := by decide +kernel
theorem dX3_enter_2 : decode cX3_enter 2 = .ok (.invokevirtual 93, 3) := by decide +kernel
theorem dX3_enter_5 : decode cX3_enter 5 = .ok (.astore_n 3, 1) := by decide +kernel
theorem dX3_enter_6 : decode cX3_enter 6 = .ok (.aload_n 0, 1) := by decide +kernel
theorem dX3_enter_7 : decode cX3_enter 7 = .ok (.iload_n 2, 1) := by decide +kernel
theorem dX3_enter_8 : decode cX3_enter 8 = .ok (.invokevirtual 47, 3) := by decide +kernel
theorem dX3_enter_11 : decode cX3_enter 11 = .ok (.astore 4, 2) := by decide +kernel
theorem dX3_enter_13 : decode cX3_enter 13 = .ok (.aload_n 3, 1) := by decide +kernel
theorem dX3_enter_14 : decode cX3_enter 14 = .ok (.getfield 97, 3) := by decide +kernel
theorem dX3_enter_17 : decode cX3_enter 17 = .ok (.ifCond .ne 15, 3) := by decide +kernel
theorem dX3_enter_20 : decode cX3_enter 20 = .ok (.aload_n 3, 1) := by decide +kernel
theorem dX3_enter_21 : decode cX3_enter 21 = .ok (.getfield 100, 3) := by decide +kernel
theorem dX3_enter_24 : decode cX3_enter 24 = .ok (.invokevirtual 24, 3) := by decide +kernel
theorem dX3_enter_27 : decode cX3_enter 27 = .ok (.bipush 10, 2) := by decide +kernel
theorem dX3_enter_29 : decode cX3_enter 29 = .ok (.if_icmp .lt 13, 3) := by decide +kernel
theorem dX3_enter_32 : decode cX3_enter 32 = .ok (.new 28, 3) := by decide +kernel
theorem dX3_enter_35 : decode cX3_enter 35 = .ok (.dup, 1) := by decide +kernel
theorem dX3_enter_36 : decode cX3_enter 36 = .ok (.ldc 103, 2) := by decide +kernel
theorem dX3_enter_38 : decode cX3_enter 38 = .ok (.invokespecial 32, 3) := by decide +kernel
theorem dX3_enter_41 : decode cX3_enter 41 = .ok (.athrow, 1) := by decide +kernel
theorem dX3_enter_42 : decode cX3_enter 42 = .ok (.aload 4, 2) := by decide +kernel
theorem dX3_enter_44 : decode cX3_enter 44 = .ok (.getfield 54, 3) := by decide +kernel
theorem dX3_enter_47 : decode cX3_enter 47 = .ok (.ifCond .ne 12, 3) := by decide +kernel
theorem dX3_enter_50 : decode cX3_enter 50 = .ok (.aload_n 3, 1) := by decide +kernel
theorem dX3_enter_51 : decode cX3_enter 51 = .ok (.aload 4, 2) := by decide +kernel
theorem dX3_enter_53 : decode cX3_enter 53 = .ok (.invokevirtual 105, 3) := by decide +kernel
theorem dX3_enter_56 : decode cX3_enter 56 = .ok (.ifnull 13, 3) := by decide +kernel
theorem dX3_enter_59 : decode cX3_enter 59 = .ok (.new 28, 3) := by decide +kernel
theorem dX3_enter_62 : decode cX3_enter 62 = .ok (.dup, 1) := by decide +kernel
theorem dX3_enter_63 : decode cX3_enter 63 = .ok (.ldc 109, 2) := by decide +kernel
theorem dX3_enter_65 : decode cX3_enter 65 = .ok (.invokespecial 32, 3) := by decide +kernel
theorem dX3_enter_68 : decode cX3_enter 68 = .ok (.athrow, 1) := by decide +kernel
theorem dX3_enter_69 : decode cX3_enter 69 = .ok (.aload_n 3, 1) := by decide +kernel
theorem dX3_enter_70 : decode cX3_enter 70 = .ok (.getfield 100, 3) := by decide +kernel
theorem dX3_enter_73 : decode cX3_enter 73 = .ok (.new 111, 3) := by decide +kernel
theorem dX3_enter_76 : decode cX3_enter 76 = .ok (.dup, 1) := by decide +kernel
theorem dX3_enter_77 : decode cX3_enter 77 = .ok (.aload 4, 2) := by decide +kernel
theorem dX3_enter_79 : decode cX3_enter 79 = .ok (.invokespecial 113, 3) := by decide +kernel
theorem dX3_enter_82 : decode cX3_enter 82 = .ok (.invokevirtual 39, 3) := by decide +kernel
theorem dX3_enter_85 : decode cX3_enter 85 = .ok (.pop, 1) := by decide +kernel
theorem dX3_enter_86 : decode cX3_enter 86 = .ok (.aload_n 3, 1) := by decide +kernel
theorem dX3_enter_87 : decode cX3_enter 87 = .ok (.getfield 100, 3) := by decide +kernel
theorem dX3_enter_90 : decode cX3_enter 90 = .ok (.invokevirtual 24, 3) := by decide +kernel
theorem dX3_enter_93 : decode cX3_enter 93 = .ok (.ireturn, 1) := by decide +kernel
theorem dX3_start_0 : decode cX3_start 0 = .ok (.aload_n 0, 1) := by decide +kernel
theorem dX3_start_1 : decode cX3_start 1 = .ok (.iload_n 1, 1) := by decide +kernel
theorem dX3_start_2 : decode cX3_start 2 = .ok (.invokevirtual 93, 3) := by decide +kernel
theorem dX3_start_5 : decode cX3_start 5 = .ok (.astore_n 3, 1) := by decide +kernel
theorem dX3_start_6 : decode cX3_start 6 = .ok (.iload_n 2, 1) := by decide +kernel
theorem dX3_start_7 : decode cX3_start 7 = .ok (.iconst 0, 1) := by decide +kernel
theorem dX3_start_8 : decode cX3_start 8 = .ok (.sipush 9999, 3) := by decide +kernel
theorem dX3_start_11 : decode cX3_start 11 = .ok (.invokestatic 19, 3) := by decide +kernel
theorem dX3_start_14 : decode cX3_start 14 = .ok (.aload_n 3, 1) := by decide +kernel
theorem dX3_start_15 : decode cX3_start 15 = .ok (.getfield 97, 3) := by decide +kernel
theorem dX3_start_18 : decode cX3_start 18 = .ok (.ifCond .ne 14, 3) := by decide +kernel
theorem dX3_start_21 : decode cX3_start 21 = .ok (.aload_n 3, 1) := by decide +kernel
theorem dX3_start_22 : decode cX3_start 22 = .ok (.getfield 100, 3) := by decide +kernel
theorem dX3_start_25 : decode cX3_start 25 = .ok (.invokevirtual 24, 3) := by decide +kernel
theorem dX3_start_28 : decode cX3_start 28 = .ok (.iconst 2, 1) := by decide +kernel
theorem dX3_start_29 : decode cX3_start 29 = .ok (.if_icmp .ge 13, 3) := by decide +kernel
theorem dX3_start_32 : decode cX3_start 32 = .ok (.new 28, 3) := by decide +kernel
theorem dX3_start_35 : decode cX3_start 35 = .ok (.dup, 1) := by decide +kernel
theorem dX3_start_36 : decode cX3_start 36 = .ok (.ldc 115, 2) := by decide +kernel
theorem dX3_start_38 : decode cX3_start 38 = .ok (.invokespecial 32, 3) := by decide +kernel
theorem dX3_start_41 : decode cX3_start 41 = .ok (.athrow, 1) := by decide +kernel
theorem dX3_start_42 : decode cX3_start 42 = .ok (.aload_n 3, 1) := by decide +kernel
theorem dX3_start_43 : decode cX3_start 43 = .ok (.iconst 1, 1) := by decide +kernel
theorem dX3_start_44 : decode cX3_start 44 = .ok (.putfield 97, 3) := by decide +kernel
theorem dX3_start_47 : decode cX3_start 47 = .ok (.aload_n 3, 1) := by decide +kernel
theorem dX3_start_48 : decode cX3_start 48 = .ok (.iload_n 2, 1) := by decide +kernel
theorem dX3_start_49 : decode cX3_start 49 = .ok (.invokevirtual 117, 3) := by decide +kernel
theorem dX3_start_52 : decode cX3_start 52 = .ok (.aload_n 3, 1) := by decide +kernel
theorem dX3_start_53 : decode cX3_start 53 = .ok (.invokevirtual 121, 3) := by decide +kernel
theorem dX3_start_56 : decode cX3_start 56 = .ok (.ifCond .eq 13, 3) := by decide +kernel
theorem dX3_start_59 : decode cX3_start 59 = .ok (.aload_n 3, 1) := by decide +kernel
theorem dX3_start_60 : decode cX3_start 60 = .ok (.invokevirtual 125, 3) := by decide +kernel
theorem dX3_start_63 : decode cX3_start 63 = .ok (.invokestatic 129, 3) := by decide +kernel
theorem dX3_start_66 : decode cX3_start 66 = .ok (.goto 4, 3) := by decide +kernel
theorem dX3_start_69 : decode cX3_start 69 = .ok (.iconst (-1), 1) := by decide +kernel
theorem dX3_start_70 : decode cX3_start 70 = .ok (.ireturn, 1) := by decide +kernel
theorem dX3_want_0 : decode cX3_want 0 = .ok (.aload_n 0, 1) := by decide +kernel
theorem dX3_want_1 : decode cX3_want 1 = .ok (.iload_n 1, 1) := by decide +kernel
theorem dX3_want_2 : decode cX3_want 2 = .ok (.invokevirtual 93, 3) := by decide +kernel
theorem dX3_want_5 : decode cX3_want 5 = .ok (.astore 5, 2) := by decide +kernel
theorem dX3_want_7 : decode cX3_want 7 = .ok (.aload_n 0, 1) := by decide +kernel
theorem dX3_want_8 : decode cX3_want 8 = .ok (.iload_n 2, 1) := by decide +kernel
theorem dX3_want_9 : decode cX3_want 9 = .ok (.invokevirtual 47, 3) := by decide +kernel
theorem dX3_want_12 : decode cX3_want 12 = .ok (.astore 6, 2) := by decide +kernel
theorem dX3_want_14 : decode cX3_want 14 = .ok (.iload_n 3, 1) := by decide +kernel
theorem dX3_want_15 : decode cX3_want 15 = .ok (.iconst 0, 1) := by decide +kernel
theorem dX3_want_16 : decode cX3_want 16 = .ok (.sipush 10000, 3) := by decide +kernel
theorem dX3_want_19 : decode cX3_want 19 = .ok (.invokestatic 19, 3) := by decide +kernel
theorem dX3_want_22 : decode cX3_want 22 = .ok (.aload 5, 2) := by decide +kernel
theorem dX3_want_24 : decode cX3_want 24 = .ok (.aload 6, 2) := by decide +kernel
theorem dX3_want_26 : decode cX3_want 26 = .ok (.invokevirtual 105, 3) := by decide +kernel
theorem dX3_want_29 : decode cX3_want 29 = .ok (.astore 7, 2) := by decide +kernel
theorem dX3_want_31 : decode cX3_want 31 = .ok (.aload 7, 2) := by decide +kernel
theorem dX3_want_33 : decode cX3_want 33 = .ok (.ifnonnull 13, 3) := by decide +kernel
theorem dX3_want_36 : decode cX3_want 36 = .ok (.new 28, 3) := by decide +kernel
theorem dX3_want_39 : decode cX3_want 39 = .ok (.dup, 1) := by decide +kernel
theorem dX3_want_40 : decode cX3_want 40 = .ok (.ldc 133, 2) := by decide +kernel
theorem dX3_want_42 : decode cX3_want 42 = .ok (.invokespecial 32, 3) := by decide +kernel
theorem dX3_want_45 : decode cX3_want 45 = .ok (.athrow, 1) := by decide +kernel
theorem dX3_want_46 : decode cX3_want 46 = .ok (.iload 4, 2) := by decide +kernel
theorem dX3_want_48 : decode cX3_want 48 = .ok (.ifCond .eq 12, 3) := by decide +kernel
theorem dX3_want_51 : decode cX3_want 51 = .ok (.aload 7, 2) := by decide +kernel
theorem dX3_want_53 : decode cX3_want 53 = .ok (.iload_n 3, 1) := by decide +kernel
theorem dX3_want_54 : decode cX3_want 54 = .ok (.invokevirtual 135, 3) := by decide +kernel
theorem dX3_want_57 : decode cX3_want 57 = .ok (.goto 9, 3) := by decide +kernel
theorem dX3_want_60 : decode cX3_want 60 = .ok (.aload 7, 2) := by decide +kernel
theorem dX3_want_62 : decode cX3_want 62 = .ok (.iload_n 3, 1) := by decide +kernel
theorem dX3_want_63 : decode cX3_want 63 = .ok (.invokevirtual 139, 3) := by decide +kernel
theorem dX3_want_66 : decode cX3_want 66 = .ok (.ireturn, 1) := by decide +kernel
theorem dX3_meet_0 : decode cX3_meet 0 = .ok (.aload_n 0, 1) := by decide +kernel
theorem dX3_meet_1 : decode cX3_meet 1 = .ok (.iload_n 1, 1) := by decide +kernel
theorem dX3_meet_2 : decode cX3_meet 2 = .ok (.invokevirtual 93, 3) := by decide +kernel
theorem dX3_meet_5 : decode cX3_meet 5 = .ok (.astore_n 3, 1) := by decide +kernel
theorem dX3_meet_6 : decode cX3_meet 6 = .ok (.aload_n 3, 1) := by decide +kernel
theorem dX3_meet_7 : decode cX3_meet 7 = .ok (.getfield 97, 3) := by decide +kernel
theorem dX3_meet_10 : decode cX3_meet 10 = .ok (.ifCond .eq 14, 3) := by decide +kernel
theorem dX3_meet_13 : decode cX3_meet 13 = .ok (.aload_n 3, 1) := by decide +kernel
theorem dX3_meet_14 : decode cX3_meet 14 = .ok (.getfield 100, 3) := by decide +kernel
theorem dX3_meet_17 : decode cX3_meet 17 = .ok (.invokevirtual 24, 3) := by decide +kernel
theorem dX3_meet_20 : decode cX3_meet 20 = .ok (.iconst 2, 1) := by decide +kernel
theorem dX3_meet_21 : decode cX3_meet 21 = .ok (.if_icmp .ge 13, 3) := by decide +kernel
theorem dX3_meet_24 : decode cX3_meet 24 = .ok (.new 28, 3) := by decide +kernel
theorem dX3_meet_27 : decode cX3_meet 27 = .ok (.dup, 1) := by decide +kernel
theorem dX3_meet_28 : decode cX3_meet 28 = .ok (.ldc 142, 2) := by decide +kernel
theorem dX3_meet_30 : decode cX3_meet 30 = .ok (.invokespecial 32, 3) := by decide +kernel
theorem dX3_meet_33 : decode cX3_meet 33 = .ok (.athrow, 1) := by decide +kernel
theorem dX3_meet_34 : decode cX3_meet 34 = .ok (.aload_n 3, 1) := by decide +kernel
theorem dX3_meet_35 : decode cX3_meet 35 = .ok (.iload_n 2, 1) := by decide +kernel
theorem dX3_meet_36 : decode cX3_meet 36 = .ok (.invokevirtual 144, 3) := by decide +kernel
theorem dX3_meet_39 : decode cX3_meet 39 = .ok (.aload_n 3, 1) := by decide +kernel
theorem dX3_meet_40 : decode cX3_meet 40 = .ok (.invokevirtual 125, 3) := by decide +kernel
theorem dX3_meet_43 : decode cX3_meet 43 = .ok (.astore 4, 2) := by decide +kernel
theorem dX3_meet_45 : decode cX3_meet 45 = .ok (.aload_n 3, 1) := by decide +kernel
theorem dX3_meet_46 : decode cX3_meet 46 = .ok (.aload 4, 2) := by decide +kernel
theorem dX3_meet_48 : decode cX3_meet 48 = .ok (.invokevirtual 148, 3) := by decide +kernel
theorem dX3_meet_51 : decode cX3_meet 51 = .ok (.aload_n 3, 1) := by decide +kernel
theorem dX3_meet_52 : decode cX3_meet 52 = .ok (.dup, 1) := by decide +kernel
theorem dX3_meet_53 : decode cX3_meet 53 = .ok (.getfield 152, 3) := by decide +kernel
theorem dX3_meet_56 : decode cX3_meet 56 = .ok (.iconst 1, 1) := by decide +kernel
theorem dX3_meet_57 : decode cX3_meet 57 = .ok (.iadd, 1) := by decide +kernel
theorem dX3_meet_58 : decode cX3_meet 58 = .ok (.putfield 152, 3) := by decide +kernel
theorem dX3_meet_61 : decode cX3_meet 61 = .ok (.aload_n 3, 1) := by decide +kernel
theorem dX3_meet_62 : decode cX3_meet 62 = .ok (.invokevirtual 155, 3) := by decide +kernel
theorem dX3_meet_65 : decode cX3_meet 65 = .ok (.aload_n 3, 1) := by decide +kernel
theorem dX3_meet_66 : decode cX3_meet 66 = .ok (.invokevirtual 158, 3) := by decide +kernel
theorem dX3_meet_69 : decode cX3_meet 69 = .ok (.aload 4, 2) := by decide +kernel
theorem dX3_meet_71 : decode cX3_meet 71 = .ok (.invokestatic 129, 3) := by decide +kernel
theorem dX3_meet_74 : decode cX3_meet 74 = .ok (.ireturn, 1) := by decide +kernel
theorem dX3_leave_0 : decode cX3_leave 0 = .ok (.aload_n 0, 1) := by decide +kernel
theorem dX3_leave_1 : decode cX3_leave 1 = .ok (.iload_n 1, 1) := by decide +kernel
theorem dX3_leave_2 : decode cX3_leave 2 = .ok (.invokevirtual 93, 3) := by decide +kernel
theorem dX3_leave_5 : decode cX3_leave 5 = .ok (.astore_n 3, 1) := by decide +kernel
theorem dX3_leave_6 : decode cX3_leave 6 = .ok (.aload_n 0, 1) := by decide +kernel
theorem dX3_leave_7 : decode cX3_leave 7 = .ok (.iload_n 2, 1) := by decide +kernel
theorem dX3_leave_8 : decode cX3_leave 8 = .ok (.invokevirtual 47, 3) := by decide +kernel
theorem dX3_leave_11 : decode cX3_leave 11 = .ok (.astore 4, 2) := by decide +kernel
theorem dX3_leave_13 : decode cX3_leave 13 = .ok (.aload_n 3, 1) := by decide +kernel
theorem dX3_leave_14 : decode cX3_leave 14 = .ok (.aload 4, 2) := by decide +kernel
theorem dX3_leave_16 : decode cX3_leave 16 = .ok (.invokevirtual 105, 3) := by decide +kernel
theorem dX3_leave_19 : decode cX3_leave 19 = .ok (.astore 5, 2) := by decide +kernel
theorem dX3_leave_21 : decode cX3_leave 21 = .ok (.aload 5, 2) := by decide +kernel
theorem dX3_leave_23 : decode cX3_leave 23 = .ok (.ifnull 19, 3) := by decide +kernel
theorem dX3_leave_26 : decode cX3_leave 26 = .ok (.aload 5, 2) := by decide +kernel
theorem dX3_leave_28 : decode cX3_leave 28 = .ok (.getfield 161, 3) := by decide +kernel
theorem dX3_leave_31 : decode cX3_leave 31 = .ok (.ifCond .ne 11, 3) := by decide +kernel
theorem dX3_leave_34 : decode cX3_leave 34 = .ok (.aload 5, 2) := by decide +kernel
theorem dX3_leave_36 : decode cX3_leave 36 = .ok (.getfield 164, 3) := by decide +kernel
theorem dX3_leave_39 : decode cX3_leave 39 = .ok (.ifCond .le 13, 3) := by decide +kernel
theorem dX3_leave_42 : decode cX3_leave 42 = .ok (.new 28, 3) := by decide +kernel
theorem dX3_leave_45 : decode cX3_leave 45 = .ok (.dup, 1) := by decide +kernel
theorem dX3_leave_46 : decode cX3_leave 46 = .ok (.ldc 167, 2) := by decide +kernel
theorem dX3_leave_48 : decode cX3_leave 48 = .ok (.invokespecial 32, 3) := by decide +kernel
theorem dX3_leave_51 : decode cX3_leave 51 = .ok (.athrow, 1) := by decide +kernel
theorem dX3_leave_52 : decode cX3_leave 52 = .ok (.aload 5, 2) := by decide +kernel
theorem dX3_leave_54 : decode cX3_leave 54 = .ok (.getfield 169, 3) := by decide +kernel
theorem dX3_leave_57 : decode cX3_leave 57 = .ok (.aload_n 3, 1) := by decide +kernel
theorem dX3_leave_58 : decode cX3_leave 58 = .ok (.getfield 172, 3) := by decide +kernel
theorem dX3_leave_61 : decode cX3_leave 61 = .ok (.invokestatic 175, 3) := by decide +kernel
theorem dX3_leave_64 : decode cX3_leave 64 = .ok (.istore 6, 2) := by decide +kernel
theorem dX3_leave_66 : decode cX3_leave 66 = .ok (.aload_n 3, 1) := by decide +kernel
theorem dX3_leave_67 : decode cX3_leave 67 = .ok (.aload 5, 2) := by decide +kernel
theorem dX3_leave_69 : decode cX3_leave 69 = .ok (.iload 6, 2) := by decide +kernel
theorem dX3_leave_71 : decode cX3_leave 71 = .ok (.invokevirtual 181, 3) := by decide +kernel
theorem dX3_leave_74 : decode cX3_leave 74 = .ok (.aload_n 3, 1) := by decide +kernel
theorem dX3_leave_75 : decode cX3_leave 75 = .ok (.aload 5, 2) := by decide +kernel
theorem dX3_leave_77 : decode cX3_leave 77 = .ok (.invokevirtual 185, 3) := by decide +kernel
theorem dX3_leave_80 : decode cX3_leave 80 = .ok (.iload 6, 2) := by decide +kernel
theorem dX3_leave_82 : decode cX3_leave 82 = .ok (.ireturn, 1) := by decide +kernel
theorem dX3_buy_0 : decode cX3_buy 0 = .ok (.aload_n 0, 1) := by decide +kernel
theorem dX3_buy_1 : decode cX3_buy 1 = .ok (.iload_n 1, 1) := by decide +kernel
theorem dX3_buy_2 : decode cX3_buy 2 = .ok (.invokevirtual 47, 3) := by decide +kernel
theorem dX3_buy_5 : decode cX3_buy 5 = .ok (.astore_n 3, 1) := by decide +kernel
theorem dX3_buy_6 : decode cX3_buy 6 = .ok (.iload_n 2, 1) := by decide +kernel
theorem dX3_buy_7 : decode cX3_buy 7 = .ok (.iconst 1, 1) := by decide +kernel
theorem dX3_buy_8 : decode cX3_buy 8 = .ok (.bipush 100, 2) := by decide +kernel
theorem dX3_buy_10 : decode cX3_buy 10 = .ok (.invokestatic 19, 3) := by decide +kernel
theorem dX3_buy_13 : decode cX3_buy 13 = .ok (.iload_n 2, 1) := by decide +kernel
theorem dX3_buy_14 : decode cX3_buy 14 = .ok (.bipush 10, 2) := by decide +kernel
theorem dX3_buy_16 : decode cX3_buy 16 = .ok (.imul, 1) := by decide +kernel
theorem dX3_buy_17 : decode cX3_buy 17 = .ok (.istore 4, 2) := by decide +kernel
theorem dX3_buy_19 : decode cX3_buy 19 = .ok (.aload_n 3, 1) := by decide +kernel
theorem dX3_buy_20 : decode cX3_buy 20 = .ok (.getfield 54, 3) := by decide +kernel
theorem dX3_buy_23 : decode cX3_buy 23 = .ok (.ifCond .ne 23, 3) := by decide +kernel
theorem dX3_buy_26 : decode cX3_buy 26 = .ok (.aload_n 3, 1) := by decide +kernel
theorem dX3_buy_27 : decode cX3_buy 27 = .ok (.getfield 69, 3) := by decide +kernel
theorem dX3_buy_30 : decode cX3_buy 30 = .ok (.iload_n 2, 1) := by decide +kernel
theorem dX3_buy_31 : decode cX3_buy 31 = .ok (.iadd, 1) := by decide +kernel
theorem dX3_buy_32 : decode cX3_buy 32 = .ok (.bipush 100, 2) := by decide +kernel
theorem dX3_buy_34 : decode cX3_buy 34 = .ok (.if_icmp .gt 12, 3) := by decide +kernel
theorem dX3_buy_37 : decode cX3_buy 37 = .ok (.aload_n 3, 1) := by decide +kernel
theorem dX3_buy_38 : decode cX3_buy 38 = .ok (.getfield 51, 3) := by decide +kernel
theorem dX3_buy_41 : decode cX3_buy 41 = .ok (.iload 4, 2) := by decide +kernel
theorem dX3_buy_43 : decode cX3_buy 43 = .ok (.if_icmp .ge 13, 3) := by decide +kernel
theorem dX3_buy_46 : decode cX3_buy 46 = .ok (.new 28, 3) := by decide +kernel
theorem dX3_buy_49 : decode cX3_buy 49 = .ok (.dup, 1) := by decide +kernel
theorem dX3_buy_50 : decode cX3_buy 50 = .ok (.ldc 188, 2) := by decide +kernel
theorem dX3_buy_52 : decode cX3_buy 52 = .ok (.invokespecial 32, 3) := by decide +kernel
theorem dX3_buy_55 : decode cX3_buy 55 = .ok (.athrow, 1) := by decide +kernel
theorem dX3_buy_56 : decode cX3_buy 56 = .ok (.aload_n 3, 1) := by decide +kernel
theorem dX3_buy_57 : decode cX3_buy 57 = .ok (.dup, 1) := by decide +kernel
theorem dX3_buy_58 : decode cX3_buy 58 = .ok (.getfield 69, 3) := by decide +kernel
theorem dX3_buy_61 : decode cX3_buy 61 = .ok (.iload_n 2, 1) := by decide +kernel
theorem dX3_buy_62 : decode cX3_buy 62 = .ok (.iadd, 1) := by decide +kernel
theorem dX3_buy_63 : decode cX3_buy 63 = .ok (.putfield 69, 3) := by decide +kernel
theorem dX3_buy_66 : decode cX3_buy 66 = .ok (.aload_n 0, 1) := by decide +kernel
theorem dX3_buy_67 : decode cX3_buy 67 = .ok (.aload_n 3, 1) := by decide +kernel
theorem dX3_buy_68 : decode cX3_buy 68 = .ok (.iload 4, 2) := by decide +kernel
theorem dX3_buy_70 : decode cX3_buy 70 = .ok (.invokevirtual 190, 3) := by decide +kernel
theorem dX3_buy_73 : decode cX3_buy 73 = .ok (.aload_n 3, 1) := by decide +kernel
theorem dX3_buy_74 : decode cX3_buy 74 = .ok (.getfield 69, 3) := by decide +kernel
theorem dX3_buy_77 : decode cX3_buy 77 = .ok (.ireturn, 1) := by decide +kernel
theorem dX3_borrow_0 : decode cX3_borrow 0 = .ok (.aload_n 0, 1) := by decide +kernel
theorem dX3_borrow_1 : decode cX3_borrow 1 = .ok (.iload_n 1, 1) := by decide +kernel
theorem dX3_borrow_2 : decode cX3_borrow 2 = .ok (.invokevirtual 47, 3) := by decide +kernel
theorem dX3_borrow_5 : decode cX3_borrow 5 = .ok (.astore 5, 2) := by decide +kernel
theorem dX3_borrow_7 : decode cX3_borrow 7 = .ok (.aload_n 0, 1) := by decide +kernel
theorem dX3_borrow_8 : decode cX3_borrow 8 = .ok (.iload_n 3, 1) := by decide +kernel
theorem dX3_borrow_9 : decode cX3_borrow 9 = .ok (.invokevirtual 47, 3) := by decide +kernel
theorem dX3_borrow_12 : decode cX3_borrow 12 = .ok (.astore 6, 2) := by decide +kernel
theorem dX3_borrow_14 : decode cX3_borrow 14 = .ok (.aload_n 0, 1) := by decide +kernel
theorem dX3_borrow_15 : decode cX3_borrow 15 = .ok (.iload 4, 2) := by decide +kernel
theorem dX3_borrow_17 : decode cX3_borrow 17 = .ok (.invokevirtual 47, 3) := by decide +kernel
theorem dX3_borrow_20 : decode cX3_borrow 20 = .ok (.astore 7, 2) := by decide +kernel
theorem dX3_borrow_22 : decode cX3_borrow 22 = .ok (.iload_n 1, 1) := by decide +kernel
theorem dX3_borrow_23 : decode cX3_borrow 23 = .ok (.iload_n 3, 1) := by decide +kernel
theorem dX3_borrow_24 : decode cX3_borrow 24 = .ok (.if_icmp .eq 15, 3) := by decide +kernel
theorem dX3_borrow_27 : decode cX3_borrow 27 = .ok (.iload_n 1, 1) := by decide +kernel
theorem dX3_borrow_28 : decode cX3_borrow 28 = .ok (.iload 4, 2) := by decide +kernel
theorem dX3_borrow_30 : decode cX3_borrow 30 = .ok (.if_icmp .eq 9, 3) := by decide +kernel
theorem dX3_borrow_33 : decode cX3_borrow 33 = .ok (.iload_n 3, 1) := by decide +kernel
theorem dX3_borrow_34 : decode cX3_borrow 34 = .ok (.iload 4, 2) := by decide +kernel
theorem dX3_borrow_36 : decode cX3_borrow 36 = .ok (.if_icmp .ne 13, 3) := by decide +kernel
theorem dX3_borrow_39 : decode cX3_borrow 39 = .ok (.new 64, 3) := by decide +kernel
theorem dX3_borrow_42 : decode cX3_borrow 42 = .ok (.dup, 1) := by decide +kernel
theorem dX3_borrow_43 : decode cX3_borrow 43 = .ok (.ldc 194, 2) := by decide +kernel
theorem dX3_borrow_45 : decode cX3_borrow 45 = .ok (.invokespecial 68, 3) := by decide +kernel
theorem dX3_borrow_48 : decode cX3_borrow 48 = .ok (.athrow, 1) := by decide +kernel
theorem dX3_borrow_49 : decode cX3_borrow 49 = .ok (.iload_n 2, 1) := by decide +kernel
theorem dX3_borrow_50 : decode cX3_borrow 50 = .ok (.iconst 1, 1) := by decide +kernel
theorem dX3_borrow_51 : decode cX3_borrow 51 = .ok (.sipush 1000, 3) := by decide +kernel
theorem dX3_borrow_54 : decode cX3_borrow 54 = .ok (.invokestatic 19, 3) := by decide +kernel
theorem dX3_borrow_57 : decode cX3_borrow 57 = .ok (.aload 5, 2) := by decide +kernel
theorem dX3_borrow_59 : decode cX3_borrow 59 = .ok (.invokevirtual 196, 3) := by decide +kernel
theorem dX3_borrow_62 : decode cX3_borrow 62 = .ok (.ifCond .eq 19, 3) := by decide +kernel
theorem dX3_borrow_65 : decode cX3_borrow 65 = .ok (.aload 6, 2) := by decide +kernel
theorem dX3_borrow_67 : decode cX3_borrow 67 = .ok (.invokevirtual 196, 3) := by decide +kernel
theorem dX3_borrow_70 : decode cX3_borrow 70 = .ok (.ifCond .eq 11, 3) := by decide +kernel
theorem dX3_borrow_73 : decode cX3_borrow 73 = .ok (.aload 7, 2) := by decide +kernel
theorem dX3_borrow_75 : decode cX3_borrow 75 = .ok (.invokevirtual 196, 3) := by decide +kernel
theorem dX3_borrow_78 : decode cX3_borrow 78 = .ok (.ifCond .ne 13, 3) := by decide +kernel
theorem dX3_borrow_81 : decode cX3_borrow 81 = .ok (.new 28, 3) := by decide +kernel
theorem dX3_borrow_84 : decode cX3_borrow 84 = .ok (.dup, 1) := by decide +kernel
theorem dX3_borrow_85 : decode cX3_borrow 85 = .ok (.ldc 199, 2) := by decide +kernel
theorem dX3_borrow_87 : decode cX3_borrow 87 = .ok (.invokespecial 32, 3) := by decide +kernel
theorem dX3_borrow_90 : decode cX3_borrow 90 = .ok (.athrow, 1) := by decide +kernel
theorem dX3_borrow_91 : decode cX3_borrow 91 = .ok (.aload 5, 2) := by decide +kernel
theorem dX3_borrow_93 : decode cX3_borrow 93 = .ok (.invokevirtual 201, 3) := by decide +kernel
theorem dX3_borrow_96 : decode cX3_borrow 96 = .ok (.ifCond .ne 21, 3) := by decide +kernel
theorem dX3_borrow_99 : decode cX3_borrow 99 = .ok (.iload_n 2, 1) := by decide +kernel
theorem dX3_borrow_100 : decode cX3_borrow 100 = .ok (.aload_n 0, 1) := by decide +kernel
theorem dX3_borrow_101 : decode cX3_borrow 101 = .ok (.aload 5, 2) := by decide +kernel
theorem dX3_borrow_103 : decode cX3_borrow 103 = .ok (.invokevirtual 204, 3) := by decide +kernel
theorem dX3_borrow_106 : decode cX3_borrow 106 = .ok (.if_icmp .gt 11, 3) := by decide +kernel
theorem dX3_borrow_109 : decode cX3_borrow 109 = .ok (.iload_n 2, 1) := by decide +kernel
theorem dX3_borrow_110 : decode cX3_borrow 110 = .ok (.aload_n 0, 1) := by decide +kernel
theorem dX3_borrow_111 : decode cX3_borrow 111 = .ok (.getfield 208, 3) := by decide +kernel
theorem dX3_borrow_114 : decode cX3_borrow 114 = .ok (.if_icmp .le 13, 3) := by decide +kernel
theorem dX3_borrow_117 : decode cX3_borrow 117 = .ok (.new 28, 3) := by decide +kernel
theorem dX3_borrow_120 : decode cX3_borrow 120 = .ok (.dup, 1) := by decide +kernel
theorem dX3_borrow_121 : decode cX3_borrow 121 = .ok (.ldc 211, 2) := by decide +kernel
theorem dX3_borrow_123 : decode cX3_borrow 123 = .ok (.invokespecial 32, 3) := by decide +kernel
theorem dX3_borrow_126 : decode cX3_borrow 126 = .ok (.athrow, 1) := by decide +kernel
theorem dX3_borrow_127 : decode cX3_borrow 127 = .ok (.aload 5, 2) := by decide +kernel
theorem dX3_borrow_129 : decode cX3_borrow 129 = .ok (.iload_n 2, 1) := by decide +kernel
theorem dX3_borrow_130 : decode cX3_borrow 130 = .ok (.aload 6, 2) := by decide +kernel
theorem dX3_borrow_132 : decode cX3_borrow 132 = .ok (.aload 7, 2) := by decide +kernel
theorem dX3_borrow_134 : decode cX3_borrow 134 = .ok (.invokevirtual 213, 3) := by decide +kernel
theorem dX3_borrow_137 : decode cX3_borrow 137 = .ok (.aload_n 0, 1) := by decide +kernel
theorem dX3_borrow_138 : decode cX3_borrow 138 = .ok (.dup, 1) := by decide +kernel
theorem dX3_borrow_139 : decode cX3_borrow 139 = .ok (.getfield 208, 3) := by decide +kernel
theorem dX3_borrow_142 : decode cX3_borrow 142 = .ok (.iload_n 2, 1) := by decide +kernel
theorem dX3_borrow_143 : decode cX3_borrow 143 = .ok (.isub, 1) := by decide +kernel
theorem dX3_borrow_144 : decode cX3_borrow 144 = .ok (.putfield 208, 3) := by decide +kernel
theorem dX3_borrow_147 : decode cX3_borrow 147 = .ok (.aload 5, 2) := by decide +kernel
theorem dX3_borrow_149 : decode cX3_borrow 149 = .ok (.getfield 51, 3) := by decide +kernel
theorem dX3_borrow_152 : decode cX3_borrow 152 = .ok (.ireturn, 1) := by decide +kernel
theorem dX3_repay_0 : decode cX3_repay 0 = .ok (.aload_n 0, 1) := by decide +kernel
theorem dX3_repay_1 : decode cX3_repay 1 = .ok (.iload_n 1, 1) := by decide +kernel
theorem dX3_repay_2 : decode cX3_repay 2 = .ok (.invokevirtual 47, 3) := by decide +kernel
theorem dX3_repay_5 : decode cX3_repay 5 = .ok (.astore_n 3, 1) := by decide +kernel
theorem dX3_repay_6 : decode cX3_repay 6 = .ok (.iload_n 2, 1) := by decide +kernel
theorem dX3_repay_7 : decode cX3_repay 7 = .ok (.iconst 1, 1) := by decide +kernel
theorem dX3_repay_8 : decode cX3_repay 8 = .ok (.sipush 10000, 3) := by decide +kernel
theorem dX3_repay_11 : decode cX3_repay 11 = .ok (.invokestatic 19, 3) := by decide +kernel
theorem dX3_repay_14 : decode cX3_repay 14 = .ok (.iload_n 2, 1) := by decide +kernel
theorem dX3_repay_15 : decode cX3_repay 15 = .ok (.aload_n 3, 1) := by decide +kernel
theorem dX3_repay_16 : decode cX3_repay 16 = .ok (.getfield 217, 3) := by decide +kernel
theorem dX3_repay_19 : decode cX3_repay 19 = .ok (.invokestatic 175, 3) := by decide +kernel
theorem dX3_repay_22 : decode cX3_repay 22 = .ok (.istore 4, 2) := by decide +kernel
theorem dX3_repay_24 : decode cX3_repay 24 = .ok (.aload_n 3, 1) := by decide +kernel
theorem dX3_repay_25 : decode cX3_repay 25 = .ok (.invokevirtual 201, 3) := by decide +kernel
theorem dX3_repay_28 : decode cX3_repay 28 = .ok (.ifCond .eq 12, 3) := by decide +kernel
theorem dX3_repay_31 : decode cX3_repay 31 = .ok (.aload_n 3, 1) := by decide +kernel
theorem dX3_repay_32 : decode cX3_repay 32 = .ok (.getfield 51, 3) := by decide +kernel
theorem dX3_repay_35 : decode cX3_repay 35 = .ok (.iload 4, 2) := by decide +kernel
theorem dX3_repay_37 : decode cX3_repay 37 = .ok (.if_icmp .ge 13, 3) := by decide +kernel
theorem dX3_repay_40 : decode cX3_repay 40 = .ok (.new 28, 3) := by decide +kernel
theorem dX3_repay_43 : decode cX3_repay 43 = .ok (.dup, 1) := by decide +kernel
theorem dX3_repay_44 : decode cX3_repay 44 = .ok (.ldc 220, 2) := by decide +kernel
theorem dX3_repay_46 : decode cX3_repay 46 = .ok (.invokespecial 32, 3) := by decide +kernel
theorem dX3_repay_49 : decode cX3_repay 49 = .ok (.athrow, 1) := by decide +kernel
theorem dX3_repay_50 : decode cX3_repay 50 = .ok (.aload_n 0, 1) := by decide +kernel
theorem dX3_repay_51 : decode cX3_repay 51 = .ok (.aload_n 3, 1) := by decide +kernel
theorem dX3_repay_52 : decode cX3_repay 52 = .ok (.iload 4, 2) := by decide +kernel
theorem dX3_repay_54 : decode cX3_repay 54 = .ok (.invokevirtual 190, 3) := by decide +kernel
theorem dX3_repay_57 : decode cX3_repay 57 = .ok (.aload_n 3, 1) := by decide +kernel
theorem dX3_repay_58 : decode cX3_repay 58 = .ok (.dup, 1) := by decide +kernel
theorem dX3_repay_59 : decode cX3_repay 59 = .ok (.getfield 217, 3) := by decide +kernel
theorem dX3_repay_62 : decode cX3_repay 62 = .ok (.iload 4, 2) := by decide +kernel
theorem dX3_repay_64 : decode cX3_repay 64 = .ok (.isub, 1) := by decide +kernel
theorem dX3_repay_65 : decode cX3_repay 65 = .ok (.putfield 217, 3) := by decide +kernel
theorem dX3_repay_68 : decode cX3_repay 68 = .ok (.aload_n 3, 1) := by decide +kernel
theorem dX3_repay_69 : decode cX3_repay 69 = .ok (.invokevirtual 201, 3) := by decide +kernel
theorem dX3_repay_72 : decode cX3_repay 72 = .ok (.ifCond .ne 13, 3) := by decide +kernel
theorem dX3_repay_75 : decode cX3_repay 75 = .ok (.aload_n 3, 1) := by decide +kernel
theorem dX3_repay_76 : decode cX3_repay 76 = .ok (.dup, 1) := by decide +kernel
theorem dX3_repay_77 : decode cX3_repay 77 = .ok (.getfield 222, 3) := by decide +kernel
theorem dX3_repay_80 : decode cX3_repay 80 = .ok (.iconst 1, 1) := by decide +kernel
theorem dX3_repay_81 : decode cX3_repay 81 = .ok (.iadd, 1) := by decide +kernel
theorem dX3_repay_82 : decode cX3_repay 82 = .ok (.putfield 222, 3) := by decide +kernel
theorem dX3_repay_85 : decode cX3_repay 85 = .ok (.aload_n 3, 1) := by decide +kernel
theorem dX3_repay_86 : decode cX3_repay 86 = .ok (.getfield 217, 3) := by decide +kernel
theorem dX3_repay_89 : decode cX3_repay 89 = .ok (.ireturn, 1) := by decide +kernel
theorem dX3_month_0 : decode cX3_month 0 = .ok (.iload_n 1, 1) := by decide +kernel
theorem dX3_month_1 : decode cX3_month 1 = .ok (.ifCond .eq 5, 3) := by decide +kernel
theorem dX3_month_4 : decode cX3_month 4 = .ok (.iconst 0, 1) := by decide +kernel
theorem dX3_month_5 : decode cX3_month 5 = .ok (.ireturn, 1) := by decide +kernel
theorem dX3_month_6 : decode cX3_month 6 = .ok (.iconst 0, 1) := by decide +kernel
theorem dX3_month_7 : decode cX3_month 7 = .ok (.istore_n 2, 1) := by decide +kernel
theorem dX3_month_8 : decode cX3_month 8 = .ok (.iconst 0, 1) := by decide +kernel
theorem dX3_month_9 : decode cX3_month 9 = .ok (.istore_n 3, 1) := by decide +kernel
theorem dX3_month_10 : decode cX3_month 10 = .ok (.iload_n 3, 1) := by decide +kernel
theorem dX3_month_11 : decode cX3_month 11 = .ok (.aload_n 0, 1) := by decide +kernel
theorem dX3_month_12 : decode cX3_month 12 = .ok (.getfield 10, 3) := by decide +kernel
theorem dX3_month_15 : decode cX3_month 15 = .ok (.invokevirtual 24, 3) := by decide +kernel
theorem dX3_month_18 : decode cX3_month 18 = .ok (.if_icmp .ge 54, 3) := by decide +kernel
theorem dX3_month_21 : decode cX3_month 21 = .ok (.aload_n 0, 1) := by decide +kernel
theorem dX3_month_22 : decode cX3_month 22 = .ok (.getfield 10, 3) := by decide +kernel
theorem dX3_month_25 : decode cX3_month 25 = .ok (.iload_n 3, 1) := by decide +kernel
theorem dX3_month_26 : decode cX3_month 26 = .ok (.invokevirtual 78, 3) := by decide +kernel
theorem dX3_month_29 : decode cX3_month 29 = .ok (.checkcast 35, 3) := by decide +kernel
theorem dX3_month_32 : decode cX3_month 32 = .ok (.astore 4, 2) := by decide +kernel
theorem dX3_month_34 : decode cX3_month 34 = .ok (.aload 4, 2) := by decide +kernel
theorem dX3_month_36 : decode cX3_month 36 = .ok (.invokevirtual 201, 3) := by decide +kernel
theorem dX3_month_39 : decode cX3_month 39 = .ok (.ifCond .eq 27, 3) := by decide +kernel
theorem dX3_month_42 : decode cX3_month 42 = .ok (.aload 4, 2) := by decide +kernel
theorem dX3_month_44 : decode cX3_month 44 = .ok (.invokevirtual 225, 3) := by decide +kernel
theorem dX3_month_47 : decode cX3_month 47 = .ok (.aload 4, 2) := by decide +kernel
theorem dX3_month_49 : decode cX3_month 49 = .ok (.getfield 228, 3) := by decide +kernel
theorem dX3_month_52 : decode cX3_month 52 = .ok (.bipush 6, 2) := by decide +kernel
theorem dX3_month_54 : decode cX3_month 54 = .ok (.if_icmp .le 12, 3) := by decide +kernel
theorem dX3_month_57 : decode cX3_month 57 = .ok (.aload_n 0, 1) := by decide +kernel
theorem dX3_month_58 : decode cX3_month 58 = .ok (.aload 4, 2) := by decide +kernel
theorem dX3_month_60 : decode cX3_month 60 = .ok (.invokevirtual 231, 3) := by decide +kernel
theorem dX3_month_63 : decode cX3_month 63 = .ok (.iinc 2 1, 3) := by decide +kernel
theorem dX3_month_66 : decode cX3_month 66 = .ok (.iinc 3 1, 3) := by decide +kernel
theorem dX3_month_69 : decode cX3_month 69 = .ok (.goto (-59), 3) := by decide +kernel
theorem dX3_month_72 : decode cX3_month 72 = .ok (.iload_n 2, 1) := by decide +kernel
theorem dX3_month_73 : decode cX3_month 73 = .ok (.ireturn, 1) := by decide +kernel
theorem dX3_feast_0 : decode cX3_feast 0 = .ok (.iconst 0, 1) := by decide +kernel
theorem dX3_feast_1 : decode cX3_feast 1 = .ok (.istore_n 1, 1) := by decide +kernel
theorem dX3_feast_2 : decode cX3_feast 2 = .ok (.iconst 0, 1) := by decide +kernel
theorem dX3_feast_3 : decode cX3_feast 3 = .ok (.istore_n 2, 1) := by decide +kernel
theorem dX3_feast_4 : decode cX3_feast 4 = .ok (.iconst 0, 1) := by decide +kernel
theorem dX3_feast_5 : decode cX3_feast 5 = .ok (.istore_n 3, 1) := by decide +kernel
theorem dX3_feast_6 : decode cX3_feast 6 = .ok (.iload_n 3, 1) := by decide +kernel
theorem dX3_feast_7 : decode cX3_feast 7 = .ok (.aload_n 0, 1) := by decide +kernel
theorem dX3_feast_8 : decode cX3_feast 8 = .ok (.getfield 10, 3) := by decide +kernel
theorem dX3_feast_11 : decode cX3_feast 11 = .ok (.invokevirtual 24, 3) := by decide +kernel
theorem dX3_feast_14 : decode cX3_feast 14 = .ok (.if_icmp .ge 53, 3) := by decide +kernel
theorem dX3_feast_17 : decode cX3_feast 17 = .ok (.iload_n 1, 1) := by decide +kernel
theorem dX3_feast_18 : decode cX3_feast 18 = .ok (.aload_n 0, 1) := by decide +kernel
theorem dX3_feast_19 : decode cX3_feast 19 = .ok (.getfield 10, 3) := by decide +kernel
theorem dX3_feast_22 : decode cX3_feast 22 = .ok (.iload_n 3, 1) := by decide +kernel
theorem dX3_feast_23 : decode cX3_feast 23 = .ok (.invokevirtual 78, 3) := by decide +kernel
theorem dX3_feast_26 : decode cX3_feast 26 = .ok (.checkcast 35, 3) := by decide +kernel
theorem dX3_feast_29 : decode cX3_feast 29 = .ok (.getfield 69, 3) := by decide +kernel
theorem dX3_feast_32 : decode cX3_feast 32 = .ok (.iadd, 1) := by decide +kernel
theorem dX3_feast_33 : decode cX3_feast 33 = .ok (.istore_n 1, 1) := by decide +kernel
theorem dX3_feast_34 : decode cX3_feast 34 = .ok (.iload_n 2, 1) := by decide +kernel
theorem dX3_feast_35 : decode cX3_feast 35 = .ok (.ifCond .ne 20, 3) := by decide +kernel
theorem dX3_feast_38 : decode cX3_feast 38 = .ok (.aload_n 0, 1) := by decide +kernel
theorem dX3_feast_39 : decode cX3_feast 39 = .ok (.getfield 10, 3) := by decide +kernel
theorem dX3_feast_42 : decode cX3_feast 42 = .ok (.iload_n 3, 1) := by decide +kernel
theorem dX3_feast_43 : decode cX3_feast 43 = .ok (.invokevirtual 78, 3) := by decide +kernel
theorem dX3_feast_46 : decode cX3_feast 46 = .ok (.checkcast 35, 3) := by decide +kernel
theorem dX3_feast_49 : decode cX3_feast 49 = .ok (.invokevirtual 201, 3) := by decide +kernel
theorem dX3_feast_52 : decode cX3_feast 52 = .ok (.ifCond .eq 7, 3) := by decide +kernel
theorem dX3_feast_55 : decode cX3_feast 55 = .ok (.iconst 1, 1) := by decide +kernel
theorem dX3_feast_56 : decode cX3_feast 56 = .ok (.goto 4, 3) := by decide +kernel
theorem dX3_feast_59 : decode cX3_feast 59 = .ok (.iconst 0, 1) := by decide +kernel
theorem dX3_feast_60 : decode cX3_feast 60 = .ok (.istore_n 2, 1) := by decide +kernel
theorem dX3_feast_61 : decode cX3_feast 61 = .ok (.iinc 3 1, 3) := by decide +kernel
theorem dX3_feast_64 : decode cX3_feast 64 = .ok (.goto (-58), 3) := by decide +kernel
theorem dX3_feast_67 : decode cX3_feast 67 = .ok (.iload_n 1, 1) := by decide +kernel
theorem dX3_feast_68 : decode cX3_feast 68 = .ok (.ifCond .le 7, 3) := by decide +kernel
theorem dX3_feast_71 : decode cX3_feast 71 = .ok (.iload_n 2, 1) := by decide +kernel
theorem dX3_feast_72 : decode cX3_feast 72 = .ok (.ifCond .eq 13, 3) := by decide +kernel
theorem dX3_feast_75 : decode cX3_feast 75 = .ok (.new 28, 3) := by decide +kernel
theorem dX3_feast_78 : decode cX3_feast 78 = .ok (.dup, 1) := by decide +kernel
theorem dX3_feast_79 : decode cX3_feast 79 = .ok (.ldc 234, 2) := by decide +kernel
theorem dX3_feast_81 : decode cX3_feast 81 = .ok (.invokespecial 32, 3) := by decide +kernel
theorem dX3_feast_84 : decode cX3_feast 84 = .ok (.athrow, 1) := by decide +kernel
theorem dX3_feast_85 : decode cX3_feast 85 = .ok (.aload_n 0, 1) := by decide +kernel
theorem dX3_feast_86 : decode cX3_feast 86 = .ok (.getfield 208, 3) := by decide +kernel
theorem dX3_feast_89 : decode cX3_feast 89 = .ok (.iload_n 1, 1) := by decide +kernel
theorem dX3_feast_90 : decode cX3_feast 90 = .ok (.idiv, 1) := by decide +kernel
theorem dX3_feast_91 : decode cX3_feast 91 = .ok (.istore_n 3, 1) := by decide +kernel
theorem dX3_feast_92 : decode cX3_feast 92 = .ok (.iconst 0, 1) := by decide +kernel
theorem dX3_feast_93 : decode cX3_feast 93 = .ok (.istore 4, 2) := by decide +kernel
theorem dX3_feast_95 : decode cX3_feast 95 = .ok (.iload 4, 2) := by decide +kernel
theorem dX3_feast_97 : decode cX3_feast 97 = .ok (.aload_n 0, 1) := by decide +kernel
theorem dX3_feast_98 : decode cX3_feast 98 = .ok (.getfield 10, 3) := by decide +kernel
theorem dX3_feast_101 : decode cX3_feast 101 = .ok (.invokevirtual 24, 3) := by decide +kernel
theorem dX3_feast_104 : decode cX3_feast 104 = .ok (.if_icmp .ge 57, 3) := by decide +kernel
theorem dX3_feast_107 : decode cX3_feast 107 = .ok (.aload_n 0, 1) := by decide +kernel
theorem dX3_feast_108 : decode cX3_feast 108 = .ok (.getfield 10, 3) := by decide +kernel
theorem dX3_feast_111 : decode cX3_feast 111 = .ok (.iload 4, 2) := by decide +kernel
theorem dX3_feast_113 : decode cX3_feast 113 = .ok (.invokevirtual 78, 3) := by decide +kernel
theorem dX3_feast_116 : decode cX3_feast 116 = .ok (.checkcast 35, 3) := by decide +kernel
theorem dX3_feast_119 : decode cX3_feast 119 = .ok (.astore 5, 2) := by decide +kernel
theorem dX3_feast_121 : decode cX3_feast 121 = .ok (.aload_n 0, 1) := by decide +kernel
theorem dX3_feast_122 : decode cX3_feast 122 = .ok (.dup, 1) := by decide +kernel
theorem dX3_feast_123 : decode cX3_feast 123 = .ok (.getfield 208, 3) := by decide +kernel
theorem dX3_feast_126 : decode cX3_feast 126 = .ok (.iload_n 3, 1) := by decide +kernel
theorem dX3_feast_127 : decode cX3_feast 127 = .ok (.aload 5, 2) := by decide +kernel
theorem dX3_feast_129 : decode cX3_feast 129 = .ok (.getfield 69, 3) := by decide +kernel
theorem dX3_feast_132 : decode cX3_feast 132 = .ok (.imul, 1) := by decide +kernel
theorem dX3_feast_133 : decode cX3_feast 133 = .ok (.isub, 1) := by decide +kernel
theorem dX3_feast_134 : decode cX3_feast 134 = .ok (.putfield 208, 3) := by decide +kernel
theorem dX3_feast_137 : decode cX3_feast 137 = .ok (.aload 5, 2) := by decide +kernel
theorem dX3_feast_139 : decode cX3_feast 139 = .ok (.iload_n 3, 1) := by decide +kernel
theorem dX3_feast_140 : decode cX3_feast 140 = .ok (.aload 5, 2) := by decide +kernel
theorem dX3_feast_142 : decode cX3_feast 142 = .ok (.getfield 69, 3) := by decide +kernel
theorem dX3_feast_145 : decode cX3_feast 145 = .ok (.imul, 1) := by decide +kernel
theorem dX3_feast_146 : decode cX3_feast 146 = .ok (.invokevirtual 236, 3) := by decide +kernel
theorem dX3_feast_149 : decode cX3_feast 149 = .ok (.aload 5, 2) := by decide +kernel
theorem dX3_feast_151 : decode cX3_feast 151 = .ok (.iconst 0, 1) := by decide +kernel
theorem dX3_feast_152 : decode cX3_feast 152 = .ok (.putfield 69, 3) := by decide +kernel
theorem dX3_feast_155 : decode cX3_feast 155 = .ok (.iinc 4 1, 3) := by decide +kernel
theorem dX3_feast_158 : decode cX3_feast 158 = .ok (.goto (-63), 3) := by decide +kernel
theorem dX3_feast_161 : decode cX3_feast 161 = .ok (.iload_n 3, 1) := by decide +kernel
theorem dX3_feast_162 : decode cX3_feast 162 = .ok (.ireturn, 1) := by decide +kernel
theorem dX3_note_0 : decode cX3_note 0 = .ok (.iload_n 1, 1) := by decide +kernel
theorem dX3_note_1 : decode cX3_note 1 = .ok (.ifCond .lt 8, 3) := by decide +kernel
theorem dX3_note_4 : decode cX3_note 4 = .ok (.iload_n 1, 1) := by decide +kernel
theorem dX3_note_5 : decode cX3_note 5 = .ok (.iconst 3, 1) := by decide +kernel
theorem dX3_note_6 : decode cX3_note 6 = .ok (.if_icmp .lt 13, 3) := by decide +kernel
theorem dX3_note_9 : decode cX3_note 9 = .ok (.new 239, 3) := by decide +kernel
theorem dX3_note_12 : decode cX3_note 12 = .ok (.dup, 1) := by decide +kernel
theorem dX3_note_13 : decode cX3_note 13 = .ok (.ldc 241, 2) := by decide +kernel
theorem dX3_note_15 : decode cX3_note 15 = .ok (.invokespecial 243, 3) := by decide +kernel
theorem dX3_note_18 : decode cX3_note 18 = .ok (.athrow, 1) := by decide +kernel
theorem dX3_note_19 : decode cX3_note 19 = .ok (.aload_n 0, 1) := by decide +kernel
theorem dX3_note_20 : decode cX3_note 20 = .ok (.iload_n 2, 1) := by decide +kernel
theorem dX3_note_21 : decode cX3_note 21 = .ok (.invokevirtual 47, 3) := by decide +kernel
theorem dX3_note_24 : decode cX3_note 24 = .ok (.astore 4, 2) := by decide +kernel
theorem dX3_note_26 : decode cX3_note 26 = .ok (.iload_n 3, 1) := by decide +kernel
theorem dX3_note_27 : decode cX3_note 27 = .ok (.sipush (-10000), 3) := by decide +kernel
theorem dX3_note_30 : decode cX3_note 30 = .ok (.sipush 10000, 3) := by decide +kernel
theorem dX3_note_33 : decode cX3_note 33 = .ok (.invokestatic 19, 3) := by decide +kernel
theorem dX3_note_36 : decode cX3_note 36 = .ok (.aload 4, 2) := by decide +kernel
theorem dX3_note_38 : decode cX3_note 38 = .ok (.getfield 244, 3) := by decide +kernel
theorem dX3_note_41 : decode cX3_note 41 = .ok (.iload_n 1, 1) := by decide +kernel
theorem dX3_note_42 : decode cX3_note 42 = .ok (.dup2, 1) := by decide +kernel
theorem dX3_note_43 : decode cX3_note 43 = .ok (.iaload, 1) := by decide +kernel
theorem dX3_note_44 : decode cX3_note 44 = .ok (.iload_n 3, 1) := by decide +kernel
theorem dX3_note_45 : decode cX3_note 45 = .ok (.iadd, 1) := by decide +kernel
theorem dX3_note_46 : decode cX3_note 46 = .ok (.iastore, 1) := by decide +kernel
theorem dX3_note_47 : decode cX3_note 47 = .ok (.aload 4, 2) := by decide +kernel
theorem dX3_note_49 : decode cX3_note 49 = .ok (.getfield 244, 3) := by decide +kernel
theorem dX3_note_52 : decode cX3_note 52 = .ok (.iload_n 1, 1) := by decide +kernel
theorem dX3_note_53 : decode cX3_note 53 = .ok (.iaload, 1) := by decide +kernel
theorem dX3_note_54 : decode cX3_note 54 = .ok (.ireturn, 1) := by decide +kernel
theorem dX3_audit_0 : decode cX3_audit 0 = .ok (.iload_n 1, 1) := by decide +kernel
theorem dX3_audit_1 : decode cX3_audit 1 = .ok (.ifCond .lt 8, 3) := by decide +kernel
theorem dX3_audit_4 : decode cX3_audit 4 = .ok (.iload_n 1, 1) := by decide +kernel
theorem dX3_audit_5 : decode cX3_audit 5 = .ok (.iconst 3, 1) := by decide +kernel
theorem dX3_audit_6 : decode cX3_audit 6 = .ok (.if_icmp .lt 13, 3) := by decide +kernel
theorem dX3_audit_9 : decode cX3_audit 9 = .ok (.new 239, 3) := by decide +kernel
theorem dX3_audit_12 : decode cX3_audit 12 = .ok (.dup, 1) := by decide +kernel
theorem dX3_audit_13 : decode cX3_audit 13 = .ok (.ldc 241, 2) := by decide +kernel
theorem dX3_audit_15 : decode cX3_audit 15 = .ok (.invokespecial 243, 3) := by decide +kernel
theorem dX3_audit_18 : decode cX3_audit 18 = .ok (.athrow, 1) := by decide +kernel
theorem dX3_audit_19 : decode cX3_audit 19 = .ok (.iconst 0, 1) := by decide +kernel
theorem dX3_audit_20 : decode cX3_audit 20 = .ok (.istore_n 2, 1) := by decide +kernel
theorem dX3_audit_21 : decode cX3_audit 21 = .ok (.iload_n 2, 1) := by decide +kernel
theorem dX3_audit_22 : decode cX3_audit 22 = .ok (.aload_n 0, 1) := by decide +kernel
theorem dX3_audit_23 : decode cX3_audit 23 = .ok (.getfield 10, 3) := by decide +kernel
theorem dX3_audit_26 : decode cX3_audit 26 = .ok (.invokevirtual 24, 3) := by decide +kernel
theorem dX3_audit_29 : decode cX3_audit 29 = .ok (.if_icmp .ge 39, 3) := by decide +kernel
theorem dX3_audit_32 : decode cX3_audit 32 = .ok (.aload_n 0, 1) := by decide +kernel
theorem dX3_audit_33 : decode cX3_audit 33 = .ok (.getfield 10, 3) := by decide +kernel
theorem dX3_audit_36 : decode cX3_audit 36 = .ok (.iload_n 2, 1) := by decide +kernel
theorem dX3_audit_37 : decode cX3_audit 37 = .ok (.invokevirtual 78, 3) := by decide +kernel
theorem dX3_audit_40 : decode cX3_audit 40 = .ok (.checkcast 35, 3) := by decide +kernel
theorem dX3_audit_43 : decode cX3_audit 43 = .ok (.astore_n 3, 1) := by decide +kernel
theorem dX3_audit_44 : decode cX3_audit 44 = .ok (.aload_n 3, 1) := by decide +kernel
theorem dX3_audit_45 : decode cX3_audit 45 = .ok (.getfield 244, 3) := by decide +kernel
theorem dX3_audit_48 : decode cX3_audit 48 = .ok (.iload_n 1, 1) := by decide +kernel
theorem dX3_audit_49 : decode cX3_audit 49 = .ok (.iaload, 1) := by decide +kernel
theorem dX3_audit_50 : decode cX3_audit 50 = .ok (.aload_n 3, 1) := by decide +kernel
theorem dX3_audit_51 : decode cX3_audit 51 = .ok (.getfield 248, 3) := by decide +kernel
theorem dX3_audit_54 : decode cX3_audit 54 = .ok (.if_icmp .eq 8, 3) := by decide +kernel
theorem dX3_audit_57 : decode cX3_audit 57 = .ok (.aload_n 3, 1) := by decide +kernel
theorem dX3_audit_58 : decode cX3_audit 58 = .ok (.getfield 43, 3) := by decide +kernel
theorem dX3_audit_61 : decode cX3_audit 61 = .ok (.ireturn, 1) := by decide +kernel
theorem dX3_audit_62 : decode cX3_audit 62 = .ok (.iinc 2 1, 3) := by decide +kernel
theorem dX3_audit_65 : decode cX3_audit 65 = .ok (.goto (-44), 3) := by decide +kernel
theorem dX3_audit_68 : decode cX3_audit 68 = .ok (.iconst (-1), 1) := by decide +kernel
theorem dX3_audit_69 : decode cX3_audit 69 = .ok (.ireturn, 1) := by decide +kernel
theorem dX3_of_0 : decode cX3_of 0 = .ok (.aload_n 0, 1) := by decide +kernel
theorem dX3_of_1 : decode cX3_of 1 = .ok (.iload_n 1, 1) := by decide +kernel
theorem dX3_of_2 : decode cX3_of 2 = .ok (.invokevirtual 47, 3) := by decide +kernel
theorem dX3_of_5 : decode cX3_of 5 = .ok (.astore_n 3, 1) := by decide +kernel
theorem dX3_of_6 : decode cX3_of 6 = .ok (.iload_n 2, 1) := by decide +kernel
theorem dX3_of_7 : decode cX3_of 7 = .ok (.iconst 0, 1) := by decide +kernel
theorem dX3_of_8 : decode cX3_of 8 = .ok (.bipush 6, 2) := by decide +kernel
theorem dX3_of_10 : decode cX3_of 10 = .ok (.invokestatic 19, 3) := by decide +kernel
theorem dX3_of_13 : decode cX3_of 13 = .ok (.iload_n 2, 1) := by decide +kernel
theorem dX3_of_14 : decode cX3_of 14 = .ok (.tableswitch 76 0 5 #[38, 43, 48, 53, 58, 63], 38) := by decide +kernel
theorem dX3_of_52 : decode cX3_of 52 = .ok (.aload_n 3, 1) := by decide +kernel
theorem dX3_of_53 : decode cX3_of 53 = .ok (.getfield 51, 3) := by decide +kernel
theorem dX3_of_56 : decode cX3_of 56 = .ok (.ireturn, 1) := by decide +kernel
theorem dX3_of_57 : decode cX3_of 57 = .ok (.aload_n 3, 1) := by decide +kernel
theorem dX3_of_58 : decode cX3_of 58 = .ok (.getfield 69, 3) := by decide +kernel
theorem dX3_of_61 : decode cX3_of 61 = .ok (.ireturn, 1) := by decide +kernel
theorem dX3_of_62 : decode cX3_of 62 = .ok (.aload_n 3, 1) := by decide +kernel
theorem dX3_of_63 : decode cX3_of 63 = .ok (.getfield 217, 3) := by decide +kernel
theorem dX3_of_66 : decode cX3_of 66 = .ok (.ireturn, 1) := by decide +kernel
theorem dX3_of_67 : decode cX3_of 67 = .ok (.aload_n 3, 1) := by decide +kernel
theorem dX3_of_68 : decode cX3_of 68 = .ok (.getfield 222, 3) := by decide +kernel
theorem dX3_of_71 : decode cX3_of 71 = .ok (.ireturn, 1) := by decide +kernel
theorem dX3_of_72 : decode cX3_of 72 = .ok (.aload_n 3, 1) := by decide +kernel
theorem dX3_of_73 : decode cX3_of 73 = .ok (.getfield 248, 3) := by decide +kernel
theorem dX3_of_76 : decode cX3_of 76 = .ok (.ireturn, 1) := by decide +kernel
theorem dX3_of_77 : decode cX3_of 77 = .ok (.aload_n 3, 1) := by decide +kernel
theorem dX3_of_78 : decode cX3_of 78 = .ok (.getfield 54, 3) := by decide +kernel
theorem dX3_of_81 : decode cX3_of 81 = .ok (.ifCond .eq 7, 3) := by decide +kernel
theorem dX3_of_84 : decode cX3_of 84 = .ok (.iconst 0, 1) := by decide +kernel
theorem dX3_of_85 : decode cX3_of 85 = .ok (.goto 4, 3) := by decide +kernel
theorem dX3_of_88 : decode cX3_of 88 = .ok (.iconst 1, 1) := by decide +kernel
theorem dX3_of_89 : decode cX3_of 89 = .ok (.ireturn, 1) := by decide +kernel
theorem dX3_of_90 : decode cX3_of 90 = .ok (.aload_n 0, 1) := by decide +kernel
theorem dX3_of_91 : decode cX3_of 91 = .ok (.aload_n 3, 1) := by decide +kernel
theorem dX3_of_92 : decode cX3_of 92 = .ok (.invokevirtual 251, 3) := by decide +kernel
theorem dX3_of_95 : decode cX3_of 95 = .ok (.ireturn, 1) := by decide +kernel
theorem dX3_member_0 : decode cX3_member 0 = .ok (.aload_n 0, 1) := by decide +kernel
theorem dX3_member_1 : decode cX3_member 1 = .ok (.iload_n 1, 1) := by decide +kernel
theorem dX3_member_2 : decode cX3_member 2 = .ok (.invokevirtual 93, 3) := by decide +kernel
theorem dX3_member_5 : decode cX3_member 5 = .ok (.astore 4, 2) := by decide +kernel
theorem dX3_member_7 : decode cX3_member 7 = .ok (.aload_n 0, 1) := by decide +kernel
theorem dX3_member_8 : decode cX3_member 8 = .ok (.iload_n 2, 1) := by decide +kernel
theorem dX3_member_9 : decode cX3_member 9 = .ok (.invokevirtual 47, 3) := by decide +kernel
theorem dX3_member_12 : decode cX3_member 12 = .ok (.astore 5, 2) := by decide +kernel
theorem dX3_member_14 : decode cX3_member 14 = .ok (.iload_n 3, 1) := by decide +kernel
theorem dX3_member_15 : decode cX3_member 15 = .ok (.iconst 0, 1) := by decide +kernel
theorem dX3_member_16 : decode cX3_member 16 = .ok (.iconst 3, 1) := by decide +kernel
theorem dX3_member_17 : decode cX3_member 17 = .ok (.invokestatic 19, 3) := by decide +kernel
theorem dX3_member_20 : decode cX3_member 20 = .ok (.aload 4, 2) := by decide +kernel
theorem dX3_member_22 : decode cX3_member 22 = .ok (.aload 5, 2) := by decide +kernel
theorem dX3_member_24 : decode cX3_member 24 = .ok (.invokevirtual 105, 3) := by decide +kernel
theorem dX3_member_27 : decode cX3_member 27 = .ok (.astore 6, 2) := by decide +kernel
theorem dX3_member_29 : decode cX3_member 29 = .ok (.aload 6, 2) := by decide +kernel
theorem dX3_member_31 : decode cX3_member 31 = .ok (.ifnonnull 5, 3) := by decide +kernel
theorem dX3_member_34 : decode cX3_member 34 = .ok (.iconst (-1), 1) := by decide +kernel
theorem dX3_member_35 : decode cX3_member 35 = .ok (.ireturn, 1) := by decide +kernel
theorem dX3_member_36 : decode cX3_member 36 = .ok (.iload_n 3, 1) := by decide +kernel
theorem dX3_member_37 : decode cX3_member 37 = .ok (.tableswitch 53 0 2 #[27, 33, 47], 27) := by decide +kernel
theorem dX3_member_64 : decode cX3_member 64 = .ok (.aload 6, 2) := by decide +kernel
theorem dX3_member_66 : decode cX3_member 66 = .ok (.getfield 164, 3) := by decide +kernel
theorem dX3_member_69 : decode cX3_member 69 = .ok (.ireturn, 1) := by decide +kernel
theorem dX3_member_70 : decode cX3_member 70 = .ok (.aload 6, 2) := by decide +kernel
theorem dX3_member_72 : decode cX3_member 72 = .ok (.getfield 161, 3) := by decide +kernel
theorem dX3_member_75 : decode cX3_member 75 = .ok (.ifCond .eq 7, 3) := by decide +kernel
theorem dX3_member_78 : decode cX3_member 78 = .ok (.iconst 1, 1) := by decide +kernel
theorem dX3_member_79 : decode cX3_member 79 = .ok (.goto 4, 3) := by decide +kernel
theorem dX3_member_82 : decode cX3_member 82 = .ok (.iconst 0, 1) := by decide +kernel
theorem dX3_member_83 : decode cX3_member 83 = .ok (.ireturn, 1) := by decide +kernel
theorem dX3_member_84 : decode cX3_member 84 = .ok (.aload 6, 2) := by decide +kernel
theorem dX3_member_86 : decode cX3_member 86 = .ok (.getfield 169, 3) := by decide +kernel
theorem dX3_member_89 : decode cX3_member 89 = .ok (.ireturn, 1) := by decide +kernel
theorem dX3_member_90 : decode cX3_member 90 = .ok (.aload 4, 2) := by decide +kernel
theorem dX3_member_92 : decode cX3_member 92 = .ok (.aload 5, 2) := by decide +kernel
theorem dX3_member_94 : decode cX3_member 94 = .ok (.invokevirtual 254, 3) := by decide +kernel
theorem dX3_member_97 : decode cX3_member 97 = .ok (.ireturn, 1) := by decide +kernel
theorem dX3_ofCircle_0 : decode cX3_ofCircle 0 = .ok (.aload_n 0, 1) := by decide +kernel
theorem dX3_ofCircle_1 : decode cX3_ofCircle 1 = .ok (.iload_n 1, 1) := by decide +kernel
theorem dX3_ofCircle_2 : decode cX3_ofCircle 2 = .ok (.invokevirtual 93, 3) := by decide +kernel
theorem dX3_ofCircle_5 : decode cX3_ofCircle 5 = .ok (.astore_n 3, 1) := by decide +kernel
theorem dX3_ofCircle_6 : decode cX3_ofCircle 6 = .ok (.iload_n 2, 1) := by decide +kernel
theorem dX3_ofCircle_7 : decode cX3_ofCircle 7 = .ok (.iconst 0, 1) := by decide +kernel
theorem dX3_ofCircle_8 : decode cX3_ofCircle 8 = .ok (.iconst 4, 1) := by decide +kernel
theorem dX3_ofCircle_9 : decode cX3_ofCircle 9 = .ok (.invokestatic 19, 3) := by decide +kernel
theorem dX3_ofCircle_12 : decode cX3_ofCircle 12 = .ok (.iload_n 2, 1) := by decide +kernel
theorem dX3_ofCircle_13 : decode cX3_ofCircle 13 = .ok (.tableswitch 54 0 3 #[31, 36, 44, 49], 31) := by decide +kernel
theorem dX3_ofCircle_44 : decode cX3_ofCircle 44 = .ok (.aload_n 3, 1) := by decide +kernel
theorem dX3_ofCircle_45 : decode cX3_ofCircle 45 = .ok (.getfield 172, 3) := by decide +kernel
theorem dX3_ofCircle_48 : decode cX3_ofCircle 48 = .ok (.ireturn, 1) := by decide +kernel
theorem dX3_ofCircle_49 : decode cX3_ofCircle 49 = .ok (.aload_n 3, 1) := by decide +kernel
theorem dX3_ofCircle_50 : decode cX3_ofCircle 50 = .ok (.getfield 100, 3) := by decide +kernel
theorem dX3_ofCircle_53 : decode cX3_ofCircle 53 = .ok (.invokevirtual 24, 3) := by decide +kernel
theorem dX3_ofCircle_56 : decode cX3_ofCircle 56 = .ok (.ireturn, 1) := by decide +kernel
theorem dX3_ofCircle_57 : decode cX3_ofCircle 57 = .ok (.aload_n 3, 1) := by decide +kernel
theorem dX3_ofCircle_58 : decode cX3_ofCircle 58 = .ok (.getfield 152, 3) := by decide +kernel
theorem dX3_ofCircle_61 : decode cX3_ofCircle 61 = .ok (.ireturn, 1) := by decide +kernel
theorem dX3_ofCircle_62 : decode cX3_ofCircle 62 = .ok (.aload_n 3, 1) := by decide +kernel
theorem dX3_ofCircle_63 : decode cX3_ofCircle 63 = .ok (.getfield 257, 3) := by decide +kernel
theorem dX3_ofCircle_66 : decode cX3_ofCircle 66 = .ok (.ireturn, 1) := by decide +kernel
theorem dX3_ofCircle_67 : decode cX3_ofCircle 67 = .ok (.aload_n 3, 1) := by decide +kernel
theorem dX3_ofCircle_68 : decode cX3_ofCircle 68 = .ok (.getfield 97, 3) := by decide +kernel
theorem dX3_ofCircle_71 : decode cX3_ofCircle 71 = .ok (.ifCond .eq 13, 3) := by decide +kernel
theorem dX3_ofCircle_74 : decode cX3_ofCircle 74 = .ok (.aload_n 3, 1) := by decide +kernel
theorem dX3_ofCircle_75 : decode cX3_ofCircle 75 = .ok (.invokevirtual 125, 3) := by decide +kernel
theorem dX3_ofCircle_78 : decode cX3_ofCircle 78 = .ok (.invokestatic 129, 3) := by decide +kernel
theorem dX3_ofCircle_81 : decode cX3_ofCircle 81 = .ok (.goto 4, 3) := by decide +kernel
theorem dX3_ofCircle_84 : decode cX3_ofCircle 84 = .ok (.iconst (-1), 1) := by decide +kernel
theorem dX3_ofCircle_85 : decode cX3_ofCircle 85 = .ok (.ireturn, 1) := by decide +kernel
theorem dX3_cash_0 : decode cX3_cash 0 = .ok (.aload_n 0, 1) := by decide +kernel
theorem dX3_cash_1 : decode cX3_cash 1 = .ok (.getfield 208, 3) := by decide +kernel
theorem dX3_cash_4 : decode cX3_cash 4 = .ok (.ireturn, 1) := by decide +kernel
theorem dX3_coins_0 : decode cX3_coins 0 = .ok (.aload_n 0, 1) := by decide +kernel
theorem dX3_coins_1 : decode cX3_coins 1 = .ok (.getfield 61, 3) := by decide +kernel
theorem dX3_coins_4 : decode cX3_coins 4 = .ok (.aload_n 0, 1) := by decide +kernel
theorem dX3_coins_5 : decode cX3_coins 5 = .ok (.getfield 208, 3) := by decide +kernel
theorem dX3_coins_8 : decode cX3_coins 8 = .ok (.isub, 1) := by decide +kernel
theorem dX3_coins_9 : decode cX3_coins 9 = .ok (.istore_n 1, 1) := by decide +kernel
theorem dX3_coins_10 : decode cX3_coins 10 = .ok (.iconst 0, 1) := by decide +kernel
theorem dX3_coins_11 : decode cX3_coins 11 = .ok (.istore_n 2, 1) := by decide +kernel
theorem dX3_coins_12 : decode cX3_coins 12 = .ok (.iload_n 2, 1) := by decide +kernel
theorem dX3_coins_13 : decode cX3_coins 13 = .ok (.aload_n 0, 1) := by decide +kernel
theorem dX3_coins_14 : decode cX3_coins 14 = .ok (.getfield 10, 3) := by decide +kernel
theorem dX3_coins_17 : decode cX3_coins 17 = .ok (.invokevirtual 24, 3) := by decide +kernel
theorem dX3_coins_20 : decode cX3_coins 20 = .ok (.if_icmp .ge 26, 3) := by decide +kernel
theorem dX3_coins_23 : decode cX3_coins 23 = .ok (.iload_n 1, 1) := by decide +kernel
theorem dX3_coins_24 : decode cX3_coins 24 = .ok (.aload_n 0, 1) := by decide +kernel
theorem dX3_coins_25 : decode cX3_coins 25 = .ok (.getfield 10, 3) := by decide +kernel
theorem dX3_coins_28 : decode cX3_coins 28 = .ok (.iload_n 2, 1) := by decide +kernel
theorem dX3_coins_29 : decode cX3_coins 29 = .ok (.invokevirtual 78, 3) := by decide +kernel
theorem dX3_coins_32 : decode cX3_coins 32 = .ok (.checkcast 35, 3) := by decide +kernel
theorem dX3_coins_35 : decode cX3_coins 35 = .ok (.getfield 51, 3) := by decide +kernel
theorem dX3_coins_38 : decode cX3_coins 38 = .ok (.isub, 1) := by decide +kernel
theorem dX3_coins_39 : decode cX3_coins 39 = .ok (.istore_n 1, 1) := by decide +kernel
theorem dX3_coins_40 : decode cX3_coins 40 = .ok (.iinc 2 1, 3) := by decide +kernel
theorem dX3_coins_43 : decode cX3_coins 43 = .ok (.goto (-31), 3) := by decide +kernel
theorem dX3_coins_46 : decode cX3_coins 46 = .ok (.iconst 0, 1) := by decide +kernel
theorem dX3_coins_47 : decode cX3_coins 47 = .ok (.istore_n 2, 1) := by decide +kernel
theorem dX3_coins_48 : decode cX3_coins 48 = .ok (.iload_n 2, 1) := by decide +kernel
theorem dX3_coins_49 : decode cX3_coins 49 = .ok (.aload_n 0, 1) := by decide +kernel
theorem dX3_coins_50 : decode cX3_coins 50 = .ok (.getfield 16, 3) := by decide +kernel
theorem dX3_coins_53 : decode cX3_coins 53 = .ok (.invokevirtual 24, 3) := by decide +kernel
theorem dX3_coins_56 : decode cX3_coins 56 = .ok (.if_icmp .ge 26, 3) := by decide +kernel
theorem dX3_coins_59 : decode cX3_coins 59 = .ok (.iload_n 1, 1) := by decide +kernel
theorem dX3_coins_60 : decode cX3_coins 60 = .ok (.aload_n 0, 1) := by decide +kernel
theorem dX3_coins_61 : decode cX3_coins 61 = .ok (.getfield 16, 3) := by decide +kernel
theorem dX3_coins_64 : decode cX3_coins 64 = .ok (.iload_n 2, 1) := by decide +kernel
theorem dX3_coins_65 : decode cX3_coins 65 = .ok (.invokevirtual 78, 3) := by decide +kernel
theorem dX3_coins_68 : decode cX3_coins 68 = .ok (.checkcast 82, 3) := by decide +kernel
theorem dX3_coins_71 : decode cX3_coins 71 = .ok (.getfield 172, 3) := by decide +kernel
theorem dX3_coins_74 : decode cX3_coins 74 = .ok (.isub, 1) := by decide +kernel
theorem dX3_coins_75 : decode cX3_coins 75 = .ok (.istore_n 1, 1) := by decide +kernel
theorem dX3_coins_76 : decode cX3_coins 76 = .ok (.iinc 2 1, 3) := by decide +kernel
theorem dX3_coins_79 : decode cX3_coins 79 = .ok (.goto (-31), 3) := by decide +kernel
theorem dX3_coins_82 : decode cX3_coins 82 = .ok (.iload_n 1, 1) := by decide +kernel
theorem dX3_coins_83 : decode cX3_coins 83 = .ok (.ireturn, 1) := by decide +kernel
theorem dX3_personAt_0 : decode cX3_personAt 0 = .ok (.iload_n 1, 1) := by decide +kernel
theorem dX3_personAt_1 : decode cX3_personAt 1 = .ok (.ifCond .lt 14, 3) := by decide +kernel
theorem dX3_personAt_4 : decode cX3_personAt 4 = .ok (.iload_n 1, 1) := by decide +kernel
theorem dX3_personAt_5 : decode cX3_personAt 5 = .ok (.aload_n 0, 1) := by decide +kernel
theorem dX3_personAt_6 : decode cX3_personAt 6 = .ok (.getfield 10, 3) := by decide +kernel
theorem dX3_personAt_9 : decode cX3_personAt 9 = .ok (.invokevirtual 24, 3) := by decide +kernel
theorem dX3_personAt_12 : decode cX3_personAt 12 = .ok (.if_icmp .lt 14, 3) := by decide +kernel
theorem dX3_personAt_15 : decode cX3_personAt 15 = .ok (.new 239, 3) := by decide +kernel
theorem dX3_personAt_18 : decode cX3_personAt 18 = .ok (.dup, 1) := by decide +kernel
theorem dX3_personAt_19 : decode cX3_personAt 19 = .ok (.ldc_w 260, 3) := by decide +kernel
theorem dX3_personAt_22 : decode cX3_personAt 22 = .ok (.invokespecial 243, 3) := by decide +kernel
theorem dX3_personAt_25 : decode cX3_personAt 25 = .ok (.athrow, 1) := by decide +kernel
theorem dX3_personAt_26 : decode cX3_personAt 26 = .ok (.aload_n 0, 1) := by decide +kernel
theorem dX3_personAt_27 : decode cX3_personAt 27 = .ok (.getfield 10, 3) := by decide +kernel
theorem dX3_personAt_30 : decode cX3_personAt 30 = .ok (.iload_n 1, 1) := by decide +kernel
theorem dX3_personAt_31 : decode cX3_personAt 31 = .ok (.invokevirtual 78, 3) := by decide +kernel
theorem dX3_personAt_34 : decode cX3_personAt 34 = .ok (.checkcast 35, 3) := by decide +kernel
theorem dX3_personAt_37 : decode cX3_personAt 37 = .ok (.areturn, 1) := by decide +kernel
theorem dX3_circleAt_0 : decode cX3_circleAt 0 = .ok (.iload_n 1, 1) := by decide +kernel
theorem dX3_circleAt_1 : decode cX3_circleAt 1 = .ok (.ifCond .lt 14, 3) := by decide +kernel
theorem dX3_circleAt_4 : decode cX3_circleAt 4 = .ok (.iload_n 1, 1) := by decide +kernel
theorem dX3_circleAt_5 : decode cX3_circleAt 5 = .ok (.aload_n 0, 1) := by decide +kernel
theorem dX3_circleAt_6 : decode cX3_circleAt 6 = .ok (.getfield 16, 3) := by decide +kernel
theorem dX3_circleAt_9 : decode cX3_circleAt 9 = .ok (.invokevirtual 24, 3) := by decide +kernel
theorem dX3_circleAt_12 : decode cX3_circleAt 12 = .ok (.if_icmp .lt 14, 3) := by decide +kernel
theorem dX3_circleAt_15 : decode cX3_circleAt 15 = .ok (.new 239, 3) := by decide +kernel
theorem dX3_circleAt_18 : decode cX3_circleAt 18 = .ok (.dup, 1) := by decide +kernel
theorem dX3_circleAt_19 : decode cX3_circleAt 19 = .ok (.ldc_w 262, 3) := by decide +kernel
theorem dX3_circleAt_22 : decode cX3_circleAt 22 = .ok (.invokespecial 243, 3) := by decide +kernel
theorem dX3_circleAt_25 : decode cX3_circleAt 25 = .ok (.athrow, 1) := by decide +kernel
theorem dX3_circleAt_26 : decode cX3_circleAt 26 = .ok (.aload_n 0, 1) := by decide +kernel
theorem dX3_circleAt_27 : decode cX3_circleAt 27 = .ok (.getfield 16, 3) := by decide +kernel
theorem dX3_circleAt_30 : decode cX3_circleAt 30 = .ok (.iload_n 1, 1) := by decide +kernel
theorem dX3_circleAt_31 : decode cX3_circleAt 31 = .ok (.invokevirtual 78, 3) := by decide +kernel
theorem dX3_circleAt_34 : decode cX3_circleAt 34 = .ok (.checkcast 82, 3) := by decide +kernel
theorem dX3_circleAt_37 : decode cX3_circleAt 37 = .ok (.areturn, 1) := by decide +kernel
theorem dX3_checkRange_0 : decode cX3_checkRange 0 = .ok (.iload_n 0, 1) := by decide +kernel
theorem dX3_checkRange_1 : decode cX3_checkRange 1 = .ok (.iload_n 1, 1) := by decide +kernel
theorem dX3_checkRange_2 : decode cX3_checkRange 2 = .ok (.if_icmp .lt 8, 3) := by decide +kernel
theorem dX3_checkRange_5 : decode cX3_checkRange 5 = .ok (.iload_n 0, 1) := by decide +kernel
theorem dX3_checkRange_6 : decode cX3_checkRange 6 = .ok (.iload_n 2, 1) := by decide +kernel
theorem dX3_checkRange_7 : decode cX3_checkRange 7 = .ok (.if_icmp .le 14, 3) := by decide +kernel
theorem dX3_checkRange_10 : decode cX3_checkRange 10 = .ok (.new 64, 3) := by decide +kernel
theorem dX3_checkRange_13 : decode cX3_checkRange 13 = .ok (.dup, 1) := by decide +kernel
theorem dX3_checkRange_14 : decode cX3_checkRange 14 = .ok (.ldc_w 264, 3) := by decide +kernel
theorem dX3_checkRange_17 : decode cX3_checkRange 17 = .ok (.invokespecial 68, 3) := by decide +kernel
theorem dX3_checkRange_20 : decode cX3_checkRange 20 = .ok (.athrow, 1) := by decide +kernel
theorem dX3_checkRange_21 : decode cX3_checkRange 21 = .ok (.return_, 1) := by decide +kernel
theorem dX3_numberAt_0 : decode cX3_numberAt 0 = .ok (.aload_n 0, 1) := by decide +kernel
theorem dX3_numberAt_1 : decode cX3_numberAt 1 = .ok (.ifnonnull 7, 3) := by decide +kernel
theorem dX3_numberAt_4 : decode cX3_numberAt 4 = .ok (.iconst (-1), 1) := by decide +kernel
theorem dX3_numberAt_5 : decode cX3_numberAt 5 = .ok (.goto 10, 3) := by decide +kernel
theorem dX3_numberAt_8 : decode cX3_numberAt 8 = .ok (.aload_n 0, 1) := by decide +kernel
theorem dX3_numberAt_9 : decode cX3_numberAt 9 = .ok (.getfield 266, 3) := by decide +kernel
theorem dX3_numberAt_12 : decode cX3_numberAt 12 = .ok (.getfield 43, 3) := by decide +kernel
theorem dX3_numberAt_15 : decode cX3_numberAt 15 = .ok (.ireturn, 1) := by decide +kernel
theorem dX3_payFund_0 : decode cX3_payFund 0 = .ok (.aload_n 1, 1) := by decide +kernel
theorem dX3_payFund_1 : decode cX3_payFund 1 = .ok (.iload_n 2, 1) := by decide +kernel
theorem dX3_payFund_2 : decode cX3_payFund 2 = .ok (.invokevirtual 270, 3) := by decide +kernel
theorem dX3_payFund_5 : decode cX3_payFund 5 = .ok (.aload_n 0, 1) := by decide +kernel
theorem dX3_payFund_6 : decode cX3_payFund 6 = .ok (.dup, 1) := by decide +kernel
theorem dX3_payFund_7 : decode cX3_payFund 7 = .ok (.getfield 208, 3) := by decide +kernel
theorem dX3_payFund_10 : decode cX3_payFund 10 = .ok (.iload_n 2, 1) := by decide +kernel
theorem dX3_payFund_11 : decode cX3_payFund 11 = .ok (.iadd, 1) := by decide +kernel
theorem dX3_payFund_12 : decode cX3_payFund 12 = .ok (.putfield 208, 3) := by decide +kernel
theorem dX3_payFund_15 : decode cX3_payFund 15 = .ok (.return_, 1) := by decide +kernel
theorem dX3_highestLoan_0 : decode cX3_highestLoan 0 = .ok (.bipush 50, 2) := by decide +kernel
theorem dX3_highestLoan_2 : decode cX3_highestLoan 2 = .ok (.iconst 1, 1) := by decide +kernel
theorem dX3_highestLoan_3 : decode cX3_highestLoan 3 = .ok (.aload_n 1, 1) := by decide +kernel
theorem dX3_highestLoan_4 : decode cX3_highestLoan 4 = .ok (.getfield 222, 3) := by decide +kernel
theorem dX3_highestLoan_7 : decode cX3_highestLoan 7 = .ok (.iadd, 1) := by decide +kernel
theorem dX3_highestLoan_8 : decode cX3_highestLoan 8 = .ok (.imul, 1) := by decide +kernel
theorem dX3_highestLoan_9 : decode cX3_highestLoan 9 = .ok (.sipush 500, 3) := by decide +kernel
theorem dX3_highestLoan_12 : decode cX3_highestLoan 12 = .ok (.aload_n 0, 1) := by decide +kernel
theorem dX3_highestLoan_13 : decode cX3_highestLoan 13 = .ok (.aload_n 1, 1) := by decide +kernel
theorem dX3_highestLoan_14 : decode cX3_highestLoan 14 = .ok (.invokevirtual 273, 3) := by decide +kernel
theorem dX3_highestLoan_17 : decode cX3_highestLoan 17 = .ok (.isub, 1) := by decide +kernel
theorem dX3_highestLoan_18 : decode cX3_highestLoan 18 = .ok (.invokestatic 175, 3) := by decide +kernel
theorem dX3_highestLoan_21 : decode cX3_highestLoan 21 = .ok (.ireturn, 1) := by decide +kernel
theorem dX3_houseDebts_0 : decode cX3_houseDebts 0 = .ok (.iconst 0, 1) := by decide +kernel
theorem dX3_houseDebts_1 : decode cX3_houseDebts 1 = .ok (.istore_n 2, 1) := by decide +kernel
theorem dX3_houseDebts_2 : decode cX3_houseDebts 2 = .ok (.iconst 0, 1) := by decide +kernel
theorem dX3_houseDebts_3 : decode cX3_houseDebts 3 = .ok (.istore_n 3, 1) := by decide +kernel
theorem dX3_houseDebts_4 : decode cX3_houseDebts 4 = .ok (.iload_n 3, 1) := by decide +kernel
theorem dX3_houseDebts_5 : decode cX3_houseDebts 5 = .ok (.aload_n 0, 1) := by decide +kernel
theorem dX3_houseDebts_6 : decode cX3_houseDebts 6 = .ok (.getfield 10, 3) := by decide +kernel
theorem dX3_houseDebts_9 : decode cX3_houseDebts 9 = .ok (.invokevirtual 24, 3) := by decide +kernel
theorem dX3_houseDebts_12 : decode cX3_houseDebts 12 = .ok (.if_icmp .ge 47, 3) := by decide +kernel
theorem dX3_houseDebts_15 : decode cX3_houseDebts 15 = .ok (.aload_n 0, 1) := by decide +kernel
theorem dX3_houseDebts_16 : decode cX3_houseDebts 16 = .ok (.getfield 10, 3) := by decide +kernel
theorem dX3_houseDebts_19 : decode cX3_houseDebts 19 = .ok (.iload_n 3, 1) := by decide +kernel
theorem dX3_houseDebts_20 : decode cX3_houseDebts 20 = .ok (.invokevirtual 78, 3) := by decide +kernel
theorem dX3_houseDebts_23 : decode cX3_houseDebts 23 = .ok (.checkcast 35, 3) := by decide +kernel
theorem dX3_houseDebts_26 : decode cX3_houseDebts 26 = .ok (.astore 4, 2) := by decide +kernel
theorem dX3_houseDebts_28 : decode cX3_houseDebts 28 = .ok (.aload 4, 2) := by decide +kernel
theorem dX3_houseDebts_30 : decode cX3_houseDebts 30 = .ok (.getfield 54, 3) := by decide +kernel
theorem dX3_houseDebts_33 : decode cX3_houseDebts 33 = .ok (.ifCond .ne 20, 3) := by decide +kernel
theorem dX3_houseDebts_36 : decode cX3_houseDebts 36 = .ok (.aload 4, 2) := by decide +kernel
theorem dX3_houseDebts_38 : decode cX3_houseDebts 38 = .ok (.aload_n 1, 1) := by decide +kernel
theorem dX3_houseDebts_39 : decode cX3_houseDebts 39 = .ok (.invokevirtual 276, 3) := by decide +kernel
theorem dX3_houseDebts_42 : decode cX3_houseDebts 42 = .ok (.ifCond .eq 11, 3) := by decide +kernel
theorem dX3_houseDebts_45 : decode cX3_houseDebts 45 = .ok (.iload_n 2, 1) := by decide +kernel
theorem dX3_houseDebts_46 : decode cX3_houseDebts 46 = .ok (.aload 4, 2) := by decide +kernel
theorem dX3_houseDebts_48 : decode cX3_houseDebts 48 = .ok (.getfield 217, 3) := by decide +kernel
theorem dX3_houseDebts_51 : decode cX3_houseDebts 51 = .ok (.iadd, 1) := by decide +kernel
theorem dX3_houseDebts_52 : decode cX3_houseDebts 52 = .ok (.istore_n 2, 1) := by decide +kernel
theorem dX3_houseDebts_53 : decode cX3_houseDebts 53 = .ok (.iinc 3 1, 3) := by decide +kernel
theorem dX3_houseDebts_56 : decode cX3_houseDebts 56 = .ok (.goto (-52), 3) := by decide +kernel
theorem dX3_houseDebts_59 : decode cX3_houseDebts 59 = .ok (.iload_n 2, 1) := by decide +kernel
theorem dX3_houseDebts_60 : decode cX3_houseDebts 60 = .ok (.ireturn, 1) := by decide +kernel
theorem dX3_houseSize_0 : decode cX3_houseSize 0 = .ok (.iconst 0, 1) := by decide +kernel
theorem dX3_houseSize_1 : decode cX3_houseSize 1 = .ok (.istore_n 2, 1) := by decide +kernel
theorem dX3_houseSize_2 : decode cX3_houseSize 2 = .ok (.iconst 0, 1) := by decide +kernel
theorem dX3_houseSize_3 : decode cX3_houseSize 3 = .ok (.istore_n 3, 1) := by decide +kernel
theorem dX3_houseSize_4 : decode cX3_houseSize 4 = .ok (.iload_n 3, 1) := by decide +kernel
theorem dX3_houseSize_5 : decode cX3_houseSize 5 = .ok (.aload_n 0, 1) := by decide +kernel
theorem dX3_houseSize_6 : decode cX3_houseSize 6 = .ok (.getfield 10, 3) := by decide +kernel
theorem dX3_houseSize_9 : decode cX3_houseSize 9 = .ok (.invokevirtual 24, 3) := by decide +kernel
theorem dX3_houseSize_12 : decode cX3_houseSize 12 = .ok (.if_icmp .ge 42, 3) := by decide +kernel
theorem dX3_houseSize_15 : decode cX3_houseSize 15 = .ok (.aload_n 0, 1) := by decide +kernel
theorem dX3_houseSize_16 : decode cX3_houseSize 16 = .ok (.getfield 10, 3) := by decide +kernel
theorem dX3_houseSize_19 : decode cX3_houseSize 19 = .ok (.iload_n 3, 1) := by decide +kernel
theorem dX3_houseSize_20 : decode cX3_houseSize 20 = .ok (.invokevirtual 78, 3) := by decide +kernel
theorem dX3_houseSize_23 : decode cX3_houseSize 23 = .ok (.checkcast 35, 3) := by decide +kernel
theorem dX3_houseSize_26 : decode cX3_houseSize 26 = .ok (.astore 4, 2) := by decide +kernel
theorem dX3_houseSize_28 : decode cX3_houseSize 28 = .ok (.aload 4, 2) := by decide +kernel
theorem dX3_houseSize_30 : decode cX3_houseSize 30 = .ok (.getfield 54, 3) := by decide +kernel
theorem dX3_houseSize_33 : decode cX3_houseSize 33 = .ok (.ifCond .ne 15, 3) := by decide +kernel
theorem dX3_houseSize_36 : decode cX3_houseSize 36 = .ok (.aload 4, 2) := by decide +kernel
theorem dX3_houseSize_38 : decode cX3_houseSize 38 = .ok (.aload_n 1, 1) := by decide +kernel
theorem dX3_houseSize_39 : decode cX3_houseSize 39 = .ok (.invokevirtual 276, 3) := by decide +kernel
theorem dX3_houseSize_42 : decode cX3_houseSize 42 = .ok (.ifCond .eq 6, 3) := by decide +kernel
theorem dX3_houseSize_45 : decode cX3_houseSize 45 = .ok (.iinc 2 1, 3) := by decide +kernel
theorem dX3_houseSize_48 : decode cX3_houseSize 48 = .ok (.iinc 3 1, 3) := by decide +kernel
theorem dX3_houseSize_51 : decode cX3_houseSize 51 = .ok (.goto (-47), 3) := by decide +kernel
theorem dX3_houseSize_54 : decode cX3_houseSize 54 = .ok (.iload_n 2, 1) := by decide +kernel
theorem dX3_houseSize_55 : decode cX3_houseSize 55 = .ok (.ireturn, 1) := by decide +kernel
theorem dX3_defaultLoan_0 : decode cX3_defaultLoan 0 = .ok (.aload_n 1, 1) := by decide +kernel
theorem dX3_defaultLoan_1 : decode cX3_defaultLoan 1 = .ok (.getfield 217, 3) := by decide +kernel
theorem dX3_defaultLoan_4 : decode cX3_defaultLoan 4 = .ok (.iconst 2, 1) := by decide +kernel
theorem dX3_defaultLoan_5 : decode cX3_defaultLoan 5 = .ok (.idiv, 1) := by decide +kernel
theorem dX3_defaultLoan_6 : decode cX3_defaultLoan 6 = .ok (.istore_n 2, 1) := by decide +kernel
theorem dX3_defaultLoan_7 : decode cX3_defaultLoan 7 = .ok (.aload_n 1, 1) := by decide +kernel
theorem dX3_defaultLoan_8 : decode cX3_defaultLoan 8 = .ok (.getfield 217, 3) := by decide +kernel
theorem dX3_defaultLoan_11 : decode cX3_defaultLoan 11 = .ok (.iload_n 2, 1) := by decide +kernel
theorem dX3_defaultLoan_12 : decode cX3_defaultLoan 12 = .ok (.isub, 1) := by decide +kernel
theorem dX3_defaultLoan_13 : decode cX3_defaultLoan 13 = .ok (.istore_n 3, 1) := by decide +kernel
theorem dX3_defaultLoan_14 : decode cX3_defaultLoan 14 = .ok (.aload_n 0, 1) := by decide +kernel
theorem dX3_defaultLoan_15 : decode cX3_defaultLoan 15 = .ok (.aload_n 1, 1) := by decide +kernel
theorem dX3_defaultLoan_16 : decode cX3_defaultLoan 16 = .ok (.getfield 280, 3) := by decide +kernel
theorem dX3_defaultLoan_19 : decode cX3_defaultLoan 19 = .ok (.iload_n 2, 1) := by decide +kernel
theorem dX3_defaultLoan_20 : decode cX3_defaultLoan 20 = .ok (.invokevirtual 283, 3) := by decide +kernel
theorem dX3_defaultLoan_23 : decode cX3_defaultLoan 23 = .ok (.aload_n 0, 1) := by decide +kernel
theorem dX3_defaultLoan_24 : decode cX3_defaultLoan 24 = .ok (.aload_n 1, 1) := by decide +kernel
theorem dX3_defaultLoan_25 : decode cX3_defaultLoan 25 = .ok (.getfield 286, 3) := by decide +kernel
theorem dX3_defaultLoan_28 : decode cX3_defaultLoan 28 = .ok (.iload_n 3, 1) := by decide +kernel
theorem dX3_defaultLoan_29 : decode cX3_defaultLoan 29 = .ok (.invokevirtual 283, 3) := by decide +kernel
theorem dX3_defaultLoan_32 : decode cX3_defaultLoan 32 = .ok (.aload_n 1, 1) := by decide +kernel
theorem dX3_defaultLoan_33 : decode cX3_defaultLoan 33 = .ok (.iconst 0, 1) := by decide +kernel
theorem dX3_defaultLoan_34 : decode cX3_defaultLoan 34 = .ok (.putfield 217, 3) := by decide +kernel
theorem dX3_defaultLoan_37 : decode cX3_defaultLoan 37 = .ok (.aload_n 1, 1) := by decide +kernel
theorem dX3_defaultLoan_38 : decode cX3_defaultLoan 38 = .ok (.iconst 0, 1) := by decide +kernel
theorem dX3_defaultLoan_39 : decode cX3_defaultLoan 39 = .ok (.putfield 222, 3) := by decide +kernel
theorem dX3_defaultLoan_42 : decode cX3_defaultLoan 42 = .ok (.return_, 1) := by decide +kernel
theorem dX3_payForOther_0 : decode cX3_payForOther 0 = .ok (.aload_n 1, 1) := by decide +kernel
theorem dX3_payForOther_1 : decode cX3_payForOther 1 = .ok (.ifnull 23, 3) := by decide +kernel
theorem dX3_payForOther_4 : decode cX3_payForOther 4 = .ok (.aload_n 1, 1) := by decide +kernel
theorem dX3_payForOther_5 : decode cX3_payForOther 5 = .ok (.getfield 54, 3) := by decide +kernel
theorem dX3_payForOther_8 : decode cX3_payForOther 8 = .ok (.ifCond .ne 16, 3) := by decide +kernel
theorem dX3_payForOther_11 : decode cX3_payForOther 11 = .ok (.aload_n 0, 1) := by decide +kernel
theorem dX3_payForOther_12 : decode cX3_payForOther 12 = .ok (.aload_n 1, 1) := by decide +kernel
theorem dX3_payForOther_13 : decode cX3_payForOther 13 = .ok (.iload_n 2, 1) := by decide +kernel
theorem dX3_payForOther_14 : decode cX3_payForOther 14 = .ok (.aload_n 1, 1) := by decide +kernel
theorem dX3_payForOther_15 : decode cX3_payForOther 15 = .ok (.getfield 51, 3) := by decide +kernel
theorem dX3_payForOther_18 : decode cX3_payForOther 18 = .ok (.invokestatic 175, 3) := by decide +kernel
theorem dX3_payForOther_21 : decode cX3_payForOther 21 = .ok (.invokevirtual 190, 3) := by decide +kernel
theorem dX3_payForOther_24 : decode cX3_payForOther 24 = .ok (.return_, 1) := by decide +kernel
theorem dX4_init_0 : decode cX4_init 0 = .ok (.aload_n 0, 1) := by decide +kernel
theorem dX4_init_1 : decode cX4_init 1 = .ok (.invokespecial 1, 3) := by decide +kernel
theorem dX4_init_4 : decode cX4_init 4 = .ok (.aload_n 0, 1) := by decide +kernel
theorem dX4_init_5 : decode cX4_init 5 = .ok (.bipush 16, 2) := by decide +kernel
theorem dX4_init_7 : decode cX4_init 7 = .ok (.newarray .int, 2) := by decide +kernel
theorem dX4_init_9 : decode cX4_init 9 = .ok (.putfield 7, 3) := by decide +kernel
theorem dX4_init_12 : decode cX4_init 12 = .ok (.aload_n 0, 1) := by decide +kernel
theorem dX4_init_13 : decode cX4_init 13 = .ok (.bipush 16, 2) := by decide +kernel
theorem dX4_init_15 : decode cX4_init 15 = .ok (.newarray .int, 2) := by decide +kernel
theorem dX4_init_17 : decode cX4_init 17 = .ok (.putfield 13, 3) := by decide +kernel
theorem dX4_init_20 : decode cX4_init 20 = .ok (.aload_n 0, 1) := by decide +kernel
theorem dX4_init_21 : decode cX4_init 21 = .ok (.bipush 16, 2) := by decide +kernel
theorem dX4_init_23 : decode cX4_init 23 = .ok (.newarray .int, 2) := by decide +kernel
theorem dX4_init_25 : decode cX4_init 25 = .ok (.putfield 16, 3) := by decide +kernel
theorem dX4_init_28 : decode cX4_init 28 = .ok (.aload_n 0, 1) := by decide +kernel
theorem dX4_init_29 : decode cX4_init 29 = .ok (.bipush 16, 2) := by decide +kernel
theorem dX4_init_31 : decode cX4_init 31 = .ok (.newarray .int, 2) := by decide +kernel
theorem dX4_init_33 : decode cX4_init 33 = .ok (.putfield 19, 3) := by decide +kernel
theorem dX4_init_36 : decode cX4_init 36 = .ok (.aload_n 0, 1) := by decide +kernel
theorem dX4_init_37 : decode cX4_init 37 = .ok (.bipush 16, 2) := by decide +kernel
theorem dX4_init_39 : decode cX4_init 39 = .ok (.newarray .int, 2) := by decide +kernel
theorem dX4_init_41 : decode cX4_init 41 = .ok (.putfield 22, 3) := by decide +kernel
theorem dX4_init_44 : decode cX4_init 44 = .ok (.aload_n 0, 1) := by decide +kernel
theorem dX4_init_45 : decode cX4_init 45 = .ok (.bipush 16, 2) := by decide +kernel
theorem dX4_init_47 : decode cX4_init 47 = .ok (.newarray .int, 2) := by decide +kernel
theorem dX4_init_49 : decode cX4_init 49 = .ok (.putfield 25, 3) := by decide +kernel
theorem dX4_init_52 : decode cX4_init 52 = .ok (.aload_n 0, 1) := by decide +kernel
theorem dX4_init_53 : decode cX4_init 53 = .ok (.bipush 16, 2) := by decide +kernel
theorem dX4_init_55 : decode cX4_init 55 = .ok (.newarray .int, 2) := by decide +kernel
theorem dX4_init_57 : decode cX4_init 57 = .ok (.putfield 28, 3) := by decide +kernel
theorem dX4_init_60 : decode cX4_init 60 = .ok (.aload_n 0, 1) := by decide +kernel
theorem dX4_init_61 : decode cX4_init 61 = .ok (.bipush 16, 2) := by decide +kernel
theorem dX4_init_63 : decode cX4_init 63 = .ok (.newarray .int, 2) := by decide +kernel
theorem dX4_init_65 : decode cX4_init 65 = .ok (.putfield 31, 3) := by decide +kernel
theorem dX4_init_68 : decode cX4_init 68 = .ok (.aload_n 0, 1) := by decide +kernel
theorem dX4_init_69 : decode cX4_init 69 = .ok (.bipush 16, 2) := by decide +kernel
theorem dX4_init_71 : decode cX4_init 71 = .ok (.newarray .int, 2) := by decide +kernel
theorem dX4_init_73 : decode cX4_init 73 = .ok (.putfield 34, 3) := by decide +kernel
theorem dX4_init_76 : decode cX4_init 76 = .ok (.aload_n 0, 1) := by decide +kernel
theorem dX4_init_77 : decode cX4_init 77 = .ok (.bipush 16, 2) := by decide +kernel
theorem dX4_init_79 : decode cX4_init 79 = .ok (.newarray .int, 2) := by decide +kernel
theorem dX4_init_81 : decode cX4_init 81 = .ok (.putfield 37, 3) := by decide +kernel
theorem dX4_init_84 : decode cX4_init 84 = .ok (.aload_n 0, 1) := by decide +kernel
theorem dX4_init_85 : decode cX4_init 85 = .ok (.bipush 16, 2) := by decide +kernel
theorem dX4_init_87 : decode cX4_init 87 = .ok (.newarray .boolean, 2) := by decide +kernel
theorem dX4_init_89 : decode cX4_init 89 = .ok (.putfield 40, 3) := by decide +kernel
theorem dX4_init_92 : decode cX4_init 92 = .ok (.aload_n 0, 1) := by decide +kernel
theorem dX4_init_93 : decode cX4_init 93 = .ok (.iconst 4, 1) := by decide +kernel
theorem dX4_init_94 : decode cX4_init 94 = .ok (.newarray .int, 2) := by decide +kernel
theorem dX4_init_96 : decode cX4_init 96 = .ok (.putfield 44, 3) := by decide +kernel
theorem dX4_init_99 : decode cX4_init 99 = .ok (.aload_n 0, 1) := by decide +kernel
theorem dX4_init_100 : decode cX4_init 100 = .ok (.iconst 4, 1) := by decide +kernel
theorem dX4_init_101 : decode cX4_init 101 = .ok (.newarray .int, 2) := by decide +kernel
theorem dX4_init_103 : decode cX4_init 103 = .ok (.putfield 47, 3) := by decide +kernel
theorem dX4_init_106 : decode cX4_init 106 = .ok (.aload_n 0, 1) := by decide +kernel
theorem dX4_init_107 : decode cX4_init 107 = .ok (.iconst 4, 1) := by decide +kernel
theorem dX4_init_108 : decode cX4_init 108 = .ok (.newarray .int, 2) := by decide +kernel
theorem dX4_init_110 : decode cX4_init 110 = .ok (.putfield 50, 3) := by decide +kernel
theorem dX4_init_113 : decode cX4_init 113 = .ok (.aload_n 0, 1) := by decide +kernel
theorem dX4_init_114 : decode cX4_init 114 = .ok (.iconst 4, 1) := by decide +kernel
theorem dX4_init_115 : decode cX4_init 115 = .ok (.newarray .int, 2) := by decide +kernel
theorem dX4_init_117 : decode cX4_init 117 = .ok (.putfield 53, 3) := by decide +kernel
theorem dX4_init_120 : decode cX4_init 120 = .ok (.aload_n 0, 1) := by decide +kernel
theorem dX4_init_121 : decode cX4_init 121 = .ok (.iconst 4, 1) := by decide +kernel
theorem dX4_init_122 : decode cX4_init 122 = .ok (.newarray .int, 2) := by decide +kernel
theorem dX4_init_124 : decode cX4_init 124 = .ok (.putfield 56, 3) := by decide +kernel
theorem dX4_init_127 : decode cX4_init 127 = .ok (.aload_n 0, 1) := by decide +kernel
theorem dX4_init_128 : decode cX4_init 128 = .ok (.iconst 4, 1) := by decide +kernel
theorem dX4_init_129 : decode cX4_init 129 = .ok (.newarray .int, 2) := by decide +kernel
theorem dX4_init_131 : decode cX4_init 131 = .ok (.putfield 59, 3) := by decide +kernel
theorem dX4_init_134 : decode cX4_init 134 = .ok (.aload_n 0, 1) := by decide +kernel
theorem dX4_init_135 : decode cX4_init 135 = .ok (.iconst 4, 1) := by decide +kernel
theorem dX4_init_136 : decode cX4_init 136 = .ok (.newarray .boolean, 2) := by decide +kernel
theorem dX4_init_138 : decode cX4_init 138 = .ok (.putfield 62, 3) := by decide +kernel
theorem dX4_init_141 : decode cX4_init 141 = .ok (.aload_n 0, 1) := by decide +kernel
theorem dX4_init_142 : decode cX4_init 142 = .ok (.bipush 40, 2) := by decide +kernel
theorem dX4_init_144 : decode cX4_init 144 = .ok (.newarray .int, 2) := by decide +kernel
theorem dX4_init_146 : decode cX4_init 146 = .ok (.putfield 65, 3) := by decide +kernel
theorem dX4_init_149 : decode cX4_init 149 = .ok (.aload_n 0, 1) := by decide +kernel
theorem dX4_init_150 : decode cX4_init 150 = .ok (.bipush 40, 2) := by decide +kernel
theorem dX4_init_152 : decode cX4_init 152 = .ok (.newarray .int, 2) := by decide +kernel
theorem dX4_init_154 : decode cX4_init 154 = .ok (.putfield 68, 3) := by decide +kernel
theorem dX4_init_157 : decode cX4_init 157 = .ok (.aload_n 0, 1) := by decide +kernel
theorem dX4_init_158 : decode cX4_init 158 = .ok (.bipush 40, 2) := by decide +kernel
theorem dX4_init_160 : decode cX4_init 160 = .ok (.newarray .int, 2) := by decide +kernel
theorem dX4_init_162 : decode cX4_init 162 = .ok (.putfield 71, 3) := by decide +kernel
theorem dX4_init_165 : decode cX4_init 165 = .ok (.aload_n 0, 1) := by decide +kernel
theorem dX4_init_166 : decode cX4_init 166 = .ok (.bipush 40, 2) := by decide +kernel
theorem dX4_init_168 : decode cX4_init 168 = .ok (.newarray .int, 2) := by decide +kernel
theorem dX4_init_170 : decode cX4_init 170 = .ok (.putfield 74, 3) := by decide +kernel
theorem dX4_init_173 : decode cX4_init 173 = .ok (.aload_n 0, 1) := by decide +kernel
theorem dX4_init_174 : decode cX4_init 174 = .ok (.bipush 40, 2) := by decide +kernel
theorem dX4_init_176 : decode cX4_init 176 = .ok (.newarray .int, 2) := by decide +kernel
theorem dX4_init_178 : decode cX4_init 178 = .ok (.putfield 77, 3) := by decide +kernel
theorem dX4_init_181 : decode cX4_init 181 = .ok (.aload_n 0, 1) := by decide +kernel
theorem dX4_init_182 : decode cX4_init 182 = .ok (.bipush 40, 2) := by decide +kernel
theorem dX4_init_184 : decode cX4_init 184 = .ok (.newarray .int, 2) := by decide +kernel
theorem dX4_init_186 : decode cX4_init 186 = .ok (.putfield 80, 3) := by decide +kernel
theorem dX4_init_189 : decode cX4_init 189 = .ok (.aload_n 0, 1) := by decide +kernel
theorem dX4_init_190 : decode cX4_init 190 = .ok (.bipush 40, 2) := by decide +kernel
theorem dX4_init_192 : decode cX4_init 192 = .ok (.newarray .boolean, 2) := by decide +kernel
theorem dX4_init_194 : decode cX4_init 194 = .ok (.putfield 83, 3) := by decide +kernel
theorem dX4_init_197 : decode cX4_init 197 = .ok (.aload_n 0, 1) := by decide +kernel
theorem dX4_init_198 : decode cX4_init 198 = .ok (.bipush 48, 2) := by decide +kernel
theorem dX4_init_200 : decode cX4_init 200 = .ok (.newarray .int, 2) := by decide +kernel
theorem dX4_init_202 : decode cX4_init 202 = .ok (.putfield 86, 3) := by decide +kernel
theorem dX4_init_205 : decode cX4_init 205 = .ok (.return_, 1) := by decide +kernel
theorem dX4_thrown_0 : decode cX4_thrown 0 = .ok (.aload_n 0, 1) := by decide +kernel
theorem dX4_thrown_1 : decode cX4_thrown 1 = .ok (.getfield 89, 3) := by decide +kernel
theorem dX4_thrown_4 : decode cX4_thrown 4 = .ok (.ireturn, 1) := by decide +kernel
theorem dX4_in_0 : decode cX4_in 0 = .ok (.iload_n 0, 1) := by decide +kernel
theorem dX4_in_1 : decode cX4_in 1 = .ok (.iload_n 1, 1) := by decide +kernel
theorem dX4_in_2 : decode cX4_in 2 = .ok (.if_icmp .lt 12, 3) := by decide +kernel
theorem dX4_in_5 : decode cX4_in 5 = .ok (.iload_n 0, 1) := by decide +kernel
theorem dX4_in_6 : decode cX4_in 6 = .ok (.iload_n 2, 1) := by decide +kernel
theorem dX4_in_7 : decode cX4_in 7 = .ok (.if_icmp .gt 7, 3) := by decide +kernel
theorem dX4_in_10 : decode cX4_in 10 = .ok (.iconst 1, 1) := by decide +kernel
theorem dX4_in_11 : decode cX4_in 11 = .ok (.goto 4, 3) := by decide +kernel
theorem dX4_in_14 : decode cX4_in 14 = .ok (.iconst 0, 1) := by decide +kernel
theorem dX4_in_15 : decode cX4_in 15 = .ok (.ireturn, 1) := by decide +kernel
theorem dX4_isOne_0 : decode cX4_isOne 0 = .ok (.iload_n 1, 1) := by decide +kernel
theorem dX4_isOne_1 : decode cX4_isOne 1 = .ok (.iconst 0, 1) := by decide +kernel
theorem dX4_isOne_2 : decode cX4_isOne 2 = .ok (.aload_n 0, 1) := by decide +kernel
theorem dX4_isOne_3 : decode cX4_isOne 3 = .ok (.getfield 93, 3) := by decide +kernel
theorem dX4_isOne_6 : decode cX4_isOne 6 = .ok (.iconst 1, 1) := by decide +kernel
theorem dX4_isOne_7 : decode cX4_isOne 7 = .ok (.isub, 1) := by decide +kernel
theorem dX4_isOne_8 : decode cX4_isOne 8 = .ok (.invokestatic 96, 3) := by decide +kernel
theorem dX4_isOne_11 : decode cX4_isOne 11 = .ok (.ireturn, 1) := by decide +kernel
theorem dX4_isCircle_0 : decode cX4_isCircle 0 = .ok (.iload_n 1, 1) := by decide +kernel
theorem dX4_isCircle_1 : decode cX4_isCircle 1 = .ok (.iconst 0, 1) := by decide +kernel
theorem dX4_isCircle_2 : decode cX4_isCircle 2 = .ok (.aload_n 0, 1) := by decide +kernel
theorem dX4_isCircle_3 : decode cX4_isCircle 3 = .ok (.getfield 100, 3) := by decide +kernel
theorem dX4_isCircle_6 : decode cX4_isCircle 6 = .ok (.iconst 1, 1) := by decide +kernel
theorem dX4_isCircle_7 : decode cX4_isCircle 7 = .ok (.isub, 1) := by decide +kernel
theorem dX4_isCircle_8 : decode cX4_isCircle 8 = .ok (.invokestatic 96, 3) := by decide +kernel
theorem dX4_isCircle_11 : decode cX4_isCircle 11 = .ok (.ireturn, 1) := by decide +kernel
theorem dX4_areAlike_0 : decode cX4_areAlike 0 = .ok (.iload_n 0, 1) := by decide +kernel
theorem dX4_areAlike_1 : decode cX4_areAlike 1 = .ok (.istore_n 2, 1) := by decide +kernel
theorem dX4_areAlike_2 : decode cX4_areAlike 2 = .ok (.iload_n 1, 1) := by decide +kernel
theorem dX4_areAlike_3 : decode cX4_areAlike 3 = .ok (.istore_n 3, 1) := by decide +kernel
theorem dX4_areAlike_4 : decode cX4_areAlike 4 = .ok (.iconst 0, 1) := by decide +kernel
theorem dX4_areAlike_5 : decode cX4_areAlike 5 = .ok (.istore 4, 2) := by decide +kernel
theorem dX4_areAlike_7 : decode cX4_areAlike 7 = .ok (.iconst 0, 1) := by decide +kernel
theorem dX4_areAlike_8 : decode cX4_areAlike 8 = .ok (.istore 5, 2) := by decide +kernel
theorem dX4_areAlike_10 : decode cX4_areAlike 10 = .ok (.iload 5, 2) := by decide +kernel
theorem dX4_areAlike_12 : decode cX4_areAlike 12 = .ok (.iconst 5, 1) := by decide +kernel
theorem dX4_areAlike_13 : decode cX4_areAlike 13 = .ok (.if_icmp .ge 40, 3) := by decide +kernel
theorem dX4_areAlike_16 : decode cX4_areAlike 16 = .ok (.iload 4, 2) := by decide +kernel
theorem dX4_areAlike_18 : decode cX4_areAlike 18 = .ok (.iload_n 2, 1) := by decide +kernel
theorem dX4_areAlike_19 : decode cX4_areAlike 19 = .ok (.bipush 10, 2) := by decide +kernel
theorem dX4_areAlike_21 : decode cX4_areAlike 21 = .ok (.irem, 1) := by decide +kernel
theorem dX4_areAlike_22 : decode cX4_areAlike 22 = .ok (.iload_n 3, 1) := by decide +kernel
theorem dX4_areAlike_23 : decode cX4_areAlike 23 = .ok (.bipush 10, 2) := by decide +kernel
theorem dX4_areAlike_25 : decode cX4_areAlike 25 = .ok (.irem, 1) := by decide +kernel
theorem dX4_areAlike_26 : decode cX4_areAlike 26 = .ok (.if_icmp .ne 7, 3) := by decide +kernel
theorem dX4_areAlike_29 : decode cX4_areAlike 29 = .ok (.iconst 0, 1) := by decide +kernel
theorem dX4_areAlike_30 : decode cX4_areAlike 30 = .ok (.goto 4, 3) := by decide +kernel
theorem dX4_areAlike_33 : decode cX4_areAlike 33 = .ok (.iconst 1, 1) := by decide +kernel
theorem dX4_areAlike_34 : decode cX4_areAlike 34 = .ok (.iadd, 1) := by decide +kernel
theorem dX4_areAlike_35 : decode cX4_areAlike 35 = .ok (.istore 4, 2) := by decide +kernel
theorem dX4_areAlike_37 : decode cX4_areAlike 37 = .ok (.iload_n 2, 1) := by decide +kernel
theorem dX4_areAlike_38 : decode cX4_areAlike 38 = .ok (.bipush 10, 2) := by decide +kernel
theorem dX4_areAlike_40 : decode cX4_areAlike 40 = .ok (.idiv, 1) := by decide +kernel
theorem dX4_areAlike_41 : decode cX4_areAlike 41 = .ok (.istore_n 2, 1) := by decide +kernel
theorem dX4_areAlike_42 : decode cX4_areAlike 42 = .ok (.iload_n 3, 1) := by decide +kernel
theorem dX4_areAlike_43 : decode cX4_areAlike 43 = .ok (.bipush 10, 2) := by decide +kernel
theorem dX4_areAlike_45 : decode cX4_areAlike 45 = .ok (.idiv, 1) := by decide +kernel
theorem dX4_areAlike_46 : decode cX4_areAlike 46 = .ok (.istore_n 3, 1) := by decide +kernel
theorem dX4_areAlike_47 : decode cX4_areAlike 47 = .ok (.iinc 5 1, 3) := by decide +kernel
theorem dX4_areAlike_50 : decode cX4_areAlike 50 = .ok (.goto (-40), 3) := by decide +kernel
theorem dX4_areAlike_53 : decode cX4_areAlike 53 = .ok (.iload 4, 2) := by decide +kernel
theorem dX4_areAlike_55 : decode cX4_areAlike 55 = .ok (.iconst 2, 1) := by decide +kernel
theorem dX4_areAlike_56 : decode cX4_areAlike 56 = .ok (.if_icmp .ge 7, 3) := by decide +kernel
theorem dX4_areAlike_59 : decode cX4_areAlike 59 = .ok (.iconst 1, 1) := by decide +kernel
theorem dX4_areAlike_60 : decode cX4_areAlike 60 = .ok (.goto 4, 3) := by decide +kernel
theorem dX4_areAlike_63 : decode cX4_areAlike 63 = .ok (.iconst 0, 1) := by decide +kernel
theorem dX4_areAlike_64 : decode cX4_areAlike 64 = .ok (.ireturn, 1) := by decide +kernel
theorem dX4_placeOf_0 : decode cX4_placeOf 0 = .ok (.iconst (-1), 1) := by decide +kernel
theorem dX4_placeOf_1 : decode cX4_placeOf 1 = .ok (.istore_n 3, 1) := by decide +kernel
theorem dX4_placeOf_2 : decode cX4_placeOf 2 = .ok (.iconst 0, 1) := by decide +kernel
theorem dX4_placeOf_3 : decode cX4_placeOf 3 = .ok (.istore 4, 2) := by decide +kernel
theorem dX4_placeOf_5 : decode cX4_placeOf 5 = .ok (.iload 4, 2) := by decide +kernel
theorem dX4_placeOf_7 : decode cX4_placeOf 7 = .ok (.aload_n 0, 1) := by decide +kernel
theorem dX4_placeOf_8 : decode cX4_placeOf 8 = .ok (.getfield 53, 3) := by decide +kernel
theorem dX4_placeOf_11 : decode cX4_placeOf 11 = .ok (.iload_n 1, 1) := by decide +kernel
theorem dX4_placeOf_12 : decode cX4_placeOf 12 = .ok (.iaload, 1) := by decide +kernel
theorem dX4_placeOf_13 : decode cX4_placeOf 13 = .ok (.if_icmp .ge 32, 3) := by decide +kernel
theorem dX4_placeOf_16 : decode cX4_placeOf 16 = .ok (.aload_n 0, 1) := by decide +kernel
theorem dX4_placeOf_17 : decode cX4_placeOf 17 = .ok (.getfield 65, 3) := by decide +kernel
theorem dX4_placeOf_20 : decode cX4_placeOf 20 = .ok (.bipush 10, 2) := by decide +kernel
theorem dX4_placeOf_22 : decode cX4_placeOf 22 = .ok (.iload_n 1, 1) := by decide +kernel
theorem dX4_placeOf_23 : decode cX4_placeOf 23 = .ok (.imul, 1) := by decide +kernel
theorem dX4_placeOf_24 : decode cX4_placeOf 24 = .ok (.iload 4, 2) := by decide +kernel
theorem dX4_placeOf_26 : decode cX4_placeOf 26 = .ok (.iadd, 1) := by decide +kernel
theorem dX4_placeOf_27 : decode cX4_placeOf 27 = .ok (.iaload, 1) := by decide +kernel
theorem dX4_placeOf_28 : decode cX4_placeOf 28 = .ok (.iload_n 2, 1) := by decide +kernel
theorem dX4_placeOf_29 : decode cX4_placeOf 29 = .ok (.if_icmp .ne 8, 3) := by decide +kernel
theorem dX4_placeOf_32 : decode cX4_placeOf 32 = .ok (.iload 4, 2) := by decide +kernel
theorem dX4_placeOf_34 : decode cX4_placeOf 34 = .ok (.goto 4, 3) := by decide +kernel
theorem dX4_placeOf_37 : decode cX4_placeOf 37 = .ok (.iload_n 3, 1) := by decide +kernel
theorem dX4_placeOf_38 : decode cX4_placeOf 38 = .ok (.istore_n 3, 1) := by decide +kernel
theorem dX4_placeOf_39 : decode cX4_placeOf 39 = .ok (.iinc 4 1, 3) := by decide +kernel
theorem dX4_placeOf_42 : decode cX4_placeOf 42 = .ok (.goto (-37), 3) := by decide +kernel
theorem dX4_placeOf_45 : decode cX4_placeOf 45 = .ok (.iload_n 3, 1) := by decide +kernel
theorem dX4_placeOf_46 : decode cX4_placeOf 46 = .ok (.ireturn, 1) := by decide +kernel
theorem dX4_pays_0 : decode cX4_pays 0 = .ok (.aload_n 0, 1) := by decide +kernel
theorem dX4_pays_1 : decode cX4_pays 1 = .ok (.getfield 16, 3) := by decide +kernel
theorem dX4_pays_4 : decode cX4_pays 4 = .ok (.iload_n 1, 1) := by decide +kernel
theorem dX4_pays_5 : decode cX4_pays 5 = .ok (.dup2, 1) := by decide +kernel
theorem dX4_pays_6 : decode cX4_pays 6 = .ok (.iaload, 1) := by decide +kernel
theorem dX4_pays_7 : decode cX4_pays 7 = .ok (.iload_n 2, 1) := by decide +kernel
theorem dX4_pays_8 : decode cX4_pays 8 = .ok (.isub, 1) := by decide +kernel
theorem dX4_pays_9 : decode cX4_pays 9 = .ok (.iastore, 1) := by decide +kernel
theorem dX4_pays_10 : decode cX4_pays 10 = .ok (.aload_n 0, 1) := by decide +kernel
theorem dX4_pays_11 : decode cX4_pays 11 = .ok (.getfield 37, 3) := by decide +kernel
theorem dX4_pays_14 : decode cX4_pays 14 = .ok (.iload_n 1, 1) := by decide +kernel
theorem dX4_pays_15 : decode cX4_pays 15 = .ok (.dup2, 1) := by decide +kernel
theorem dX4_pays_16 : decode cX4_pays 16 = .ok (.iaload, 1) := by decide +kernel
theorem dX4_pays_17 : decode cX4_pays 17 = .ok (.iload_n 2, 1) := by decide +kernel
theorem dX4_pays_18 : decode cX4_pays 18 = .ok (.iadd, 1) := by decide +kernel
theorem dX4_pays_19 : decode cX4_pays 19 = .ok (.iastore, 1) := by decide +kernel
theorem dX4_pays_20 : decode cX4_pays 20 = .ok (.return_, 1) := by decide +kernel
theorem dX4_person_0 : decode cX4_person 0 = .ok (.aload_n 0, 1) := by decide +kernel
theorem dX4_person_1 : decode cX4_person 1 = .ok (.iload_n 1, 1) := by decide +kernel
theorem dX4_person_2 : decode cX4_person 2 = .ok (.iconst 1, 1) := by decide +kernel
theorem dX4_person_3 : decode cX4_person 3 = .ok (.bipush 120, 2) := by decide +kernel
theorem dX4_person_5 : decode cX4_person 5 = .ok (.invokestatic 96, 3) := by decide +kernel
theorem dX4_person_8 : decode cX4_person 8 = .ok (.ifCond .eq 13, 3) := by decide +kernel
theorem dX4_person_11 : decode cX4_person 11 = .ok (.iload_n 2, 1) := by decide +kernel
theorem dX4_person_12 : decode cX4_person 12 = .ok (.iconst 0, 1) := by decide +kernel
theorem dX4_person_13 : decode cX4_person 13 = .ok (.ldc 103, 2) := by decide +kernel
theorem dX4_person_15 : decode cX4_person 15 = .ok (.invokestatic 96, 3) := by decide +kernel
theorem dX4_person_18 : decode cX4_person 18 = .ok (.ifCond .ne 7, 3) := by decide +kernel
theorem dX4_person_21 : decode cX4_person 21 = .ok (.iconst 1, 1) := by decide +kernel
theorem dX4_person_22 : decode cX4_person 22 = .ok (.goto 17, 3) := by decide +kernel
theorem dX4_person_25 : decode cX4_person 25 = .ok (.aload_n 0, 1) := by decide +kernel
theorem dX4_person_26 : decode cX4_person 26 = .ok (.getfield 93, 3) := by decide +kernel
theorem dX4_person_29 : decode cX4_person 29 = .ok (.bipush 16, 2) := by decide +kernel
theorem dX4_person_31 : decode cX4_person 31 = .ok (.if_icmp .ne 7, 3) := by decide +kernel
theorem dX4_person_34 : decode cX4_person 34 = .ok (.iconst 2, 1) := by decide +kernel
theorem dX4_person_35 : decode cX4_person 35 = .ok (.goto 4, 3) := by decide +kernel
theorem dX4_person_38 : decode cX4_person 38 = .ok (.iconst 0, 1) := by decide +kernel
theorem dX4_person_39 : decode cX4_person 39 = .ok (.putfield 89, 3) := by decide +kernel
theorem dX4_person_42 : decode cX4_person 42 = .ok (.aload_n 0, 1) := by decide +kernel
theorem dX4_person_43 : decode cX4_person 43 = .ok (.getfield 89, 3) := by decide +kernel
theorem dX4_person_46 : decode cX4_person 46 = .ok (.ifCond .eq 5, 3) := by decide +kernel
theorem dX4_person_49 : decode cX4_person 49 = .ok (.iconst 0, 1) := by decide +kernel
theorem dX4_person_50 : decode cX4_person 50 = .ok (.ireturn, 1) := by decide +kernel
theorem dX4_person_51 : decode cX4_person 51 = .ok (.aload_n 0, 1) := by decide +kernel
theorem dX4_person_52 : decode cX4_person 52 = .ok (.getfield 7, 3) := by decide +kernel
theorem dX4_person_55 : decode cX4_person 55 = .ok (.aload_n 0, 1) := by decide +kernel
theorem dX4_person_56 : decode cX4_person 56 = .ok (.getfield 93, 3) := by decide +kernel
theorem dX4_person_59 : decode cX4_person 59 = .ok (.iload_n 1, 1) := by decide +kernel
theorem dX4_person_60 : decode cX4_person 60 = .ok (.iastore, 1) := by decide +kernel
theorem dX4_person_61 : decode cX4_person 61 = .ok (.aload_n 0, 1) := by decide +kernel
theorem dX4_person_62 : decode cX4_person 62 = .ok (.getfield 13, 3) := by decide +kernel
theorem dX4_person_65 : decode cX4_person 65 = .ok (.aload_n 0, 1) := by decide +kernel
theorem dX4_person_66 : decode cX4_person 66 = .ok (.getfield 93, 3) := by decide +kernel
theorem dX4_person_69 : decode cX4_person 69 = .ok (.iload_n 2, 1) := by decide +kernel
theorem dX4_person_70 : decode cX4_person 70 = .ok (.iastore, 1) := by decide +kernel
theorem dX4_person_71 : decode cX4_person 71 = .ok (.aload_n 0, 1) := by decide +kernel
theorem dX4_person_72 : decode cX4_person 72 = .ok (.dup, 1) := by decide +kernel
theorem dX4_person_73 : decode cX4_person 73 = .ok (.getfield 93, 3) := by decide +kernel
theorem dX4_person_76 : decode cX4_person 76 = .ok (.iconst 1, 1) := by decide +kernel
theorem dX4_person_77 : decode cX4_person 77 = .ok (.iadd, 1) := by decide +kernel
theorem dX4_person_78 : decode cX4_person 78 = .ok (.putfield 93, 3) := by decide +kernel
theorem dX4_person_81 : decode cX4_person 81 = .ok (.aload_n 0, 1) := by decide +kernel
theorem dX4_person_82 : decode cX4_person 82 = .ok (.getfield 93, 3) := by decide +kernel
theorem dX4_person_85 : decode cX4_person 85 = .ok (.iconst 1, 1) := by decide +kernel
theorem dX4_person_86 : decode cX4_person 86 = .ok (.isub, 1) := by decide +kernel
theorem dX4_person_87 : decode cX4_person 87 = .ok (.ireturn, 1) := by decide +kernel
theorem dX4_earn_0 : decode cX4_earn 0 = .ok (.aload_n 0, 1) := by decide +kernel
theorem dX4_earn_1 : decode cX4_earn 1 = .ok (.iload_n 1, 1) := by decide +kernel
theorem dX4_earn_2 : decode cX4_earn 2 = .ok (.invokevirtual 104, 3) := by decide +kernel
theorem dX4_earn_5 : decode cX4_earn 5 = .ok (.ifCond .ne 10, 3) := by decide +kernel
theorem dX4_earn_8 : decode cX4_earn 8 = .ok (.aload_n 0, 1) := by decide +kernel
theorem dX4_earn_9 : decode cX4_earn 9 = .ok (.iconst 1, 1) := by decide +kernel
theorem dX4_earn_10 : decode cX4_earn 10 = .ok (.putfield 89, 3) := by decide +kernel
theorem dX4_earn_13 : decode cX4_earn 13 = .ok (.iconst 0, 1) := by decide +kernel
theorem dX4_earn_14 : decode cX4_earn 14 = .ok (.ireturn, 1) := by decide +kernel
theorem dX4_earn_15 : decode cX4_earn 15 = .ok (.aload_n 0, 1) := by decide +kernel
theorem dX4_earn_16 : decode cX4_earn 16 = .ok (.getfield 40, 3) := by decide +kernel
theorem dX4_earn_19 : decode cX4_earn 19 = .ok (.iload_n 1, 1) := by decide +kernel
theorem dX4_earn_20 : decode cX4_earn 20 = .ok (.baload, 1) := by decide +kernel
theorem dX4_earn_21 : decode cX4_earn 21 = .ok (.ifCond .ne 31, 3) := by decide +kernel
theorem dX4_earn_24 : decode cX4_earn 24 = .ok (.aload_n 0, 1) := by decide +kernel
theorem dX4_earn_25 : decode cX4_earn 25 = .ok (.getfield 16, 3) := by decide +kernel
theorem dX4_earn_28 : decode cX4_earn 28 = .ok (.iload_n 1, 1) := by decide +kernel
theorem dX4_earn_29 : decode cX4_earn 29 = .ok (.iaload, 1) := by decide +kernel
theorem dX4_earn_30 : decode cX4_earn 30 = .ok (.iload_n 2, 1) := by decide +kernel
theorem dX4_earn_31 : decode cX4_earn 31 = .ok (.iadd, 1) := by decide +kernel
theorem dX4_earn_32 : decode cX4_earn 32 = .ok (.ifCond .lt 20, 3) := by decide +kernel
theorem dX4_earn_35 : decode cX4_earn 35 = .ok (.aload_n 0, 1) := by decide +kernel
theorem dX4_earn_36 : decode cX4_earn 36 = .ok (.getfield 16, 3) := by decide +kernel
theorem dX4_earn_39 : decode cX4_earn 39 = .ok (.iload_n 1, 1) := by decide +kernel
theorem dX4_earn_40 : decode cX4_earn 40 = .ok (.iaload, 1) := by decide +kernel
theorem dX4_earn_41 : decode cX4_earn 41 = .ok (.iload_n 2, 1) := by decide +kernel
theorem dX4_earn_42 : decode cX4_earn 42 = .ok (.iadd, 1) := by decide +kernel
theorem dX4_earn_43 : decode cX4_earn 43 = .ok (.ldc 108, 2) := by decide +kernel
theorem dX4_earn_45 : decode cX4_earn 45 = .ok (.if_icmp .gt 7, 3) := by decide +kernel
theorem dX4_earn_48 : decode cX4_earn 48 = .ok (.iconst 1, 1) := by decide +kernel
theorem dX4_earn_49 : decode cX4_earn 49 = .ok (.goto 4, 3) := by decide +kernel
theorem dX4_earn_52 : decode cX4_earn 52 = .ok (.iconst 0, 1) := by decide +kernel
theorem dX4_earn_53 : decode cX4_earn 53 = .ok (.istore_n 3, 1) := by decide +kernel
theorem dX4_earn_54 : decode cX4_earn 54 = .ok (.aload_n 0, 1) := by decide +kernel
theorem dX4_earn_55 : decode cX4_earn 55 = .ok (.iload_n 2, 1) := by decide +kernel
theorem dX4_earn_56 : decode cX4_earn 56 = .ok (.sipush (-10000), 3) := by decide +kernel
theorem dX4_earn_59 : decode cX4_earn 59 = .ok (.sipush 10000, 3) := by decide +kernel
theorem dX4_earn_62 : decode cX4_earn 62 = .ok (.invokestatic 96, 3) := by decide +kernel
theorem dX4_earn_65 : decode cX4_earn 65 = .ok (.ifCond .ne 7, 3) := by decide +kernel
theorem dX4_earn_68 : decode cX4_earn 68 = .ok (.iconst 2, 1) := by decide +kernel
theorem dX4_earn_69 : decode cX4_earn 69 = .ok (.goto 12, 3) := by decide +kernel
theorem dX4_earn_72 : decode cX4_earn 72 = .ok (.iload_n 3, 1) := by decide +kernel
theorem dX4_earn_73 : decode cX4_earn 73 = .ok (.ifCond .ne 7, 3) := by decide +kernel
theorem dX4_earn_76 : decode cX4_earn 76 = .ok (.iconst 3, 1) := by decide +kernel
theorem dX4_earn_77 : decode cX4_earn 77 = .ok (.goto 4, 3) := by decide +kernel
theorem dX4_earn_80 : decode cX4_earn 80 = .ok (.iconst 0, 1) := by decide +kernel
theorem dX4_earn_81 : decode cX4_earn 81 = .ok (.putfield 89, 3) := by decide +kernel
theorem dX4_earn_84 : decode cX4_earn 84 = .ok (.aload_n 0, 1) := by decide +kernel
theorem dX4_earn_85 : decode cX4_earn 85 = .ok (.getfield 89, 3) := by decide +kernel
theorem dX4_earn_88 : decode cX4_earn 88 = .ok (.ifCond .eq 5, 3) := by decide +kernel
theorem dX4_earn_91 : decode cX4_earn 91 = .ok (.iconst 0, 1) := by decide +kernel
theorem dX4_earn_92 : decode cX4_earn 92 = .ok (.ireturn, 1) := by decide +kernel
theorem dX4_earn_93 : decode cX4_earn 93 = .ok (.aload_n 0, 1) := by decide +kernel
theorem dX4_earn_94 : decode cX4_earn 94 = .ok (.getfield 16, 3) := by decide +kernel
theorem dX4_earn_97 : decode cX4_earn 97 = .ok (.iload_n 1, 1) := by decide +kernel
theorem dX4_earn_98 : decode cX4_earn 98 = .ok (.dup2, 1) := by decide +kernel
theorem dX4_earn_99 : decode cX4_earn 99 = .ok (.iaload, 1) := by decide +kernel
theorem dX4_earn_100 : decode cX4_earn 100 = .ok (.iload_n 2, 1) := by decide +kernel
theorem dX4_earn_101 : decode cX4_earn 101 = .ok (.iadd, 1) := by decide +kernel
theorem dX4_earn_102 : decode cX4_earn 102 = .ok (.iastore, 1) := by decide +kernel
theorem dX4_earn_103 : decode cX4_earn 103 = .ok (.aload_n 0, 1) := by decide +kernel
theorem dX4_earn_104 : decode cX4_earn 104 = .ok (.dup, 1) := by decide +kernel
theorem dX4_earn_105 : decode cX4_earn 105 = .ok (.getfield 109, 3) := by decide +kernel
theorem dX4_earn_108 : decode cX4_earn 108 = .ok (.iload_n 2, 1) := by decide +kernel
theorem dX4_earn_109 : decode cX4_earn 109 = .ok (.iadd, 1) := by decide +kernel
theorem dX4_earn_110 : decode cX4_earn 110 = .ok (.putfield 109, 3) := by decide +kernel
theorem dX4_earn_113 : decode cX4_earn 113 = .ok (.aload_n 0, 1) := by decide +kernel
theorem dX4_earn_114 : decode cX4_earn 114 = .ok (.getfield 16, 3) := by decide +kernel
theorem dX4_earn_117 : decode cX4_earn 117 = .ok (.iload_n 1, 1) := by decide +kernel
theorem dX4_earn_118 : decode cX4_earn 118 = .ok (.iaload, 1) := by decide +kernel
theorem dX4_earn_119 : decode cX4_earn 119 = .ok (.ireturn, 1) := by decide +kernel
theorem dX4_copies_0 : decode cX4_copies 0 = .ok (.aload_n 0, 1) := by decide +kernel
theorem dX4_copies_1 : decode cX4_copies 1 = .ok (.getfield 65, 3) := by decide +kernel
theorem dX4_copies_4 : decode cX4_copies 4 = .ok (.iload_n 1, 1) := by decide +kernel
theorem dX4_copies_5 : decode cX4_copies 5 = .ok (.aload_n 0, 1) := by decide +kernel
theorem dX4_copies_6 : decode cX4_copies 6 = .ok (.getfield 65, 3) := by decide +kernel
theorem dX4_copies_9 : decode cX4_copies 9 = .ok (.iload_n 2, 1) := by decide +kernel
theorem dX4_copies_10 : decode cX4_copies 10 = .ok (.iaload, 1) := by decide +kernel
theorem dX4_copies_11 : decode cX4_copies 11 = .ok (.iastore, 1) := by decide +kernel
theorem dX4_copies_12 : decode cX4_copies 12 = .ok (.aload_n 0, 1) := by decide +kernel
theorem dX4_copies_13 : decode cX4_copies 13 = .ok (.getfield 68, 3) := by decide +kernel
theorem dX4_copies_16 : decode cX4_copies 16 = .ok (.iload_n 1, 1) := by decide +kernel
theorem dX4_copies_17 : decode cX4_copies 17 = .ok (.aload_n 0, 1) := by decide +kernel
theorem dX4_copies_18 : decode cX4_copies 18 = .ok (.getfield 68, 3) := by decide +kernel
theorem dX4_copies_21 : decode cX4_copies 21 = .ok (.iload_n 2, 1) := by decide +kernel
theorem dX4_copies_22 : decode cX4_copies 22 = .ok (.iaload, 1) := by decide +kernel
theorem dX4_copies_23 : decode cX4_copies 23 = .ok (.iastore, 1) := by decide +kernel
theorem dX4_copies_24 : decode cX4_copies 24 = .ok (.aload_n 0, 1) := by decide +kernel
theorem dX4_copies_25 : decode cX4_copies 25 = .ok (.getfield 71, 3) := by decide +kernel
theorem dX4_copies_28 : decode cX4_copies 28 = .ok (.iload_n 1, 1) := by decide +kernel
theorem dX4_copies_29 : decode cX4_copies 29 = .ok (.aload_n 0, 1) := by decide +kernel
theorem dX4_copies_30 : decode cX4_copies 30 = .ok (.getfield 71, 3) := by decide +kernel
theorem dX4_copies_33 : decode cX4_copies 33 = .ok (.iload_n 2, 1) := by decide +kernel
theorem dX4_copies_34 : decode cX4_copies 34 = .ok (.iaload, 1) := by decide +kernel
theorem dX4_copies_35 : decode cX4_copies 35 = .ok (.iastore, 1) := by decide +kernel
theorem dX4_copies_36 : decode cX4_copies 36 = .ok (.aload_n 0, 1) := by decide +kernel
theorem dX4_copies_37 : decode cX4_copies 37 = .ok (.getfield 74, 3) := by decide +kernel
theorem dX4_copies_40 : decode cX4_copies 40 = .ok (.iload_n 1, 1) := by decide +kernel
theorem dX4_copies_41 : decode cX4_copies 41 = .ok (.aload_n 0, 1) := by decide +kernel
theorem dX4_copies_42 : decode cX4_copies 42 = .ok (.getfield 74, 3) := by decide +kernel
theorem dX4_copies_45 : decode cX4_copies 45 = .ok (.iload_n 2, 1) := by decide +kernel
theorem dX4_copies_46 : decode cX4_copies 46 = .ok (.iaload, 1) := by decide +kernel
theorem dX4_copies_47 : decode cX4_copies 47 = .ok (.iastore, 1) := by decide +kernel
theorem dX4_copies_48 : decode cX4_copies 48 = .ok (.aload_n 0, 1) := by decide +kernel
theorem dX4_copies_49 : decode cX4_copies 49 = .ok (.getfield 77, 3) := by decide +kernel
theorem dX4_copies_52 : decode cX4_copies 52 = .ok (.iload_n 1, 1) := by decide +kernel
theorem dX4_copies_53 : decode cX4_copies 53 = .ok (.aload_n 0, 1) := by decide +kernel
theorem dX4_copies_54 : decode cX4_copies 54 = .ok (.getfield 77, 3) := by decide +kernel
theorem dX4_copies_57 : decode cX4_copies 57 = .ok (.iload_n 2, 1) := by decide +kernel
theorem dX4_copies_58 : decode cX4_copies 58 = .ok (.iaload, 1) := by decide +kernel
theorem dX4_copies_59 : decode cX4_copies 59 = .ok (.iastore, 1) := by decide +kernel
theorem dX4_copies_60 : decode cX4_copies 60 = .ok (.aload_n 0, 1) := by decide +kernel
theorem dX4_copies_61 : decode cX4_copies 61 = .ok (.getfield 80, 3) := by decide +kernel
theorem dX4_copies_64 : decode cX4_copies 64 = .ok (.iload_n 1, 1) := by decide +kernel
theorem dX4_copies_65 : decode cX4_copies 65 = .ok (.aload_n 0, 1) := by decide +kernel
theorem dX4_copies_66 : decode cX4_copies 66 = .ok (.getfield 80, 3) := by decide +kernel
theorem dX4_copies_69 : decode cX4_copies 69 = .ok (.iload_n 2, 1) := by decide +kernel
theorem dX4_copies_70 : decode cX4_copies 70 = .ok (.iaload, 1) := by decide +kernel
theorem dX4_copies_71 : decode cX4_copies 71 = .ok (.iastore, 1) := by decide +kernel
theorem dX4_copies_72 : decode cX4_copies 72 = .ok (.aload_n 0, 1) := by decide +kernel
theorem dX4_copies_73 : decode cX4_copies 73 = .ok (.getfield 83, 3) := by decide +kernel
theorem dX4_copies_76 : decode cX4_copies 76 = .ok (.iload_n 1, 1) := by decide +kernel
theorem dX4_copies_77 : decode cX4_copies 77 = .ok (.aload_n 0, 1) := by decide +kernel
theorem dX4_copies_78 : decode cX4_copies 78 = .ok (.getfield 83, 3) := by decide +kernel
theorem dX4_copies_81 : decode cX4_copies 81 = .ok (.iload_n 2, 1) := by decide +kernel
theorem dX4_copies_82 : decode cX4_copies 82 = .ok (.baload, 1) := by decide +kernel
theorem dX4_copies_83 : decode cX4_copies 83 = .ok (.bastore, 1) := by decide +kernel
theorem dX4_copies_84 : decode cX4_copies 84 = .ok (.return_, 1) := by decide +kernel
theorem dX4_goes_0 : decode cX4_goes 0 = .ok (.aload_n 0, 1) := by decide +kernel
theorem dX4_goes_1 : decode cX4_goes 1 = .ok (.getfield 53, 3) := by decide +kernel
theorem dX4_goes_4 : decode cX4_goes 4 = .ok (.iload_n 1, 1) := by decide +kernel
theorem dX4_goes_5 : decode cX4_goes 5 = .ok (.dup2, 1) := by decide +kernel
theorem dX4_goes_6 : decode cX4_goes 6 = .ok (.iaload, 1) := by decide +kernel
theorem dX4_goes_7 : decode cX4_goes 7 = .ok (.iconst 1, 1) := by decide +kernel
theorem dX4_goes_8 : decode cX4_goes 8 = .ok (.isub, 1) := by decide +kernel
theorem dX4_goes_9 : decode cX4_goes 9 = .ok (.iastore, 1) := by decide +kernel
theorem dX4_goes_10 : decode cX4_goes 10 = .ok (.iload_n 2, 1) := by decide +kernel
theorem dX4_goes_11 : decode cX4_goes 11 = .ok (.istore_n 3, 1) := by decide +kernel
theorem dX4_goes_12 : decode cX4_goes 12 = .ok (.iload_n 3, 1) := by decide +kernel
theorem dX4_goes_13 : decode cX4_goes 13 = .ok (.aload_n 0, 1) := by decide +kernel
theorem dX4_goes_14 : decode cX4_goes 14 = .ok (.getfield 53, 3) := by decide +kernel
theorem dX4_goes_17 : decode cX4_goes 17 = .ok (.iload_n 1, 1) := by decide +kernel
theorem dX4_goes_18 : decode cX4_goes 18 = .ok (.iaload, 1) := by decide +kernel
theorem dX4_goes_19 : decode cX4_goes 19 = .ok (.if_icmp .ge 27, 3) := by decide +kernel
theorem dX4_goes_22 : decode cX4_goes 22 = .ok (.aload_n 0, 1) := by decide +kernel
theorem dX4_goes_23 : decode cX4_goes 23 = .ok (.bipush 10, 2) := by decide +kernel
theorem dX4_goes_25 : decode cX4_goes 25 = .ok (.iload_n 1, 1) := by decide +kernel
theorem dX4_goes_26 : decode cX4_goes 26 = .ok (.imul, 1) := by decide +kernel
theorem dX4_goes_27 : decode cX4_goes 27 = .ok (.iload_n 3, 1) := by decide +kernel
theorem dX4_goes_28 : decode cX4_goes 28 = .ok (.iadd, 1) := by decide +kernel
theorem dX4_goes_29 : decode cX4_goes 29 = .ok (.bipush 10, 2) := by decide +kernel
theorem dX4_goes_31 : decode cX4_goes 31 = .ok (.iload_n 1, 1) := by decide +kernel
theorem dX4_goes_32 : decode cX4_goes 32 = .ok (.imul, 1) := by decide +kernel
theorem dX4_goes_33 : decode cX4_goes 33 = .ok (.iload_n 3, 1) := by decide +kernel
theorem dX4_goes_34 : decode cX4_goes 34 = .ok (.iadd, 1) := by decide +kernel
theorem dX4_goes_35 : decode cX4_goes 35 = .ok (.iconst 1, 1) := by decide +kernel
theorem dX4_goes_36 : decode cX4_goes 36 = .ok (.iadd, 1) := by decide +kernel
theorem dX4_goes_37 : decode cX4_goes 37 = .ok (.invokevirtual 112, 3) := by decide +kernel
theorem dX4_goes_40 : decode cX4_goes 40 = .ok (.iinc 3 1, 3) := by decide +kernel
theorem dX4_goes_43 : decode cX4_goes 43 = .ok (.goto (-31), 3) := by decide +kernel
theorem dX4_goes_46 : decode cX4_goes 46 = .ok (.aload_n 0, 1) := by decide +kernel
theorem dX4_goes_47 : decode cX4_goes 47 = .ok (.iload_n 1, 1) := by decide +kernel
theorem dX4_goes_48 : decode cX4_goes 48 = .ok (.invokevirtual 116, 3) := by decide +kernel
theorem dX4_goes_51 : decode cX4_goes 51 = .ok (.return_, 1) := by decide +kernel
theorem dX4_rounds_0 : decode cX4_rounds 0 = .ok (.aload_n 0, 1) := by decide +kernel
theorem dX4_rounds_1 : decode cX4_rounds 1 = .ok (.getfield 53, 3) := by decide +kernel
theorem dX4_rounds_4 : decode cX4_rounds 4 = .ok (.iload_n 1, 1) := by decide +kernel
theorem dX4_rounds_5 : decode cX4_rounds 5 = .ok (.iaload, 1) := by decide +kernel
theorem dX4_rounds_6 : decode cX4_rounds 6 = .ok (.ifCond .le 7, 3) := by decide +kernel
theorem dX4_rounds_9 : decode cX4_rounds 9 = .ok (.iconst 1, 1) := by decide +kernel
theorem dX4_rounds_10 : decode cX4_rounds 10 = .ok (.goto 4, 3) := by decide +kernel
theorem dX4_rounds_13 : decode cX4_rounds 13 = .ok (.iconst 0, 1) := by decide +kernel
theorem dX4_rounds_14 : decode cX4_rounds 14 = .ok (.istore_n 2, 1) := by decide +kernel
theorem dX4_rounds_15 : decode cX4_rounds 15 = .ok (.iconst 0, 1) := by decide +kernel
theorem dX4_rounds_16 : decode cX4_rounds 16 = .ok (.istore_n 3, 1) := by decide +kernel
theorem dX4_rounds_17 : decode cX4_rounds 17 = .ok (.iload_n 3, 1) := by decide +kernel
theorem dX4_rounds_18 : decode cX4_rounds 18 = .ok (.aload_n 0, 1) := by decide +kernel
theorem dX4_rounds_19 : decode cX4_rounds 19 = .ok (.getfield 53, 3) := by decide +kernel
theorem dX4_rounds_22 : decode cX4_rounds 22 = .ok (.iload_n 1, 1) := by decide +kernel
theorem dX4_rounds_23 : decode cX4_rounds 23 = .ok (.iaload, 1) := by decide +kernel
theorem dX4_rounds_24 : decode cX4_rounds 24 = .ok (.if_icmp .ge 33, 3) := by decide +kernel
theorem dX4_rounds_27 : decode cX4_rounds 27 = .ok (.iload_n 2, 1) := by decide +kernel
theorem dX4_rounds_28 : decode cX4_rounds 28 = .ok (.ifCond .eq 21, 3) := by decide +kernel
theorem dX4_rounds_31 : decode cX4_rounds 31 = .ok (.aload_n 0, 1) := by decide +kernel
theorem dX4_rounds_32 : decode cX4_rounds 32 = .ok (.getfield 83, 3) := by decide +kernel
theorem dX4_rounds_35 : decode cX4_rounds 35 = .ok (.bipush 10, 2) := by decide +kernel
theorem dX4_rounds_37 : decode cX4_rounds 37 = .ok (.iload_n 1, 1) := by decide +kernel
theorem dX4_rounds_38 : decode cX4_rounds 38 = .ok (.imul, 1) := by decide +kernel
theorem dX4_rounds_39 : decode cX4_rounds 39 = .ok (.iload_n 3, 1) := by decide +kernel
theorem dX4_rounds_40 : decode cX4_rounds 40 = .ok (.iadd, 1) := by decide +kernel
theorem dX4_rounds_41 : decode cX4_rounds 41 = .ok (.baload, 1) := by decide +kernel
theorem dX4_rounds_42 : decode cX4_rounds 42 = .ok (.ifCond .eq 7, 3) := by decide +kernel
theorem dX4_rounds_45 : decode cX4_rounds 45 = .ok (.iconst 1, 1) := by decide +kernel
theorem dX4_rounds_46 : decode cX4_rounds 46 = .ok (.goto 4, 3) := by decide +kernel
theorem dX4_rounds_49 : decode cX4_rounds 49 = .ok (.iconst 0, 1) := by decide +kernel
theorem dX4_rounds_50 : decode cX4_rounds 50 = .ok (.istore_n 2, 1) := by decide +kernel
theorem dX4_rounds_51 : decode cX4_rounds 51 = .ok (.iinc 3 1, 3) := by decide +kernel
theorem dX4_rounds_54 : decode cX4_rounds 54 = .ok (.goto (-37), 3) := by decide +kernel
theorem dX4_rounds_57 : decode cX4_rounds 57 = .ok (.aload_n 0, 1) := by decide +kernel
theorem dX4_rounds_58 : decode cX4_rounds 58 = .ok (.getfield 59, 3) := by decide +kernel
theorem dX4_rounds_61 : decode cX4_rounds 61 = .ok (.iload_n 1, 1) := by decide +kernel
theorem dX4_rounds_62 : decode cX4_rounds 62 = .ok (.dup2, 1) := by decide +kernel
theorem dX4_rounds_63 : decode cX4_rounds 63 = .ok (.iaload, 1) := by decide +kernel
theorem dX4_rounds_64 : decode cX4_rounds 64 = .ok (.iload_n 2, 1) := by decide +kernel
theorem dX4_rounds_65 : decode cX4_rounds 65 = .ok (.ifCond .eq 7, 3) := by decide +kernel
theorem dX4_rounds_68 : decode cX4_rounds 68 = .ok (.iconst 1, 1) := by decide +kernel
theorem dX4_rounds_69 : decode cX4_rounds 69 = .ok (.goto 4, 3) := by decide +kernel
theorem dX4_rounds_72 : decode cX4_rounds 72 = .ok (.iconst 0, 1) := by decide +kernel
theorem dX4_rounds_73 : decode cX4_rounds 73 = .ok (.iadd, 1) := by decide +kernel
theorem dX4_rounds_74 : decode cX4_rounds 74 = .ok (.iastore, 1) := by decide +kernel
theorem dX4_rounds_75 : decode cX4_rounds 75 = .ok (.iconst 0, 1) := by decide +kernel
theorem dX4_rounds_76 : decode cX4_rounds 76 = .ok (.istore_n 3, 1) := by decide +kernel
theorem dX4_rounds_77 : decode cX4_rounds 77 = .ok (.iload_n 3, 1) := by decide +kernel
theorem dX4_rounds_78 : decode cX4_rounds 78 = .ok (.aload_n 0, 1) := by decide +kernel
theorem dX4_rounds_79 : decode cX4_rounds 79 = .ok (.getfield 53, 3) := by decide +kernel
theorem dX4_rounds_82 : decode cX4_rounds 82 = .ok (.iload_n 1, 1) := by decide +kernel
theorem dX4_rounds_83 : decode cX4_rounds 83 = .ok (.iaload, 1) := by decide +kernel
theorem dX4_rounds_84 : decode cX4_rounds 84 = .ok (.if_icmp .ge 37, 3) := by decide +kernel
theorem dX4_rounds_87 : decode cX4_rounds 87 = .ok (.iload_n 2, 1) := by decide +kernel
theorem dX4_rounds_88 : decode cX4_rounds 88 = .ok (.ifCond .eq 33, 3) := by decide +kernel
theorem dX4_rounds_91 : decode cX4_rounds 91 = .ok (.aload_n 0, 1) := by decide +kernel
theorem dX4_rounds_92 : decode cX4_rounds 92 = .ok (.getfield 83, 3) := by decide +kernel
theorem dX4_rounds_95 : decode cX4_rounds 95 = .ok (.bipush 10, 2) := by decide +kernel
theorem dX4_rounds_97 : decode cX4_rounds 97 = .ok (.iload_n 1, 1) := by decide +kernel
theorem dX4_rounds_98 : decode cX4_rounds 98 = .ok (.imul, 1) := by decide +kernel
theorem dX4_rounds_99 : decode cX4_rounds 99 = .ok (.iload_n 3, 1) := by decide +kernel
theorem dX4_rounds_100 : decode cX4_rounds 100 = .ok (.iadd, 1) := by decide +kernel
theorem dX4_rounds_101 : decode cX4_rounds 101 = .ok (.iconst 0, 1) := by decide +kernel
theorem dX4_rounds_102 : decode cX4_rounds 102 = .ok (.bastore, 1) := by decide +kernel
theorem dX4_rounds_103 : decode cX4_rounds 103 = .ok (.aload_n 0, 1) := by decide +kernel
theorem dX4_rounds_104 : decode cX4_rounds 104 = .ok (.getfield 77, 3) := by decide +kernel
theorem dX4_rounds_107 : decode cX4_rounds 107 = .ok (.bipush 10, 2) := by decide +kernel
theorem dX4_rounds_109 : decode cX4_rounds 109 = .ok (.iload_n 1, 1) := by decide +kernel
theorem dX4_rounds_110 : decode cX4_rounds 110 = .ok (.imul, 1) := by decide +kernel
theorem dX4_rounds_111 : decode cX4_rounds 111 = .ok (.iload_n 3, 1) := by decide +kernel
theorem dX4_rounds_112 : decode cX4_rounds 112 = .ok (.iadd, 1) := by decide +kernel
theorem dX4_rounds_113 : decode cX4_rounds 113 = .ok (.iconst 0, 1) := by decide +kernel
theorem dX4_rounds_114 : decode cX4_rounds 114 = .ok (.iastore, 1) := by decide +kernel
theorem dX4_rounds_115 : decode cX4_rounds 115 = .ok (.iinc 3 1, 3) := by decide +kernel
theorem dX4_rounds_118 : decode cX4_rounds 118 = .ok (.goto (-41), 3) := by decide +kernel
theorem dX4_rounds_121 : decode cX4_rounds 121 = .ok (.return_, 1) := by decide +kernel
theorem dX4_leaves_0 : decode cX4_leaves 0 = .ok (.aload_n 0, 1) := by decide +kernel
theorem dX4_leaves_1 : decode cX4_leaves 1 = .ok (.getfield 16, 3) := by decide +kernel
theorem dX4_leaves_4 : decode cX4_leaves 4 = .ok (.iload_n 2, 1) := by decide +kernel
theorem dX4_leaves_5 : decode cX4_leaves 5 = .ok (.dup2, 1) := by decide +kernel
theorem dX4_leaves_6 : decode cX4_leaves 6 = .ok (.iaload, 1) := by decide +kernel
theorem dX4_leaves_7 : decode cX4_leaves 7 = .ok (.aload_n 0, 1) := by decide +kernel
theorem dX4_leaves_8 : decode cX4_leaves 8 = .ok (.getfield 16, 3) := by decide +kernel
theorem dX4_leaves_11 : decode cX4_leaves 11 = .ok (.iload_n 1, 1) := by decide +kernel
theorem dX4_leaves_12 : decode cX4_leaves 12 = .ok (.iaload, 1) := by decide +kernel
theorem dX4_leaves_13 : decode cX4_leaves 13 = .ok (.iadd, 1) := by decide +kernel
theorem dX4_leaves_14 : decode cX4_leaves 14 = .ok (.iastore, 1) := by decide +kernel
theorem dX4_leaves_15 : decode cX4_leaves 15 = .ok (.aload_n 0, 1) := by decide +kernel
theorem dX4_leaves_16 : decode cX4_leaves 16 = .ok (.getfield 19, 3) := by decide +kernel
theorem dX4_leaves_19 : decode cX4_leaves 19 = .ok (.iload_n 2, 1) := by decide +kernel
theorem dX4_leaves_20 : decode cX4_leaves 20 = .ok (.dup2, 1) := by decide +kernel
theorem dX4_leaves_21 : decode cX4_leaves 21 = .ok (.iaload, 1) := by decide +kernel
theorem dX4_leaves_22 : decode cX4_leaves 22 = .ok (.aload_n 0, 1) := by decide +kernel
theorem dX4_leaves_23 : decode cX4_leaves 23 = .ok (.getfield 19, 3) := by decide +kernel
theorem dX4_leaves_26 : decode cX4_leaves 26 = .ok (.iload_n 1, 1) := by decide +kernel
theorem dX4_leaves_27 : decode cX4_leaves 27 = .ok (.iaload, 1) := by decide +kernel
theorem dX4_leaves_28 : decode cX4_leaves 28 = .ok (.iadd, 1) := by decide +kernel
theorem dX4_leaves_29 : decode cX4_leaves 29 = .ok (.iastore, 1) := by decide +kernel
theorem dX4_leaves_30 : decode cX4_leaves 30 = .ok (.aload_n 0, 1) := by decide +kernel
theorem dX4_leaves_31 : decode cX4_leaves 31 = .ok (.getfield 22, 3) := by decide +kernel
theorem dX4_leaves_34 : decode cX4_leaves 34 = .ok (.iload_n 1, 1) := by decide +kernel
theorem dX4_leaves_35 : decode cX4_leaves 35 = .ok (.iaload, 1) := by decide +kernel
theorem dX4_leaves_36 : decode cX4_leaves 36 = .ok (.ifCond .le 48, 3) := by decide +kernel
theorem dX4_leaves_39 : decode cX4_leaves 39 = .ok (.aload_n 0, 1) := by decide +kernel
theorem dX4_leaves_40 : decode cX4_leaves 40 = .ok (.getfield 22, 3) := by decide +kernel
theorem dX4_leaves_43 : decode cX4_leaves 43 = .ok (.iload_n 2, 1) := by decide +kernel
theorem dX4_leaves_44 : decode cX4_leaves 44 = .ok (.iaload, 1) := by decide +kernel
theorem dX4_leaves_45 : decode cX4_leaves 45 = .ok (.ifCond .ne 39, 3) := by decide +kernel
theorem dX4_leaves_48 : decode cX4_leaves 48 = .ok (.aload_n 0, 1) := by decide +kernel
theorem dX4_leaves_49 : decode cX4_leaves 49 = .ok (.getfield 25, 3) := by decide +kernel
theorem dX4_leaves_52 : decode cX4_leaves 52 = .ok (.iload_n 2, 1) := by decide +kernel
theorem dX4_leaves_53 : decode cX4_leaves 53 = .ok (.aload_n 0, 1) := by decide +kernel
theorem dX4_leaves_54 : decode cX4_leaves 54 = .ok (.getfield 25, 3) := by decide +kernel
theorem dX4_leaves_57 : decode cX4_leaves 57 = .ok (.iload_n 1, 1) := by decide +kernel
theorem dX4_leaves_58 : decode cX4_leaves 58 = .ok (.iaload, 1) := by decide +kernel
theorem dX4_leaves_59 : decode cX4_leaves 59 = .ok (.iastore, 1) := by decide +kernel
theorem dX4_leaves_60 : decode cX4_leaves 60 = .ok (.aload_n 0, 1) := by decide +kernel
theorem dX4_leaves_61 : decode cX4_leaves 61 = .ok (.getfield 28, 3) := by decide +kernel
theorem dX4_leaves_64 : decode cX4_leaves 64 = .ok (.iload_n 2, 1) := by decide +kernel
theorem dX4_leaves_65 : decode cX4_leaves 65 = .ok (.aload_n 0, 1) := by decide +kernel
theorem dX4_leaves_66 : decode cX4_leaves 66 = .ok (.getfield 28, 3) := by decide +kernel
theorem dX4_leaves_69 : decode cX4_leaves 69 = .ok (.iload_n 1, 1) := by decide +kernel
theorem dX4_leaves_70 : decode cX4_leaves 70 = .ok (.iaload, 1) := by decide +kernel
theorem dX4_leaves_71 : decode cX4_leaves 71 = .ok (.iastore, 1) := by decide +kernel
theorem dX4_leaves_72 : decode cX4_leaves 72 = .ok (.aload_n 0, 1) := by decide +kernel
theorem dX4_leaves_73 : decode cX4_leaves 73 = .ok (.getfield 31, 3) := by decide +kernel
theorem dX4_leaves_76 : decode cX4_leaves 76 = .ok (.iload_n 2, 1) := by decide +kernel
theorem dX4_leaves_77 : decode cX4_leaves 77 = .ok (.aload_n 0, 1) := by decide +kernel
theorem dX4_leaves_78 : decode cX4_leaves 78 = .ok (.getfield 31, 3) := by decide +kernel
theorem dX4_leaves_81 : decode cX4_leaves 81 = .ok (.iload_n 1, 1) := by decide +kernel
theorem dX4_leaves_82 : decode cX4_leaves 82 = .ok (.iaload, 1) := by decide +kernel
theorem dX4_leaves_83 : decode cX4_leaves 83 = .ok (.iastore, 1) := by decide +kernel
theorem dX4_leaves_84 : decode cX4_leaves 84 = .ok (.aload_n 0, 1) := by decide +kernel
theorem dX4_leaves_85 : decode cX4_leaves 85 = .ok (.getfield 22, 3) := by decide +kernel
theorem dX4_leaves_88 : decode cX4_leaves 88 = .ok (.iload_n 2, 1) := by decide +kernel
theorem dX4_leaves_89 : decode cX4_leaves 89 = .ok (.dup2, 1) := by decide +kernel
theorem dX4_leaves_90 : decode cX4_leaves 90 = .ok (.iaload, 1) := by decide +kernel
theorem dX4_leaves_91 : decode cX4_leaves 91 = .ok (.aload_n 0, 1) := by decide +kernel
theorem dX4_leaves_92 : decode cX4_leaves 92 = .ok (.getfield 22, 3) := by decide +kernel
theorem dX4_leaves_95 : decode cX4_leaves 95 = .ok (.iload_n 1, 1) := by decide +kernel
theorem dX4_leaves_96 : decode cX4_leaves 96 = .ok (.iaload, 1) := by decide +kernel
theorem dX4_leaves_97 : decode cX4_leaves 97 = .ok (.iadd, 1) := by decide +kernel
theorem dX4_leaves_98 : decode cX4_leaves 98 = .ok (.iastore, 1) := by decide +kernel
theorem dX4_leaves_99 : decode cX4_leaves 99 = .ok (.aload_n 0, 1) := by decide +kernel
theorem dX4_leaves_100 : decode cX4_leaves 100 = .ok (.getfield 16, 3) := by decide +kernel
theorem dX4_leaves_103 : decode cX4_leaves 103 = .ok (.iload_n 1, 1) := by decide +kernel
theorem dX4_leaves_104 : decode cX4_leaves 104 = .ok (.iconst 0, 1) := by decide +kernel
theorem dX4_leaves_105 : decode cX4_leaves 105 = .ok (.iastore, 1) := by decide +kernel
theorem dX4_leaves_106 : decode cX4_leaves 106 = .ok (.aload_n 0, 1) := by decide +kernel
theorem dX4_leaves_107 : decode cX4_leaves 107 = .ok (.getfield 19, 3) := by decide +kernel
theorem dX4_leaves_110 : decode cX4_leaves 110 = .ok (.iload_n 1, 1) := by decide +kernel
theorem dX4_leaves_111 : decode cX4_leaves 111 = .ok (.iconst 0, 1) := by decide +kernel
theorem dX4_leaves_112 : decode cX4_leaves 112 = .ok (.iastore, 1) := by decide +kernel
theorem dX4_leaves_113 : decode cX4_leaves 113 = .ok (.aload_n 0, 1) := by decide +kernel
theorem dX4_leaves_114 : decode cX4_leaves 114 = .ok (.getfield 22, 3) := by decide +kernel
theorem dX4_leaves_117 : decode cX4_leaves 117 = .ok (.iload_n 1, 1) := by decide +kernel
theorem dX4_leaves_118 : decode cX4_leaves 118 = .ok (.iconst 0, 1) := by decide +kernel
theorem dX4_leaves_119 : decode cX4_leaves 119 = .ok (.iastore, 1) := by decide +kernel
theorem dX4_leaves_120 : decode cX4_leaves 120 = .ok (.aload_n 0, 1) := by decide +kernel
theorem dX4_leaves_121 : decode cX4_leaves 121 = .ok (.getfield 40, 3) := by decide +kernel
theorem dX4_leaves_124 : decode cX4_leaves 124 = .ok (.iload_n 1, 1) := by decide +kernel
theorem dX4_leaves_125 : decode cX4_leaves 125 = .ok (.iconst 1, 1) := by decide +kernel
theorem dX4_leaves_126 : decode cX4_leaves 126 = .ok (.bastore, 1) := by decide +kernel
theorem dX4_leaves_127 : decode cX4_leaves 127 = .ok (.return_, 1) := by decide +kernel
theorem dX4_die_0 : decode cX4_die 0 = .ok (.aload_n 0, 1) := by decide +kernel
theorem dX4_die_1 : decode cX4_die 1 = .ok (.aload_n 0, 1) := by decide +kernel
theorem dX4_die_2 : decode cX4_die 2 = .ok (.iload_n 1, 1) := by decide +kernel
theorem dX4_die_3 : decode cX4_die 3 = .ok (.invokevirtual 104, 3) := by decide +kernel
theorem dX4_die_6 : decode cX4_die 6 = .ok (.ifCond .eq 11, 3) := by decide +kernel
theorem dX4_die_9 : decode cX4_die 9 = .ok (.aload_n 0, 1) := by decide +kernel
theorem dX4_die_10 : decode cX4_die 10 = .ok (.iload_n 2, 1) := by decide +kernel
theorem dX4_die_11 : decode cX4_die 11 = .ok (.invokevirtual 104, 3) := by decide +kernel
theorem dX4_die_14 : decode cX4_die 14 = .ok (.ifCond .ne 7, 3) := by decide +kernel
theorem dX4_die_17 : decode cX4_die 17 = .ok (.iconst 1, 1) := by decide +kernel
theorem dX4_die_18 : decode cX4_die 18 = .ok (.goto 53, 3) := by decide +kernel
theorem dX4_die_21 : decode cX4_die 21 = .ok (.iload_n 1, 1) := by decide +kernel
theorem dX4_die_22 : decode cX4_die 22 = .ok (.iload_n 2, 1) := by decide +kernel
theorem dX4_die_23 : decode cX4_die 23 = .ok (.if_icmp .ne 7, 3) := by decide +kernel
theorem dX4_die_26 : decode cX4_die 26 = .ok (.iconst 2, 1) := by decide +kernel
theorem dX4_die_27 : decode cX4_die 27 = .ok (.goto 44, 3) := by decide +kernel
theorem dX4_die_30 : decode cX4_die 30 = .ok (.aload_n 0, 1) := by decide +kernel
theorem dX4_die_31 : decode cX4_die 31 = .ok (.getfield 40, 3) := by decide +kernel
theorem dX4_die_34 : decode cX4_die 34 = .ok (.iload_n 1, 1) := by decide +kernel
theorem dX4_die_35 : decode cX4_die 35 = .ok (.baload, 1) := by decide +kernel
theorem dX4_die_36 : decode cX4_die 36 = .ok (.ifCond .ne 30, 3) := by decide +kernel
theorem dX4_die_39 : decode cX4_die 39 = .ok (.aload_n 0, 1) := by decide +kernel
theorem dX4_die_40 : decode cX4_die 40 = .ok (.getfield 40, 3) := by decide +kernel
theorem dX4_die_43 : decode cX4_die 43 = .ok (.iload_n 2, 1) := by decide +kernel
theorem dX4_die_44 : decode cX4_die 44 = .ok (.baload, 1) := by decide +kernel
theorem dX4_die_45 : decode cX4_die 45 = .ok (.ifCond .ne 21, 3) := by decide +kernel
theorem dX4_die_48 : decode cX4_die 48 = .ok (.aload_n 0, 1) := by decide +kernel
theorem dX4_die_49 : decode cX4_die 49 = .ok (.getfield 19, 3) := by decide +kernel
theorem dX4_die_52 : decode cX4_die 52 = .ok (.iload_n 1, 1) := by decide +kernel
theorem dX4_die_53 : decode cX4_die 53 = .ok (.iaload, 1) := by decide +kernel
theorem dX4_die_54 : decode cX4_die 54 = .ok (.aload_n 0, 1) := by decide +kernel
theorem dX4_die_55 : decode cX4_die 55 = .ok (.getfield 19, 3) := by decide +kernel
theorem dX4_die_58 : decode cX4_die 58 = .ok (.iload_n 2, 1) := by decide +kernel
theorem dX4_die_59 : decode cX4_die 59 = .ok (.iaload, 1) := by decide +kernel
theorem dX4_die_60 : decode cX4_die 60 = .ok (.iadd, 1) := by decide +kernel
theorem dX4_die_61 : decode cX4_die 61 = .ok (.bipush 100, 2) := by decide +kernel
theorem dX4_die_63 : decode cX4_die 63 = .ok (.if_icmp .le 7, 3) := by decide +kernel
theorem dX4_die_66 : decode cX4_die 66 = .ok (.iconst 3, 1) := by decide +kernel
theorem dX4_die_67 : decode cX4_die 67 = .ok (.goto 4, 3) := by decide +kernel
theorem dX4_die_70 : decode cX4_die 70 = .ok (.iconst 0, 1) := by decide +kernel
theorem dX4_die_71 : decode cX4_die 71 = .ok (.putfield 89, 3) := by decide +kernel
theorem dX4_die_74 : decode cX4_die 74 = .ok (.aload_n 0, 1) := by decide +kernel
theorem dX4_die_75 : decode cX4_die 75 = .ok (.getfield 89, 3) := by decide +kernel
theorem dX4_die_78 : decode cX4_die 78 = .ok (.ifCond .eq 5, 3) := by decide +kernel
theorem dX4_die_81 : decode cX4_die 81 = .ok (.iconst 0, 1) := by decide +kernel
theorem dX4_die_82 : decode cX4_die 82 = .ok (.ireturn, 1) := by decide +kernel
theorem dX4_die_83 : decode cX4_die 83 = .ok (.aload_n 0, 1) := by decide +kernel
theorem dX4_die_84 : decode cX4_die 84 = .ok (.iload_n 1, 1) := by decide +kernel
theorem dX4_die_85 : decode cX4_die 85 = .ok (.iload_n 2, 1) := by decide +kernel
theorem dX4_die_86 : decode cX4_die 86 = .ok (.invokevirtual 119, 3) := by decide +kernel
theorem dX4_die_89 : decode cX4_die 89 = .ok (.iconst 0, 1) := by decide +kernel
theorem dX4_die_90 : decode cX4_die 90 = .ok (.istore_n 3, 1) := by decide +kernel
theorem dX4_die_91 : decode cX4_die 91 = .ok (.iconst 0, 1) := by decide +kernel
theorem dX4_die_92 : decode cX4_die 92 = .ok (.istore 4, 2) := by decide +kernel
theorem dX4_die_94 : decode cX4_die 94 = .ok (.iload 4, 2) := by decide +kernel
theorem dX4_die_96 : decode cX4_die 96 = .ok (.aload_n 0, 1) := by decide +kernel
theorem dX4_die_97 : decode cX4_die 97 = .ok (.getfield 100, 3) := by decide +kernel
theorem dX4_die_100 : decode cX4_die 100 = .ok (.if_icmp .ge 99, 3) := by decide +kernel
theorem dX4_die_103 : decode cX4_die 103 = .ok (.aload_n 0, 1) := by decide +kernel
theorem dX4_die_104 : decode cX4_die 104 = .ok (.iload 4, 2) := by decide +kernel
theorem dX4_die_106 : decode cX4_die 106 = .ok (.iload_n 1, 1) := by decide +kernel
theorem dX4_die_107 : decode cX4_die 107 = .ok (.invokevirtual 122, 3) := by decide +kernel
theorem dX4_die_110 : decode cX4_die 110 = .ok (.istore 5, 2) := by decide +kernel
theorem dX4_die_112 : decode cX4_die 112 = .ok (.aload_n 0, 1) := by decide +kernel
theorem dX4_die_113 : decode cX4_die 113 = .ok (.iload 4, 2) := by decide +kernel
theorem dX4_die_115 : decode cX4_die 115 = .ok (.iload_n 2, 1) := by decide +kernel
theorem dX4_die_116 : decode cX4_die 116 = .ok (.invokevirtual 122, 3) := by decide +kernel
theorem dX4_die_119 : decode cX4_die 119 = .ok (.istore 6, 2) := by decide +kernel
theorem dX4_die_121 : decode cX4_die 121 = .ok (.iload 5, 2) := by decide +kernel
theorem dX4_die_123 : decode cX4_die 123 = .ok (.ifCond .lt 48, 3) := by decide +kernel
theorem dX4_die_126 : decode cX4_die 126 = .ok (.iload 6, 2) := by decide +kernel
theorem dX4_die_128 : decode cX4_die 128 = .ok (.ifCond .lt 43, 3) := by decide +kernel
theorem dX4_die_131 : decode cX4_die 131 = .ok (.aload_n 0, 1) := by decide +kernel
theorem dX4_die_132 : decode cX4_die 132 = .ok (.getfield 68, 3) := by decide +kernel
theorem dX4_die_135 : decode cX4_die 135 = .ok (.bipush 10, 2) := by decide +kernel
theorem dX4_die_137 : decode cX4_die 137 = .ok (.iload 4, 2) := by decide +kernel
theorem dX4_die_139 : decode cX4_die 139 = .ok (.imul, 1) := by decide +kernel
theorem dX4_die_140 : decode cX4_die 140 = .ok (.iload 6, 2) := by decide +kernel
theorem dX4_die_142 : decode cX4_die 142 = .ok (.iadd, 1) := by decide +kernel
theorem dX4_die_143 : decode cX4_die 143 = .ok (.dup2, 1) := by decide +kernel
theorem dX4_die_144 : decode cX4_die 144 = .ok (.iaload, 1) := by decide +kernel
theorem dX4_die_145 : decode cX4_die 145 = .ok (.aload_n 0, 1) := by decide +kernel
theorem dX4_die_146 : decode cX4_die 146 = .ok (.getfield 68, 3) := by decide +kernel
theorem dX4_die_149 : decode cX4_die 149 = .ok (.bipush 10, 2) := by decide +kernel
theorem dX4_die_151 : decode cX4_die 151 = .ok (.iload 4, 2) := by decide +kernel
theorem dX4_die_153 : decode cX4_die 153 = .ok (.imul, 1) := by decide +kernel
theorem dX4_die_154 : decode cX4_die 154 = .ok (.iload 5, 2) := by decide +kernel
theorem dX4_die_156 : decode cX4_die 156 = .ok (.iadd, 1) := by decide +kernel
theorem dX4_die_157 : decode cX4_die 157 = .ok (.iaload, 1) := by decide +kernel
theorem dX4_die_158 : decode cX4_die 158 = .ok (.iadd, 1) := by decide +kernel
theorem dX4_die_159 : decode cX4_die 159 = .ok (.iastore, 1) := by decide +kernel
theorem dX4_die_160 : decode cX4_die 160 = .ok (.aload_n 0, 1) := by decide +kernel
theorem dX4_die_161 : decode cX4_die 161 = .ok (.iload 4, 2) := by decide +kernel
theorem dX4_die_163 : decode cX4_die 163 = .ok (.iload 5, 2) := by decide +kernel
theorem dX4_die_165 : decode cX4_die 165 = .ok (.invokevirtual 126, 3) := by decide +kernel
theorem dX4_die_168 : decode cX4_die 168 = .ok (.goto 25, 3) := by decide +kernel
theorem dX4_die_171 : decode cX4_die 171 = .ok (.iload 5, 2) := by decide +kernel
theorem dX4_die_173 : decode cX4_die 173 = .ok (.ifCond .lt 20, 3) := by decide +kernel
theorem dX4_die_176 : decode cX4_die 176 = .ok (.aload_n 0, 1) := by decide +kernel
theorem dX4_die_177 : decode cX4_die 177 = .ok (.getfield 65, 3) := by decide +kernel
theorem dX4_die_180 : decode cX4_die 180 = .ok (.bipush 10, 2) := by decide +kernel
theorem dX4_die_182 : decode cX4_die 182 = .ok (.iload 4, 2) := by decide +kernel
theorem dX4_die_184 : decode cX4_die 184 = .ok (.imul, 1) := by decide +kernel
theorem dX4_die_185 : decode cX4_die 185 = .ok (.iload 5, 2) := by decide +kernel
theorem dX4_die_187 : decode cX4_die 187 = .ok (.iadd, 1) := by decide +kernel
theorem dX4_die_188 : decode cX4_die 188 = .ok (.iload_n 2, 1) := by decide +kernel
theorem dX4_die_189 : decode cX4_die 189 = .ok (.iastore, 1) := by decide +kernel
theorem dX4_die_190 : decode cX4_die 190 = .ok (.iinc 3 1, 3) := by decide +kernel
theorem dX4_die_193 : decode cX4_die 193 = .ok (.iinc 4 1, 3) := by decide +kernel
theorem dX4_die_196 : decode cX4_die 196 = .ok (.goto (-102), 3) := by decide +kernel
theorem dX4_die_199 : decode cX4_die 199 = .ok (.iload_n 3, 1) := by decide +kernel
theorem dX4_die_200 : decode cX4_die 200 = .ok (.ireturn, 1) := by decide +kernel
theorem dX4_circle_0 : decode cX4_circle 0 = .ok (.aload_n 0, 1) := by decide +kernel
theorem dX4_circle_1 : decode cX4_circle 1 = .ok (.iload_n 1, 1) := by decide +kernel
theorem dX4_circle_2 : decode cX4_circle 2 = .ok (.iconst 1, 1) := by decide +kernel
theorem dX4_circle_3 : decode cX4_circle 3 = .ok (.sipush 1000, 3) := by decide +kernel
theorem dX4_circle_6 : decode cX4_circle 6 = .ok (.invokestatic 96, 3) := by decide +kernel
theorem dX4_circle_9 : decode cX4_circle 9 = .ok (.ifCond .eq 12, 3) := by decide +kernel
theorem dX4_circle_12 : decode cX4_circle 12 = .ok (.iload_n 2, 1) := by decide +kernel
theorem dX4_circle_13 : decode cX4_circle 13 = .ok (.iconst 0, 1) := by decide +kernel
theorem dX4_circle_14 : decode cX4_circle 14 = .ok (.iconst 3, 1) := by decide +kernel
theorem dX4_circle_15 : decode cX4_circle 15 = .ok (.invokestatic 96, 3) := by decide +kernel
theorem dX4_circle_18 : decode cX4_circle 18 = .ok (.ifCond .ne 7, 3) := by decide +kernel
theorem dX4_circle_21 : decode cX4_circle 21 = .ok (.iconst 1, 1) := by decide +kernel
theorem dX4_circle_22 : decode cX4_circle 22 = .ok (.goto 16, 3) := by decide +kernel
theorem dX4_circle_25 : decode cX4_circle 25 = .ok (.aload_n 0, 1) := by decide +kernel
theorem dX4_circle_26 : decode cX4_circle 26 = .ok (.getfield 100, 3) := by decide +kernel
theorem dX4_circle_29 : decode cX4_circle 29 = .ok (.iconst 4, 1) := by decide +kernel
theorem dX4_circle_30 : decode cX4_circle 30 = .ok (.if_icmp .ne 7, 3) := by decide +kernel
theorem dX4_circle_33 : decode cX4_circle 33 = .ok (.iconst 2, 1) := by decide +kernel
theorem dX4_circle_34 : decode cX4_circle 34 = .ok (.goto 4, 3) := by decide +kernel
theorem dX4_circle_37 : decode cX4_circle 37 = .ok (.iconst 0, 1) := by decide +kernel
theorem dX4_circle_38 : decode cX4_circle 38 = .ok (.putfield 89, 3) := by decide +kernel
theorem dX4_circle_41 : decode cX4_circle 41 = .ok (.aload_n 0, 1) := by decide +kernel
theorem dX4_circle_42 : decode cX4_circle 42 = .ok (.getfield 89, 3) := by decide +kernel
theorem dX4_circle_45 : decode cX4_circle 45 = .ok (.ifCond .eq 5, 3) := by decide +kernel
theorem dX4_circle_48 : decode cX4_circle 48 = .ok (.iconst 0, 1) := by decide +kernel
theorem dX4_circle_49 : decode cX4_circle 49 = .ok (.ireturn, 1) := by decide +kernel
theorem dX4_circle_50 : decode cX4_circle 50 = .ok (.aload_n 0, 1) := by decide +kernel
theorem dX4_circle_51 : decode cX4_circle 51 = .ok (.getfield 44, 3) := by decide +kernel
theorem dX4_circle_54 : decode cX4_circle 54 = .ok (.aload_n 0, 1) := by decide +kernel
theorem dX4_circle_55 : decode cX4_circle 55 = .ok (.getfield 100, 3) := by decide +kernel
theorem dX4_circle_58 : decode cX4_circle 58 = .ok (.iload_n 1, 1) := by decide +kernel
theorem dX4_circle_59 : decode cX4_circle 59 = .ok (.iastore, 1) := by decide +kernel
theorem dX4_circle_60 : decode cX4_circle 60 = .ok (.aload_n 0, 1) := by decide +kernel
theorem dX4_circle_61 : decode cX4_circle 61 = .ok (.getfield 47, 3) := by decide +kernel
theorem dX4_circle_64 : decode cX4_circle 64 = .ok (.aload_n 0, 1) := by decide +kernel
theorem dX4_circle_65 : decode cX4_circle 65 = .ok (.getfield 100, 3) := by decide +kernel
theorem dX4_circle_68 : decode cX4_circle 68 = .ok (.iload_n 2, 1) := by decide +kernel
theorem dX4_circle_69 : decode cX4_circle 69 = .ok (.iastore, 1) := by decide +kernel
theorem dX4_circle_70 : decode cX4_circle 70 = .ok (.aload_n 0, 1) := by decide +kernel
theorem dX4_circle_71 : decode cX4_circle 71 = .ok (.dup, 1) := by decide +kernel
theorem dX4_circle_72 : decode cX4_circle 72 = .ok (.getfield 100, 3) := by decide +kernel
theorem dX4_circle_75 : decode cX4_circle 75 = .ok (.iconst 1, 1) := by decide +kernel
theorem dX4_circle_76 : decode cX4_circle 76 = .ok (.iadd, 1) := by decide +kernel
theorem dX4_circle_77 : decode cX4_circle 77 = .ok (.putfield 100, 3) := by decide +kernel
theorem dX4_circle_80 : decode cX4_circle 80 = .ok (.aload_n 0, 1) := by decide +kernel
theorem dX4_circle_81 : decode cX4_circle 81 = .ok (.getfield 100, 3) := by decide +kernel
theorem dX4_circle_84 : decode cX4_circle 84 = .ok (.iconst 1, 1) := by decide +kernel
theorem dX4_circle_85 : decode cX4_circle 85 = .ok (.isub, 1) := by decide +kernel
theorem dX4_circle_86 : decode cX4_circle 86 = .ok (.ireturn, 1) := by decide +kernel
theorem dX4_enter_0 : decode cX4_enter 0 = .ok (.aload_n 0, 1) := by decide +kernel
theorem dX4_enter_1 : decode cX4_enter 1 = .ok (.aload_n 0, 1) := by decide +kernel
theorem dX4_enter_2 : decode cX4_enter 2 = .ok (.iload_n 1, 1) := by decide +kernel
theorem dX4_enter_3 : decode cX4_enter 3 = .ok (.invokevirtual 129, 3) := by decide +kernel
theorem dX4_enter_6 : decode cX4_enter 6 = .ok (.ifCond .eq 11, 3) := by decide +kernel
theorem dX4_enter_9 : decode cX4_enter 9 = .ok (.aload_n 0, 1) := by decide +kernel
theorem dX4_enter_10 : decode cX4_enter 10 = .ok (.iload_n 2, 1) := by decide +kernel
theorem dX4_enter_11 : decode cX4_enter 11 = .ok (.invokevirtual 104, 3) := by decide +kernel
theorem dX4_enter_14 : decode cX4_enter 14 = .ok (.ifCond .ne 7, 3) := by decide +kernel
theorem dX4_enter_17 : decode cX4_enter 17 = .ok (.iconst 1, 1) := by decide +kernel
theorem dX4_enter_18 : decode cX4_enter 18 = .ok (.goto 4, 3) := by decide +kernel
theorem dX4_enter_21 : decode cX4_enter 21 = .ok (.iconst 0, 1) := by decide +kernel
theorem dX4_enter_22 : decode cX4_enter 22 = .ok (.putfield 89, 3) := by decide +kernel
theorem dX4_enter_25 : decode cX4_enter 25 = .ok (.aload_n 0, 1) := by decide +kernel
theorem dX4_enter_26 : decode cX4_enter 26 = .ok (.getfield 89, 3) := by decide +kernel
theorem dX4_enter_29 : decode cX4_enter 29 = .ok (.ifCond .eq 5, 3) := by decide +kernel
theorem dX4_enter_32 : decode cX4_enter 32 = .ok (.iconst 0, 1) := by decide +kernel
theorem dX4_enter_33 : decode cX4_enter 33 = .ok (.ireturn, 1) := by decide +kernel
theorem dX4_enter_34 : decode cX4_enter 34 = .ok (.aload_n 0, 1) := by decide +kernel
theorem dX4_enter_35 : decode cX4_enter 35 = .ok (.aload_n 0, 1) := by decide +kernel
theorem dX4_enter_36 : decode cX4_enter 36 = .ok (.getfield 62, 3) := by decide +kernel
theorem dX4_enter_39 : decode cX4_enter 39 = .ok (.iload_n 1, 1) := by decide +kernel
theorem dX4_enter_40 : decode cX4_enter 40 = .ok (.baload, 1) := by decide +kernel
theorem dX4_enter_41 : decode cX4_enter 41 = .ok (.ifCond .ne 32, 3) := by decide +kernel
theorem dX4_enter_44 : decode cX4_enter 44 = .ok (.aload_n 0, 1) := by decide +kernel
theorem dX4_enter_45 : decode cX4_enter 45 = .ok (.getfield 53, 3) := by decide +kernel
theorem dX4_enter_48 : decode cX4_enter 48 = .ok (.iload_n 1, 1) := by decide +kernel
theorem dX4_enter_49 : decode cX4_enter 49 = .ok (.iaload, 1) := by decide +kernel
theorem dX4_enter_50 : decode cX4_enter 50 = .ok (.bipush 10, 2) := by decide +kernel
theorem dX4_enter_52 : decode cX4_enter 52 = .ok (.if_icmp .eq 21, 3) := by decide +kernel
theorem dX4_enter_55 : decode cX4_enter 55 = .ok (.aload_n 0, 1) := by decide +kernel
theorem dX4_enter_56 : decode cX4_enter 56 = .ok (.iload_n 1, 1) := by decide +kernel
theorem dX4_enter_57 : decode cX4_enter 57 = .ok (.iload_n 2, 1) := by decide +kernel
theorem dX4_enter_58 : decode cX4_enter 58 = .ok (.invokevirtual 122, 3) := by decide +kernel
theorem dX4_enter_61 : decode cX4_enter 61 = .ok (.ifCond .ge 12, 3) := by decide +kernel
theorem dX4_enter_64 : decode cX4_enter 64 = .ok (.aload_n 0, 1) := by decide +kernel
theorem dX4_enter_65 : decode cX4_enter 65 = .ok (.getfield 40, 3) := by decide +kernel
theorem dX4_enter_68 : decode cX4_enter 68 = .ok (.iload_n 2, 1) := by decide +kernel
theorem dX4_enter_69 : decode cX4_enter 69 = .ok (.baload, 1) := by decide +kernel
theorem dX4_enter_70 : decode cX4_enter 70 = .ok (.ifCond .eq 7, 3) := by decide +kernel
theorem dX4_enter_73 : decode cX4_enter 73 = .ok (.iconst 2, 1) := by decide +kernel
theorem dX4_enter_74 : decode cX4_enter 74 = .ok (.goto 4, 3) := by decide +kernel
theorem dX4_enter_77 : decode cX4_enter 77 = .ok (.iconst 0, 1) := by decide +kernel
theorem dX4_enter_78 : decode cX4_enter 78 = .ok (.putfield 89, 3) := by decide +kernel
theorem dX4_enter_81 : decode cX4_enter 81 = .ok (.aload_n 0, 1) := by decide +kernel
theorem dX4_enter_82 : decode cX4_enter 82 = .ok (.getfield 89, 3) := by decide +kernel
theorem dX4_enter_85 : decode cX4_enter 85 = .ok (.ifCond .eq 5, 3) := by decide +kernel
theorem dX4_enter_88 : decode cX4_enter 88 = .ok (.iconst 0, 1) := by decide +kernel
theorem dX4_enter_89 : decode cX4_enter 89 = .ok (.ireturn, 1) := by decide +kernel
theorem dX4_enter_90 : decode cX4_enter 90 = .ok (.bipush 10, 2) := by decide +kernel
theorem dX4_enter_92 : decode cX4_enter 92 = .ok (.iload_n 1, 1) := by decide +kernel
theorem dX4_enter_93 : decode cX4_enter 93 = .ok (.imul, 1) := by decide +kernel
theorem dX4_enter_94 : decode cX4_enter 94 = .ok (.aload_n 0, 1) := by decide +kernel
theorem dX4_enter_95 : decode cX4_enter 95 = .ok (.getfield 53, 3) := by decide +kernel
theorem dX4_enter_98 : decode cX4_enter 98 = .ok (.iload_n 1, 1) := by decide +kernel
theorem dX4_enter_99 : decode cX4_enter 99 = .ok (.iaload, 1) := by decide +kernel
theorem dX4_enter_100 : decode cX4_enter 100 = .ok (.iadd, 1) := by decide +kernel
theorem dX4_enter_101 : decode cX4_enter 101 = .ok (.istore_n 3, 1) := by decide +kernel
theorem dX4_enter_102 : decode cX4_enter 102 = .ok (.aload_n 0, 1) := by decide +kernel
theorem dX4_enter_103 : decode cX4_enter 103 = .ok (.getfield 65, 3) := by decide +kernel
theorem dX4_enter_106 : decode cX4_enter 106 = .ok (.iload_n 3, 1) := by decide +kernel
theorem dX4_enter_107 : decode cX4_enter 107 = .ok (.iload_n 2, 1) := by decide +kernel
theorem dX4_enter_108 : decode cX4_enter 108 = .ok (.iastore, 1) := by decide +kernel
theorem dX4_enter_109 : decode cX4_enter 109 = .ok (.aload_n 0, 1) := by decide +kernel
theorem dX4_enter_110 : decode cX4_enter 110 = .ok (.getfield 68, 3) := by decide +kernel
theorem dX4_enter_113 : decode cX4_enter 113 = .ok (.iload_n 3, 1) := by decide +kernel
theorem dX4_enter_114 : decode cX4_enter 114 = .ok (.iconst 0, 1) := by decide +kernel
theorem dX4_enter_115 : decode cX4_enter 115 = .ok (.iastore, 1) := by decide +kernel
theorem dX4_enter_116 : decode cX4_enter 116 = .ok (.aload_n 0, 1) := by decide +kernel
theorem dX4_enter_117 : decode cX4_enter 117 = .ok (.getfield 71, 3) := by decide +kernel
theorem dX4_enter_120 : decode cX4_enter 120 = .ok (.iload_n 3, 1) := by decide +kernel
theorem dX4_enter_121 : decode cX4_enter 121 = .ok (.iconst 0, 1) := by decide +kernel
theorem dX4_enter_122 : decode cX4_enter 122 = .ok (.iastore, 1) := by decide +kernel
theorem dX4_enter_123 : decode cX4_enter 123 = .ok (.aload_n 0, 1) := by decide +kernel
theorem dX4_enter_124 : decode cX4_enter 124 = .ok (.getfield 74, 3) := by decide +kernel
theorem dX4_enter_127 : decode cX4_enter 127 = .ok (.iload_n 3, 1) := by decide +kernel
theorem dX4_enter_128 : decode cX4_enter 128 = .ok (.iconst 0, 1) := by decide +kernel
theorem dX4_enter_129 : decode cX4_enter 129 = .ok (.iastore, 1) := by decide +kernel
theorem dX4_enter_130 : decode cX4_enter 130 = .ok (.aload_n 0, 1) := by decide +kernel
theorem dX4_enter_131 : decode cX4_enter 131 = .ok (.getfield 77, 3) := by decide +kernel
theorem dX4_enter_134 : decode cX4_enter 134 = .ok (.iload_n 3, 1) := by decide +kernel
theorem dX4_enter_135 : decode cX4_enter 135 = .ok (.iconst 0, 1) := by decide +kernel
theorem dX4_enter_136 : decode cX4_enter 136 = .ok (.iastore, 1) := by decide +kernel
theorem dX4_enter_137 : decode cX4_enter 137 = .ok (.aload_n 0, 1) := by decide +kernel
theorem dX4_enter_138 : decode cX4_enter 138 = .ok (.getfield 80, 3) := by decide +kernel
theorem dX4_enter_141 : decode cX4_enter 141 = .ok (.iload_n 3, 1) := by decide +kernel
theorem dX4_enter_142 : decode cX4_enter 142 = .ok (.iconst (-1), 1) := by decide +kernel
theorem dX4_enter_143 : decode cX4_enter 143 = .ok (.iastore, 1) := by decide +kernel
theorem dX4_enter_144 : decode cX4_enter 144 = .ok (.aload_n 0, 1) := by decide +kernel
theorem dX4_enter_145 : decode cX4_enter 145 = .ok (.getfield 83, 3) := by decide +kernel
theorem dX4_enter_148 : decode cX4_enter 148 = .ok (.iload_n 3, 1) := by decide +kernel
theorem dX4_enter_149 : decode cX4_enter 149 = .ok (.iconst 0, 1) := by decide +kernel
theorem dX4_enter_150 : decode cX4_enter 150 = .ok (.bastore, 1) := by decide +kernel
theorem dX4_enter_151 : decode cX4_enter 151 = .ok (.aload_n 0, 1) := by decide +kernel
theorem dX4_enter_152 : decode cX4_enter 152 = .ok (.getfield 53, 3) := by decide +kernel
theorem dX4_enter_155 : decode cX4_enter 155 = .ok (.iload_n 1, 1) := by decide +kernel
theorem dX4_enter_156 : decode cX4_enter 156 = .ok (.dup2, 1) := by decide +kernel
theorem dX4_enter_157 : decode cX4_enter 157 = .ok (.iaload, 1) := by decide +kernel
theorem dX4_enter_158 : decode cX4_enter 158 = .ok (.iconst 1, 1) := by decide +kernel
theorem dX4_enter_159 : decode cX4_enter 159 = .ok (.iadd, 1) := by decide +kernel
theorem dX4_enter_160 : decode cX4_enter 160 = .ok (.iastore, 1) := by decide +kernel
theorem dX4_enter_161 : decode cX4_enter 161 = .ok (.aload_n 0, 1) := by decide +kernel
theorem dX4_enter_162 : decode cX4_enter 162 = .ok (.getfield 53, 3) := by decide +kernel
theorem dX4_enter_165 : decode cX4_enter 165 = .ok (.iload_n 1, 1) := by decide +kernel
theorem dX4_enter_166 : decode cX4_enter 166 = .ok (.iaload, 1) := by decide +kernel
theorem dX4_enter_167 : decode cX4_enter 167 = .ok (.ireturn, 1) := by decide +kernel
theorem dX4_next_0 : decode cX4_next 0 = .ok (.iconst (-1), 1) := by decide +kernel
theorem dX4_next_1 : decode cX4_next 1 = .ok (.istore_n 3, 1) := by decide +kernel
theorem dX4_next_2 : decode cX4_next 2 = .ok (.iload_n 2, 1) := by decide +kernel
theorem dX4_next_3 : decode cX4_next 3 = .ok (.istore 4, 2) := by decide +kernel
theorem dX4_next_5 : decode cX4_next 5 = .ok (.iconst 0, 1) := by decide +kernel
theorem dX4_next_6 : decode cX4_next 6 = .ok (.istore 5, 2) := by decide +kernel
theorem dX4_next_8 : decode cX4_next 8 = .ok (.iload 5, 2) := by decide +kernel
theorem dX4_next_10 : decode cX4_next 10 = .ok (.aload_n 0, 1) := by decide +kernel
theorem dX4_next_11 : decode cX4_next 11 = .ok (.getfield 53, 3) := by decide +kernel
theorem dX4_next_14 : decode cX4_next 14 = .ok (.iload_n 1, 1) := by decide +kernel
theorem dX4_next_15 : decode cX4_next 15 = .ok (.iaload, 1) := by decide +kernel
theorem dX4_next_16 : decode cX4_next 16 = .ok (.if_icmp .ge 107, 3) := by decide +kernel
theorem dX4_next_19 : decode cX4_next 19 = .ok (.bipush 10, 2) := by decide +kernel
theorem dX4_next_21 : decode cX4_next 21 = .ok (.iload_n 1, 1) := by decide +kernel
theorem dX4_next_22 : decode cX4_next 22 = .ok (.imul, 1) := by decide +kernel
theorem dX4_next_23 : decode cX4_next 23 = .ok (.iload 5, 2) := by decide +kernel
theorem dX4_next_25 : decode cX4_next 25 = .ok (.iadd, 1) := by decide +kernel
theorem dX4_next_26 : decode cX4_next 26 = .ok (.istore 6, 2) := by decide +kernel
theorem dX4_next_28 : decode cX4_next 28 = .ok (.aload_n 0, 1) := by decide +kernel
theorem dX4_next_29 : decode cX4_next 29 = .ok (.getfield 80, 3) := by decide +kernel
theorem dX4_next_32 : decode cX4_next 32 = .ok (.iload 6, 2) := by decide +kernel
theorem dX4_next_34 : decode cX4_next 34 = .ok (.iaload, 1) := by decide +kernel
theorem dX4_next_35 : decode cX4_next 35 = .ok (.ifCond .ge 82, 3) := by decide +kernel
theorem dX4_next_38 : decode cX4_next 38 = .ok (.aload_n 0, 1) := by decide +kernel
theorem dX4_next_39 : decode cX4_next 39 = .ok (.getfield 47, 3) := by decide +kernel
theorem dX4_next_42 : decode cX4_next 42 = .ok (.iload_n 1, 1) := by decide +kernel
theorem dX4_next_43 : decode cX4_next 43 = .ok (.iaload, 1) := by decide +kernel
theorem dX4_next_44 : decode cX4_next 44 = .ok (.ifCond .ne 16, 3) := by decide +kernel
theorem dX4_next_47 : decode cX4_next 47 = .ok (.iload 4, 2) := by decide +kernel
theorem dX4_next_49 : decode cX4_next 49 = .ok (.ifCond .ne 7, 3) := by decide +kernel
theorem dX4_next_52 : decode cX4_next 52 = .ok (.iconst 1, 1) := by decide +kernel
theorem dX4_next_53 : decode cX4_next 53 = .ok (.goto 47, 3) := by decide +kernel
theorem dX4_next_56 : decode cX4_next 56 = .ok (.iconst 0, 1) := by decide +kernel
theorem dX4_next_57 : decode cX4_next 57 = .ok (.goto 43, 3) := by decide +kernel
theorem dX4_next_60 : decode cX4_next 60 = .ok (.iload_n 3, 1) := by decide +kernel
theorem dX4_next_61 : decode cX4_next 61 = .ok (.ifCond .lt 34, 3) := by decide +kernel
theorem dX4_next_64 : decode cX4_next 64 = .ok (.aload_n 0, 1) := by decide +kernel
theorem dX4_next_65 : decode cX4_next 65 = .ok (.getfield 7, 3) := by decide +kernel
theorem dX4_next_68 : decode cX4_next 68 = .ok (.aload_n 0, 1) := by decide +kernel
theorem dX4_next_69 : decode cX4_next 69 = .ok (.getfield 65, 3) := by decide +kernel
theorem dX4_next_72 : decode cX4_next 72 = .ok (.iload 6, 2) := by decide +kernel
theorem dX4_next_74 : decode cX4_next 74 = .ok (.iaload, 1) := by decide +kernel
theorem dX4_next_75 : decode cX4_next 75 = .ok (.iaload, 1) := by decide +kernel
theorem dX4_next_76 : decode cX4_next 76 = .ok (.aload_n 0, 1) := by decide +kernel
theorem dX4_next_77 : decode cX4_next 77 = .ok (.getfield 7, 3) := by decide +kernel
theorem dX4_next_80 : decode cX4_next 80 = .ok (.aload_n 0, 1) := by decide +kernel
theorem dX4_next_81 : decode cX4_next 81 = .ok (.getfield 65, 3) := by decide +kernel
theorem dX4_next_84 : decode cX4_next 84 = .ok (.bipush 10, 2) := by decide +kernel
theorem dX4_next_86 : decode cX4_next 86 = .ok (.iload_n 1, 1) := by decide +kernel
theorem dX4_next_87 : decode cX4_next 87 = .ok (.imul, 1) := by decide +kernel
theorem dX4_next_88 : decode cX4_next 88 = .ok (.iload_n 3, 1) := by decide +kernel
theorem dX4_next_89 : decode cX4_next 89 = .ok (.iadd, 1) := by decide +kernel
theorem dX4_next_90 : decode cX4_next 90 = .ok (.iaload, 1) := by decide +kernel
theorem dX4_next_91 : decode cX4_next 91 = .ok (.iaload, 1) := by decide +kernel
theorem dX4_next_92 : decode cX4_next 92 = .ok (.if_icmp .le 7, 3) := by decide +kernel
theorem dX4_next_95 : decode cX4_next 95 = .ok (.iconst 1, 1) := by decide +kernel
theorem dX4_next_96 : decode cX4_next 96 = .ok (.goto 4, 3) := by decide +kernel
theorem dX4_next_99 : decode cX4_next 99 = .ok (.iconst 0, 1) := by decide +kernel
theorem dX4_next_100 : decode cX4_next 100 = .ok (.istore 7, 2) := by decide +kernel
theorem dX4_next_102 : decode cX4_next 102 = .ok (.iload 7, 2) := by decide +kernel
theorem dX4_next_104 : decode cX4_next 104 = .ok (.ifCond .eq 8, 3) := by decide +kernel
theorem dX4_next_107 : decode cX4_next 107 = .ok (.iload 5, 2) := by decide +kernel
theorem dX4_next_109 : decode cX4_next 109 = .ok (.goto 4, 3) := by decide +kernel
theorem dX4_next_112 : decode cX4_next 112 = .ok (.iload_n 3, 1) := by decide +kernel
theorem dX4_next_113 : decode cX4_next 113 = .ok (.istore_n 3, 1) := by decide +kernel
theorem dX4_next_114 : decode cX4_next 114 = .ok (.iinc 4 (-1), 3) := by decide +kernel
theorem dX4_next_117 : decode cX4_next 117 = .ok (.iinc 5 1, 3) := by decide +kernel
theorem dX4_next_120 : decode cX4_next 120 = .ok (.goto (-112), 3) := by decide +kernel
theorem dX4_next_123 : decode cX4_next 123 = .ok (.iload_n 3, 1) := by decide +kernel
theorem dX4_next_124 : decode cX4_next 124 = .ok (.ireturn, 1) := by decide +kernel
theorem dX4_start_0 : decode cX4_start 0 = .ok (.aload_n 0, 1) := by decide +kernel
theorem dX4_start_1 : decode cX4_start 1 = .ok (.iload_n 1, 1) := by decide +kernel
theorem dX4_start_2 : decode cX4_start 2 = .ok (.invokevirtual 129, 3) := by decide +kernel
theorem dX4_start_5 : decode cX4_start 5 = .ok (.ifCond .ne 10, 3) := by decide +kernel
theorem dX4_start_8 : decode cX4_start 8 = .ok (.aload_n 0, 1) := by decide +kernel
theorem dX4_start_9 : decode cX4_start 9 = .ok (.iconst 1, 1) := by decide +kernel
theorem dX4_start_10 : decode cX4_start 10 = .ok (.putfield 89, 3) := by decide +kernel
theorem dX4_start_13 : decode cX4_start 13 = .ok (.iconst 0, 1) := by decide +kernel
theorem dX4_start_14 : decode cX4_start 14 = .ok (.ireturn, 1) := by decide +kernel
theorem dX4_start_15 : decode cX4_start 15 = .ok (.aload_n 0, 1) := by decide +kernel
theorem dX4_start_16 : decode cX4_start 16 = .ok (.iload_n 2, 1) := by decide +kernel
theorem dX4_start_17 : decode cX4_start 17 = .ok (.iconst 0, 1) := by decide +kernel
theorem dX4_start_18 : decode cX4_start 18 = .ok (.sipush 9999, 3) := by decide +kernel
theorem dX4_start_21 : decode cX4_start 21 = .ok (.invokestatic 96, 3) := by decide +kernel
theorem dX4_start_24 : decode cX4_start 24 = .ok (.ifCond .ne 7, 3) := by decide +kernel
theorem dX4_start_27 : decode cX4_start 27 = .ok (.iconst 2, 1) := by decide +kernel
theorem dX4_start_28 : decode cX4_start 28 = .ok (.goto 27, 3) := by decide +kernel
theorem dX4_start_31 : decode cX4_start 31 = .ok (.aload_n 0, 1) := by decide +kernel
theorem dX4_start_32 : decode cX4_start 32 = .ok (.getfield 62, 3) := by decide +kernel
theorem dX4_start_35 : decode cX4_start 35 = .ok (.iload_n 1, 1) := by decide +kernel
theorem dX4_start_36 : decode cX4_start 36 = .ok (.baload, 1) := by decide +kernel
theorem dX4_start_37 : decode cX4_start 37 = .ok (.ifCond .ne 13, 3) := by decide +kernel
theorem dX4_start_40 : decode cX4_start 40 = .ok (.aload_n 0, 1) := by decide +kernel
theorem dX4_start_41 : decode cX4_start 41 = .ok (.getfield 53, 3) := by decide +kernel
theorem dX4_start_44 : decode cX4_start 44 = .ok (.iload_n 1, 1) := by decide +kernel
theorem dX4_start_45 : decode cX4_start 45 = .ok (.iaload, 1) := by decide +kernel
theorem dX4_start_46 : decode cX4_start 46 = .ok (.iconst 2, 1) := by decide +kernel
theorem dX4_start_47 : decode cX4_start 47 = .ok (.if_icmp .ge 7, 3) := by decide +kernel
theorem dX4_start_50 : decode cX4_start 50 = .ok (.iconst 3, 1) := by decide +kernel
theorem dX4_start_51 : decode cX4_start 51 = .ok (.goto 4, 3) := by decide +kernel
theorem dX4_start_54 : decode cX4_start 54 = .ok (.iconst 0, 1) := by decide +kernel
theorem dX4_start_55 : decode cX4_start 55 = .ok (.putfield 89, 3) := by decide +kernel
theorem dX4_start_58 : decode cX4_start 58 = .ok (.aload_n 0, 1) := by decide +kernel
theorem dX4_start_59 : decode cX4_start 59 = .ok (.getfield 89, 3) := by decide +kernel
theorem dX4_start_62 : decode cX4_start 62 = .ok (.ifCond .eq 5, 3) := by decide +kernel
theorem dX4_start_65 : decode cX4_start 65 = .ok (.iconst 0, 1) := by decide +kernel
theorem dX4_start_66 : decode cX4_start 66 = .ok (.ireturn, 1) := by decide +kernel
theorem dX4_start_67 : decode cX4_start 67 = .ok (.aload_n 0, 1) := by decide +kernel
theorem dX4_start_68 : decode cX4_start 68 = .ok (.getfield 62, 3) := by decide +kernel
theorem dX4_start_71 : decode cX4_start 71 = .ok (.iload_n 1, 1) := by decide +kernel
theorem dX4_start_72 : decode cX4_start 72 = .ok (.iconst 1, 1) := by decide +kernel
theorem dX4_start_73 : decode cX4_start 73 = .ok (.bastore, 1) := by decide +kernel
theorem dX4_start_74 : decode cX4_start 74 = .ok (.iconst (-1), 1) := by decide +kernel
theorem dX4_start_75 : decode cX4_start 75 = .ok (.istore_n 3, 1) := by decide +kernel
theorem dX4_start_76 : decode cX4_start 76 = .ok (.iconst 0, 1) := by decide +kernel
theorem dX4_start_77 : decode cX4_start 77 = .ok (.istore 4, 2) := by decide +kernel
theorem dX4_start_79 : decode cX4_start 79 = .ok (.iload 4, 2) := by decide +kernel
theorem dX4_start_81 : decode cX4_start 81 = .ok (.aload_n 0, 1) := by decide +kernel
theorem dX4_start_82 : decode cX4_start 82 = .ok (.getfield 53, 3) := by decide +kernel
theorem dX4_start_85 : decode cX4_start 85 = .ok (.iload_n 1, 1) := by decide +kernel
theorem dX4_start_86 : decode cX4_start 86 = .ok (.iaload, 1) := by decide +kernel
theorem dX4_start_87 : decode cX4_start 87 = .ok (.if_icmp .ge 79, 3) := by decide +kernel
theorem dX4_start_90 : decode cX4_start 90 = .ok (.aload_n 0, 1) := by decide +kernel
theorem dX4_start_91 : decode cX4_start 91 = .ok (.getfield 47, 3) := by decide +kernel
theorem dX4_start_94 : decode cX4_start 94 = .ok (.iload_n 1, 1) := by decide +kernel
theorem dX4_start_95 : decode cX4_start 95 = .ok (.iaload, 1) := by decide +kernel
theorem dX4_start_96 : decode cX4_start 96 = .ok (.iconst 1, 1) := by decide +kernel
theorem dX4_start_97 : decode cX4_start 97 = .ok (.if_icmp .gt 69, 3) := by decide +kernel
theorem dX4_start_100 : decode cX4_start 100 = .ok (.aload_n 0, 1) := by decide +kernel
theorem dX4_start_101 : decode cX4_start 101 = .ok (.iload_n 1, 1) := by decide +kernel
theorem dX4_start_102 : decode cX4_start 102 = .ok (.iload_n 2, 1) := by decide +kernel
theorem dX4_start_103 : decode cX4_start 103 = .ok (.bipush 31, 2) := by decide +kernel
theorem dX4_start_105 : decode cX4_start 105 = .ok (.iload 4, 2) := by decide +kernel
theorem dX4_start_107 : decode cX4_start 107 = .ok (.imul, 1) := by decide +kernel
theorem dX4_start_108 : decode cX4_start 108 = .ok (.iadd, 1) := by decide +kernel
theorem dX4_start_109 : decode cX4_start 109 = .ok (.aload_n 0, 1) := by decide +kernel
theorem dX4_start_110 : decode cX4_start 110 = .ok (.getfield 53, 3) := by decide +kernel
theorem dX4_start_113 : decode cX4_start 113 = .ok (.iload_n 1, 1) := by decide +kernel
theorem dX4_start_114 : decode cX4_start 114 = .ok (.iaload, 1) := by decide +kernel
theorem dX4_start_115 : decode cX4_start 115 = .ok (.iload 4, 2) := by decide +kernel
theorem dX4_start_117 : decode cX4_start 117 = .ok (.isub, 1) := by decide +kernel
theorem dX4_start_118 : decode cX4_start 118 = .ok (.irem, 1) := by decide +kernel
theorem dX4_start_119 : decode cX4_start 119 = .ok (.invokevirtual 132, 3) := by decide +kernel
theorem dX4_start_122 : decode cX4_start 122 = .ok (.istore 5, 2) := by decide +kernel
theorem dX4_start_124 : decode cX4_start 124 = .ok (.aload_n 0, 1) := by decide +kernel
theorem dX4_start_125 : decode cX4_start 125 = .ok (.getfield 80, 3) := by decide +kernel
theorem dX4_start_128 : decode cX4_start 128 = .ok (.bipush 10, 2) := by decide +kernel
theorem dX4_start_130 : decode cX4_start 130 = .ok (.iload_n 1, 1) := by decide +kernel
theorem dX4_start_131 : decode cX4_start 131 = .ok (.imul, 1) := by decide +kernel
theorem dX4_start_132 : decode cX4_start 132 = .ok (.iload 5, 2) := by decide +kernel
theorem dX4_start_134 : decode cX4_start 134 = .ok (.iadd, 1) := by decide +kernel
theorem dX4_start_135 : decode cX4_start 135 = .ok (.iload 4, 2) := by decide +kernel
theorem dX4_start_137 : decode cX4_start 137 = .ok (.iastore, 1) := by decide +kernel
theorem dX4_start_138 : decode cX4_start 138 = .ok (.iload 4, 2) := by decide +kernel
theorem dX4_start_140 : decode cX4_start 140 = .ok (.ifCond .ne 18, 3) := by decide +kernel
theorem dX4_start_143 : decode cX4_start 143 = .ok (.aload_n 0, 1) := by decide +kernel
theorem dX4_start_144 : decode cX4_start 144 = .ok (.getfield 65, 3) := by decide +kernel
theorem dX4_start_147 : decode cX4_start 147 = .ok (.bipush 10, 2) := by decide +kernel
theorem dX4_start_149 : decode cX4_start 149 = .ok (.iload_n 1, 1) := by decide +kernel
theorem dX4_start_150 : decode cX4_start 150 = .ok (.imul, 1) := by decide +kernel
theorem dX4_start_151 : decode cX4_start 151 = .ok (.iload 5, 2) := by decide +kernel
theorem dX4_start_153 : decode cX4_start 153 = .ok (.iadd, 1) := by decide +kernel
theorem dX4_start_154 : decode cX4_start 154 = .ok (.iaload, 1) := by decide +kernel
theorem dX4_start_155 : decode cX4_start 155 = .ok (.goto 4, 3) := by decide +kernel
theorem dX4_start_158 : decode cX4_start 158 = .ok (.iload_n 3, 1) := by decide +kernel
theorem dX4_start_159 : decode cX4_start 159 = .ok (.istore_n 3, 1) := by decide +kernel
theorem dX4_start_160 : decode cX4_start 160 = .ok (.iinc 4 1, 3) := by decide +kernel
theorem dX4_start_163 : decode cX4_start 163 = .ok (.goto (-84), 3) := by decide +kernel
theorem dX4_start_166 : decode cX4_start 166 = .ok (.iload_n 3, 1) := by decide +kernel
theorem dX4_start_167 : decode cX4_start 167 = .ok (.ireturn, 1) := by decide +kernel
theorem dX4_want_0 : decode cX4_want 0 = .ok (.aload_n 0, 1) := by decide +kernel
theorem dX4_want_1 : decode cX4_want 1 = .ok (.aload_n 0, 1) := by decide +kernel
theorem dX4_want_2 : decode cX4_want 2 = .ok (.iload_n 1, 1) := by decide +kernel
theorem dX4_want_3 : decode cX4_want 3 = .ok (.invokevirtual 129, 3) := by decide +kernel
theorem dX4_want_6 : decode cX4_want 6 = .ok (.ifCond .eq 11, 3) := by decide +kernel
theorem dX4_want_9 : decode cX4_want 9 = .ok (.aload_n 0, 1) := by decide +kernel
theorem dX4_want_10 : decode cX4_want 10 = .ok (.iload_n 2, 1) := by decide +kernel
theorem dX4_want_11 : decode cX4_want 11 = .ok (.invokevirtual 104, 3) := by decide +kernel
theorem dX4_want_14 : decode cX4_want 14 = .ok (.ifCond .ne 7, 3) := by decide +kernel
theorem dX4_want_17 : decode cX4_want 17 = .ok (.iconst 1, 1) := by decide +kernel
theorem dX4_want_18 : decode cX4_want 18 = .ok (.goto 32, 3) := by decide +kernel
theorem dX4_want_21 : decode cX4_want 21 = .ok (.iload_n 3, 1) := by decide +kernel
theorem dX4_want_22 : decode cX4_want 22 = .ok (.iconst 0, 1) := by decide +kernel
theorem dX4_want_23 : decode cX4_want 23 = .ok (.sipush 10000, 3) := by decide +kernel
theorem dX4_want_26 : decode cX4_want 26 = .ok (.invokestatic 96, 3) := by decide +kernel
theorem dX4_want_29 : decode cX4_want 29 = .ok (.ifCond .ne 7, 3) := by decide +kernel
theorem dX4_want_32 : decode cX4_want 32 = .ok (.iconst 2, 1) := by decide +kernel
theorem dX4_want_33 : decode cX4_want 33 = .ok (.goto 17, 3) := by decide +kernel
theorem dX4_want_36 : decode cX4_want 36 = .ok (.aload_n 0, 1) := by decide +kernel
theorem dX4_want_37 : decode cX4_want 37 = .ok (.iload_n 1, 1) := by decide +kernel
theorem dX4_want_38 : decode cX4_want 38 = .ok (.iload_n 2, 1) := by decide +kernel
theorem dX4_want_39 : decode cX4_want 39 = .ok (.invokevirtual 122, 3) := by decide +kernel
theorem dX4_want_42 : decode cX4_want 42 = .ok (.ifCond .ge 7, 3) := by decide +kernel
theorem dX4_want_45 : decode cX4_want 45 = .ok (.iconst 3, 1) := by decide +kernel
theorem dX4_want_46 : decode cX4_want 46 = .ok (.goto 4, 3) := by decide +kernel
theorem dX4_want_49 : decode cX4_want 49 = .ok (.iconst 0, 1) := by decide +kernel
theorem dX4_want_50 : decode cX4_want 50 = .ok (.putfield 89, 3) := by decide +kernel
theorem dX4_want_53 : decode cX4_want 53 = .ok (.aload_n 0, 1) := by decide +kernel
theorem dX4_want_54 : decode cX4_want 54 = .ok (.getfield 89, 3) := by decide +kernel
theorem dX4_want_57 : decode cX4_want 57 = .ok (.ifCond .eq 5, 3) := by decide +kernel
theorem dX4_want_60 : decode cX4_want 60 = .ok (.iconst 0, 1) := by decide +kernel
theorem dX4_want_61 : decode cX4_want 61 = .ok (.ireturn, 1) := by decide +kernel
theorem dX4_want_62 : decode cX4_want 62 = .ok (.bipush 10, 2) := by decide +kernel
theorem dX4_want_64 : decode cX4_want 64 = .ok (.iload_n 1, 1) := by decide +kernel
theorem dX4_want_65 : decode cX4_want 65 = .ok (.imul, 1) := by decide +kernel
theorem dX4_want_66 : decode cX4_want 66 = .ok (.aload_n 0, 1) := by decide +kernel
theorem dX4_want_67 : decode cX4_want 67 = .ok (.iload_n 1, 1) := by decide +kernel
theorem dX4_want_68 : decode cX4_want 68 = .ok (.iload_n 2, 1) := by decide +kernel
theorem dX4_want_69 : decode cX4_want 69 = .ok (.invokevirtual 122, 3) := by decide +kernel
theorem dX4_want_72 : decode cX4_want 72 = .ok (.iadd, 1) := by decide +kernel
theorem dX4_want_73 : decode cX4_want 73 = .ok (.istore 5, 2) := by decide +kernel
theorem dX4_want_75 : decode cX4_want 75 = .ok (.iload 4, 2) := by decide +kernel
theorem dX4_want_77 : decode cX4_want 77 = .ok (.ifCond .eq 13, 3) := by decide +kernel
theorem dX4_want_80 : decode cX4_want 80 = .ok (.aload_n 0, 1) := by decide +kernel
theorem dX4_want_81 : decode cX4_want 81 = .ok (.getfield 74, 3) := by decide +kernel
theorem dX4_want_84 : decode cX4_want 84 = .ok (.iload 5, 2) := by decide +kernel
theorem dX4_want_86 : decode cX4_want 86 = .ok (.iaload, 1) := by decide +kernel
theorem dX4_want_87 : decode cX4_want 87 = .ok (.goto 10, 3) := by decide +kernel
theorem dX4_want_90 : decode cX4_want 90 = .ok (.aload_n 0, 1) := by decide +kernel
theorem dX4_want_91 : decode cX4_want 91 = .ok (.getfield 71, 3) := by decide +kernel
theorem dX4_want_94 : decode cX4_want 94 = .ok (.iload 5, 2) := by decide +kernel
theorem dX4_want_96 : decode cX4_want 96 = .ok (.iaload, 1) := by decide +kernel
theorem dX4_want_97 : decode cX4_want 97 = .ok (.istore 6, 2) := by decide +kernel
theorem dX4_want_99 : decode cX4_want 99 = .ok (.aload_n 0, 1) := by decide +kernel
theorem dX4_want_100 : decode cX4_want 100 = .ok (.getfield 74, 3) := by decide +kernel
theorem dX4_want_103 : decode cX4_want 103 = .ok (.iload 5, 2) := by decide +kernel
theorem dX4_want_105 : decode cX4_want 105 = .ok (.iload 4, 2) := by decide +kernel
theorem dX4_want_107 : decode cX4_want 107 = .ok (.ifCond .eq 7, 3) := by decide +kernel
theorem dX4_want_110 : decode cX4_want 110 = .ok (.iload_n 3, 1) := by decide +kernel
theorem dX4_want_111 : decode cX4_want 111 = .ok (.goto 10, 3) := by decide +kernel
theorem dX4_want_114 : decode cX4_want 114 = .ok (.aload_n 0, 1) := by decide +kernel
theorem dX4_want_115 : decode cX4_want 115 = .ok (.getfield 74, 3) := by decide +kernel
theorem dX4_want_118 : decode cX4_want 118 = .ok (.iload 5, 2) := by decide +kernel
theorem dX4_want_120 : decode cX4_want 120 = .ok (.iaload, 1) := by decide +kernel
theorem dX4_want_121 : decode cX4_want 121 = .ok (.iastore, 1) := by decide +kernel
theorem dX4_want_122 : decode cX4_want 122 = .ok (.aload_n 0, 1) := by decide +kernel
theorem dX4_want_123 : decode cX4_want 123 = .ok (.getfield 71, 3) := by decide +kernel
theorem dX4_want_126 : decode cX4_want 126 = .ok (.iload 5, 2) := by decide +kernel
theorem dX4_want_128 : decode cX4_want 128 = .ok (.iload 4, 2) := by decide +kernel
theorem dX4_want_130 : decode cX4_want 130 = .ok (.ifCond .eq 13, 3) := by decide +kernel
theorem dX4_want_133 : decode cX4_want 133 = .ok (.aload_n 0, 1) := by decide +kernel
theorem dX4_want_134 : decode cX4_want 134 = .ok (.getfield 71, 3) := by decide +kernel
theorem dX4_want_137 : decode cX4_want 137 = .ok (.iload 5, 2) := by decide +kernel
theorem dX4_want_139 : decode cX4_want 139 = .ok (.iaload, 1) := by decide +kernel
theorem dX4_want_140 : decode cX4_want 140 = .ok (.goto 4, 3) := by decide +kernel
theorem dX4_want_143 : decode cX4_want 143 = .ok (.iload_n 3, 1) := by decide +kernel
theorem dX4_want_144 : decode cX4_want 144 = .ok (.iastore, 1) := by decide +kernel
theorem dX4_want_145 : decode cX4_want 145 = .ok (.iload 6, 2) := by decide +kernel
theorem dX4_want_147 : decode cX4_want 147 = .ok (.ireturn, 1) := by decide +kernel
theorem dX4_turnOf_0 : decode cX4_turnOf 0 = .ok (.iconst (-1), 1) := by decide +kernel
theorem dX4_turnOf_1 : decode cX4_turnOf 1 = .ok (.istore_n 2, 1) := by decide +kernel
theorem dX4_turnOf_2 : decode cX4_turnOf 2 = .ok (.iconst 0, 1) := by decide +kernel
theorem dX4_turnOf_3 : decode cX4_turnOf 3 = .ok (.istore_n 3, 1) := by decide +kernel
theorem dX4_turnOf_4 : decode cX4_turnOf 4 = .ok (.iload_n 3, 1) := by decide +kernel
theorem dX4_turnOf_5 : decode cX4_turnOf 5 = .ok (.aload_n 0, 1) := by decide +kernel
theorem dX4_turnOf_6 : decode cX4_turnOf 6 = .ok (.getfield 53, 3) := by decide +kernel
theorem dX4_turnOf_9 : decode cX4_turnOf 9 = .ok (.iload_n 1, 1) := by decide +kernel
theorem dX4_turnOf_10 : decode cX4_turnOf 10 = .ok (.iaload, 1) := by decide +kernel
theorem dX4_turnOf_11 : decode cX4_turnOf 11 = .ok (.if_icmp .ge 134, 3) := by decide +kernel
theorem dX4_turnOf_14 : decode cX4_turnOf 14 = .ok (.bipush 10, 2) := by decide +kernel
theorem dX4_turnOf_16 : decode cX4_turnOf 16 = .ok (.iload_n 1, 1) := by decide +kernel
theorem dX4_turnOf_17 : decode cX4_turnOf 17 = .ok (.imul, 1) := by decide +kernel
theorem dX4_turnOf_18 : decode cX4_turnOf 18 = .ok (.iload_n 3, 1) := by decide +kernel
theorem dX4_turnOf_19 : decode cX4_turnOf 19 = .ok (.iadd, 1) := by decide +kernel
theorem dX4_turnOf_20 : decode cX4_turnOf 20 = .ok (.istore 4, 2) := by decide +kernel
theorem dX4_turnOf_22 : decode cX4_turnOf 22 = .ok (.bipush 10, 2) := by decide +kernel
theorem dX4_turnOf_24 : decode cX4_turnOf 24 = .ok (.iload_n 1, 1) := by decide +kernel
theorem dX4_turnOf_25 : decode cX4_turnOf 25 = .ok (.imul, 1) := by decide +kernel
theorem dX4_turnOf_26 : decode cX4_turnOf 26 = .ok (.iload_n 2, 1) := by decide +kernel
theorem dX4_turnOf_27 : decode cX4_turnOf 27 = .ok (.iadd, 1) := by decide +kernel
theorem dX4_turnOf_28 : decode cX4_turnOf 28 = .ok (.istore 5, 2) := by decide +kernel
theorem dX4_turnOf_30 : decode cX4_turnOf 30 = .ok (.iload_n 2, 1) := by decide +kernel
theorem dX4_turnOf_31 : decode cX4_turnOf 31 = .ok (.ifCond .lt 80, 3) := by decide +kernel
theorem dX4_turnOf_34 : decode cX4_turnOf 34 = .ok (.aload_n 0, 1) := by decide +kernel
theorem dX4_turnOf_35 : decode cX4_turnOf 35 = .ok (.getfield 47, 3) := by decide +kernel
theorem dX4_turnOf_38 : decode cX4_turnOf 38 = .ok (.iload_n 1, 1) := by decide +kernel
theorem dX4_turnOf_39 : decode cX4_turnOf 39 = .ok (.iaload, 1) := by decide +kernel
theorem dX4_turnOf_40 : decode cX4_turnOf 40 = .ok (.iconst 1, 1) := by decide +kernel
theorem dX4_turnOf_41 : decode cX4_turnOf 41 = .ok (.if_icmp .gt 23, 3) := by decide +kernel
theorem dX4_turnOf_44 : decode cX4_turnOf 44 = .ok (.aload_n 0, 1) := by decide +kernel
theorem dX4_turnOf_45 : decode cX4_turnOf 45 = .ok (.getfield 80, 3) := by decide +kernel
theorem dX4_turnOf_48 : decode cX4_turnOf 48 = .ok (.iload 4, 2) := by decide +kernel
theorem dX4_turnOf_50 : decode cX4_turnOf 50 = .ok (.iaload, 1) := by decide +kernel
theorem dX4_turnOf_51 : decode cX4_turnOf 51 = .ok (.aload_n 0, 1) := by decide +kernel
theorem dX4_turnOf_52 : decode cX4_turnOf 52 = .ok (.getfield 80, 3) := by decide +kernel
theorem dX4_turnOf_55 : decode cX4_turnOf 55 = .ok (.iload 5, 2) := by decide +kernel
theorem dX4_turnOf_57 : decode cX4_turnOf 57 = .ok (.iaload, 1) := by decide +kernel
theorem dX4_turnOf_58 : decode cX4_turnOf 58 = .ok (.if_icmp .ge 57, 3) := by decide +kernel
theorem dX4_turnOf_61 : decode cX4_turnOf 61 = .ok (.goto 50, 3) := by decide +kernel
theorem dX4_turnOf_64 : decode cX4_turnOf 64 = .ok (.aload_n 0, 1) := by decide +kernel
theorem dX4_turnOf_65 : decode cX4_turnOf 65 = .ok (.getfield 47, 3) := by decide +kernel
theorem dX4_turnOf_68 : decode cX4_turnOf 68 = .ok (.iload_n 1, 1) := by decide +kernel
theorem dX4_turnOf_69 : decode cX4_turnOf 69 = .ok (.iaload, 1) := by decide +kernel
theorem dX4_turnOf_70 : decode cX4_turnOf 70 = .ok (.iconst 3, 1) := by decide +kernel
theorem dX4_turnOf_71 : decode cX4_turnOf 71 = .ok (.if_icmp .ne 23, 3) := by decide +kernel
theorem dX4_turnOf_74 : decode cX4_turnOf 74 = .ok (.aload_n 0, 1) := by decide +kernel
theorem dX4_turnOf_75 : decode cX4_turnOf 75 = .ok (.getfield 74, 3) := by decide +kernel
theorem dX4_turnOf_78 : decode cX4_turnOf 78 = .ok (.iload 4, 2) := by decide +kernel
theorem dX4_turnOf_80 : decode cX4_turnOf 80 = .ok (.iaload, 1) := by decide +kernel
theorem dX4_turnOf_81 : decode cX4_turnOf 81 = .ok (.aload_n 0, 1) := by decide +kernel
theorem dX4_turnOf_82 : decode cX4_turnOf 82 = .ok (.getfield 74, 3) := by decide +kernel
theorem dX4_turnOf_85 : decode cX4_turnOf 85 = .ok (.iload 5, 2) := by decide +kernel
theorem dX4_turnOf_87 : decode cX4_turnOf 87 = .ok (.iaload, 1) := by decide +kernel
theorem dX4_turnOf_88 : decode cX4_turnOf 88 = .ok (.if_icmp .le 27, 3) := by decide +kernel
theorem dX4_turnOf_91 : decode cX4_turnOf 91 = .ok (.goto 20, 3) := by decide +kernel
theorem dX4_turnOf_94 : decode cX4_turnOf 94 = .ok (.aload_n 0, 1) := by decide +kernel
theorem dX4_turnOf_95 : decode cX4_turnOf 95 = .ok (.getfield 71, 3) := by decide +kernel
theorem dX4_turnOf_98 : decode cX4_turnOf 98 = .ok (.iload 4, 2) := by decide +kernel
theorem dX4_turnOf_100 : decode cX4_turnOf 100 = .ok (.iaload, 1) := by decide +kernel
theorem dX4_turnOf_101 : decode cX4_turnOf 101 = .ok (.aload_n 0, 1) := by decide +kernel
theorem dX4_turnOf_102 : decode cX4_turnOf 102 = .ok (.getfield 71, 3) := by decide +kernel
theorem dX4_turnOf_105 : decode cX4_turnOf 105 = .ok (.iload 5, 2) := by decide +kernel
theorem dX4_turnOf_107 : decode cX4_turnOf 107 = .ok (.iaload, 1) := by decide +kernel
theorem dX4_turnOf_108 : decode cX4_turnOf 108 = .ok (.if_icmp .le 7, 3) := by decide +kernel
theorem dX4_turnOf_111 : decode cX4_turnOf 111 = .ok (.iconst 1, 1) := by decide +kernel
theorem dX4_turnOf_112 : decode cX4_turnOf 112 = .ok (.goto 4, 3) := by decide +kernel
theorem dX4_turnOf_115 : decode cX4_turnOf 115 = .ok (.iconst 0, 1) := by decide +kernel
theorem dX4_turnOf_116 : decode cX4_turnOf 116 = .ok (.istore 6, 2) := by decide +kernel
theorem dX4_turnOf_118 : decode cX4_turnOf 118 = .ok (.aload_n 0, 1) := by decide +kernel
theorem dX4_turnOf_119 : decode cX4_turnOf 119 = .ok (.getfield 83, 3) := by decide +kernel
theorem dX4_turnOf_122 : decode cX4_turnOf 122 = .ok (.iload 4, 2) := by decide +kernel
theorem dX4_turnOf_124 : decode cX4_turnOf 124 = .ok (.baload, 1) := by decide +kernel
theorem dX4_turnOf_125 : decode cX4_turnOf 125 = .ok (.ifCond .ne 12, 3) := by decide +kernel
theorem dX4_turnOf_128 : decode cX4_turnOf 128 = .ok (.iload 6, 2) := by decide +kernel
theorem dX4_turnOf_130 : decode cX4_turnOf 130 = .ok (.ifCond .eq 7, 3) := by decide +kernel
theorem dX4_turnOf_133 : decode cX4_turnOf 133 = .ok (.iload_n 3, 1) := by decide +kernel
theorem dX4_turnOf_134 : decode cX4_turnOf 134 = .ok (.goto 4, 3) := by decide +kernel
theorem dX4_turnOf_137 : decode cX4_turnOf 137 = .ok (.iload_n 2, 1) := by decide +kernel
theorem dX4_turnOf_138 : decode cX4_turnOf 138 = .ok (.istore_n 2, 1) := by decide +kernel
theorem dX4_turnOf_139 : decode cX4_turnOf 139 = .ok (.iinc 3 1, 3) := by decide +kernel
theorem dX4_turnOf_142 : decode cX4_turnOf 142 = .ok (.goto (-138), 3) := by decide +kernel
theorem dX4_turnOf_145 : decode cX4_turnOf 145 = .ok (.iload_n 2, 1) := by decide +kernel
theorem dX4_turnOf_146 : decode cX4_turnOf 146 = .ok (.ireturn, 1) := by decide +kernel
theorem dX4_collects_0 : decode cX4_collects 0 = .ok (.aload_n 0, 1) := by decide +kernel
theorem dX4_collects_1 : decode cX4_collects 1 = .ok (.getfield 65, 3) := by decide +kernel
theorem dX4_collects_4 : decode cX4_collects 4 = .ok (.iload_n 2, 1) := by decide +kernel
theorem dX4_collects_5 : decode cX4_collects 5 = .ok (.iaload, 1) := by decide +kernel
theorem dX4_collects_6 : decode cX4_collects 6 = .ok (.istore 4, 2) := by decide +kernel
theorem dX4_collects_8 : decode cX4_collects 8 = .ok (.aload_n 0, 1) := by decide +kernel
theorem dX4_collects_9 : decode cX4_collects 9 = .ok (.getfield 44, 3) := by decide +kernel
theorem dX4_collects_12 : decode cX4_collects 12 = .ok (.iload_n 1, 1) := by decide +kernel
theorem dX4_collects_13 : decode cX4_collects 13 = .ok (.iaload, 1) := by decide +kernel
theorem dX4_collects_14 : decode cX4_collects 14 = .ok (.aload_n 0, 1) := by decide +kernel
theorem dX4_collects_15 : decode cX4_collects 15 = .ok (.getfield 68, 3) := by decide +kernel
theorem dX4_collects_18 : decode cX4_collects 18 = .ok (.iload_n 2, 1) := by decide +kernel
theorem dX4_collects_19 : decode cX4_collects 19 = .ok (.iaload, 1) := by decide +kernel
theorem dX4_collects_20 : decode cX4_collects 20 = .ok (.iadd, 1) := by decide +kernel
theorem dX4_collects_21 : decode cX4_collects 21 = .ok (.istore 5, 2) := by decide +kernel
theorem dX4_collects_23 : decode cX4_collects 23 = .ok (.iload 5, 2) := by decide +kernel
theorem dX4_collects_25 : decode cX4_collects 25 = .ok (.aload_n 0, 1) := by decide +kernel
theorem dX4_collects_26 : decode cX4_collects 26 = .ok (.getfield 16, 3) := by decide +kernel
theorem dX4_collects_29 : decode cX4_collects 29 = .ok (.iload 4, 2) := by decide +kernel
theorem dX4_collects_31 : decode cX4_collects 31 = .ok (.iaload, 1) := by decide +kernel
theorem dX4_collects_32 : decode cX4_collects 32 = .ok (.if_icmp .ge 8, 3) := by decide +kernel
theorem dX4_collects_35 : decode cX4_collects 35 = .ok (.iload 5, 2) := by decide +kernel
theorem dX4_collects_37 : decode cX4_collects 37 = .ok (.goto 10, 3) := by decide +kernel
theorem dX4_collects_40 : decode cX4_collects 40 = .ok (.aload_n 0, 1) := by decide +kernel
theorem dX4_collects_41 : decode cX4_collects 41 = .ok (.getfield 16, 3) := by decide +kernel
theorem dX4_collects_44 : decode cX4_collects 44 = .ok (.iload 4, 2) := by decide +kernel
theorem dX4_collects_46 : decode cX4_collects 46 = .ok (.iaload, 1) := by decide +kernel
theorem dX4_collects_47 : decode cX4_collects 47 = .ok (.istore 6, 2) := by decide +kernel
theorem dX4_collects_49 : decode cX4_collects 49 = .ok (.aload_n 0, 1) := by decide +kernel
theorem dX4_collects_50 : decode cX4_collects 50 = .ok (.iload 4, 2) := by decide +kernel
theorem dX4_collects_52 : decode cX4_collects 52 = .ok (.iload 6, 2) := by decide +kernel
theorem dX4_collects_54 : decode cX4_collects 54 = .ok (.invokevirtual 135, 3) := by decide +kernel
theorem dX4_collects_57 : decode cX4_collects 57 = .ok (.aload_n 0, 1) := by decide +kernel
theorem dX4_collects_58 : decode cX4_collects 58 = .ok (.getfield 50, 3) := by decide +kernel
theorem dX4_collects_61 : decode cX4_collects 61 = .ok (.iload_n 1, 1) := by decide +kernel
theorem dX4_collects_62 : decode cX4_collects 62 = .ok (.dup2, 1) := by decide +kernel
theorem dX4_collects_63 : decode cX4_collects 63 = .ok (.iaload, 1) := by decide +kernel
theorem dX4_collects_64 : decode cX4_collects 64 = .ok (.iload 6, 2) := by decide +kernel
theorem dX4_collects_66 : decode cX4_collects 66 = .ok (.iadd, 1) := by decide +kernel
theorem dX4_collects_67 : decode cX4_collects 67 = .ok (.iastore, 1) := by decide +kernel
theorem dX4_collects_68 : decode cX4_collects 68 = .ok (.aload_n 0, 1) := by decide +kernel
theorem dX4_collects_69 : decode cX4_collects 69 = .ok (.getfield 77, 3) := by decide +kernel
theorem dX4_collects_72 : decode cX4_collects 72 = .ok (.iload_n 2, 1) := by decide +kernel
theorem dX4_collects_73 : decode cX4_collects 73 = .ok (.dup2, 1) := by decide +kernel
theorem dX4_collects_74 : decode cX4_collects 74 = .ok (.iaload, 1) := by decide +kernel
theorem dX4_collects_75 : decode cX4_collects 75 = .ok (.iload 6, 2) := by decide +kernel
theorem dX4_collects_77 : decode cX4_collects 77 = .ok (.iadd, 1) := by decide +kernel
theorem dX4_collects_78 : decode cX4_collects 78 = .ok (.iastore, 1) := by decide +kernel
theorem dX4_collects_79 : decode cX4_collects 79 = .ok (.aload_n 0, 1) := by decide +kernel
theorem dX4_collects_80 : decode cX4_collects 80 = .ok (.getfield 68, 3) := by decide +kernel
theorem dX4_collects_83 : decode cX4_collects 83 = .ok (.iload_n 2, 1) := by decide +kernel
theorem dX4_collects_84 : decode cX4_collects 84 = .ok (.iload 5, 2) := by decide +kernel
theorem dX4_collects_86 : decode cX4_collects 86 = .ok (.iload 6, 2) := by decide +kernel
theorem dX4_collects_88 : decode cX4_collects 88 = .ok (.isub, 1) := by decide +kernel
theorem dX4_collects_89 : decode cX4_collects 89 = .ok (.iastore, 1) := by decide +kernel
theorem dX4_collects_90 : decode cX4_collects 90 = .ok (.aload_n 0, 1) := by decide +kernel
theorem dX4_collects_91 : decode cX4_collects 91 = .ok (.getfield 68, 3) := by decide +kernel
theorem dX4_collects_94 : decode cX4_collects 94 = .ok (.iload_n 2, 1) := by decide +kernel
theorem dX4_collects_95 : decode cX4_collects 95 = .ok (.dup2, 1) := by decide +kernel
theorem dX4_collects_96 : decode cX4_collects 96 = .ok (.iaload, 1) := by decide +kernel
theorem dX4_collects_97 : decode cX4_collects 97 = .ok (.aload_n 0, 1) := by decide +kernel
theorem dX4_collects_98 : decode cX4_collects 98 = .ok (.getfield 68, 3) := by decide +kernel
theorem dX4_collects_101 : decode cX4_collects 101 = .ok (.iload_n 2, 1) := by decide +kernel
theorem dX4_collects_102 : decode cX4_collects 102 = .ok (.iaload, 1) := by decide +kernel
theorem dX4_collects_103 : decode cX4_collects 103 = .ok (.ifCond .le 19, 3) := by decide +kernel
theorem dX4_collects_106 : decode cX4_collects 106 = .ok (.iload_n 3, 1) := by decide +kernel
theorem dX4_collects_107 : decode cX4_collects 107 = .ok (.ifCond .ne 15, 3) := by decide +kernel
theorem dX4_collects_110 : decode cX4_collects 110 = .ok (.aload_n 0, 1) := by decide +kernel
theorem dX4_collects_111 : decode cX4_collects 111 = .ok (.getfield 44, 3) := by decide +kernel
theorem dX4_collects_114 : decode cX4_collects 114 = .ok (.iload_n 1, 1) := by decide +kernel
theorem dX4_collects_115 : decode cX4_collects 115 = .ok (.iaload, 1) := by decide +kernel
theorem dX4_collects_116 : decode cX4_collects 116 = .ok (.bipush 10, 2) := by decide +kernel
theorem dX4_collects_118 : decode cX4_collects 118 = .ok (.idiv, 1) := by decide +kernel
theorem dX4_collects_119 : decode cX4_collects 119 = .ok (.goto 4, 3) := by decide +kernel
theorem dX4_collects_122 : decode cX4_collects 122 = .ok (.iconst 0, 1) := by decide +kernel
theorem dX4_collects_123 : decode cX4_collects 123 = .ok (.iadd, 1) := by decide +kernel
theorem dX4_collects_124 : decode cX4_collects 124 = .ok (.iastore, 1) := by decide +kernel
theorem dX4_collects_125 : decode cX4_collects 125 = .ok (.return_, 1) := by decide +kernel
theorem dX4_meet_0 : decode cX4_meet 0 = .ok (.aload_n 0, 1) := by decide +kernel
theorem dX4_meet_1 : decode cX4_meet 1 = .ok (.aload_n 0, 1) := by decide +kernel
theorem dX4_meet_2 : decode cX4_meet 2 = .ok (.iload_n 1, 1) := by decide +kernel
theorem dX4_meet_3 : decode cX4_meet 3 = .ok (.invokevirtual 129, 3) := by decide +kernel
theorem dX4_meet_6 : decode cX4_meet 6 = .ok (.ifCond .ne 7, 3) := by decide +kernel
theorem dX4_meet_9 : decode cX4_meet 9 = .ok (.iconst 1, 1) := by decide +kernel
theorem dX4_meet_10 : decode cX4_meet 10 = .ok (.goto 27, 3) := by decide +kernel
theorem dX4_meet_13 : decode cX4_meet 13 = .ok (.aload_n 0, 1) := by decide +kernel
theorem dX4_meet_14 : decode cX4_meet 14 = .ok (.getfield 62, 3) := by decide +kernel
theorem dX4_meet_17 : decode cX4_meet 17 = .ok (.iload_n 1, 1) := by decide +kernel
theorem dX4_meet_18 : decode cX4_meet 18 = .ok (.baload, 1) := by decide +kernel
theorem dX4_meet_19 : decode cX4_meet 19 = .ok (.ifCond .eq 13, 3) := by decide +kernel
theorem dX4_meet_22 : decode cX4_meet 22 = .ok (.aload_n 0, 1) := by decide +kernel
theorem dX4_meet_23 : decode cX4_meet 23 = .ok (.getfield 53, 3) := by decide +kernel
theorem dX4_meet_26 : decode cX4_meet 26 = .ok (.iload_n 1, 1) := by decide +kernel
theorem dX4_meet_27 : decode cX4_meet 27 = .ok (.iaload, 1) := by decide +kernel
theorem dX4_meet_28 : decode cX4_meet 28 = .ok (.iconst 2, 1) := by decide +kernel
theorem dX4_meet_29 : decode cX4_meet 29 = .ok (.if_icmp .ge 7, 3) := by decide +kernel
theorem dX4_meet_32 : decode cX4_meet 32 = .ok (.iconst 2, 1) := by decide +kernel
theorem dX4_meet_33 : decode cX4_meet 33 = .ok (.goto 4, 3) := by decide +kernel
theorem dX4_meet_36 : decode cX4_meet 36 = .ok (.iconst 0, 1) := by decide +kernel
theorem dX4_meet_37 : decode cX4_meet 37 = .ok (.putfield 89, 3) := by decide +kernel
theorem dX4_meet_40 : decode cX4_meet 40 = .ok (.aload_n 0, 1) := by decide +kernel
theorem dX4_meet_41 : decode cX4_meet 41 = .ok (.getfield 89, 3) := by decide +kernel
theorem dX4_meet_44 : decode cX4_meet 44 = .ok (.ifCond .eq 5, 3) := by decide +kernel
theorem dX4_meet_47 : decode cX4_meet 47 = .ok (.iconst 0, 1) := by decide +kernel
theorem dX4_meet_48 : decode cX4_meet 48 = .ok (.ireturn, 1) := by decide +kernel
theorem dX4_meet_49 : decode cX4_meet 49 = .ok (.iconst 0, 1) := by decide +kernel
theorem dX4_meet_50 : decode cX4_meet 50 = .ok (.istore_n 3, 1) := by decide +kernel
theorem dX4_meet_51 : decode cX4_meet 51 = .ok (.iload_n 3, 1) := by decide +kernel
theorem dX4_meet_52 : decode cX4_meet 52 = .ok (.aload_n 0, 1) := by decide +kernel
theorem dX4_meet_53 : decode cX4_meet 53 = .ok (.getfield 53, 3) := by decide +kernel
theorem dX4_meet_56 : decode cX4_meet 56 = .ok (.iload_n 1, 1) := by decide +kernel
theorem dX4_meet_57 : decode cX4_meet 57 = .ok (.iaload, 1) := by decide +kernel
theorem dX4_meet_58 : decode cX4_meet 58 = .ok (.if_icmp .ge 21, 3) := by decide +kernel
theorem dX4_meet_61 : decode cX4_meet 61 = .ok (.aload_n 0, 1) := by decide +kernel
theorem dX4_meet_62 : decode cX4_meet 62 = .ok (.iload_n 1, 1) := by decide +kernel
theorem dX4_meet_63 : decode cX4_meet 63 = .ok (.bipush 10, 2) := by decide +kernel
theorem dX4_meet_65 : decode cX4_meet 65 = .ok (.iload_n 1, 1) := by decide +kernel
theorem dX4_meet_66 : decode cX4_meet 66 = .ok (.imul, 1) := by decide +kernel
theorem dX4_meet_67 : decode cX4_meet 67 = .ok (.iload_n 3, 1) := by decide +kernel
theorem dX4_meet_68 : decode cX4_meet 68 = .ok (.iadd, 1) := by decide +kernel
theorem dX4_meet_69 : decode cX4_meet 69 = .ok (.iload_n 2, 1) := by decide +kernel
theorem dX4_meet_70 : decode cX4_meet 70 = .ok (.invokevirtual 138, 3) := by decide +kernel
theorem dX4_meet_73 : decode cX4_meet 73 = .ok (.iinc 3 1, 3) := by decide +kernel
theorem dX4_meet_76 : decode cX4_meet 76 = .ok (.goto (-25), 3) := by decide +kernel
theorem dX4_meet_79 : decode cX4_meet 79 = .ok (.aload_n 0, 1) := by decide +kernel
theorem dX4_meet_80 : decode cX4_meet 80 = .ok (.iload_n 1, 1) := by decide +kernel
theorem dX4_meet_81 : decode cX4_meet 81 = .ok (.invokevirtual 142, 3) := by decide +kernel
theorem dX4_meet_84 : decode cX4_meet 84 = .ok (.istore_n 3, 1) := by decide +kernel
theorem dX4_meet_85 : decode cX4_meet 85 = .ok (.aload_n 0, 1) := by decide +kernel
theorem dX4_meet_86 : decode cX4_meet 86 = .ok (.getfield 65, 3) := by decide +kernel
theorem dX4_meet_89 : decode cX4_meet 89 = .ok (.bipush 10, 2) := by decide +kernel
theorem dX4_meet_91 : decode cX4_meet 91 = .ok (.iload_n 1, 1) := by decide +kernel
theorem dX4_meet_92 : decode cX4_meet 92 = .ok (.imul, 1) := by decide +kernel
theorem dX4_meet_93 : decode cX4_meet 93 = .ok (.iload_n 3, 1) := by decide +kernel
theorem dX4_meet_94 : decode cX4_meet 94 = .ok (.iadd, 1) := by decide +kernel
theorem dX4_meet_95 : decode cX4_meet 95 = .ok (.iaload, 1) := by decide +kernel
theorem dX4_meet_96 : decode cX4_meet 96 = .ok (.istore 4, 2) := by decide +kernel
theorem dX4_meet_98 : decode cX4_meet 98 = .ok (.aload_n 0, 1) := by decide +kernel
theorem dX4_meet_99 : decode cX4_meet 99 = .ok (.getfield 50, 3) := by decide +kernel
theorem dX4_meet_102 : decode cX4_meet 102 = .ok (.iload_n 1, 1) := by decide +kernel
theorem dX4_meet_103 : decode cX4_meet 103 = .ok (.iaload, 1) := by decide +kernel
theorem dX4_meet_104 : decode cX4_meet 104 = .ok (.aload_n 0, 1) := by decide +kernel
theorem dX4_meet_105 : decode cX4_meet 105 = .ok (.getfield 44, 3) := by decide +kernel
theorem dX4_meet_108 : decode cX4_meet 108 = .ok (.iload_n 1, 1) := by decide +kernel
theorem dX4_meet_109 : decode cX4_meet 109 = .ok (.iaload, 1) := by decide +kernel
theorem dX4_meet_110 : decode cX4_meet 110 = .ok (.aload_n 0, 1) := by decide +kernel
theorem dX4_meet_111 : decode cX4_meet 111 = .ok (.getfield 53, 3) := by decide +kernel
theorem dX4_meet_114 : decode cX4_meet 114 = .ok (.iload_n 1, 1) := by decide +kernel
theorem dX4_meet_115 : decode cX4_meet 115 = .ok (.iaload, 1) := by decide +kernel
theorem dX4_meet_116 : decode cX4_meet 116 = .ok (.imul, 1) := by decide +kernel
theorem dX4_meet_117 : decode cX4_meet 117 = .ok (.if_icmp .ge 12, 3) := by decide +kernel
theorem dX4_meet_120 : decode cX4_meet 120 = .ok (.aload_n 0, 1) := by decide +kernel
theorem dX4_meet_121 : decode cX4_meet 121 = .ok (.getfield 50, 3) := by decide +kernel
theorem dX4_meet_124 : decode cX4_meet 124 = .ok (.iload_n 1, 1) := by decide +kernel
theorem dX4_meet_125 : decode cX4_meet 125 = .ok (.iaload, 1) := by decide +kernel
theorem dX4_meet_126 : decode cX4_meet 126 = .ok (.goto 16, 3) := by decide +kernel
theorem dX4_meet_129 : decode cX4_meet 129 = .ok (.aload_n 0, 1) := by decide +kernel
theorem dX4_meet_130 : decode cX4_meet 130 = .ok (.getfield 44, 3) := by decide +kernel
theorem dX4_meet_133 : decode cX4_meet 133 = .ok (.iload_n 1, 1) := by decide +kernel
theorem dX4_meet_134 : decode cX4_meet 134 = .ok (.iaload, 1) := by decide +kernel
theorem dX4_meet_135 : decode cX4_meet 135 = .ok (.aload_n 0, 1) := by decide +kernel
theorem dX4_meet_136 : decode cX4_meet 136 = .ok (.getfield 53, 3) := by decide +kernel
theorem dX4_meet_139 : decode cX4_meet 139 = .ok (.iload_n 1, 1) := by decide +kernel
theorem dX4_meet_140 : decode cX4_meet 140 = .ok (.iaload, 1) := by decide +kernel
theorem dX4_meet_141 : decode cX4_meet 141 = .ok (.imul, 1) := by decide +kernel
theorem dX4_meet_142 : decode cX4_meet 142 = .ok (.istore 5, 2) := by decide +kernel
theorem dX4_meet_144 : decode cX4_meet 144 = .ok (.aload_n 0, 1) := by decide +kernel
theorem dX4_meet_145 : decode cX4_meet 145 = .ok (.getfield 47, 3) := by decide +kernel
theorem dX4_meet_148 : decode cX4_meet 148 = .ok (.iload_n 1, 1) := by decide +kernel
theorem dX4_meet_149 : decode cX4_meet 149 = .ok (.iaload, 1) := by decide +kernel
theorem dX4_meet_150 : decode cX4_meet 150 = .ok (.iconst 3, 1) := by decide +kernel
theorem dX4_meet_151 : decode cX4_meet 151 = .ok (.if_icmp .ne 17, 3) := by decide +kernel
theorem dX4_meet_154 : decode cX4_meet 154 = .ok (.aload_n 0, 1) := by decide +kernel
theorem dX4_meet_155 : decode cX4_meet 155 = .ok (.getfield 74, 3) := by decide +kernel
theorem dX4_meet_158 : decode cX4_meet 158 = .ok (.bipush 10, 2) := by decide +kernel
theorem dX4_meet_160 : decode cX4_meet 160 = .ok (.iload_n 1, 1) := by decide +kernel
theorem dX4_meet_161 : decode cX4_meet 161 = .ok (.imul, 1) := by decide +kernel
theorem dX4_meet_162 : decode cX4_meet 162 = .ok (.iload_n 3, 1) := by decide +kernel
theorem dX4_meet_163 : decode cX4_meet 163 = .ok (.iadd, 1) := by decide +kernel
theorem dX4_meet_164 : decode cX4_meet 164 = .ok (.iaload, 1) := by decide +kernel
theorem dX4_meet_165 : decode cX4_meet 165 = .ok (.goto 4, 3) := by decide +kernel
theorem dX4_meet_168 : decode cX4_meet 168 = .ok (.iconst 0, 1) := by decide +kernel
theorem dX4_meet_169 : decode cX4_meet 169 = .ok (.istore 6, 2) := by decide +kernel
theorem dX4_meet_171 : decode cX4_meet 171 = .ok (.iload 6, 2) := by decide +kernel
theorem dX4_meet_173 : decode cX4_meet 173 = .ok (.iload 5, 2) := by decide +kernel
theorem dX4_meet_175 : decode cX4_meet 175 = .ok (.iconst 2, 1) := by decide +kernel
theorem dX4_meet_176 : decode cX4_meet 176 = .ok (.idiv, 1) := by decide +kernel
theorem dX4_meet_177 : decode cX4_meet 177 = .ok (.if_icmp .ge 8, 3) := by decide +kernel
theorem dX4_meet_180 : decode cX4_meet 180 = .ok (.iload 6, 2) := by decide +kernel
theorem dX4_meet_182 : decode cX4_meet 182 = .ok (.goto 7, 3) := by decide +kernel
theorem dX4_meet_185 : decode cX4_meet 185 = .ok (.iload 5, 2) := by decide +kernel
theorem dX4_meet_187 : decode cX4_meet 187 = .ok (.iconst 2, 1) := by decide +kernel
theorem dX4_meet_188 : decode cX4_meet 188 = .ok (.idiv, 1) := by decide +kernel
theorem dX4_meet_189 : decode cX4_meet 189 = .ok (.istore 7, 2) := by decide +kernel
theorem dX4_meet_191 : decode cX4_meet 191 = .ok (.iload 7, 2) := by decide +kernel
theorem dX4_meet_193 : decode cX4_meet 193 = .ok (.aload_n 0, 1) := by decide +kernel
theorem dX4_meet_194 : decode cX4_meet 194 = .ok (.getfield 53, 3) := by decide +kernel
theorem dX4_meet_197 : decode cX4_meet 197 = .ok (.iload_n 1, 1) := by decide +kernel
theorem dX4_meet_198 : decode cX4_meet 198 = .ok (.iaload, 1) := by decide +kernel
theorem dX4_meet_199 : decode cX4_meet 199 = .ok (.iconst 1, 1) := by decide +kernel
theorem dX4_meet_200 : decode cX4_meet 200 = .ok (.isub, 1) := by decide +kernel
theorem dX4_meet_201 : decode cX4_meet 201 = .ok (.idiv, 1) := by decide +kernel
theorem dX4_meet_202 : decode cX4_meet 202 = .ok (.istore 8, 2) := by decide +kernel
theorem dX4_meet_204 : decode cX4_meet 204 = .ok (.iconst 0, 1) := by decide +kernel
theorem dX4_meet_205 : decode cX4_meet 205 = .ok (.istore 9, 2) := by decide +kernel
theorem dX4_meet_207 : decode cX4_meet 207 = .ok (.iload 9, 2) := by decide +kernel
theorem dX4_meet_209 : decode cX4_meet 209 = .ok (.aload_n 0, 1) := by decide +kernel
theorem dX4_meet_210 : decode cX4_meet 210 = .ok (.getfield 53, 3) := by decide +kernel
theorem dX4_meet_213 : decode cX4_meet 213 = .ok (.iload_n 1, 1) := by decide +kernel
theorem dX4_meet_214 : decode cX4_meet 214 = .ok (.iaload, 1) := by decide +kernel
theorem dX4_meet_215 : decode cX4_meet 215 = .ok (.if_icmp .ge 70, 3) := by decide +kernel
theorem dX4_meet_218 : decode cX4_meet 218 = .ok (.iload 9, 2) := by decide +kernel
theorem dX4_meet_220 : decode cX4_meet 220 = .ok (.iload_n 3, 1) := by decide +kernel
theorem dX4_meet_221 : decode cX4_meet 221 = .ok (.if_icmp .ne 11, 3) := by decide +kernel
theorem dX4_meet_224 : decode cX4_meet 224 = .ok (.iload 5, 2) := by decide +kernel
theorem dX4_meet_226 : decode cX4_meet 226 = .ok (.iload 7, 2) := by decide +kernel
theorem dX4_meet_228 : decode cX4_meet 228 = .ok (.isub, 1) := by decide +kernel
theorem dX4_meet_229 : decode cX4_meet 229 = .ok (.goto 5, 3) := by decide +kernel
theorem dX4_meet_232 : decode cX4_meet 232 = .ok (.iload 8, 2) := by decide +kernel
theorem dX4_meet_234 : decode cX4_meet 234 = .ok (.istore 10, 2) := by decide +kernel
theorem dX4_meet_236 : decode cX4_meet 236 = .ok (.aload_n 0, 1) := by decide +kernel
theorem dX4_meet_237 : decode cX4_meet 237 = .ok (.aload_n 0, 1) := by decide +kernel
theorem dX4_meet_238 : decode cX4_meet 238 = .ok (.getfield 65, 3) := by decide +kernel
theorem dX4_meet_241 : decode cX4_meet 241 = .ok (.bipush 10, 2) := by decide +kernel
theorem dX4_meet_243 : decode cX4_meet 243 = .ok (.iload_n 1, 1) := by decide +kernel
theorem dX4_meet_244 : decode cX4_meet 244 = .ok (.imul, 1) := by decide +kernel
theorem dX4_meet_245 : decode cX4_meet 245 = .ok (.iload 9, 2) := by decide +kernel
theorem dX4_meet_247 : decode cX4_meet 247 = .ok (.iadd, 1) := by decide +kernel
theorem dX4_meet_248 : decode cX4_meet 248 = .ok (.iaload, 1) := by decide +kernel
theorem dX4_meet_249 : decode cX4_meet 249 = .ok (.iload 10, 2) := by decide +kernel
theorem dX4_meet_251 : decode cX4_meet 251 = .ok (.ineg, 1) := by decide +kernel
theorem dX4_meet_252 : decode cX4_meet 252 = .ok (.invokevirtual 135, 3) := by decide +kernel
theorem dX4_meet_255 : decode cX4_meet 255 = .ok (.aload_n 0, 1) := by decide +kernel
theorem dX4_meet_256 : decode cX4_meet 256 = .ok (.getfield 50, 3) := by decide +kernel
theorem dX4_meet_259 : decode cX4_meet 259 = .ok (.iload_n 1, 1) := by decide +kernel
theorem dX4_meet_260 : decode cX4_meet 260 = .ok (.dup2, 1) := by decide +kernel
theorem dX4_meet_261 : decode cX4_meet 261 = .ok (.iaload, 1) := by decide +kernel
theorem dX4_meet_262 : decode cX4_meet 262 = .ok (.iload 10, 2) := by decide +kernel
theorem dX4_meet_264 : decode cX4_meet 264 = .ok (.isub, 1) := by decide +kernel
theorem dX4_meet_265 : decode cX4_meet 265 = .ok (.iastore, 1) := by decide +kernel
theorem dX4_meet_266 : decode cX4_meet 266 = .ok (.aload_n 0, 1) := by decide +kernel
theorem dX4_meet_267 : decode cX4_meet 267 = .ok (.getfield 74, 3) := by decide +kernel
theorem dX4_meet_270 : decode cX4_meet 270 = .ok (.bipush 10, 2) := by decide +kernel
theorem dX4_meet_272 : decode cX4_meet 272 = .ok (.iload_n 1, 1) := by decide +kernel
theorem dX4_meet_273 : decode cX4_meet 273 = .ok (.imul, 1) := by decide +kernel
theorem dX4_meet_274 : decode cX4_meet 274 = .ok (.iload 9, 2) := by decide +kernel
theorem dX4_meet_276 : decode cX4_meet 276 = .ok (.iadd, 1) := by decide +kernel
theorem dX4_meet_277 : decode cX4_meet 277 = .ok (.iconst 0, 1) := by decide +kernel
theorem dX4_meet_278 : decode cX4_meet 278 = .ok (.iastore, 1) := by decide +kernel
theorem dX4_meet_279 : decode cX4_meet 279 = .ok (.iinc 9 1, 3) := by decide +kernel
theorem dX4_meet_282 : decode cX4_meet 282 = .ok (.goto (-75), 3) := by decide +kernel
theorem dX4_meet_285 : decode cX4_meet 285 = .ok (.aload_n 0, 1) := by decide +kernel
theorem dX4_meet_286 : decode cX4_meet 286 = .ok (.getfield 83, 3) := by decide +kernel
theorem dX4_meet_289 : decode cX4_meet 289 = .ok (.bipush 10, 2) := by decide +kernel
theorem dX4_meet_291 : decode cX4_meet 291 = .ok (.iload_n 1, 1) := by decide +kernel
theorem dX4_meet_292 : decode cX4_meet 292 = .ok (.imul, 1) := by decide +kernel
theorem dX4_meet_293 : decode cX4_meet 293 = .ok (.iload_n 3, 1) := by decide +kernel
theorem dX4_meet_294 : decode cX4_meet 294 = .ok (.iadd, 1) := by decide +kernel
theorem dX4_meet_295 : decode cX4_meet 295 = .ok (.iconst 1, 1) := by decide +kernel
theorem dX4_meet_296 : decode cX4_meet 296 = .ok (.bastore, 1) := by decide +kernel
theorem dX4_meet_297 : decode cX4_meet 297 = .ok (.aload_n 0, 1) := by decide +kernel
theorem dX4_meet_298 : decode cX4_meet 298 = .ok (.getfield 56, 3) := by decide +kernel
theorem dX4_meet_301 : decode cX4_meet 301 = .ok (.iload_n 1, 1) := by decide +kernel
theorem dX4_meet_302 : decode cX4_meet 302 = .ok (.dup2, 1) := by decide +kernel
theorem dX4_meet_303 : decode cX4_meet 303 = .ok (.iaload, 1) := by decide +kernel
theorem dX4_meet_304 : decode cX4_meet 304 = .ok (.iconst 1, 1) := by decide +kernel
theorem dX4_meet_305 : decode cX4_meet 305 = .ok (.iadd, 1) := by decide +kernel
theorem dX4_meet_306 : decode cX4_meet 306 = .ok (.iastore, 1) := by decide +kernel
theorem dX4_meet_307 : decode cX4_meet 307 = .ok (.aload_n 0, 1) := by decide +kernel
theorem dX4_meet_308 : decode cX4_meet 308 = .ok (.iload_n 1, 1) := by decide +kernel
theorem dX4_meet_309 : decode cX4_meet 309 = .ok (.invokevirtual 116, 3) := by decide +kernel
theorem dX4_meet_312 : decode cX4_meet 312 = .ok (.iload 4, 2) := by decide +kernel
theorem dX4_meet_314 : decode cX4_meet 314 = .ok (.ireturn, 1) := by decide +kernel
theorem dX4_leave_0 : decode cX4_leave 0 = .ok (.aload_n 0, 1) := by decide +kernel
theorem dX4_leave_1 : decode cX4_leave 1 = .ok (.aload_n 0, 1) := by decide +kernel
theorem dX4_leave_2 : decode cX4_leave 2 = .ok (.iload_n 1, 1) := by decide +kernel
theorem dX4_leave_3 : decode cX4_leave 3 = .ok (.invokevirtual 129, 3) := by decide +kernel
theorem dX4_leave_6 : decode cX4_leave 6 = .ok (.ifCond .eq 11, 3) := by decide +kernel
theorem dX4_leave_9 : decode cX4_leave 9 = .ok (.aload_n 0, 1) := by decide +kernel
theorem dX4_leave_10 : decode cX4_leave 10 = .ok (.iload_n 2, 1) := by decide +kernel
theorem dX4_leave_11 : decode cX4_leave 11 = .ok (.invokevirtual 104, 3) := by decide +kernel
theorem dX4_leave_14 : decode cX4_leave 14 = .ok (.ifCond .ne 7, 3) := by decide +kernel
theorem dX4_leave_17 : decode cX4_leave 17 = .ok (.iconst 1, 1) := by decide +kernel
theorem dX4_leave_18 : decode cX4_leave 18 = .ok (.goto 4, 3) := by decide +kernel
theorem dX4_leave_21 : decode cX4_leave 21 = .ok (.iconst 0, 1) := by decide +kernel
theorem dX4_leave_22 : decode cX4_leave 22 = .ok (.putfield 89, 3) := by decide +kernel
theorem dX4_leave_25 : decode cX4_leave 25 = .ok (.aload_n 0, 1) := by decide +kernel
theorem dX4_leave_26 : decode cX4_leave 26 = .ok (.getfield 89, 3) := by decide +kernel
theorem dX4_leave_29 : decode cX4_leave 29 = .ok (.ifCond .eq 5, 3) := by decide +kernel
theorem dX4_leave_32 : decode cX4_leave 32 = .ok (.iconst 0, 1) := by decide +kernel
theorem dX4_leave_33 : decode cX4_leave 33 = .ok (.ireturn, 1) := by decide +kernel
theorem dX4_leave_34 : decode cX4_leave 34 = .ok (.aload_n 0, 1) := by decide +kernel
theorem dX4_leave_35 : decode cX4_leave 35 = .ok (.iload_n 1, 1) := by decide +kernel
theorem dX4_leave_36 : decode cX4_leave 36 = .ok (.iload_n 2, 1) := by decide +kernel
theorem dX4_leave_37 : decode cX4_leave 37 = .ok (.invokevirtual 122, 3) := by decide +kernel
theorem dX4_leave_40 : decode cX4_leave 40 = .ok (.istore_n 3, 1) := by decide +kernel
theorem dX4_leave_41 : decode cX4_leave 41 = .ok (.aload_n 0, 1) := by decide +kernel
theorem dX4_leave_42 : decode cX4_leave 42 = .ok (.iload_n 3, 1) := by decide +kernel
theorem dX4_leave_43 : decode cX4_leave 43 = .ok (.ifCond .lt 31, 3) := by decide +kernel
theorem dX4_leave_46 : decode cX4_leave 46 = .ok (.aload_n 0, 1) := by decide +kernel
theorem dX4_leave_47 : decode cX4_leave 47 = .ok (.getfield 83, 3) := by decide +kernel
theorem dX4_leave_50 : decode cX4_leave 50 = .ok (.bipush 10, 2) := by decide +kernel
theorem dX4_leave_52 : decode cX4_leave 52 = .ok (.iload_n 1, 1) := by decide +kernel
theorem dX4_leave_53 : decode cX4_leave 53 = .ok (.imul, 1) := by decide +kernel
theorem dX4_leave_54 : decode cX4_leave 54 = .ok (.iload_n 3, 1) := by decide +kernel
theorem dX4_leave_55 : decode cX4_leave 55 = .ok (.iadd, 1) := by decide +kernel
theorem dX4_leave_56 : decode cX4_leave 56 = .ok (.baload, 1) := by decide +kernel
theorem dX4_leave_57 : decode cX4_leave 57 = .ok (.ifCond .ne 17, 3) := by decide +kernel
theorem dX4_leave_60 : decode cX4_leave 60 = .ok (.aload_n 0, 1) := by decide +kernel
theorem dX4_leave_61 : decode cX4_leave 61 = .ok (.getfield 68, 3) := by decide +kernel
theorem dX4_leave_64 : decode cX4_leave 64 = .ok (.bipush 10, 2) := by decide +kernel
theorem dX4_leave_66 : decode cX4_leave 66 = .ok (.iload_n 1, 1) := by decide +kernel
theorem dX4_leave_67 : decode cX4_leave 67 = .ok (.imul, 1) := by decide +kernel
theorem dX4_leave_68 : decode cX4_leave 68 = .ok (.iload_n 3, 1) := by decide +kernel
theorem dX4_leave_69 : decode cX4_leave 69 = .ok (.iadd, 1) := by decide +kernel
theorem dX4_leave_70 : decode cX4_leave 70 = .ok (.iaload, 1) := by decide +kernel
theorem dX4_leave_71 : decode cX4_leave 71 = .ok (.ifCond .le 7, 3) := by decide +kernel
theorem dX4_leave_74 : decode cX4_leave 74 = .ok (.iconst 2, 1) := by decide +kernel
theorem dX4_leave_75 : decode cX4_leave 75 = .ok (.goto 4, 3) := by decide +kernel
theorem dX4_leave_78 : decode cX4_leave 78 = .ok (.iconst 0, 1) := by decide +kernel
theorem dX4_leave_79 : decode cX4_leave 79 = .ok (.putfield 89, 3) := by decide +kernel
theorem dX4_leave_82 : decode cX4_leave 82 = .ok (.aload_n 0, 1) := by decide +kernel
theorem dX4_leave_83 : decode cX4_leave 83 = .ok (.getfield 89, 3) := by decide +kernel
theorem dX4_leave_86 : decode cX4_leave 86 = .ok (.ifCond .eq 5, 3) := by decide +kernel
theorem dX4_leave_89 : decode cX4_leave 89 = .ok (.iconst 0, 1) := by decide +kernel
theorem dX4_leave_90 : decode cX4_leave 90 = .ok (.ireturn, 1) := by decide +kernel
theorem dX4_leave_91 : decode cX4_leave 91 = .ok (.aload_n 0, 1) := by decide +kernel
theorem dX4_leave_92 : decode cX4_leave 92 = .ok (.getfield 77, 3) := by decide +kernel
theorem dX4_leave_95 : decode cX4_leave 95 = .ok (.bipush 10, 2) := by decide +kernel
theorem dX4_leave_97 : decode cX4_leave 97 = .ok (.iload_n 1, 1) := by decide +kernel
theorem dX4_leave_98 : decode cX4_leave 98 = .ok (.imul, 1) := by decide +kernel
theorem dX4_leave_99 : decode cX4_leave 99 = .ok (.iload_n 3, 1) := by decide +kernel
theorem dX4_leave_100 : decode cX4_leave 100 = .ok (.iadd, 1) := by decide +kernel
theorem dX4_leave_101 : decode cX4_leave 101 = .ok (.iaload, 1) := by decide +kernel
theorem dX4_leave_102 : decode cX4_leave 102 = .ok (.istore 4, 2) := by decide +kernel
theorem dX4_leave_104 : decode cX4_leave 104 = .ok (.iload 4, 2) := by decide +kernel
theorem dX4_leave_106 : decode cX4_leave 106 = .ok (.aload_n 0, 1) := by decide +kernel
theorem dX4_leave_107 : decode cX4_leave 107 = .ok (.getfield 50, 3) := by decide +kernel
theorem dX4_leave_110 : decode cX4_leave 110 = .ok (.iload_n 1, 1) := by decide +kernel
theorem dX4_leave_111 : decode cX4_leave 111 = .ok (.iaload, 1) := by decide +kernel
theorem dX4_leave_112 : decode cX4_leave 112 = .ok (.if_icmp .ge 8, 3) := by decide +kernel
theorem dX4_leave_115 : decode cX4_leave 115 = .ok (.iload 4, 2) := by decide +kernel
theorem dX4_leave_117 : decode cX4_leave 117 = .ok (.goto 9, 3) := by decide +kernel
theorem dX4_leave_120 : decode cX4_leave 120 = .ok (.aload_n 0, 1) := by decide +kernel
theorem dX4_leave_121 : decode cX4_leave 121 = .ok (.getfield 50, 3) := by decide +kernel
theorem dX4_leave_124 : decode cX4_leave 124 = .ok (.iload_n 1, 1) := by decide +kernel
theorem dX4_leave_125 : decode cX4_leave 125 = .ok (.iaload, 1) := by decide +kernel
theorem dX4_leave_126 : decode cX4_leave 126 = .ok (.istore 5, 2) := by decide +kernel
theorem dX4_leave_128 : decode cX4_leave 128 = .ok (.aload_n 0, 1) := by decide +kernel
theorem dX4_leave_129 : decode cX4_leave 129 = .ok (.getfield 50, 3) := by decide +kernel
theorem dX4_leave_132 : decode cX4_leave 132 = .ok (.iload_n 1, 1) := by decide +kernel
theorem dX4_leave_133 : decode cX4_leave 133 = .ok (.dup2, 1) := by decide +kernel
theorem dX4_leave_134 : decode cX4_leave 134 = .ok (.iaload, 1) := by decide +kernel
theorem dX4_leave_135 : decode cX4_leave 135 = .ok (.iload 5, 2) := by decide +kernel
theorem dX4_leave_137 : decode cX4_leave 137 = .ok (.isub, 1) := by decide +kernel
theorem dX4_leave_138 : decode cX4_leave 138 = .ok (.iastore, 1) := by decide +kernel
theorem dX4_leave_139 : decode cX4_leave 139 = .ok (.aload_n 0, 1) := by decide +kernel
theorem dX4_leave_140 : decode cX4_leave 140 = .ok (.iload_n 2, 1) := by decide +kernel
theorem dX4_leave_141 : decode cX4_leave 141 = .ok (.iload 5, 2) := by decide +kernel
theorem dX4_leave_143 : decode cX4_leave 143 = .ok (.ineg, 1) := by decide +kernel
theorem dX4_leave_144 : decode cX4_leave 144 = .ok (.invokevirtual 135, 3) := by decide +kernel
theorem dX4_leave_147 : decode cX4_leave 147 = .ok (.aload_n 0, 1) := by decide +kernel
theorem dX4_leave_148 : decode cX4_leave 148 = .ok (.iload_n 1, 1) := by decide +kernel
theorem dX4_leave_149 : decode cX4_leave 149 = .ok (.iload_n 3, 1) := by decide +kernel
theorem dX4_leave_150 : decode cX4_leave 150 = .ok (.invokevirtual 126, 3) := by decide +kernel
theorem dX4_leave_153 : decode cX4_leave 153 = .ok (.iload 5, 2) := by decide +kernel
theorem dX4_leave_155 : decode cX4_leave 155 = .ok (.ireturn, 1) := by decide +kernel
theorem dX4_buy_0 : decode cX4_buy 0 = .ok (.aload_n 0, 1) := by decide +kernel
theorem dX4_buy_1 : decode cX4_buy 1 = .ok (.iload_n 1, 1) := by decide +kernel
theorem dX4_buy_2 : decode cX4_buy 2 = .ok (.invokevirtual 104, 3) := by decide +kernel
theorem dX4_buy_5 : decode cX4_buy 5 = .ok (.ifCond .ne 10, 3) := by decide +kernel
theorem dX4_buy_8 : decode cX4_buy 8 = .ok (.aload_n 0, 1) := by decide +kernel
theorem dX4_buy_9 : decode cX4_buy 9 = .ok (.iconst 1, 1) := by decide +kernel
theorem dX4_buy_10 : decode cX4_buy 10 = .ok (.putfield 89, 3) := by decide +kernel
theorem dX4_buy_13 : decode cX4_buy 13 = .ok (.iconst 0, 1) := by decide +kernel
theorem dX4_buy_14 : decode cX4_buy 14 = .ok (.ireturn, 1) := by decide +kernel
theorem dX4_buy_15 : decode cX4_buy 15 = .ok (.aload_n 0, 1) := by decide +kernel
theorem dX4_buy_16 : decode cX4_buy 16 = .ok (.iload_n 2, 1) := by decide +kernel
theorem dX4_buy_17 : decode cX4_buy 17 = .ok (.iconst 1, 1) := by decide +kernel
theorem dX4_buy_18 : decode cX4_buy 18 = .ok (.bipush 100, 2) := by decide +kernel
theorem dX4_buy_20 : decode cX4_buy 20 = .ok (.invokestatic 96, 3) := by decide +kernel
theorem dX4_buy_23 : decode cX4_buy 23 = .ok (.ifCond .ne 7, 3) := by decide +kernel
theorem dX4_buy_26 : decode cX4_buy 26 = .ok (.iconst 2, 1) := by decide +kernel
theorem dX4_buy_27 : decode cX4_buy 27 = .ok (.goto 43, 3) := by decide +kernel
theorem dX4_buy_30 : decode cX4_buy 30 = .ok (.aload_n 0, 1) := by decide +kernel
theorem dX4_buy_31 : decode cX4_buy 31 = .ok (.getfield 40, 3) := by decide +kernel
theorem dX4_buy_34 : decode cX4_buy 34 = .ok (.iload_n 1, 1) := by decide +kernel
theorem dX4_buy_35 : decode cX4_buy 35 = .ok (.baload, 1) := by decide +kernel
theorem dX4_buy_36 : decode cX4_buy 36 = .ok (.ifCond .ne 29, 3) := by decide +kernel
theorem dX4_buy_39 : decode cX4_buy 39 = .ok (.aload_n 0, 1) := by decide +kernel
theorem dX4_buy_40 : decode cX4_buy 40 = .ok (.getfield 19, 3) := by decide +kernel
theorem dX4_buy_43 : decode cX4_buy 43 = .ok (.iload_n 1, 1) := by decide +kernel
theorem dX4_buy_44 : decode cX4_buy 44 = .ok (.iaload, 1) := by decide +kernel
theorem dX4_buy_45 : decode cX4_buy 45 = .ok (.iload_n 2, 1) := by decide +kernel
theorem dX4_buy_46 : decode cX4_buy 46 = .ok (.iadd, 1) := by decide +kernel
theorem dX4_buy_47 : decode cX4_buy 47 = .ok (.bipush 100, 2) := by decide +kernel
theorem dX4_buy_49 : decode cX4_buy 49 = .ok (.if_icmp .gt 16, 3) := by decide +kernel
theorem dX4_buy_52 : decode cX4_buy 52 = .ok (.aload_n 0, 1) := by decide +kernel
theorem dX4_buy_53 : decode cX4_buy 53 = .ok (.getfield 16, 3) := by decide +kernel
theorem dX4_buy_56 : decode cX4_buy 56 = .ok (.iload_n 1, 1) := by decide +kernel
theorem dX4_buy_57 : decode cX4_buy 57 = .ok (.iaload, 1) := by decide +kernel
theorem dX4_buy_58 : decode cX4_buy 58 = .ok (.bipush 10, 2) := by decide +kernel
theorem dX4_buy_60 : decode cX4_buy 60 = .ok (.iload_n 2, 1) := by decide +kernel
theorem dX4_buy_61 : decode cX4_buy 61 = .ok (.imul, 1) := by decide +kernel
theorem dX4_buy_62 : decode cX4_buy 62 = .ok (.if_icmp .ge 7, 3) := by decide +kernel
theorem dX4_buy_65 : decode cX4_buy 65 = .ok (.iconst 3, 1) := by decide +kernel
theorem dX4_buy_66 : decode cX4_buy 66 = .ok (.goto 4, 3) := by decide +kernel
theorem dX4_buy_69 : decode cX4_buy 69 = .ok (.iconst 0, 1) := by decide +kernel
theorem dX4_buy_70 : decode cX4_buy 70 = .ok (.putfield 89, 3) := by decide +kernel
theorem dX4_buy_73 : decode cX4_buy 73 = .ok (.aload_n 0, 1) := by decide +kernel
theorem dX4_buy_74 : decode cX4_buy 74 = .ok (.getfield 89, 3) := by decide +kernel
theorem dX4_buy_77 : decode cX4_buy 77 = .ok (.ifCond .eq 5, 3) := by decide +kernel
theorem dX4_buy_80 : decode cX4_buy 80 = .ok (.iconst 0, 1) := by decide +kernel
theorem dX4_buy_81 : decode cX4_buy 81 = .ok (.ireturn, 1) := by decide +kernel
theorem dX4_buy_82 : decode cX4_buy 82 = .ok (.aload_n 0, 1) := by decide +kernel
theorem dX4_buy_83 : decode cX4_buy 83 = .ok (.iload_n 1, 1) := by decide +kernel
theorem dX4_buy_84 : decode cX4_buy 84 = .ok (.bipush 10, 2) := by decide +kernel
theorem dX4_buy_86 : decode cX4_buy 86 = .ok (.iload_n 2, 1) := by decide +kernel
theorem dX4_buy_87 : decode cX4_buy 87 = .ok (.imul, 1) := by decide +kernel
theorem dX4_buy_88 : decode cX4_buy 88 = .ok (.invokevirtual 135, 3) := by decide +kernel
theorem dX4_buy_91 : decode cX4_buy 91 = .ok (.aload_n 0, 1) := by decide +kernel
theorem dX4_buy_92 : decode cX4_buy 92 = .ok (.dup, 1) := by decide +kernel
theorem dX4_buy_93 : decode cX4_buy 93 = .ok (.getfield 146, 3) := by decide +kernel
theorem dX4_buy_96 : decode cX4_buy 96 = .ok (.bipush 10, 2) := by decide +kernel
theorem dX4_buy_98 : decode cX4_buy 98 = .ok (.iload_n 2, 1) := by decide +kernel
theorem dX4_buy_99 : decode cX4_buy 99 = .ok (.imul, 1) := by decide +kernel
theorem dX4_buy_100 : decode cX4_buy 100 = .ok (.iadd, 1) := by decide +kernel
theorem dX4_buy_101 : decode cX4_buy 101 = .ok (.putfield 146, 3) := by decide +kernel
theorem dX4_buy_104 : decode cX4_buy 104 = .ok (.aload_n 0, 1) := by decide +kernel
theorem dX4_buy_105 : decode cX4_buy 105 = .ok (.getfield 19, 3) := by decide +kernel
theorem dX4_buy_108 : decode cX4_buy 108 = .ok (.iload_n 1, 1) := by decide +kernel
theorem dX4_buy_109 : decode cX4_buy 109 = .ok (.dup2, 1) := by decide +kernel
theorem dX4_buy_110 : decode cX4_buy 110 = .ok (.iaload, 1) := by decide +kernel
theorem dX4_buy_111 : decode cX4_buy 111 = .ok (.iload_n 2, 1) := by decide +kernel
theorem dX4_buy_112 : decode cX4_buy 112 = .ok (.iadd, 1) := by decide +kernel
theorem dX4_buy_113 : decode cX4_buy 113 = .ok (.iastore, 1) := by decide +kernel
theorem dX4_buy_114 : decode cX4_buy 114 = .ok (.aload_n 0, 1) := by decide +kernel
theorem dX4_buy_115 : decode cX4_buy 115 = .ok (.getfield 19, 3) := by decide +kernel
theorem dX4_buy_118 : decode cX4_buy 118 = .ok (.iload_n 1, 1) := by decide +kernel
theorem dX4_buy_119 : decode cX4_buy 119 = .ok (.iaload, 1) := by decide +kernel
theorem dX4_buy_120 : decode cX4_buy 120 = .ok (.ireturn, 1) := by decide +kernel
theorem dX4_house_0 : decode cX4_house 0 = .ok (.iconst 0, 1) := by decide +kernel
theorem dX4_house_1 : decode cX4_house 1 = .ok (.istore_n 3, 1) := by decide +kernel
theorem dX4_house_2 : decode cX4_house 2 = .ok (.iconst 0, 1) := by decide +kernel
theorem dX4_house_3 : decode cX4_house 3 = .ok (.istore 4, 2) := by decide +kernel
theorem dX4_house_5 : decode cX4_house 5 = .ok (.iload 4, 2) := by decide +kernel
theorem dX4_house_7 : decode cX4_house 7 = .ok (.aload_n 0, 1) := by decide +kernel
theorem dX4_house_8 : decode cX4_house 8 = .ok (.getfield 93, 3) := by decide +kernel
theorem dX4_house_11 : decode cX4_house 11 = .ok (.if_icmp .ge 60, 3) := by decide +kernel
theorem dX4_house_14 : decode cX4_house 14 = .ok (.iload_n 3, 1) := by decide +kernel
theorem dX4_house_15 : decode cX4_house 15 = .ok (.aload_n 0, 1) := by decide +kernel
theorem dX4_house_16 : decode cX4_house 16 = .ok (.getfield 40, 3) := by decide +kernel
theorem dX4_house_19 : decode cX4_house 19 = .ok (.iload 4, 2) := by decide +kernel
theorem dX4_house_21 : decode cX4_house 21 = .ok (.baload, 1) := by decide +kernel
theorem dX4_house_22 : decode cX4_house 22 = .ok (.ifCond .ne 40, 3) := by decide +kernel
theorem dX4_house_25 : decode cX4_house 25 = .ok (.aload_n 0, 1) := by decide +kernel
theorem dX4_house_26 : decode cX4_house 26 = .ok (.getfield 13, 3) := by decide +kernel
theorem dX4_house_29 : decode cX4_house 29 = .ok (.iload_n 1, 1) := by decide +kernel
theorem dX4_house_30 : decode cX4_house 30 = .ok (.iaload, 1) := by decide +kernel
theorem dX4_house_31 : decode cX4_house 31 = .ok (.aload_n 0, 1) := by decide +kernel
theorem dX4_house_32 : decode cX4_house 32 = .ok (.getfield 13, 3) := by decide +kernel
theorem dX4_house_35 : decode cX4_house 35 = .ok (.iload 4, 2) := by decide +kernel
theorem dX4_house_37 : decode cX4_house 37 = .ok (.iaload, 1) := by decide +kernel
theorem dX4_house_38 : decode cX4_house 38 = .ok (.invokestatic 149, 3) := by decide +kernel
theorem dX4_house_41 : decode cX4_house 41 = .ok (.ifCond .eq 21, 3) := by decide +kernel
theorem dX4_house_44 : decode cX4_house 44 = .ok (.iload_n 2, 1) := by decide +kernel
theorem dX4_house_45 : decode cX4_house 45 = .ok (.ifCond .eq 13, 3) := by decide +kernel
theorem dX4_house_48 : decode cX4_house 48 = .ok (.aload_n 0, 1) := by decide +kernel
theorem dX4_house_49 : decode cX4_house 49 = .ok (.getfield 22, 3) := by decide +kernel
theorem dX4_house_52 : decode cX4_house 52 = .ok (.iload 4, 2) := by decide +kernel
theorem dX4_house_54 : decode cX4_house 54 = .ok (.iaload, 1) := by decide +kernel
theorem dX4_house_55 : decode cX4_house 55 = .ok (.goto 8, 3) := by decide +kernel
theorem dX4_house_58 : decode cX4_house 58 = .ok (.iconst 1, 1) := by decide +kernel
theorem dX4_house_59 : decode cX4_house 59 = .ok (.goto 4, 3) := by decide +kernel
theorem dX4_house_62 : decode cX4_house 62 = .ok (.iconst 0, 1) := by decide +kernel
theorem dX4_house_63 : decode cX4_house 63 = .ok (.iadd, 1) := by decide +kernel
theorem dX4_house_64 : decode cX4_house 64 = .ok (.istore_n 3, 1) := by decide +kernel
theorem dX4_house_65 : decode cX4_house 65 = .ok (.iinc 4 1, 3) := by decide +kernel
theorem dX4_house_68 : decode cX4_house 68 = .ok (.goto (-63), 3) := by decide +kernel
theorem dX4_house_71 : decode cX4_house 71 = .ok (.iload_n 3, 1) := by decide +kernel
theorem dX4_house_72 : decode cX4_house 72 = .ok (.ireturn, 1) := by decide +kernel
theorem dX4_has_0 : decode cX4_has 0 = .ok (.aload_n 0, 1) := by decide +kernel
theorem dX4_has_1 : decode cX4_has 1 = .ok (.getfield 40, 3) := by decide +kernel
theorem dX4_has_4 : decode cX4_has 4 = .ok (.iload_n 1, 1) := by decide +kernel
theorem dX4_has_5 : decode cX4_has 5 = .ok (.baload, 1) := by decide +kernel
theorem dX4_has_6 : decode cX4_has 6 = .ok (.ifCond .ne 16, 3) := by decide +kernel
theorem dX4_has_9 : decode cX4_has 9 = .ok (.aload_n 0, 1) := by decide +kernel
theorem dX4_has_10 : decode cX4_has 10 = .ok (.getfield 19, 3) := by decide +kernel
theorem dX4_has_13 : decode cX4_has 13 = .ok (.iload_n 1, 1) := by decide +kernel
theorem dX4_has_14 : decode cX4_has 14 = .ok (.iaload, 1) := by decide +kernel
theorem dX4_has_15 : decode cX4_has 15 = .ok (.ifCond .le 7, 3) := by decide +kernel
theorem dX4_has_18 : decode cX4_has 18 = .ok (.iconst 1, 1) := by decide +kernel
theorem dX4_has_19 : decode cX4_has 19 = .ok (.goto 4, 3) := by decide +kernel
theorem dX4_has_22 : decode cX4_has 22 = .ok (.iconst 0, 1) := by decide +kernel
theorem dX4_has_23 : decode cX4_has 23 = .ok (.ireturn, 1) := by decide +kernel
theorem dX4_borrow_0 : decode cX4_borrow 0 = .ok (.aload_n 0, 1) := by decide +kernel
theorem dX4_borrow_1 : decode cX4_borrow 1 = .ok (.aload_n 0, 1) := by decide +kernel
theorem dX4_borrow_2 : decode cX4_borrow 2 = .ok (.iload_n 1, 1) := by decide +kernel
theorem dX4_borrow_3 : decode cX4_borrow 3 = .ok (.invokevirtual 104, 3) := by decide +kernel
theorem dX4_borrow_6 : decode cX4_borrow 6 = .ok (.ifCond .eq 20, 3) := by decide +kernel
theorem dX4_borrow_9 : decode cX4_borrow 9 = .ok (.aload_n 0, 1) := by decide +kernel
theorem dX4_borrow_10 : decode cX4_borrow 10 = .ok (.iload_n 3, 1) := by decide +kernel
theorem dX4_borrow_11 : decode cX4_borrow 11 = .ok (.invokevirtual 104, 3) := by decide +kernel
theorem dX4_borrow_14 : decode cX4_borrow 14 = .ok (.ifCond .eq 12, 3) := by decide +kernel
theorem dX4_borrow_17 : decode cX4_borrow 17 = .ok (.aload_n 0, 1) := by decide +kernel
theorem dX4_borrow_18 : decode cX4_borrow 18 = .ok (.iload 4, 2) := by decide +kernel
theorem dX4_borrow_20 : decode cX4_borrow 20 = .ok (.invokevirtual 104, 3) := by decide +kernel
theorem dX4_borrow_23 : decode cX4_borrow 23 = .ok (.ifCond .ne 7, 3) := by decide +kernel
theorem dX4_borrow_26 : decode cX4_borrow 26 = .ok (.iconst 1, 1) := by decide +kernel
theorem dX4_borrow_27 : decode cX4_borrow 27 = .ok (.goto 36, 3) := by decide +kernel
theorem dX4_borrow_30 : decode cX4_borrow 30 = .ok (.iload_n 1, 1) := by decide +kernel
theorem dX4_borrow_31 : decode cX4_borrow 31 = .ok (.iload_n 3, 1) := by decide +kernel
theorem dX4_borrow_32 : decode cX4_borrow 32 = .ok (.if_icmp .eq 26, 3) := by decide +kernel
theorem dX4_borrow_35 : decode cX4_borrow 35 = .ok (.iload_n 1, 1) := by decide +kernel
theorem dX4_borrow_36 : decode cX4_borrow 36 = .ok (.iload 4, 2) := by decide +kernel
theorem dX4_borrow_38 : decode cX4_borrow 38 = .ok (.if_icmp .eq 20, 3) := by decide +kernel
theorem dX4_borrow_41 : decode cX4_borrow 41 = .ok (.iload_n 3, 1) := by decide +kernel
theorem dX4_borrow_42 : decode cX4_borrow 42 = .ok (.iload 4, 2) := by decide +kernel
theorem dX4_borrow_44 : decode cX4_borrow 44 = .ok (.if_icmp .eq 14, 3) := by decide +kernel
theorem dX4_borrow_47 : decode cX4_borrow 47 = .ok (.iload_n 2, 1) := by decide +kernel
theorem dX4_borrow_48 : decode cX4_borrow 48 = .ok (.iconst 1, 1) := by decide +kernel
theorem dX4_borrow_49 : decode cX4_borrow 49 = .ok (.sipush 1000, 3) := by decide +kernel
theorem dX4_borrow_52 : decode cX4_borrow 52 = .ok (.invokestatic 96, 3) := by decide +kernel
theorem dX4_borrow_55 : decode cX4_borrow 55 = .ok (.ifCond .ne 7, 3) := by decide +kernel
theorem dX4_borrow_58 : decode cX4_borrow 58 = .ok (.iconst 2, 1) := by decide +kernel
theorem dX4_borrow_59 : decode cX4_borrow 59 = .ok (.goto 4, 3) := by decide +kernel
theorem dX4_borrow_62 : decode cX4_borrow 62 = .ok (.iconst 0, 1) := by decide +kernel
theorem dX4_borrow_63 : decode cX4_borrow 63 = .ok (.putfield 89, 3) := by decide +kernel
theorem dX4_borrow_66 : decode cX4_borrow 66 = .ok (.aload_n 0, 1) := by decide +kernel
theorem dX4_borrow_67 : decode cX4_borrow 67 = .ok (.getfield 89, 3) := by decide +kernel
theorem dX4_borrow_70 : decode cX4_borrow 70 = .ok (.ifCond .eq 5, 3) := by decide +kernel
theorem dX4_borrow_73 : decode cX4_borrow 73 = .ok (.iconst 0, 1) := by decide +kernel
theorem dX4_borrow_74 : decode cX4_borrow 74 = .ok (.ireturn, 1) := by decide +kernel
theorem dX4_borrow_75 : decode cX4_borrow 75 = .ok (.aload_n 0, 1) := by decide +kernel
theorem dX4_borrow_76 : decode cX4_borrow 76 = .ok (.iload_n 1, 1) := by decide +kernel
theorem dX4_borrow_77 : decode cX4_borrow 77 = .ok (.invokevirtual 153, 3) := by decide +kernel
theorem dX4_borrow_80 : decode cX4_borrow 80 = .ok (.ifCond .eq 33, 3) := by decide +kernel
theorem dX4_borrow_83 : decode cX4_borrow 83 = .ok (.aload_n 0, 1) := by decide +kernel
theorem dX4_borrow_84 : decode cX4_borrow 84 = .ok (.iload_n 3, 1) := by decide +kernel
theorem dX4_borrow_85 : decode cX4_borrow 85 = .ok (.invokevirtual 153, 3) := by decide +kernel
theorem dX4_borrow_88 : decode cX4_borrow 88 = .ok (.ifCond .eq 25, 3) := by decide +kernel
theorem dX4_borrow_91 : decode cX4_borrow 91 = .ok (.aload_n 0, 1) := by decide +kernel
theorem dX4_borrow_92 : decode cX4_borrow 92 = .ok (.iload 4, 2) := by decide +kernel
theorem dX4_borrow_94 : decode cX4_borrow 94 = .ok (.invokevirtual 153, 3) := by decide +kernel
theorem dX4_borrow_97 : decode cX4_borrow 97 = .ok (.ifCond .eq 16, 3) := by decide +kernel
theorem dX4_borrow_100 : decode cX4_borrow 100 = .ok (.aload_n 0, 1) := by decide +kernel
theorem dX4_borrow_101 : decode cX4_borrow 101 = .ok (.getfield 22, 3) := by decide +kernel
theorem dX4_borrow_104 : decode cX4_borrow 104 = .ok (.iload_n 1, 1) := by decide +kernel
theorem dX4_borrow_105 : decode cX4_borrow 105 = .ok (.iaload, 1) := by decide +kernel
theorem dX4_borrow_106 : decode cX4_borrow 106 = .ok (.ifCond .ne 7, 3) := by decide +kernel
theorem dX4_borrow_109 : decode cX4_borrow 109 = .ok (.iconst 1, 1) := by decide +kernel
theorem dX4_borrow_110 : decode cX4_borrow 110 = .ok (.goto 4, 3) := by decide +kernel
theorem dX4_borrow_113 : decode cX4_borrow 113 = .ok (.iconst 0, 1) := by decide +kernel
theorem dX4_borrow_114 : decode cX4_borrow 114 = .ok (.istore 5, 2) := by decide +kernel
theorem dX4_borrow_116 : decode cX4_borrow 116 = .ok (.aload_n 0, 1) := by decide +kernel
theorem dX4_borrow_117 : decode cX4_borrow 117 = .ok (.iload 5, 2) := by decide +kernel
theorem dX4_borrow_119 : decode cX4_borrow 119 = .ok (.ifCond .eq 40, 3) := by decide +kernel
theorem dX4_borrow_122 : decode cX4_borrow 122 = .ok (.iload_n 2, 1) := by decide +kernel
theorem dX4_borrow_123 : decode cX4_borrow 123 = .ok (.bipush 50, 2) := by decide +kernel
theorem dX4_borrow_125 : decode cX4_borrow 125 = .ok (.iconst 1, 1) := by decide +kernel
theorem dX4_borrow_126 : decode cX4_borrow 126 = .ok (.aload_n 0, 1) := by decide +kernel
theorem dX4_borrow_127 : decode cX4_borrow 127 = .ok (.getfield 34, 3) := by decide +kernel
theorem dX4_borrow_130 : decode cX4_borrow 130 = .ok (.iload_n 1, 1) := by decide +kernel
theorem dX4_borrow_131 : decode cX4_borrow 131 = .ok (.iaload, 1) := by decide +kernel
theorem dX4_borrow_132 : decode cX4_borrow 132 = .ok (.iadd, 1) := by decide +kernel
theorem dX4_borrow_133 : decode cX4_borrow 133 = .ok (.imul, 1) := by decide +kernel
theorem dX4_borrow_134 : decode cX4_borrow 134 = .ok (.if_icmp .gt 25, 3) := by decide +kernel
theorem dX4_borrow_137 : decode cX4_borrow 137 = .ok (.aload_n 0, 1) := by decide +kernel
theorem dX4_borrow_138 : decode cX4_borrow 138 = .ok (.iload_n 1, 1) := by decide +kernel
theorem dX4_borrow_139 : decode cX4_borrow 139 = .ok (.iconst 1, 1) := by decide +kernel
theorem dX4_borrow_140 : decode cX4_borrow 140 = .ok (.invokevirtual 156, 3) := by decide +kernel
theorem dX4_borrow_143 : decode cX4_borrow 143 = .ok (.iload_n 2, 1) := by decide +kernel
theorem dX4_borrow_144 : decode cX4_borrow 144 = .ok (.iadd, 1) := by decide +kernel
theorem dX4_borrow_145 : decode cX4_borrow 145 = .ok (.sipush 500, 3) := by decide +kernel
theorem dX4_borrow_148 : decode cX4_borrow 148 = .ok (.if_icmp .gt 11, 3) := by decide +kernel
theorem dX4_borrow_151 : decode cX4_borrow 151 = .ok (.aload_n 0, 1) := by decide +kernel
theorem dX4_borrow_152 : decode cX4_borrow 152 = .ok (.getfield 146, 3) := by decide +kernel
theorem dX4_borrow_155 : decode cX4_borrow 155 = .ok (.iload_n 2, 1) := by decide +kernel
theorem dX4_borrow_156 : decode cX4_borrow 156 = .ok (.if_icmp .ge 7, 3) := by decide +kernel
theorem dX4_borrow_159 : decode cX4_borrow 159 = .ok (.iconst 3, 1) := by decide +kernel
theorem dX4_borrow_160 : decode cX4_borrow 160 = .ok (.goto 4, 3) := by decide +kernel
theorem dX4_borrow_163 : decode cX4_borrow 163 = .ok (.iconst 0, 1) := by decide +kernel
theorem dX4_borrow_164 : decode cX4_borrow 164 = .ok (.putfield 89, 3) := by decide +kernel
theorem dX4_borrow_167 : decode cX4_borrow 167 = .ok (.aload_n 0, 1) := by decide +kernel
theorem dX4_borrow_168 : decode cX4_borrow 168 = .ok (.getfield 89, 3) := by decide +kernel
theorem dX4_borrow_171 : decode cX4_borrow 171 = .ok (.ifCond .eq 5, 3) := by decide +kernel
theorem dX4_borrow_174 : decode cX4_borrow 174 = .ok (.iconst 0, 1) := by decide +kernel
theorem dX4_borrow_175 : decode cX4_borrow 175 = .ok (.ireturn, 1) := by decide +kernel
theorem dX4_borrow_176 : decode cX4_borrow 176 = .ok (.aload_n 0, 1) := by decide +kernel
theorem dX4_borrow_177 : decode cX4_borrow 177 = .ok (.iload_n 1, 1) := by decide +kernel
theorem dX4_borrow_178 : decode cX4_borrow 178 = .ok (.iload_n 2, 1) := by decide +kernel
theorem dX4_borrow_179 : decode cX4_borrow 179 = .ok (.ineg, 1) := by decide +kernel
theorem dX4_borrow_180 : decode cX4_borrow 180 = .ok (.invokevirtual 135, 3) := by decide +kernel
theorem dX4_borrow_183 : decode cX4_borrow 183 = .ok (.aload_n 0, 1) := by decide +kernel
theorem dX4_borrow_184 : decode cX4_borrow 184 = .ok (.dup, 1) := by decide +kernel
theorem dX4_borrow_185 : decode cX4_borrow 185 = .ok (.getfield 146, 3) := by decide +kernel
theorem dX4_borrow_188 : decode cX4_borrow 188 = .ok (.iload_n 2, 1) := by decide +kernel
theorem dX4_borrow_189 : decode cX4_borrow 189 = .ok (.isub, 1) := by decide +kernel
theorem dX4_borrow_190 : decode cX4_borrow 190 = .ok (.putfield 146, 3) := by decide +kernel
theorem dX4_borrow_193 : decode cX4_borrow 193 = .ok (.aload_n 0, 1) := by decide +kernel
theorem dX4_borrow_194 : decode cX4_borrow 194 = .ok (.getfield 22, 3) := by decide +kernel
theorem dX4_borrow_197 : decode cX4_borrow 197 = .ok (.iload_n 1, 1) := by decide +kernel
theorem dX4_borrow_198 : decode cX4_borrow 198 = .ok (.iload_n 2, 1) := by decide +kernel
theorem dX4_borrow_199 : decode cX4_borrow 199 = .ok (.iastore, 1) := by decide +kernel
theorem dX4_borrow_200 : decode cX4_borrow 200 = .ok (.aload_n 0, 1) := by decide +kernel
theorem dX4_borrow_201 : decode cX4_borrow 201 = .ok (.getfield 25, 3) := by decide +kernel
theorem dX4_borrow_204 : decode cX4_borrow 204 = .ok (.iload_n 1, 1) := by decide +kernel
theorem dX4_borrow_205 : decode cX4_borrow 205 = .ok (.iconst 0, 1) := by decide +kernel
theorem dX4_borrow_206 : decode cX4_borrow 206 = .ok (.iastore, 1) := by decide +kernel
theorem dX4_borrow_207 : decode cX4_borrow 207 = .ok (.aload_n 0, 1) := by decide +kernel
theorem dX4_borrow_208 : decode cX4_borrow 208 = .ok (.getfield 28, 3) := by decide +kernel
theorem dX4_borrow_211 : decode cX4_borrow 211 = .ok (.iload_n 1, 1) := by decide +kernel
theorem dX4_borrow_212 : decode cX4_borrow 212 = .ok (.iload_n 3, 1) := by decide +kernel
theorem dX4_borrow_213 : decode cX4_borrow 213 = .ok (.iastore, 1) := by decide +kernel
theorem dX4_borrow_214 : decode cX4_borrow 214 = .ok (.aload_n 0, 1) := by decide +kernel
theorem dX4_borrow_215 : decode cX4_borrow 215 = .ok (.getfield 31, 3) := by decide +kernel
theorem dX4_borrow_218 : decode cX4_borrow 218 = .ok (.iload_n 1, 1) := by decide +kernel
theorem dX4_borrow_219 : decode cX4_borrow 219 = .ok (.iload 4, 2) := by decide +kernel
theorem dX4_borrow_221 : decode cX4_borrow 221 = .ok (.iastore, 1) := by decide +kernel
theorem dX4_borrow_222 : decode cX4_borrow 222 = .ok (.aload_n 0, 1) := by decide +kernel
theorem dX4_borrow_223 : decode cX4_borrow 223 = .ok (.getfield 16, 3) := by decide +kernel
theorem dX4_borrow_226 : decode cX4_borrow 226 = .ok (.iload_n 1, 1) := by decide +kernel
theorem dX4_borrow_227 : decode cX4_borrow 227 = .ok (.iaload, 1) := by decide +kernel
theorem dX4_borrow_228 : decode cX4_borrow 228 = .ok (.ireturn, 1) := by decide +kernel
theorem dX4_repay_0 : decode cX4_repay 0 = .ok (.aload_n 0, 1) := by decide +kernel
theorem dX4_repay_1 : decode cX4_repay 1 = .ok (.iload_n 1, 1) := by decide +kernel
theorem dX4_repay_2 : decode cX4_repay 2 = .ok (.invokevirtual 104, 3) := by decide +kernel
theorem dX4_repay_5 : decode cX4_repay 5 = .ok (.ifCond .ne 10, 3) := by decide +kernel
theorem dX4_repay_8 : decode cX4_repay 8 = .ok (.aload_n 0, 1) := by decide +kernel
theorem dX4_repay_9 : decode cX4_repay 9 = .ok (.iconst 1, 1) := by decide +kernel
theorem dX4_repay_10 : decode cX4_repay 10 = .ok (.putfield 89, 3) := by decide +kernel
theorem dX4_repay_13 : decode cX4_repay 13 = .ok (.iconst 0, 1) := by decide +kernel
theorem dX4_repay_14 : decode cX4_repay 14 = .ok (.ireturn, 1) := by decide +kernel
theorem dX4_repay_15 : decode cX4_repay 15 = .ok (.iload_n 2, 1) := by decide +kernel
theorem dX4_repay_16 : decode cX4_repay 16 = .ok (.aload_n 0, 1) := by decide +kernel
theorem dX4_repay_17 : decode cX4_repay 17 = .ok (.getfield 22, 3) := by decide +kernel
theorem dX4_repay_20 : decode cX4_repay 20 = .ok (.iload_n 1, 1) := by decide +kernel
theorem dX4_repay_21 : decode cX4_repay 21 = .ok (.iaload, 1) := by decide +kernel
theorem dX4_repay_22 : decode cX4_repay 22 = .ok (.if_icmp .ge 7, 3) := by decide +kernel
theorem dX4_repay_25 : decode cX4_repay 25 = .ok (.iload_n 2, 1) := by decide +kernel
theorem dX4_repay_26 : decode cX4_repay 26 = .ok (.goto 9, 3) := by decide +kernel
theorem dX4_repay_29 : decode cX4_repay 29 = .ok (.aload_n 0, 1) := by decide +kernel
theorem dX4_repay_30 : decode cX4_repay 30 = .ok (.getfield 22, 3) := by decide +kernel
theorem dX4_repay_33 : decode cX4_repay 33 = .ok (.iload_n 1, 1) := by decide +kernel
theorem dX4_repay_34 : decode cX4_repay 34 = .ok (.iaload, 1) := by decide +kernel
theorem dX4_repay_35 : decode cX4_repay 35 = .ok (.istore_n 3, 1) := by decide +kernel
theorem dX4_repay_36 : decode cX4_repay 36 = .ok (.aload_n 0, 1) := by decide +kernel
theorem dX4_repay_37 : decode cX4_repay 37 = .ok (.iload_n 2, 1) := by decide +kernel
theorem dX4_repay_38 : decode cX4_repay 38 = .ok (.iconst 1, 1) := by decide +kernel
theorem dX4_repay_39 : decode cX4_repay 39 = .ok (.sipush 10000, 3) := by decide +kernel
theorem dX4_repay_42 : decode cX4_repay 42 = .ok (.invokestatic 96, 3) := by decide +kernel
theorem dX4_repay_45 : decode cX4_repay 45 = .ok (.ifCond .ne 7, 3) := by decide +kernel
theorem dX4_repay_48 : decode cX4_repay 48 = .ok (.iconst 2, 1) := by decide +kernel
theorem dX4_repay_49 : decode cX4_repay 49 = .ok (.goto 27, 3) := by decide +kernel
theorem dX4_repay_52 : decode cX4_repay 52 = .ok (.aload_n 0, 1) := by decide +kernel
theorem dX4_repay_53 : decode cX4_repay 53 = .ok (.getfield 22, 3) := by decide +kernel
theorem dX4_repay_56 : decode cX4_repay 56 = .ok (.iload_n 1, 1) := by decide +kernel
theorem dX4_repay_57 : decode cX4_repay 57 = .ok (.iaload, 1) := by decide +kernel
theorem dX4_repay_58 : decode cX4_repay 58 = .ok (.ifCond .eq 13, 3) := by decide +kernel
theorem dX4_repay_61 : decode cX4_repay 61 = .ok (.aload_n 0, 1) := by decide +kernel
theorem dX4_repay_62 : decode cX4_repay 62 = .ok (.getfield 16, 3) := by decide +kernel
theorem dX4_repay_65 : decode cX4_repay 65 = .ok (.iload_n 1, 1) := by decide +kernel
theorem dX4_repay_66 : decode cX4_repay 66 = .ok (.iaload, 1) := by decide +kernel
theorem dX4_repay_67 : decode cX4_repay 67 = .ok (.iload_n 3, 1) := by decide +kernel
theorem dX4_repay_68 : decode cX4_repay 68 = .ok (.if_icmp .ge 7, 3) := by decide +kernel
theorem dX4_repay_71 : decode cX4_repay 71 = .ok (.iconst 3, 1) := by decide +kernel
theorem dX4_repay_72 : decode cX4_repay 72 = .ok (.goto 4, 3) := by decide +kernel
theorem dX4_repay_75 : decode cX4_repay 75 = .ok (.iconst 0, 1) := by decide +kernel
theorem dX4_repay_76 : decode cX4_repay 76 = .ok (.putfield 89, 3) := by decide +kernel
theorem dX4_repay_79 : decode cX4_repay 79 = .ok (.aload_n 0, 1) := by decide +kernel
theorem dX4_repay_80 : decode cX4_repay 80 = .ok (.getfield 89, 3) := by decide +kernel
theorem dX4_repay_83 : decode cX4_repay 83 = .ok (.ifCond .eq 5, 3) := by decide +kernel
theorem dX4_repay_86 : decode cX4_repay 86 = .ok (.iconst 0, 1) := by decide +kernel
theorem dX4_repay_87 : decode cX4_repay 87 = .ok (.ireturn, 1) := by decide +kernel
theorem dX4_repay_88 : decode cX4_repay 88 = .ok (.aload_n 0, 1) := by decide +kernel
theorem dX4_repay_89 : decode cX4_repay 89 = .ok (.iload_n 1, 1) := by decide +kernel
theorem dX4_repay_90 : decode cX4_repay 90 = .ok (.iload_n 3, 1) := by decide +kernel
theorem dX4_repay_91 : decode cX4_repay 91 = .ok (.invokevirtual 135, 3) := by decide +kernel
theorem dX4_repay_94 : decode cX4_repay 94 = .ok (.aload_n 0, 1) := by decide +kernel
theorem dX4_repay_95 : decode cX4_repay 95 = .ok (.dup, 1) := by decide +kernel
theorem dX4_repay_96 : decode cX4_repay 96 = .ok (.getfield 146, 3) := by decide +kernel
theorem dX4_repay_99 : decode cX4_repay 99 = .ok (.iload_n 3, 1) := by decide +kernel
theorem dX4_repay_100 : decode cX4_repay 100 = .ok (.iadd, 1) := by decide +kernel
theorem dX4_repay_101 : decode cX4_repay 101 = .ok (.putfield 146, 3) := by decide +kernel
theorem dX4_repay_104 : decode cX4_repay 104 = .ok (.aload_n 0, 1) := by decide +kernel
theorem dX4_repay_105 : decode cX4_repay 105 = .ok (.getfield 22, 3) := by decide +kernel
theorem dX4_repay_108 : decode cX4_repay 108 = .ok (.iload_n 1, 1) := by decide +kernel
theorem dX4_repay_109 : decode cX4_repay 109 = .ok (.dup2, 1) := by decide +kernel
theorem dX4_repay_110 : decode cX4_repay 110 = .ok (.iaload, 1) := by decide +kernel
theorem dX4_repay_111 : decode cX4_repay 111 = .ok (.iload_n 3, 1) := by decide +kernel
theorem dX4_repay_112 : decode cX4_repay 112 = .ok (.isub, 1) := by decide +kernel
theorem dX4_repay_113 : decode cX4_repay 113 = .ok (.iastore, 1) := by decide +kernel
theorem dX4_repay_114 : decode cX4_repay 114 = .ok (.aload_n 0, 1) := by decide +kernel
theorem dX4_repay_115 : decode cX4_repay 115 = .ok (.getfield 34, 3) := by decide +kernel
theorem dX4_repay_118 : decode cX4_repay 118 = .ok (.iload_n 1, 1) := by decide +kernel
theorem dX4_repay_119 : decode cX4_repay 119 = .ok (.dup2, 1) := by decide +kernel
theorem dX4_repay_120 : decode cX4_repay 120 = .ok (.iaload, 1) := by decide +kernel
theorem dX4_repay_121 : decode cX4_repay 121 = .ok (.aload_n 0, 1) := by decide +kernel
theorem dX4_repay_122 : decode cX4_repay 122 = .ok (.getfield 22, 3) := by decide +kernel
theorem dX4_repay_125 : decode cX4_repay 125 = .ok (.iload_n 1, 1) := by decide +kernel
theorem dX4_repay_126 : decode cX4_repay 126 = .ok (.iaload, 1) := by decide +kernel
theorem dX4_repay_127 : decode cX4_repay 127 = .ok (.ifCond .ne 7, 3) := by decide +kernel
theorem dX4_repay_130 : decode cX4_repay 130 = .ok (.iconst 1, 1) := by decide +kernel
theorem dX4_repay_131 : decode cX4_repay 131 = .ok (.goto 4, 3) := by decide +kernel
theorem dX4_repay_134 : decode cX4_repay 134 = .ok (.iconst 0, 1) := by decide +kernel
theorem dX4_repay_135 : decode cX4_repay 135 = .ok (.iadd, 1) := by decide +kernel
theorem dX4_repay_136 : decode cX4_repay 136 = .ok (.iastore, 1) := by decide +kernel
theorem dX4_repay_137 : decode cX4_repay 137 = .ok (.aload_n 0, 1) := by decide +kernel
theorem dX4_repay_138 : decode cX4_repay 138 = .ok (.getfield 22, 3) := by decide +kernel
theorem dX4_repay_141 : decode cX4_repay 141 = .ok (.iload_n 1, 1) := by decide +kernel
theorem dX4_repay_142 : decode cX4_repay 142 = .ok (.iaload, 1) := by decide +kernel
theorem dX4_repay_143 : decode cX4_repay 143 = .ok (.ireturn, 1) := by decide +kernel
theorem dX4_vouches_0 : decode cX4_vouches 0 = .ok (.aload_n 0, 1) := by decide +kernel
theorem dX4_vouches_1 : decode cX4_vouches 1 = .ok (.getfield 40, 3) := by decide +kernel
theorem dX4_vouches_4 : decode cX4_vouches 4 = .ok (.iload_n 1, 1) := by decide +kernel
theorem dX4_vouches_5 : decode cX4_vouches 5 = .ok (.baload, 1) := by decide +kernel
theorem dX4_vouches_6 : decode cX4_vouches 6 = .ok (.ifCond .eq 7, 3) := by decide +kernel
theorem dX4_vouches_9 : decode cX4_vouches 9 = .ok (.iconst 0, 1) := by decide +kernel
theorem dX4_vouches_10 : decode cX4_vouches 10 = .ok (.goto 23, 3) := by decide +kernel
theorem dX4_vouches_13 : decode cX4_vouches 13 = .ok (.iload_n 2, 1) := by decide +kernel
theorem dX4_vouches_14 : decode cX4_vouches 14 = .ok (.aload_n 0, 1) := by decide +kernel
theorem dX4_vouches_15 : decode cX4_vouches 15 = .ok (.getfield 16, 3) := by decide +kernel
theorem dX4_vouches_18 : decode cX4_vouches 18 = .ok (.iload_n 1, 1) := by decide +kernel
theorem dX4_vouches_19 : decode cX4_vouches 19 = .ok (.iaload, 1) := by decide +kernel
theorem dX4_vouches_20 : decode cX4_vouches 20 = .ok (.if_icmp .ge 7, 3) := by decide +kernel
theorem dX4_vouches_23 : decode cX4_vouches 23 = .ok (.iload_n 2, 1) := by decide +kernel
theorem dX4_vouches_24 : decode cX4_vouches 24 = .ok (.goto 9, 3) := by decide +kernel
theorem dX4_vouches_27 : decode cX4_vouches 27 = .ok (.aload_n 0, 1) := by decide +kernel
theorem dX4_vouches_28 : decode cX4_vouches 28 = .ok (.getfield 16, 3) := by decide +kernel
theorem dX4_vouches_31 : decode cX4_vouches 31 = .ok (.iload_n 1, 1) := by decide +kernel
theorem dX4_vouches_32 : decode cX4_vouches 32 = .ok (.iaload, 1) := by decide +kernel
theorem dX4_vouches_33 : decode cX4_vouches 33 = .ok (.istore_n 3, 1) := by decide +kernel
theorem dX4_vouches_34 : decode cX4_vouches 34 = .ok (.aload_n 0, 1) := by decide +kernel
theorem dX4_vouches_35 : decode cX4_vouches 35 = .ok (.iload_n 1, 1) := by decide +kernel
theorem dX4_vouches_36 : decode cX4_vouches 36 = .ok (.iload_n 3, 1) := by decide +kernel
theorem dX4_vouches_37 : decode cX4_vouches 37 = .ok (.invokevirtual 135, 3) := by decide +kernel
theorem dX4_vouches_40 : decode cX4_vouches 40 = .ok (.aload_n 0, 1) := by decide +kernel
theorem dX4_vouches_41 : decode cX4_vouches 41 = .ok (.dup, 1) := by decide +kernel
theorem dX4_vouches_42 : decode cX4_vouches 42 = .ok (.getfield 146, 3) := by decide +kernel
theorem dX4_vouches_45 : decode cX4_vouches 45 = .ok (.iload_n 3, 1) := by decide +kernel
theorem dX4_vouches_46 : decode cX4_vouches 46 = .ok (.iadd, 1) := by decide +kernel
theorem dX4_vouches_47 : decode cX4_vouches 47 = .ok (.putfield 146, 3) := by decide +kernel
theorem dX4_vouches_50 : decode cX4_vouches 50 = .ok (.return_, 1) := by decide +kernel
theorem dX4_month_0 : decode cX4_month 0 = .ok (.aload_n 0, 1) := by decide +kernel
theorem dX4_month_1 : decode cX4_month 1 = .ok (.iconst 0, 1) := by decide +kernel
theorem dX4_month_2 : decode cX4_month 2 = .ok (.putfield 89, 3) := by decide +kernel
theorem dX4_month_5 : decode cX4_month 5 = .ok (.iconst 0, 1) := by decide +kernel
theorem dX4_month_6 : decode cX4_month 6 = .ok (.istore_n 2, 1) := by decide +kernel
theorem dX4_month_7 : decode cX4_month 7 = .ok (.iconst 0, 1) := by decide +kernel
theorem dX4_month_8 : decode cX4_month 8 = .ok (.istore_n 3, 1) := by decide +kernel
theorem dX4_month_9 : decode cX4_month 9 = .ok (.iload_n 3, 1) := by decide +kernel
theorem dX4_month_10 : decode cX4_month 10 = .ok (.aload_n 0, 1) := by decide +kernel
theorem dX4_month_11 : decode cX4_month 11 = .ok (.getfield 93, 3) := by decide +kernel
theorem dX4_month_14 : decode cX4_month 14 = .ok (.if_icmp .ge 126, 3) := by decide +kernel
theorem dX4_month_17 : decode cX4_month 17 = .ok (.iload_n 1, 1) := by decide +kernel
theorem dX4_month_18 : decode cX4_month 18 = .ok (.ifCond .ne 122, 3) := by decide +kernel
theorem dX4_month_21 : decode cX4_month 21 = .ok (.aload_n 0, 1) := by decide +kernel
theorem dX4_month_22 : decode cX4_month 22 = .ok (.getfield 22, 3) := by decide +kernel
theorem dX4_month_25 : decode cX4_month 25 = .ok (.iload_n 3, 1) := by decide +kernel
theorem dX4_month_26 : decode cX4_month 26 = .ok (.iaload, 1) := by decide +kernel
theorem dX4_month_27 : decode cX4_month 27 = .ok (.ifCond .le 107, 3) := by decide +kernel
theorem dX4_month_30 : decode cX4_month 30 = .ok (.aload_n 0, 1) := by decide +kernel
theorem dX4_month_31 : decode cX4_month 31 = .ok (.getfield 22, 3) := by decide +kernel
theorem dX4_month_34 : decode cX4_month 34 = .ok (.iload_n 3, 1) := by decide +kernel
theorem dX4_month_35 : decode cX4_month 35 = .ok (.dup2, 1) := by decide +kernel
theorem dX4_month_36 : decode cX4_month 36 = .ok (.iaload, 1) := by decide +kernel
theorem dX4_month_37 : decode cX4_month 37 = .ok (.aload_n 0, 1) := by decide +kernel
theorem dX4_month_38 : decode cX4_month 38 = .ok (.getfield 22, 3) := by decide +kernel
theorem dX4_month_41 : decode cX4_month 41 = .ok (.iload_n 3, 1) := by decide +kernel
theorem dX4_month_42 : decode cX4_month 42 = .ok (.iaload, 1) := by decide +kernel
theorem dX4_month_43 : decode cX4_month 43 = .ok (.bipush 19, 2) := by decide +kernel
theorem dX4_month_45 : decode cX4_month 45 = .ok (.iadd, 1) := by decide +kernel
theorem dX4_month_46 : decode cX4_month 46 = .ok (.bipush 20, 2) := by decide +kernel
theorem dX4_month_48 : decode cX4_month 48 = .ok (.idiv, 1) := by decide +kernel
theorem dX4_month_49 : decode cX4_month 49 = .ok (.iadd, 1) := by decide +kernel
theorem dX4_month_50 : decode cX4_month 50 = .ok (.iastore, 1) := by decide +kernel
theorem dX4_month_51 : decode cX4_month 51 = .ok (.aload_n 0, 1) := by decide +kernel
theorem dX4_month_52 : decode cX4_month 52 = .ok (.getfield 25, 3) := by decide +kernel
theorem dX4_month_55 : decode cX4_month 55 = .ok (.iload_n 3, 1) := by decide +kernel
theorem dX4_month_56 : decode cX4_month 56 = .ok (.dup2, 1) := by decide +kernel
theorem dX4_month_57 : decode cX4_month 57 = .ok (.iaload, 1) := by decide +kernel
theorem dX4_month_58 : decode cX4_month 58 = .ok (.iconst 1, 1) := by decide +kernel
theorem dX4_month_59 : decode cX4_month 59 = .ok (.iadd, 1) := by decide +kernel
theorem dX4_month_60 : decode cX4_month 60 = .ok (.iastore, 1) := by decide +kernel
theorem dX4_month_61 : decode cX4_month 61 = .ok (.aload_n 0, 1) := by decide +kernel
theorem dX4_month_62 : decode cX4_month 62 = .ok (.getfield 25, 3) := by decide +kernel
theorem dX4_month_65 : decode cX4_month 65 = .ok (.iload_n 3, 1) := by decide +kernel
theorem dX4_month_66 : decode cX4_month 66 = .ok (.iaload, 1) := by decide +kernel
theorem dX4_month_67 : decode cX4_month 67 = .ok (.bipush 6, 2) := by decide +kernel
theorem dX4_month_69 : decode cX4_month 69 = .ok (.if_icmp .le 65, 3) := by decide +kernel
theorem dX4_month_72 : decode cX4_month 72 = .ok (.aload_n 0, 1) := by decide +kernel
theorem dX4_month_73 : decode cX4_month 73 = .ok (.getfield 22, 3) := by decide +kernel
theorem dX4_month_76 : decode cX4_month 76 = .ok (.iload_n 3, 1) := by decide +kernel
theorem dX4_month_77 : decode cX4_month 77 = .ok (.iaload, 1) := by decide +kernel
theorem dX4_month_78 : decode cX4_month 78 = .ok (.iconst 2, 1) := by decide +kernel
theorem dX4_month_79 : decode cX4_month 79 = .ok (.idiv, 1) := by decide +kernel
theorem dX4_month_80 : decode cX4_month 80 = .ok (.istore 4, 2) := by decide +kernel
theorem dX4_month_82 : decode cX4_month 82 = .ok (.aload_n 0, 1) := by decide +kernel
theorem dX4_month_83 : decode cX4_month 83 = .ok (.getfield 22, 3) := by decide +kernel
theorem dX4_month_86 : decode cX4_month 86 = .ok (.iload_n 3, 1) := by decide +kernel
theorem dX4_month_87 : decode cX4_month 87 = .ok (.iaload, 1) := by decide +kernel
theorem dX4_month_88 : decode cX4_month 88 = .ok (.iload 4, 2) := by decide +kernel
theorem dX4_month_90 : decode cX4_month 90 = .ok (.isub, 1) := by decide +kernel
theorem dX4_month_91 : decode cX4_month 91 = .ok (.istore 5, 2) := by decide +kernel
theorem dX4_month_93 : decode cX4_month 93 = .ok (.aload_n 0, 1) := by decide +kernel
theorem dX4_month_94 : decode cX4_month 94 = .ok (.getfield 22, 3) := by decide +kernel
theorem dX4_month_97 : decode cX4_month 97 = .ok (.iload_n 3, 1) := by decide +kernel
theorem dX4_month_98 : decode cX4_month 98 = .ok (.iconst 0, 1) := by decide +kernel
theorem dX4_month_99 : decode cX4_month 99 = .ok (.iastore, 1) := by decide +kernel
theorem dX4_month_100 : decode cX4_month 100 = .ok (.aload_n 0, 1) := by decide +kernel
theorem dX4_month_101 : decode cX4_month 101 = .ok (.getfield 34, 3) := by decide +kernel
theorem dX4_month_104 : decode cX4_month 104 = .ok (.iload_n 3, 1) := by decide +kernel
theorem dX4_month_105 : decode cX4_month 105 = .ok (.iconst 0, 1) := by decide +kernel
theorem dX4_month_106 : decode cX4_month 106 = .ok (.iastore, 1) := by decide +kernel
theorem dX4_month_107 : decode cX4_month 107 = .ok (.aload_n 0, 1) := by decide +kernel
theorem dX4_month_108 : decode cX4_month 108 = .ok (.aload_n 0, 1) := by decide +kernel
theorem dX4_month_109 : decode cX4_month 109 = .ok (.getfield 28, 3) := by decide +kernel
theorem dX4_month_112 : decode cX4_month 112 = .ok (.iload_n 3, 1) := by decide +kernel
theorem dX4_month_113 : decode cX4_month 113 = .ok (.iaload, 1) := by decide +kernel
theorem dX4_month_114 : decode cX4_month 114 = .ok (.iload 4, 2) := by decide +kernel
theorem dX4_month_116 : decode cX4_month 116 = .ok (.invokevirtual 160, 3) := by decide +kernel
theorem dX4_month_119 : decode cX4_month 119 = .ok (.aload_n 0, 1) := by decide +kernel
theorem dX4_month_120 : decode cX4_month 120 = .ok (.aload_n 0, 1) := by decide +kernel
theorem dX4_month_121 : decode cX4_month 121 = .ok (.getfield 31, 3) := by decide +kernel
theorem dX4_month_124 : decode cX4_month 124 = .ok (.iload_n 3, 1) := by decide +kernel
theorem dX4_month_125 : decode cX4_month 125 = .ok (.iaload, 1) := by decide +kernel
theorem dX4_month_126 : decode cX4_month 126 = .ok (.iload 5, 2) := by decide +kernel
theorem dX4_month_128 : decode cX4_month 128 = .ok (.invokevirtual 160, 3) := by decide +kernel
theorem dX4_month_131 : decode cX4_month 131 = .ok (.iinc 2 1, 3) := by decide +kernel
theorem dX4_month_134 : decode cX4_month 134 = .ok (.iinc 3 1, 3) := by decide +kernel
theorem dX4_month_137 : decode cX4_month 137 = .ok (.goto (-128), 3) := by decide +kernel
theorem dX4_month_140 : decode cX4_month 140 = .ok (.iload_n 2, 1) := by decide +kernel
theorem dX4_month_141 : decode cX4_month 141 = .ok (.ireturn, 1) := by decide +kernel
theorem dX4_feast_0 : decode cX4_feast 0 = .ok (.iconst 0, 1) := by decide +kernel
theorem dX4_feast_1 : decode cX4_feast 1 = .ok (.istore_n 1, 1) := by decide +kernel
theorem dX4_feast_2 : decode cX4_feast 2 = .ok (.iconst 0, 1) := by decide +kernel
theorem dX4_feast_3 : decode cX4_feast 3 = .ok (.istore_n 2, 1) := by decide +kernel
theorem dX4_feast_4 : decode cX4_feast 4 = .ok (.iconst 0, 1) := by decide +kernel
theorem dX4_feast_5 : decode cX4_feast 5 = .ok (.istore_n 3, 1) := by decide +kernel
theorem dX4_feast_6 : decode cX4_feast 6 = .ok (.iload_n 3, 1) := by decide +kernel
theorem dX4_feast_7 : decode cX4_feast 7 = .ok (.aload_n 0, 1) := by decide +kernel
theorem dX4_feast_8 : decode cX4_feast 8 = .ok (.getfield 93, 3) := by decide +kernel
theorem dX4_feast_11 : decode cX4_feast 11 = .ok (.if_icmp .ge 27, 3) := by decide +kernel
theorem dX4_feast_14 : decode cX4_feast 14 = .ok (.iload_n 1, 1) := by decide +kernel
theorem dX4_feast_15 : decode cX4_feast 15 = .ok (.aload_n 0, 1) := by decide +kernel
theorem dX4_feast_16 : decode cX4_feast 16 = .ok (.getfield 19, 3) := by decide +kernel
theorem dX4_feast_19 : decode cX4_feast 19 = .ok (.iload_n 3, 1) := by decide +kernel
theorem dX4_feast_20 : decode cX4_feast 20 = .ok (.iaload, 1) := by decide +kernel
theorem dX4_feast_21 : decode cX4_feast 21 = .ok (.iadd, 1) := by decide +kernel
theorem dX4_feast_22 : decode cX4_feast 22 = .ok (.istore_n 1, 1) := by decide +kernel
theorem dX4_feast_23 : decode cX4_feast 23 = .ok (.iload_n 2, 1) := by decide +kernel
theorem dX4_feast_24 : decode cX4_feast 24 = .ok (.aload_n 0, 1) := by decide +kernel
theorem dX4_feast_25 : decode cX4_feast 25 = .ok (.getfield 22, 3) := by decide +kernel
theorem dX4_feast_28 : decode cX4_feast 28 = .ok (.iload_n 3, 1) := by decide +kernel
theorem dX4_feast_29 : decode cX4_feast 29 = .ok (.iaload, 1) := by decide +kernel
theorem dX4_feast_30 : decode cX4_feast 30 = .ok (.iadd, 1) := by decide +kernel
theorem dX4_feast_31 : decode cX4_feast 31 = .ok (.istore_n 2, 1) := by decide +kernel
theorem dX4_feast_32 : decode cX4_feast 32 = .ok (.iinc 3 1, 3) := by decide +kernel
theorem dX4_feast_35 : decode cX4_feast 35 = .ok (.goto (-29), 3) := by decide +kernel
theorem dX4_feast_38 : decode cX4_feast 38 = .ok (.aload_n 0, 1) := by decide +kernel
theorem dX4_feast_39 : decode cX4_feast 39 = .ok (.iload_n 1, 1) := by decide +kernel
theorem dX4_feast_40 : decode cX4_feast 40 = .ok (.ifCond .eq 7, 3) := by decide +kernel
theorem dX4_feast_43 : decode cX4_feast 43 = .ok (.iload_n 2, 1) := by decide +kernel
theorem dX4_feast_44 : decode cX4_feast 44 = .ok (.ifCond .le 7, 3) := by decide +kernel
theorem dX4_feast_47 : decode cX4_feast 47 = .ok (.iconst 1, 1) := by decide +kernel
theorem dX4_feast_48 : decode cX4_feast 48 = .ok (.goto 4, 3) := by decide +kernel
theorem dX4_feast_51 : decode cX4_feast 51 = .ok (.iconst 0, 1) := by decide +kernel
theorem dX4_feast_52 : decode cX4_feast 52 = .ok (.putfield 89, 3) := by decide +kernel
theorem dX4_feast_55 : decode cX4_feast 55 = .ok (.aload_n 0, 1) := by decide +kernel
theorem dX4_feast_56 : decode cX4_feast 56 = .ok (.getfield 89, 3) := by decide +kernel
theorem dX4_feast_59 : decode cX4_feast 59 = .ok (.ifCond .eq 5, 3) := by decide +kernel
theorem dX4_feast_62 : decode cX4_feast 62 = .ok (.iconst 0, 1) := by decide +kernel
theorem dX4_feast_63 : decode cX4_feast 63 = .ok (.ireturn, 1) := by decide +kernel
theorem dX4_feast_64 : decode cX4_feast 64 = .ok (.aload_n 0, 1) := by decide +kernel
theorem dX4_feast_65 : decode cX4_feast 65 = .ok (.getfield 146, 3) := by decide +kernel
theorem dX4_feast_68 : decode cX4_feast 68 = .ok (.iload_n 1, 1) := by decide +kernel
theorem dX4_feast_69 : decode cX4_feast 69 = .ok (.idiv, 1) := by decide +kernel
theorem dX4_feast_70 : decode cX4_feast 70 = .ok (.istore_n 3, 1) := by decide +kernel
theorem dX4_feast_71 : decode cX4_feast 71 = .ok (.iconst 0, 1) := by decide +kernel
theorem dX4_feast_72 : decode cX4_feast 72 = .ok (.istore 4, 2) := by decide +kernel
theorem dX4_feast_74 : decode cX4_feast 74 = .ok (.iload 4, 2) := by decide +kernel
theorem dX4_feast_76 : decode cX4_feast 76 = .ok (.aload_n 0, 1) := by decide +kernel
theorem dX4_feast_77 : decode cX4_feast 77 = .ok (.getfield 93, 3) := by decide +kernel
theorem dX4_feast_80 : decode cX4_feast 80 = .ok (.if_icmp .ge 51, 3) := by decide +kernel
theorem dX4_feast_83 : decode cX4_feast 83 = .ok (.aload_n 0, 1) := by decide +kernel
theorem dX4_feast_84 : decode cX4_feast 84 = .ok (.iload 4, 2) := by decide +kernel
theorem dX4_feast_86 : decode cX4_feast 86 = .ok (.iload_n 3, 1) := by decide +kernel
theorem dX4_feast_87 : decode cX4_feast 87 = .ok (.ineg, 1) := by decide +kernel
theorem dX4_feast_88 : decode cX4_feast 88 = .ok (.aload_n 0, 1) := by decide +kernel
theorem dX4_feast_89 : decode cX4_feast 89 = .ok (.getfield 19, 3) := by decide +kernel
theorem dX4_feast_92 : decode cX4_feast 92 = .ok (.iload 4, 2) := by decide +kernel
theorem dX4_feast_94 : decode cX4_feast 94 = .ok (.iaload, 1) := by decide +kernel
theorem dX4_feast_95 : decode cX4_feast 95 = .ok (.imul, 1) := by decide +kernel
theorem dX4_feast_96 : decode cX4_feast 96 = .ok (.invokevirtual 135, 3) := by decide +kernel
theorem dX4_feast_99 : decode cX4_feast 99 = .ok (.aload_n 0, 1) := by decide +kernel
theorem dX4_feast_100 : decode cX4_feast 100 = .ok (.dup, 1) := by decide +kernel
theorem dX4_feast_101 : decode cX4_feast 101 = .ok (.getfield 146, 3) := by decide +kernel
theorem dX4_feast_104 : decode cX4_feast 104 = .ok (.iload_n 3, 1) := by decide +kernel
theorem dX4_feast_105 : decode cX4_feast 105 = .ok (.aload_n 0, 1) := by decide +kernel
theorem dX4_feast_106 : decode cX4_feast 106 = .ok (.getfield 19, 3) := by decide +kernel
theorem dX4_feast_109 : decode cX4_feast 109 = .ok (.iload 4, 2) := by decide +kernel
theorem dX4_feast_111 : decode cX4_feast 111 = .ok (.iaload, 1) := by decide +kernel
theorem dX4_feast_112 : decode cX4_feast 112 = .ok (.imul, 1) := by decide +kernel
theorem dX4_feast_113 : decode cX4_feast 113 = .ok (.isub, 1) := by decide +kernel
theorem dX4_feast_114 : decode cX4_feast 114 = .ok (.putfield 146, 3) := by decide +kernel
theorem dX4_feast_117 : decode cX4_feast 117 = .ok (.aload_n 0, 1) := by decide +kernel
theorem dX4_feast_118 : decode cX4_feast 118 = .ok (.getfield 19, 3) := by decide +kernel
theorem dX4_feast_121 : decode cX4_feast 121 = .ok (.iload 4, 2) := by decide +kernel
theorem dX4_feast_123 : decode cX4_feast 123 = .ok (.iconst 0, 1) := by decide +kernel
theorem dX4_feast_124 : decode cX4_feast 124 = .ok (.iastore, 1) := by decide +kernel
theorem dX4_feast_125 : decode cX4_feast 125 = .ok (.iinc 4 1, 3) := by decide +kernel
theorem dX4_feast_128 : decode cX4_feast 128 = .ok (.goto (-54), 3) := by decide +kernel
theorem dX4_feast_131 : decode cX4_feast 131 = .ok (.iload_n 3, 1) := by decide +kernel
theorem dX4_feast_132 : decode cX4_feast 132 = .ok (.ireturn, 1) := by decide +kernel
theorem dX4_note_0 : decode cX4_note 0 = .ok (.aload_n 0, 1) := by decide +kernel
theorem dX4_note_1 : decode cX4_note 1 = .ok (.iload_n 1, 1) := by decide +kernel
theorem dX4_note_2 : decode cX4_note 2 = .ok (.iconst 0, 1) := by decide +kernel
theorem dX4_note_3 : decode cX4_note 3 = .ok (.iconst 2, 1) := by decide +kernel
theorem dX4_note_4 : decode cX4_note 4 = .ok (.invokestatic 96, 3) := by decide +kernel
theorem dX4_note_7 : decode cX4_note 7 = .ok (.ifCond .eq 11, 3) := by decide +kernel
theorem dX4_note_10 : decode cX4_note 10 = .ok (.aload_n 0, 1) := by decide +kernel
theorem dX4_note_11 : decode cX4_note 11 = .ok (.iload_n 2, 1) := by decide +kernel
theorem dX4_note_12 : decode cX4_note 12 = .ok (.invokevirtual 104, 3) := by decide +kernel
theorem dX4_note_15 : decode cX4_note 15 = .ok (.ifCond .ne 7, 3) := by decide +kernel
theorem dX4_note_18 : decode cX4_note 18 = .ok (.iconst 1, 1) := by decide +kernel
theorem dX4_note_19 : decode cX4_note 19 = .ok (.goto 21, 3) := by decide +kernel
theorem dX4_note_22 : decode cX4_note 22 = .ok (.iload_n 3, 1) := by decide +kernel
theorem dX4_note_23 : decode cX4_note 23 = .ok (.sipush (-10000), 3) := by decide +kernel
theorem dX4_note_26 : decode cX4_note 26 = .ok (.sipush 10000, 3) := by decide +kernel
theorem dX4_note_29 : decode cX4_note 29 = .ok (.invokestatic 96, 3) := by decide +kernel
theorem dX4_note_32 : decode cX4_note 32 = .ok (.ifCond .ne 7, 3) := by decide +kernel
theorem dX4_note_35 : decode cX4_note 35 = .ok (.iconst 2, 1) := by decide +kernel
theorem dX4_note_36 : decode cX4_note 36 = .ok (.goto 4, 3) := by decide +kernel
theorem dX4_note_39 : decode cX4_note 39 = .ok (.iconst 0, 1) := by decide +kernel
theorem dX4_note_40 : decode cX4_note 40 = .ok (.putfield 89, 3) := by decide +kernel
theorem dX4_note_43 : decode cX4_note 43 = .ok (.aload_n 0, 1) := by decide +kernel
theorem dX4_note_44 : decode cX4_note 44 = .ok (.getfield 89, 3) := by decide +kernel
theorem dX4_note_47 : decode cX4_note 47 = .ok (.ifCond .eq 5, 3) := by decide +kernel
theorem dX4_note_50 : decode cX4_note 50 = .ok (.iconst 0, 1) := by decide +kernel
theorem dX4_note_51 : decode cX4_note 51 = .ok (.ireturn, 1) := by decide +kernel
theorem dX4_note_52 : decode cX4_note 52 = .ok (.aload_n 0, 1) := by decide +kernel
theorem dX4_note_53 : decode cX4_note 53 = .ok (.getfield 86, 3) := by decide +kernel
theorem dX4_note_56 : decode cX4_note 56 = .ok (.bipush 16, 2) := by decide +kernel
theorem dX4_note_58 : decode cX4_note 58 = .ok (.iload_n 1, 1) := by decide +kernel
theorem dX4_note_59 : decode cX4_note 59 = .ok (.imul, 1) := by decide +kernel
theorem dX4_note_60 : decode cX4_note 60 = .ok (.iload_n 2, 1) := by decide +kernel
theorem dX4_note_61 : decode cX4_note 61 = .ok (.iadd, 1) := by decide +kernel
theorem dX4_note_62 : decode cX4_note 62 = .ok (.dup2, 1) := by decide +kernel
theorem dX4_note_63 : decode cX4_note 63 = .ok (.iaload, 1) := by decide +kernel
theorem dX4_note_64 : decode cX4_note 64 = .ok (.iload_n 3, 1) := by decide +kernel
theorem dX4_note_65 : decode cX4_note 65 = .ok (.iadd, 1) := by decide +kernel
theorem dX4_note_66 : decode cX4_note 66 = .ok (.iastore, 1) := by decide +kernel
theorem dX4_note_67 : decode cX4_note 67 = .ok (.aload_n 0, 1) := by decide +kernel
theorem dX4_note_68 : decode cX4_note 68 = .ok (.getfield 86, 3) := by decide +kernel
theorem dX4_note_71 : decode cX4_note 71 = .ok (.bipush 16, 2) := by decide +kernel
theorem dX4_note_73 : decode cX4_note 73 = .ok (.iload_n 1, 1) := by decide +kernel
theorem dX4_note_74 : decode cX4_note 74 = .ok (.imul, 1) := by decide +kernel
theorem dX4_note_75 : decode cX4_note 75 = .ok (.iload_n 2, 1) := by decide +kernel
theorem dX4_note_76 : decode cX4_note 76 = .ok (.iadd, 1) := by decide +kernel
theorem dX4_note_77 : decode cX4_note 77 = .ok (.iaload, 1) := by decide +kernel
theorem dX4_note_78 : decode cX4_note 78 = .ok (.ireturn, 1) := by decide +kernel
theorem dX4_audit_0 : decode cX4_audit 0 = .ok (.aload_n 0, 1) := by decide +kernel
theorem dX4_audit_1 : decode cX4_audit 1 = .ok (.iload_n 1, 1) := by decide +kernel
theorem dX4_audit_2 : decode cX4_audit 2 = .ok (.iconst 0, 1) := by decide +kernel
theorem dX4_audit_3 : decode cX4_audit 3 = .ok (.iconst 2, 1) := by decide +kernel
theorem dX4_audit_4 : decode cX4_audit 4 = .ok (.invokestatic 96, 3) := by decide +kernel
theorem dX4_audit_7 : decode cX4_audit 7 = .ok (.ifCond .eq 7, 3) := by decide +kernel
theorem dX4_audit_10 : decode cX4_audit 10 = .ok (.iconst 0, 1) := by decide +kernel
theorem dX4_audit_11 : decode cX4_audit 11 = .ok (.goto 4, 3) := by decide +kernel
theorem dX4_audit_14 : decode cX4_audit 14 = .ok (.iconst 1, 1) := by decide +kernel
theorem dX4_audit_15 : decode cX4_audit 15 = .ok (.putfield 89, 3) := by decide +kernel
theorem dX4_audit_18 : decode cX4_audit 18 = .ok (.iconst (-1), 1) := by decide +kernel
theorem dX4_audit_19 : decode cX4_audit 19 = .ok (.istore_n 2, 1) := by decide +kernel
theorem dX4_audit_20 : decode cX4_audit 20 = .ok (.aload_n 0, 1) := by decide +kernel
theorem dX4_audit_21 : decode cX4_audit 21 = .ok (.getfield 93, 3) := by decide +kernel
theorem dX4_audit_24 : decode cX4_audit 24 = .ok (.iconst 1, 1) := by decide +kernel
theorem dX4_audit_25 : decode cX4_audit 25 = .ok (.isub, 1) := by decide +kernel
theorem dX4_audit_26 : decode cX4_audit 26 = .ok (.istore_n 3, 1) := by decide +kernel
theorem dX4_audit_27 : decode cX4_audit 27 = .ok (.iload_n 3, 1) := by decide +kernel
theorem dX4_audit_28 : decode cX4_audit 28 = .ok (.ifCond .lt 42, 3) := by decide +kernel
theorem dX4_audit_31 : decode cX4_audit 31 = .ok (.aload_n 0, 1) := by decide +kernel
theorem dX4_audit_32 : decode cX4_audit 32 = .ok (.getfield 89, 3) := by decide +kernel
theorem dX4_audit_35 : decode cX4_audit 35 = .ok (.ifCond .ne 35, 3) := by decide +kernel
theorem dX4_audit_38 : decode cX4_audit 38 = .ok (.aload_n 0, 1) := by decide +kernel
theorem dX4_audit_39 : decode cX4_audit 39 = .ok (.getfield 86, 3) := by decide +kernel
theorem dX4_audit_42 : decode cX4_audit 42 = .ok (.bipush 16, 2) := by decide +kernel
theorem dX4_audit_44 : decode cX4_audit 44 = .ok (.iload_n 1, 1) := by decide +kernel
theorem dX4_audit_45 : decode cX4_audit 45 = .ok (.imul, 1) := by decide +kernel
theorem dX4_audit_46 : decode cX4_audit 46 = .ok (.iload_n 3, 1) := by decide +kernel
theorem dX4_audit_47 : decode cX4_audit 47 = .ok (.iadd, 1) := by decide +kernel
theorem dX4_audit_48 : decode cX4_audit 48 = .ok (.iaload, 1) := by decide +kernel
theorem dX4_audit_49 : decode cX4_audit 49 = .ok (.aload_n 0, 1) := by decide +kernel
theorem dX4_audit_50 : decode cX4_audit 50 = .ok (.getfield 37, 3) := by decide +kernel
theorem dX4_audit_53 : decode cX4_audit 53 = .ok (.iload_n 3, 1) := by decide +kernel
theorem dX4_audit_54 : decode cX4_audit 54 = .ok (.iaload, 1) := by decide +kernel
theorem dX4_audit_55 : decode cX4_audit 55 = .ok (.if_icmp .ne 7, 3) := by decide +kernel
theorem dX4_audit_58 : decode cX4_audit 58 = .ok (.iload_n 2, 1) := by decide +kernel
theorem dX4_audit_59 : decode cX4_audit 59 = .ok (.goto 4, 3) := by decide +kernel
theorem dX4_audit_62 : decode cX4_audit 62 = .ok (.iload_n 3, 1) := by decide +kernel
theorem dX4_audit_63 : decode cX4_audit 63 = .ok (.istore_n 2, 1) := by decide +kernel
theorem dX4_audit_64 : decode cX4_audit 64 = .ok (.iinc 3 (-1), 3) := by decide +kernel
theorem dX4_audit_67 : decode cX4_audit 67 = .ok (.goto (-40), 3) := by decide +kernel
theorem dX4_audit_70 : decode cX4_audit 70 = .ok (.aload_n 0, 1) := by decide +kernel
theorem dX4_audit_71 : decode cX4_audit 71 = .ok (.getfield 89, 3) := by decide +kernel
theorem dX4_audit_74 : decode cX4_audit 74 = .ok (.ifCond .eq 7, 3) := by decide +kernel
theorem dX4_audit_77 : decode cX4_audit 77 = .ok (.iconst 0, 1) := by decide +kernel
theorem dX4_audit_78 : decode cX4_audit 78 = .ok (.goto 4, 3) := by decide +kernel
theorem dX4_audit_81 : decode cX4_audit 81 = .ok (.iload_n 2, 1) := by decide +kernel
theorem dX4_audit_82 : decode cX4_audit 82 = .ok (.ireturn, 1) := by decide +kernel
theorem dX4_of_0 : decode cX4_of 0 = .ok (.aload_n 0, 1) := by decide +kernel
theorem dX4_of_1 : decode cX4_of 1 = .ok (.aload_n 0, 1) := by decide +kernel
theorem dX4_of_2 : decode cX4_of 2 = .ok (.iload_n 1, 1) := by decide +kernel
theorem dX4_of_3 : decode cX4_of 3 = .ok (.invokevirtual 104, 3) := by decide +kernel
theorem dX4_of_6 : decode cX4_of 6 = .ok (.ifCond .ne 7, 3) := by decide +kernel
theorem dX4_of_9 : decode cX4_of 9 = .ok (.iconst 1, 1) := by decide +kernel
theorem dX4_of_10 : decode cX4_of 10 = .ok (.goto 18, 3) := by decide +kernel
theorem dX4_of_13 : decode cX4_of 13 = .ok (.iload_n 2, 1) := by decide +kernel
theorem dX4_of_14 : decode cX4_of 14 = .ok (.iconst 0, 1) := by decide +kernel
theorem dX4_of_15 : decode cX4_of 15 = .ok (.bipush 6, 2) := by decide +kernel
theorem dX4_of_17 : decode cX4_of 17 = .ok (.invokestatic 96, 3) := by decide +kernel
theorem dX4_of_20 : decode cX4_of 20 = .ok (.ifCond .ne 7, 3) := by decide +kernel
theorem dX4_of_23 : decode cX4_of 23 = .ok (.iconst 2, 1) := by decide +kernel
theorem dX4_of_24 : decode cX4_of 24 = .ok (.goto 4, 3) := by decide +kernel
theorem dX4_of_27 : decode cX4_of 27 = .ok (.iconst 0, 1) := by decide +kernel
theorem dX4_of_28 : decode cX4_of 28 = .ok (.putfield 89, 3) := by decide +kernel
theorem dX4_of_31 : decode cX4_of 31 = .ok (.aload_n 0, 1) := by decide +kernel
theorem dX4_of_32 : decode cX4_of 32 = .ok (.getfield 89, 3) := by decide +kernel
theorem dX4_of_35 : decode cX4_of 35 = .ok (.ifCond .eq 5, 3) := by decide +kernel
theorem dX4_of_38 : decode cX4_of 38 = .ok (.iconst 0, 1) := by decide +kernel
theorem dX4_of_39 : decode cX4_of 39 = .ok (.ireturn, 1) := by decide +kernel
theorem dX4_of_40 : decode cX4_of 40 = .ok (.aload_n 0, 1) := by decide +kernel
theorem dX4_of_41 : decode cX4_of 41 = .ok (.getfield 40, 3) := by decide +kernel
theorem dX4_of_44 : decode cX4_of 44 = .ok (.iload_n 1, 1) := by decide +kernel
theorem dX4_of_45 : decode cX4_of 45 = .ok (.baload, 1) := by decide +kernel
theorem dX4_of_46 : decode cX4_of 46 = .ok (.ifCond .eq 7, 3) := by decide +kernel
theorem dX4_of_49 : decode cX4_of 49 = .ok (.iconst 0, 1) := by decide +kernel
theorem dX4_of_50 : decode cX4_of 50 = .ok (.goto 4, 3) := by decide +kernel
theorem dX4_of_53 : decode cX4_of 53 = .ok (.iconst 1, 1) := by decide +kernel
theorem dX4_of_54 : decode cX4_of 54 = .ok (.istore_n 3, 1) := by decide +kernel
theorem dX4_of_55 : decode cX4_of 55 = .ok (.iload_n 2, 1) := by decide +kernel
theorem dX4_of_56 : decode cX4_of 56 = .ok (.ifCond .ne 12, 3) := by decide +kernel
theorem dX4_of_59 : decode cX4_of 59 = .ok (.aload_n 0, 1) := by decide +kernel
theorem dX4_of_60 : decode cX4_of 60 = .ok (.getfield 16, 3) := by decide +kernel
theorem dX4_of_63 : decode cX4_of 63 = .ok (.iload_n 1, 1) := by decide +kernel
theorem dX4_of_64 : decode cX4_of 64 = .ok (.iaload, 1) := by decide +kernel
theorem dX4_of_65 : decode cX4_of 65 = .ok (.goto 74, 3) := by decide +kernel
theorem dX4_of_68 : decode cX4_of 68 = .ok (.iload_n 2, 1) := by decide +kernel
theorem dX4_of_69 : decode cX4_of 69 = .ok (.iconst 1, 1) := by decide +kernel
theorem dX4_of_70 : decode cX4_of 70 = .ok (.if_icmp .ne 12, 3) := by decide +kernel
theorem dX4_of_73 : decode cX4_of 73 = .ok (.aload_n 0, 1) := by decide +kernel
theorem dX4_of_74 : decode cX4_of 74 = .ok (.getfield 19, 3) := by decide +kernel
theorem dX4_of_77 : decode cX4_of 77 = .ok (.iload_n 1, 1) := by decide +kernel
theorem dX4_of_78 : decode cX4_of 78 = .ok (.iaload, 1) := by decide +kernel
theorem dX4_of_79 : decode cX4_of 79 = .ok (.goto 60, 3) := by decide +kernel
theorem dX4_of_82 : decode cX4_of 82 = .ok (.iload_n 2, 1) := by decide +kernel
theorem dX4_of_83 : decode cX4_of 83 = .ok (.iconst 2, 1) := by decide +kernel
theorem dX4_of_84 : decode cX4_of 84 = .ok (.if_icmp .ne 12, 3) := by decide +kernel
theorem dX4_of_87 : decode cX4_of 87 = .ok (.aload_n 0, 1) := by decide +kernel
theorem dX4_of_88 : decode cX4_of 88 = .ok (.getfield 22, 3) := by decide +kernel
theorem dX4_of_91 : decode cX4_of 91 = .ok (.iload_n 1, 1) := by decide +kernel
theorem dX4_of_92 : decode cX4_of 92 = .ok (.iaload, 1) := by decide +kernel
theorem dX4_of_93 : decode cX4_of 93 = .ok (.goto 46, 3) := by decide +kernel
theorem dX4_of_96 : decode cX4_of 96 = .ok (.iload_n 2, 1) := by decide +kernel
theorem dX4_of_97 : decode cX4_of 97 = .ok (.iconst 3, 1) := by decide +kernel
theorem dX4_of_98 : decode cX4_of 98 = .ok (.if_icmp .ne 12, 3) := by decide +kernel
theorem dX4_of_101 : decode cX4_of 101 = .ok (.aload_n 0, 1) := by decide +kernel
theorem dX4_of_102 : decode cX4_of 102 = .ok (.getfield 34, 3) := by decide +kernel
theorem dX4_of_105 : decode cX4_of 105 = .ok (.iload_n 1, 1) := by decide +kernel
theorem dX4_of_106 : decode cX4_of 106 = .ok (.iaload, 1) := by decide +kernel
theorem dX4_of_107 : decode cX4_of 107 = .ok (.goto 32, 3) := by decide +kernel
theorem dX4_of_110 : decode cX4_of 110 = .ok (.iload_n 2, 1) := by decide +kernel
theorem dX4_of_111 : decode cX4_of 111 = .ok (.iconst 4, 1) := by decide +kernel
theorem dX4_of_112 : decode cX4_of 112 = .ok (.if_icmp .ne 12, 3) := by decide +kernel
theorem dX4_of_115 : decode cX4_of 115 = .ok (.aload_n 0, 1) := by decide +kernel
theorem dX4_of_116 : decode cX4_of 116 = .ok (.getfield 37, 3) := by decide +kernel
theorem dX4_of_119 : decode cX4_of 119 = .ok (.iload_n 1, 1) := by decide +kernel
theorem dX4_of_120 : decode cX4_of 120 = .ok (.iaload, 1) := by decide +kernel
theorem dX4_of_121 : decode cX4_of 121 = .ok (.goto 18, 3) := by decide +kernel
theorem dX4_of_124 : decode cX4_of 124 = .ok (.iload_n 2, 1) := by decide +kernel
theorem dX4_of_125 : decode cX4_of 125 = .ok (.iconst 5, 1) := by decide +kernel
theorem dX4_of_126 : decode cX4_of 126 = .ok (.if_icmp .ne 7, 3) := by decide +kernel
theorem dX4_of_129 : decode cX4_of 129 = .ok (.iload_n 3, 1) := by decide +kernel
theorem dX4_of_130 : decode cX4_of 130 = .ok (.goto 9, 3) := by decide +kernel
theorem dX4_of_133 : decode cX4_of 133 = .ok (.aload_n 0, 1) := by decide +kernel
theorem dX4_of_134 : decode cX4_of 134 = .ok (.iload_n 1, 1) := by decide +kernel
theorem dX4_of_135 : decode cX4_of 135 = .ok (.iconst 0, 1) := by decide +kernel
theorem dX4_of_136 : decode cX4_of 136 = .ok (.invokevirtual 156, 3) := by decide +kernel
theorem dX4_of_139 : decode cX4_of 139 = .ok (.ireturn, 1) := by decide +kernel
theorem dX4_member_0 : decode cX4_member 0 = .ok (.aload_n 0, 1) := by decide +kernel
theorem dX4_member_1 : decode cX4_member 1 = .ok (.aload_n 0, 1) := by decide +kernel
theorem dX4_member_2 : decode cX4_member 2 = .ok (.iload_n 1, 1) := by decide +kernel
theorem dX4_member_3 : decode cX4_member 3 = .ok (.invokevirtual 129, 3) := by decide +kernel
theorem dX4_member_6 : decode cX4_member 6 = .ok (.ifCond .eq 11, 3) := by decide +kernel
theorem dX4_member_9 : decode cX4_member 9 = .ok (.aload_n 0, 1) := by decide +kernel
theorem dX4_member_10 : decode cX4_member 10 = .ok (.iload_n 2, 1) := by decide +kernel
theorem dX4_member_11 : decode cX4_member 11 = .ok (.invokevirtual 104, 3) := by decide +kernel
theorem dX4_member_14 : decode cX4_member 14 = .ok (.ifCond .ne 7, 3) := by decide +kernel
theorem dX4_member_17 : decode cX4_member 17 = .ok (.iconst 1, 1) := by decide +kernel
theorem dX4_member_18 : decode cX4_member 18 = .ok (.goto 17, 3) := by decide +kernel
theorem dX4_member_21 : decode cX4_member 21 = .ok (.iload_n 3, 1) := by decide +kernel
theorem dX4_member_22 : decode cX4_member 22 = .ok (.iconst 0, 1) := by decide +kernel
theorem dX4_member_23 : decode cX4_member 23 = .ok (.iconst 3, 1) := by decide +kernel
theorem dX4_member_24 : decode cX4_member 24 = .ok (.invokestatic 96, 3) := by decide +kernel
theorem dX4_member_27 : decode cX4_member 27 = .ok (.ifCond .ne 7, 3) := by decide +kernel
theorem dX4_member_30 : decode cX4_member 30 = .ok (.iconst 2, 1) := by decide +kernel
theorem dX4_member_31 : decode cX4_member 31 = .ok (.goto 4, 3) := by decide +kernel
theorem dX4_member_34 : decode cX4_member 34 = .ok (.iconst 0, 1) := by decide +kernel
theorem dX4_member_35 : decode cX4_member 35 = .ok (.putfield 89, 3) := by decide +kernel
theorem dX4_member_38 : decode cX4_member 38 = .ok (.aload_n 0, 1) := by decide +kernel
theorem dX4_member_39 : decode cX4_member 39 = .ok (.getfield 89, 3) := by decide +kernel
theorem dX4_member_42 : decode cX4_member 42 = .ok (.ifCond .eq 5, 3) := by decide +kernel
theorem dX4_member_45 : decode cX4_member 45 = .ok (.iconst 0, 1) := by decide +kernel
theorem dX4_member_46 : decode cX4_member 46 = .ok (.ireturn, 1) := by decide +kernel
theorem dX4_member_47 : decode cX4_member 47 = .ok (.aload_n 0, 1) := by decide +kernel
theorem dX4_member_48 : decode cX4_member 48 = .ok (.iload_n 1, 1) := by decide +kernel
theorem dX4_member_49 : decode cX4_member 49 = .ok (.iload_n 2, 1) := by decide +kernel
theorem dX4_member_50 : decode cX4_member 50 = .ok (.invokevirtual 122, 3) := by decide +kernel
theorem dX4_member_53 : decode cX4_member 53 = .ok (.istore 4, 2) := by decide +kernel
theorem dX4_member_55 : decode cX4_member 55 = .ok (.iload 4, 2) := by decide +kernel
theorem dX4_member_57 : decode cX4_member 57 = .ok (.ifCond .ge 5, 3) := by decide +kernel
theorem dX4_member_60 : decode cX4_member 60 = .ok (.iconst (-1), 1) := by decide +kernel
theorem dX4_member_61 : decode cX4_member 61 = .ok (.ireturn, 1) := by decide +kernel
theorem dX4_member_62 : decode cX4_member 62 = .ok (.bipush 10, 2) := by decide +kernel
theorem dX4_member_64 : decode cX4_member 64 = .ok (.iload_n 1, 1) := by decide +kernel
theorem dX4_member_65 : decode cX4_member 65 = .ok (.imul, 1) := by decide +kernel
theorem dX4_member_66 : decode cX4_member 66 = .ok (.iload 4, 2) := by decide +kernel
theorem dX4_member_68 : decode cX4_member 68 = .ok (.iadd, 1) := by decide +kernel
theorem dX4_member_69 : decode cX4_member 69 = .ok (.istore 5, 2) := by decide +kernel
theorem dX4_member_71 : decode cX4_member 71 = .ok (.iload_n 3, 1) := by decide +kernel
theorem dX4_member_72 : decode cX4_member 72 = .ok (.ifCond .ne 13, 3) := by decide +kernel
theorem dX4_member_75 : decode cX4_member 75 = .ok (.aload_n 0, 1) := by decide +kernel
theorem dX4_member_76 : decode cX4_member 76 = .ok (.getfield 68, 3) := by decide +kernel
theorem dX4_member_79 : decode cX4_member 79 = .ok (.iload 5, 2) := by decide +kernel
theorem dX4_member_81 : decode cX4_member 81 = .ok (.iaload, 1) := by decide +kernel
theorem dX4_member_82 : decode cX4_member 82 = .ok (.goto 43, 3) := by decide +kernel
theorem dX4_member_85 : decode cX4_member 85 = .ok (.iload_n 3, 1) := by decide +kernel
theorem dX4_member_86 : decode cX4_member 86 = .ok (.iconst 1, 1) := by decide +kernel
theorem dX4_member_87 : decode cX4_member 87 = .ok (.if_icmp .ne 21, 3) := by decide +kernel
theorem dX4_member_90 : decode cX4_member 90 = .ok (.aload_n 0, 1) := by decide +kernel
theorem dX4_member_91 : decode cX4_member 91 = .ok (.getfield 83, 3) := by decide +kernel
theorem dX4_member_94 : decode cX4_member 94 = .ok (.iload 5, 2) := by decide +kernel
theorem dX4_member_96 : decode cX4_member 96 = .ok (.baload, 1) := by decide +kernel
theorem dX4_member_97 : decode cX4_member 97 = .ok (.ifCond .eq 7, 3) := by decide +kernel
theorem dX4_member_100 : decode cX4_member 100 = .ok (.iconst 1, 1) := by decide +kernel
theorem dX4_member_101 : decode cX4_member 101 = .ok (.goto 24, 3) := by decide +kernel
theorem dX4_member_104 : decode cX4_member 104 = .ok (.iconst 0, 1) := by decide +kernel
theorem dX4_member_105 : decode cX4_member 105 = .ok (.goto 20, 3) := by decide +kernel
theorem dX4_member_108 : decode cX4_member 108 = .ok (.iload_n 3, 1) := by decide +kernel
theorem dX4_member_109 : decode cX4_member 109 = .ok (.iconst 2, 1) := by decide +kernel
theorem dX4_member_110 : decode cX4_member 110 = .ok (.if_icmp .ne 13, 3) := by decide +kernel
theorem dX4_member_113 : decode cX4_member 113 = .ok (.aload_n 0, 1) := by decide +kernel
theorem dX4_member_114 : decode cX4_member 114 = .ok (.getfield 77, 3) := by decide +kernel
theorem dX4_member_117 : decode cX4_member 117 = .ok (.iload 5, 2) := by decide +kernel
theorem dX4_member_119 : decode cX4_member 119 = .ok (.iaload, 1) := by decide +kernel
theorem dX4_member_120 : decode cX4_member 120 = .ok (.goto 5, 3) := by decide +kernel
theorem dX4_member_123 : decode cX4_member 123 = .ok (.iload 4, 2) := by decide +kernel
theorem dX4_member_125 : decode cX4_member 125 = .ok (.ireturn, 1) := by decide +kernel
theorem dX4_ofCircle_0 : decode cX4_ofCircle 0 = .ok (.aload_n 0, 1) := by decide +kernel
theorem dX4_ofCircle_1 : decode cX4_ofCircle 1 = .ok (.aload_n 0, 1) := by decide +kernel
theorem dX4_ofCircle_2 : decode cX4_ofCircle 2 = .ok (.iload_n 1, 1) := by decide +kernel
theorem dX4_ofCircle_3 : decode cX4_ofCircle 3 = .ok (.invokevirtual 129, 3) := by decide +kernel
theorem dX4_ofCircle_6 : decode cX4_ofCircle 6 = .ok (.ifCond .ne 7, 3) := by decide +kernel
theorem dX4_ofCircle_9 : decode cX4_ofCircle 9 = .ok (.iconst 1, 1) := by decide +kernel
theorem dX4_ofCircle_10 : decode cX4_ofCircle 10 = .ok (.goto 17, 3) := by decide +kernel
theorem dX4_ofCircle_13 : decode cX4_ofCircle 13 = .ok (.iload_n 2, 1) := by decide +kernel
theorem dX4_ofCircle_14 : decode cX4_ofCircle 14 = .ok (.iconst 0, 1) := by decide +kernel
theorem dX4_ofCircle_15 : decode cX4_ofCircle 15 = .ok (.iconst 4, 1) := by decide +kernel
theorem dX4_ofCircle_16 : decode cX4_ofCircle 16 = .ok (.invokestatic 96, 3) := by decide +kernel
theorem dX4_ofCircle_19 : decode cX4_ofCircle 19 = .ok (.ifCond .ne 7, 3) := by decide +kernel
theorem dX4_ofCircle_22 : decode cX4_ofCircle 22 = .ok (.iconst 2, 1) := by decide +kernel
theorem dX4_ofCircle_23 : decode cX4_ofCircle 23 = .ok (.goto 4, 3) := by decide +kernel
theorem dX4_ofCircle_26 : decode cX4_ofCircle 26 = .ok (.iconst 0, 1) := by decide +kernel
theorem dX4_ofCircle_27 : decode cX4_ofCircle 27 = .ok (.putfield 89, 3) := by decide +kernel
theorem dX4_ofCircle_30 : decode cX4_ofCircle 30 = .ok (.aload_n 0, 1) := by decide +kernel
theorem dX4_ofCircle_31 : decode cX4_ofCircle 31 = .ok (.getfield 89, 3) := by decide +kernel
theorem dX4_ofCircle_34 : decode cX4_ofCircle 34 = .ok (.ifCond .eq 5, 3) := by decide +kernel
theorem dX4_ofCircle_37 : decode cX4_ofCircle 37 = .ok (.iconst 0, 1) := by decide +kernel
theorem dX4_ofCircle_38 : decode cX4_ofCircle 38 = .ok (.ireturn, 1) := by decide +kernel
theorem dX4_ofCircle_39 : decode cX4_ofCircle 39 = .ok (.aload_n 0, 1) := by decide +kernel
theorem dX4_ofCircle_40 : decode cX4_ofCircle 40 = .ok (.getfield 62, 3) := by decide +kernel
theorem dX4_ofCircle_43 : decode cX4_ofCircle 43 = .ok (.iload_n 1, 1) := by decide +kernel
theorem dX4_ofCircle_44 : decode cX4_ofCircle 44 = .ok (.baload, 1) := by decide +kernel
theorem dX4_ofCircle_45 : decode cX4_ofCircle 45 = .ok (.ifCond .eq 11, 3) := by decide +kernel
theorem dX4_ofCircle_48 : decode cX4_ofCircle 48 = .ok (.aload_n 0, 1) := by decide +kernel
theorem dX4_ofCircle_49 : decode cX4_ofCircle 49 = .ok (.iload_n 1, 1) := by decide +kernel
theorem dX4_ofCircle_50 : decode cX4_ofCircle 50 = .ok (.invokevirtual 142, 3) := by decide +kernel
theorem dX4_ofCircle_53 : decode cX4_ofCircle 53 = .ok (.goto 4, 3) := by decide +kernel
theorem dX4_ofCircle_56 : decode cX4_ofCircle 56 = .ok (.iconst (-1), 1) := by decide +kernel
theorem dX4_ofCircle_57 : decode cX4_ofCircle 57 = .ok (.istore_n 3, 1) := by decide +kernel
theorem dX4_ofCircle_58 : decode cX4_ofCircle 58 = .ok (.iload_n 3, 1) := by decide +kernel
theorem dX4_ofCircle_59 : decode cX4_ofCircle 59 = .ok (.ifCond .ge 7, 3) := by decide +kernel
theorem dX4_ofCircle_62 : decode cX4_ofCircle 62 = .ok (.iconst (-1), 1) := by decide +kernel
theorem dX4_ofCircle_63 : decode cX4_ofCircle 63 = .ok (.goto 14, 3) := by decide +kernel
theorem dX4_ofCircle_66 : decode cX4_ofCircle 66 = .ok (.aload_n 0, 1) := by decide +kernel
theorem dX4_ofCircle_67 : decode cX4_ofCircle 67 = .ok (.getfield 65, 3) := by decide +kernel
theorem dX4_ofCircle_70 : decode cX4_ofCircle 70 = .ok (.bipush 10, 2) := by decide +kernel
theorem dX4_ofCircle_72 : decode cX4_ofCircle 72 = .ok (.iload_n 1, 1) := by decide +kernel
theorem dX4_ofCircle_73 : decode cX4_ofCircle 73 = .ok (.imul, 1) := by decide +kernel
theorem dX4_ofCircle_74 : decode cX4_ofCircle 74 = .ok (.iload_n 3, 1) := by decide +kernel
theorem dX4_ofCircle_75 : decode cX4_ofCircle 75 = .ok (.iadd, 1) := by decide +kernel
theorem dX4_ofCircle_76 : decode cX4_ofCircle 76 = .ok (.iaload, 1) := by decide +kernel
theorem dX4_ofCircle_77 : decode cX4_ofCircle 77 = .ok (.istore 4, 2) := by decide +kernel
theorem dX4_ofCircle_79 : decode cX4_ofCircle 79 = .ok (.iload_n 2, 1) := by decide +kernel
theorem dX4_ofCircle_80 : decode cX4_ofCircle 80 = .ok (.ifCond .ne 12, 3) := by decide +kernel
theorem dX4_ofCircle_83 : decode cX4_ofCircle 83 = .ok (.aload_n 0, 1) := by decide +kernel
theorem dX4_ofCircle_84 : decode cX4_ofCircle 84 = .ok (.getfield 50, 3) := by decide +kernel
theorem dX4_ofCircle_87 : decode cX4_ofCircle 87 = .ok (.iload_n 1, 1) := by decide +kernel
theorem dX4_ofCircle_88 : decode cX4_ofCircle 88 = .ok (.iaload, 1) := by decide +kernel
theorem dX4_ofCircle_89 : decode cX4_ofCircle 89 = .ok (.goto 47, 3) := by decide +kernel
theorem dX4_ofCircle_92 : decode cX4_ofCircle 92 = .ok (.iload_n 2, 1) := by decide +kernel
theorem dX4_ofCircle_93 : decode cX4_ofCircle 93 = .ok (.iconst 1, 1) := by decide +kernel
theorem dX4_ofCircle_94 : decode cX4_ofCircle 94 = .ok (.if_icmp .ne 12, 3) := by decide +kernel
theorem dX4_ofCircle_97 : decode cX4_ofCircle 97 = .ok (.aload_n 0, 1) := by decide +kernel
theorem dX4_ofCircle_98 : decode cX4_ofCircle 98 = .ok (.getfield 53, 3) := by decide +kernel
theorem dX4_ofCircle_101 : decode cX4_ofCircle 101 = .ok (.iload_n 1, 1) := by decide +kernel
theorem dX4_ofCircle_102 : decode cX4_ofCircle 102 = .ok (.iaload, 1) := by decide +kernel
theorem dX4_ofCircle_103 : decode cX4_ofCircle 103 = .ok (.goto 33, 3) := by decide +kernel
theorem dX4_ofCircle_106 : decode cX4_ofCircle 106 = .ok (.iload_n 2, 1) := by decide +kernel
theorem dX4_ofCircle_107 : decode cX4_ofCircle 107 = .ok (.iconst 2, 1) := by decide +kernel
theorem dX4_ofCircle_108 : decode cX4_ofCircle 108 = .ok (.if_icmp .ne 12, 3) := by decide +kernel
theorem dX4_ofCircle_111 : decode cX4_ofCircle 111 = .ok (.aload_n 0, 1) := by decide +kernel
theorem dX4_ofCircle_112 : decode cX4_ofCircle 112 = .ok (.getfield 56, 3) := by decide +kernel
theorem dX4_ofCircle_115 : decode cX4_ofCircle 115 = .ok (.iload_n 1, 1) := by decide +kernel
theorem dX4_ofCircle_116 : decode cX4_ofCircle 116 = .ok (.iaload, 1) := by decide +kernel
theorem dX4_ofCircle_117 : decode cX4_ofCircle 117 = .ok (.goto 19, 3) := by decide +kernel
theorem dX4_ofCircle_120 : decode cX4_ofCircle 120 = .ok (.iload_n 2, 1) := by decide +kernel
theorem dX4_ofCircle_121 : decode cX4_ofCircle 121 = .ok (.iconst 3, 1) := by decide +kernel
theorem dX4_ofCircle_122 : decode cX4_ofCircle 122 = .ok (.if_icmp .ne 12, 3) := by decide +kernel
theorem dX4_ofCircle_125 : decode cX4_ofCircle 125 = .ok (.aload_n 0, 1) := by decide +kernel
theorem dX4_ofCircle_126 : decode cX4_ofCircle 126 = .ok (.getfield 59, 3) := by decide +kernel
theorem dX4_ofCircle_129 : decode cX4_ofCircle 129 = .ok (.iload_n 1, 1) := by decide +kernel
theorem dX4_ofCircle_130 : decode cX4_ofCircle 130 = .ok (.iaload, 1) := by decide +kernel
theorem dX4_ofCircle_131 : decode cX4_ofCircle 131 = .ok (.goto 5, 3) := by decide +kernel
theorem dX4_ofCircle_134 : decode cX4_ofCircle 134 = .ok (.iload 4, 2) := by decide +kernel
theorem dX4_ofCircle_136 : decode cX4_ofCircle 136 = .ok (.ireturn, 1) := by decide +kernel
theorem dX4_cash_0 : decode cX4_cash 0 = .ok (.aload_n 0, 1) := by decide +kernel
theorem dX4_cash_1 : decode cX4_cash 1 = .ok (.iconst 0, 1) := by decide +kernel
theorem dX4_cash_2 : decode cX4_cash 2 = .ok (.putfield 89, 3) := by decide +kernel
theorem dX4_cash_5 : decode cX4_cash 5 = .ok (.aload_n 0, 1) := by decide +kernel
theorem dX4_cash_6 : decode cX4_cash 6 = .ok (.getfield 146, 3) := by decide +kernel
theorem dX4_cash_9 : decode cX4_cash 9 = .ok (.ireturn, 1) := by decide +kernel
theorem dX4_coins_0 : decode cX4_coins 0 = .ok (.aload_n 0, 1) := by decide +kernel
theorem dX4_coins_1 : decode cX4_coins 1 = .ok (.iconst 0, 1) := by decide +kernel
theorem dX4_coins_2 : decode cX4_coins 2 = .ok (.putfield 89, 3) := by decide +kernel
theorem dX4_coins_5 : decode cX4_coins 5 = .ok (.aload_n 0, 1) := by decide +kernel
theorem dX4_coins_6 : decode cX4_coins 6 = .ok (.getfield 109, 3) := by decide +kernel
theorem dX4_coins_9 : decode cX4_coins 9 = .ok (.aload_n 0, 1) := by decide +kernel
theorem dX4_coins_10 : decode cX4_coins 10 = .ok (.getfield 146, 3) := by decide +kernel
theorem dX4_coins_13 : decode cX4_coins 13 = .ok (.isub, 1) := by decide +kernel
theorem dX4_coins_14 : decode cX4_coins 14 = .ok (.istore_n 1, 1) := by decide +kernel
theorem dX4_coins_15 : decode cX4_coins 15 = .ok (.iconst 0, 1) := by decide +kernel
theorem dX4_coins_16 : decode cX4_coins 16 = .ok (.istore_n 2, 1) := by decide +kernel
theorem dX4_coins_17 : decode cX4_coins 17 = .ok (.iload_n 2, 1) := by decide +kernel
theorem dX4_coins_18 : decode cX4_coins 18 = .ok (.aload_n 0, 1) := by decide +kernel
theorem dX4_coins_19 : decode cX4_coins 19 = .ok (.getfield 93, 3) := by decide +kernel
theorem dX4_coins_22 : decode cX4_coins 22 = .ok (.if_icmp .ge 18, 3) := by decide +kernel
theorem dX4_coins_25 : decode cX4_coins 25 = .ok (.iload_n 1, 1) := by decide +kernel
theorem dX4_coins_26 : decode cX4_coins 26 = .ok (.aload_n 0, 1) := by decide +kernel
theorem dX4_coins_27 : decode cX4_coins 27 = .ok (.getfield 16, 3) := by decide +kernel
theorem dX4_coins_30 : decode cX4_coins 30 = .ok (.iload_n 2, 1) := by decide +kernel
theorem dX4_coins_31 : decode cX4_coins 31 = .ok (.iaload, 1) := by decide +kernel
theorem dX4_coins_32 : decode cX4_coins 32 = .ok (.isub, 1) := by decide +kernel
theorem dX4_coins_33 : decode cX4_coins 33 = .ok (.istore_n 1, 1) := by decide +kernel
theorem dX4_coins_34 : decode cX4_coins 34 = .ok (.iinc 2 1, 3) := by decide +kernel
theorem dX4_coins_37 : decode cX4_coins 37 = .ok (.goto (-20), 3) := by decide +kernel
theorem dX4_coins_40 : decode cX4_coins 40 = .ok (.iconst 0, 1) := by decide +kernel
theorem dX4_coins_41 : decode cX4_coins 41 = .ok (.istore_n 2, 1) := by decide +kernel
theorem dX4_coins_42 : decode cX4_coins 42 = .ok (.iload_n 2, 1) := by decide +kernel
theorem dX4_coins_43 : decode cX4_coins 43 = .ok (.aload_n 0, 1) := by decide +kernel
theorem dX4_coins_44 : decode cX4_coins 44 = .ok (.getfield 100, 3) := by decide +kernel
theorem dX4_coins_47 : decode cX4_coins 47 = .ok (.if_icmp .ge 18, 3) := by decide +kernel
theorem dX4_coins_50 : decode cX4_coins 50 = .ok (.iload_n 1, 1) := by decide +kernel
theorem dX4_coins_51 : decode cX4_coins 51 = .ok (.aload_n 0, 1) := by decide +kernel
theorem dX4_coins_52 : decode cX4_coins 52 = .ok (.getfield 50, 3) := by decide +kernel
theorem dX4_coins_55 : decode cX4_coins 55 = .ok (.iload_n 2, 1) := by decide +kernel
theorem dX4_coins_56 : decode cX4_coins 56 = .ok (.iaload, 1) := by decide +kernel
theorem dX4_coins_57 : decode cX4_coins 57 = .ok (.isub, 1) := by decide +kernel
theorem dX4_coins_58 : decode cX4_coins 58 = .ok (.istore_n 1, 1) := by decide +kernel
theorem dX4_coins_59 : decode cX4_coins 59 = .ok (.iinc 2 1, 3) := by decide +kernel
theorem dX4_coins_62 : decode cX4_coins 62 = .ok (.goto (-20), 3) := by decide +kernel
theorem dX4_coins_65 : decode cX4_coins 65 = .ok (.iload_n 1, 1) := by decide +kernel
theorem dX4_coins_66 : decode cX4_coins 66 = .ok (.ireturn, 1) := by decide +kernel
theorem dJ9_max_7cf53_0 : decode cJ9_max_7cf53 0 = .ok (.iload_n 0, 1) := by decide +kernel
theorem dJ9_max_7cf53_1 : decode cJ9_max_7cf53 1 = .ok (.iload_n 1, 1) := by decide +kernel
theorem dJ9_max_7cf53_2 : decode cJ9_max_7cf53 2 = .ok (.if_icmp .lt 7, 3) := by decide +kernel
theorem dJ9_max_7cf53_5 : decode cJ9_max_7cf53 5 = .ok (.iload_n 0, 1) := by decide +kernel
theorem dJ9_max_7cf53_6 : decode cJ9_max_7cf53 6 = .ok (.goto 4, 3) := by decide +kernel
theorem dJ9_max_7cf53_9 : decode cJ9_max_7cf53 9 = .ok (.iload_n 1, 1) := by decide +kernel
theorem dJ9_max_7cf53_10 : decode cJ9_max_7cf53 10 = .ok (.ireturn, 1) := by decide +kernel
theorem dJ9_min_7cf53_0 : decode cJ9_min_7cf53 0 = .ok (.iload_n 0, 1) := by decide +kernel
theorem dJ9_min_7cf53_1 : decode cJ9_min_7cf53 1 = .ok (.iload_n 1, 1) := by decide +kernel
theorem dJ9_min_7cf53_2 : decode cJ9_min_7cf53 2 = .ok (.if_icmp .gt 7, 3) := by decide +kernel
theorem dJ9_min_7cf53_5 : decode cJ9_min_7cf53 5 = .ok (.iload_n 0, 1) := by decide +kernel
theorem dJ9_min_7cf53_6 : decode cJ9_min_7cf53 6 = .ok (.goto 4, 3) := by decide +kernel
theorem dJ9_min_7cf53_9 : decode cJ9_min_7cf53 9 = .ok (.iload_n 1, 1) := by decide +kernel
theorem dJ9_min_7cf53_10 : decode cJ9_min_7cf53 10 = .ok (.ireturn, 1) := by decide +kernel
theorem dJxa1e45_init_da8c8_0 : decode cJxa1e45_init_da8c8 0 = .ok (.aload_n 0, 1) := by decide +kernel
theorem dJxa1e45_init_da8c8_1 : decode cJxa1e45_init_da8c8 1 = .ok (.invokespecial 1, 3) := by decide +kernel
theorem dJxa1e45_init_da8c8_4 : decode cJxa1e45_init_da8c8 4 = .ok (.return_, 1) := by decide +kernel
theorem dJxc12de_init_da8c8_0 : decode cJxc12de_init_da8c8 0 = .ok (.aload_n 0, 1) := by decide +kernel
theorem dJxc12de_init_da8c8_1 : decode cJxc12de_init_da8c8 1 = .ok (.invokespecial 1, 3) := by decide +kernel
theorem dJxc12de_init_da8c8_4 : decode cJxc12de_init_da8c8 4 = .ok (.aload_n 0, 1) := by decide +kernel
theorem dJxc12de_init_da8c8_5 : decode cJxc12de_init_da8c8 5 = .ok (.iconst 0, 1) := by decide +kernel
theorem dJxc12de_init_da8c8_6 : decode cJxc12de_init_da8c8 6 = .ok (.putfield 7, 3) := by decide +kernel
theorem dJxc12de_init_da8c8_9 : decode cJxc12de_init_da8c8 9 = .ok (.return_, 1) := by decide +kernel
theorem dJx4a65c_init_da8c8_0 : decode cJx4a65c_init_da8c8 0 = .ok (.aload_n 0, 1) := by decide +kernel
theorem dJx4a65c_init_da8c8_1 : decode cJx4a65c_init_da8c8 1 = .ok (.invokespecial 1, 3) := by decide +kernel
theorem dJx4a65c_init_da8c8_4 : decode cJx4a65c_init_da8c8 4 = .ok (.aload_n 0, 1) := by decide +kernel
theorem dJx4a65c_init_da8c8_5 : decode cJx4a65c_init_da8c8 5 = .ok (.getstatic 39, 3) := by decide +kernel
theorem dJx4a65c_init_da8c8_8 : decode cJx4a65c_init_da8c8 8 = .ok (.putfield 9, 3) := by decide +kernel
theorem dJx4a65c_init_da8c8_11 : decode cJx4a65c_init_da8c8 11 = .ok (.return_, 1) := by decide +kernel
theorem dJx4a65c_grow_92f84_0 : decode cJx4a65c_grow_92f84 0 = .ok (.aload_n 0, 1) := by decide +kernel
theorem dJx4a65c_grow_92f84_1 : decode cJx4a65c_grow_92f84 1 = .ok (.getfield 9, 3) := by decide +kernel
theorem dJx4a65c_grow_92f84_4 : decode cJx4a65c_grow_92f84 4 = .ok (.arraylength, 1) := by decide +kernel
theorem dJx4a65c_grow_92f84_5 : decode cJx4a65c_grow_92f84 5 = .ok (.istore_n 2, 1) := by decide +kernel
theorem dJx4a65c_grow_92f84_6 : decode cJx4a65c_grow_92f84 6 = .ok (.iload_n 2, 1) := by decide +kernel
theorem dJx4a65c_grow_92f84_7 : decode cJx4a65c_grow_92f84 7 = .ok (.ifCond .gt 13, 3) := by decide +kernel
theorem dJx4a65c_grow_92f84_10 : decode cJx4a65c_grow_92f84 10 = .ok (.aload_n 0, 1) := by decide +kernel
theorem dJx4a65c_grow_92f84_11 : decode cJx4a65c_grow_92f84 11 = .ok (.getfield 9, 3) := by decide +kernel
theorem dJx4a65c_grow_92f84_14 : decode cJx4a65c_grow_92f84 14 = .ok (.getstatic 39, 3) := by decide +kernel
theorem dJx4a65c_grow_92f84_17 : decode cJx4a65c_grow_92f84 17 = .ok (.if_acmp .eq 28, 3) := by decide +kernel
theorem dJx4a65c_grow_92f84_20 : decode cJx4a65c_grow_92f84 20 = .ok (.iload_n 2, 1) := by decide +kernel
theorem dJx4a65c_grow_92f84_21 : decode cJx4a65c_grow_92f84 21 = .ok (.iload_n 1, 1) := by decide +kernel
theorem dJx4a65c_grow_92f84_22 : decode cJx4a65c_grow_92f84 22 = .ok (.iload_n 2, 1) := by decide +kernel
theorem dJx4a65c_grow_92f84_23 : decode cJx4a65c_grow_92f84 23 = .ok (.isub, 1) := by decide +kernel
theorem dJx4a65c_grow_92f84_24 : decode cJx4a65c_grow_92f84 24 = .ok (.iload_n 2, 1) := by decide +kernel
theorem dJx4a65c_grow_92f84_25 : decode cJx4a65c_grow_92f84 25 = .ok (.iconst 1, 1) := by decide +kernel
theorem dJx4a65c_grow_92f84_26 : decode cJx4a65c_grow_92f84 26 = .ok (.ishr, 1) := by decide +kernel
theorem dJx4a65c_grow_92f84_27 : decode cJx4a65c_grow_92f84 27 = .ok (.invokestatic 73, 3) := by decide +kernel
theorem dJx4a65c_grow_92f84_30 : decode cJx4a65c_grow_92f84 30 = .ok (.istore_n 3, 1) := by decide +kernel
theorem dJx4a65c_grow_92f84_31 : decode cJx4a65c_grow_92f84 31 = .ok (.aload_n 0, 1) := by decide +kernel
theorem dJx4a65c_grow_92f84_32 : decode cJx4a65c_grow_92f84 32 = .ok (.aload_n 0, 1) := by decide +kernel
theorem dJx4a65c_grow_92f84_33 : decode cJx4a65c_grow_92f84 33 = .ok (.getfield 9, 3) := by decide +kernel
theorem dJx4a65c_grow_92f84_36 : decode cJx4a65c_grow_92f84 36 = .ok (.iload_n 3, 1) := by decide +kernel
theorem dJx4a65c_grow_92f84_37 : decode cJx4a65c_grow_92f84 37 = .ok (.invokestatic 66, 3) := by decide +kernel
theorem dJx4a65c_grow_92f84_40 : decode cJx4a65c_grow_92f84 40 = .ok (.dup_x1, 1) := by decide +kernel
theorem dJx4a65c_grow_92f84_41 : decode cJx4a65c_grow_92f84 41 = .ok (.putfield 9, 3) := by decide +kernel
theorem dJx4a65c_grow_92f84_44 : decode cJx4a65c_grow_92f84 44 = .ok (.areturn, 1) := by decide +kernel
theorem dJx4a65c_grow_92f84_45 : decode cJx4a65c_grow_92f84 45 = .ok (.aload_n 0, 1) := by decide +kernel
theorem dJx4a65c_grow_92f84_46 : decode cJx4a65c_grow_92f84 46 = .ok (.bipush 10, 2) := by decide +kernel
theorem dJx4a65c_grow_92f84_48 : decode cJx4a65c_grow_92f84 48 = .ok (.iload_n 1, 1) := by decide +kernel
theorem dJx4a65c_grow_92f84_49 : decode cJx4a65c_grow_92f84 49 = .ok (.invokestatic 79, 3) := by decide +kernel
theorem dJx4a65c_grow_92f84_52 : decode cJx4a65c_grow_92f84 52 = .ok (.anewarray 7, 3) := by decide +kernel
theorem dJx4a65c_grow_92f84_55 : decode cJx4a65c_grow_92f84 55 = .ok (.dup_x1, 1) := by decide +kernel
theorem dJx4a65c_grow_92f84_56 : decode cJx4a65c_grow_92f84 56 = .ok (.putfield 9, 3) := by decide +kernel
theorem dJx4a65c_grow_92f84_59 : decode cJx4a65c_grow_92f84 59 = .ok (.areturn, 1) := by decide +kernel
theorem dJx4a65c_grow_d5877_0 : decode cJx4a65c_grow_d5877 0 = .ok (.aload_n 0, 1) := by decide +kernel
theorem dJx4a65c_grow_d5877_1 : decode cJx4a65c_grow_d5877 1 = .ok (.aload_n 0, 1) := by decide +kernel
theorem dJx4a65c_grow_d5877_2 : decode cJx4a65c_grow_d5877 2 = .ok (.getfield 48, 3) := by decide +kernel
theorem dJx4a65c_grow_d5877_5 : decode cJx4a65c_grow_d5877 5 = .ok (.iconst 1, 1) := by decide +kernel
theorem dJx4a65c_grow_d5877_6 : decode cJx4a65c_grow_d5877 6 = .ok (.iadd, 1) := by decide +kernel
theorem dJx4a65c_grow_d5877_7 : decode cJx4a65c_grow_d5877 7 = .ok (.invokevirtual 69, 3) := by decide +kernel
theorem dJx4a65c_grow_d5877_10 : decode cJx4a65c_grow_d5877 10 = .ok (.areturn, 1) := by decide +kernel
theorem dJx4a65c_size_8abf5_0 : decode cJx4a65c_size_8abf5 0 = .ok (.aload_n 0, 1) := by decide +kernel
theorem dJx4a65c_size_8abf5_1 : decode cJx4a65c_size_8abf5 1 = .ok (.getfield 48, 3) := by decide +kernel
theorem dJx4a65c_size_8abf5_4 : decode cJx4a65c_size_8abf5 4 = .ok (.ireturn, 1) := by decide +kernel
theorem dJx4a65c_isEmpty_aae02_0 : decode cJx4a65c_isEmpty_aae02 0 = .ok (.aload_n 0, 1) := by decide +kernel
theorem dJx4a65c_isEmpty_aae02_1 : decode cJx4a65c_isEmpty_aae02 1 = .ok (.getfield 48, 3) := by decide +kernel
theorem dJx4a65c_isEmpty_aae02_4 : decode cJx4a65c_isEmpty_aae02 4 = .ok (.ifCond .ne 7, 3) := by decide +kernel
theorem dJx4a65c_isEmpty_aae02_7 : decode cJx4a65c_isEmpty_aae02 7 = .ok (.iconst 1, 1) := by decide +kernel
theorem dJx4a65c_isEmpty_aae02_8 : decode cJx4a65c_isEmpty_aae02 8 = .ok (.goto 4, 3) := by decide +kernel
theorem dJx4a65c_isEmpty_aae02_11 : decode cJx4a65c_isEmpty_aae02 11 = .ok (.iconst 0, 1) := by decide +kernel
theorem dJx4a65c_isEmpty_aae02_12 : decode cJx4a65c_isEmpty_aae02 12 = .ok (.ireturn, 1) := by decide +kernel
theorem dJx4a65c_elementData_915e3_0 : decode cJx4a65c_elementData_915e3 0 = .ok (.aload_n 0, 1) := by decide +kernel
theorem dJx4a65c_elementData_915e3_1 : decode cJx4a65c_elementData_915e3 1 = .ok (.getfield 9, 3) := by decide +kernel
theorem dJx4a65c_elementData_915e3_4 : decode cJx4a65c_elementData_915e3 4 = .ok (.iload_n 1, 1) := by decide +kernel
theorem dJx4a65c_elementData_915e3_5 : decode cJx4a65c_elementData_915e3 5 = .ok (.aaload, 1) := by decide +kernel
theorem dJx4a65c_elementData_915e3_6 : decode cJx4a65c_elementData_915e3 6 = .ok (.areturn, 1) := by decide +kernel
theorem dJx4a65c_get_915e3_0 : decode cJx4a65c_get_915e3 0 = .ok (.iload_n 1, 1) := by decide +kernel
theorem dJx4a65c_get_915e3_1 : decode cJx4a65c_get_915e3 1 = .ok (.aload_n 0, 1) := by decide +kernel
theorem dJx4a65c_get_915e3_2 : decode cJx4a65c_get_915e3 2 = .ok (.getfield 48, 3) := by decide +kernel
theorem dJx4a65c_get_915e3_5 : decode cJx4a65c_get_915e3 5 = .ok (.invokestatic 118, 3) := by decide +kernel
theorem dJx4a65c_get_915e3_8 : decode cJx4a65c_get_915e3 8 = .ok (.pop, 1) := by decide +kernel
theorem dJx4a65c_get_915e3_9 : decode cJx4a65c_get_915e3 9 = .ok (.aload_n 0, 1) := by decide +kernel
theorem dJx4a65c_get_915e3_10 : decode cJx4a65c_get_915e3 10 = .ok (.iload_n 1, 1) := by decide +kernel
theorem dJx4a65c_get_915e3_11 : decode cJx4a65c_get_915e3 11 = .ok (.invokevirtual 123, 3) := by decide +kernel
theorem dJx4a65c_get_915e3_14 : decode cJx4a65c_get_915e3 14 = .ok (.areturn, 1) := by decide +kernel
theorem dJx4a65c_add_72be8_0 : decode cJx4a65c_add_72be8 0 = .ok (.iload_n 3, 1) := by decide +kernel
theorem dJx4a65c_add_72be8_1 : decode cJx4a65c_add_72be8 1 = .ok (.aload_n 2, 1) := by decide +kernel
theorem dJx4a65c_add_72be8_2 : decode cJx4a65c_add_72be8 2 = .ok (.arraylength, 1) := by decide +kernel
theorem dJx4a65c_add_72be8_3 : decode cJx4a65c_add_72be8 3 = .ok (.if_icmp .ne 8, 3) := by decide +kernel
theorem dJx4a65c_add_72be8_6 : decode cJx4a65c_add_72be8 6 = .ok (.aload_n 0, 1) := by decide +kernel
theorem dJx4a65c_add_72be8_7 : decode cJx4a65c_add_72be8 7 = .ok (.invokevirtual 129, 3) := by decide +kernel
theorem dJx4a65c_add_72be8_10 : decode cJx4a65c_add_72be8 10 = .ok (.astore_n 2, 1) := by decide +kernel
theorem dJx4a65c_add_72be8_11 : decode cJx4a65c_add_72be8 11 = .ok (.aload_n 2, 1) := by decide +kernel
theorem dJx4a65c_add_72be8_12 : decode cJx4a65c_add_72be8 12 = .ok (.iload_n 3, 1) := by decide +kernel
theorem dJx4a65c_add_72be8_13 : decode cJx4a65c_add_72be8 13 = .ok (.aload_n 1, 1) := by decide +kernel
theorem dJx4a65c_add_72be8_14 : decode cJx4a65c_add_72be8 14 = .ok (.aastore, 1) := by decide +kernel
theorem dJx4a65c_add_72be8_15 : decode cJx4a65c_add_72be8 15 = .ok (.aload_n 0, 1) := by decide +kernel
theorem dJx4a65c_add_72be8_16 : decode cJx4a65c_add_72be8 16 = .ok (.iload_n 3, 1) := by decide +kernel
theorem dJx4a65c_add_72be8_17 : decode cJx4a65c_add_72be8 17 = .ok (.iconst 1, 1) := by decide +kernel
theorem dJx4a65c_add_72be8_18 : decode cJx4a65c_add_72be8 18 = .ok (.iadd, 1) := by decide +kernel
theorem dJx4a65c_add_72be8_19 : decode cJx4a65c_add_72be8 19 = .ok (.putfield 48, 3) := by decide +kernel
theorem dJx4a65c_add_72be8_22 : decode cJx4a65c_add_72be8 22 = .ok (.return_, 1) := by decide +kernel
theorem dJx4a65c_add_9ea2d_0 : decode cJx4a65c_add_9ea2d 0 = .ok (.aload_n 0, 1) := by decide +kernel
theorem dJx4a65c_add_9ea2d_1 : decode cJx4a65c_add_9ea2d 1 = .ok (.dup, 1) := by decide +kernel
theorem dJx4a65c_add_9ea2d_2 : decode cJx4a65c_add_9ea2d 2 = .ok (.getfield 63, 3) := by decide +kernel
theorem dJx4a65c_add_9ea2d_5 : decode cJx4a65c_add_9ea2d 5 = .ok (.iconst 1, 1) := by decide +kernel
theorem dJx4a65c_add_9ea2d_6 : decode cJx4a65c_add_9ea2d 6 = .ok (.iadd, 1) := by decide +kernel
theorem dJx4a65c_add_9ea2d_7 : decode cJx4a65c_add_9ea2d 7 = .ok (.putfield 63, 3) := by decide +kernel
theorem dJx4a65c_add_9ea2d_10 : decode cJx4a65c_add_9ea2d 10 = .ok (.aload_n 0, 1) := by decide +kernel
theorem dJx4a65c_add_9ea2d_11 : decode cJx4a65c_add_9ea2d 11 = .ok (.aload_n 1, 1) := by decide +kernel
theorem dJx4a65c_add_9ea2d_12 : decode cJx4a65c_add_9ea2d 12 = .ok (.aload_n 0, 1) := by decide +kernel
theorem dJx4a65c_add_9ea2d_13 : decode cJx4a65c_add_9ea2d 13 = .ok (.getfield 9, 3) := by decide +kernel
theorem dJx4a65c_add_9ea2d_16 : decode cJx4a65c_add_9ea2d 16 = .ok (.aload_n 0, 1) := by decide +kernel
theorem dJx4a65c_add_9ea2d_17 : decode cJx4a65c_add_9ea2d 17 = .ok (.getfield 48, 3) := by decide +kernel
theorem dJx4a65c_add_9ea2d_20 : decode cJx4a65c_add_9ea2d 20 = .ok (.invokevirtual 131, 3) := by decide +kernel
theorem dJx4a65c_add_9ea2d_23 : decode cJx4a65c_add_9ea2d 23 = .ok (.iconst 1, 1) := by decide +kernel
theorem dJx4a65c_add_9ea2d_24 : decode cJx4a65c_add_9ea2d 24 = .ok (.ireturn, 1) := by decide +kernel
theorem dJx4a65c_add_7a177_0 : decode cJx4a65c_add_7a177 0 = .ok (.aload_n 0, 1) := by decide +kernel
theorem dJx4a65c_add_7a177_1 : decode cJx4a65c_add_7a177 1 = .ok (.iload_n 1, 1) := by decide +kernel
theorem dJx4a65c_add_7a177_2 : decode cJx4a65c_add_7a177 2 = .ok (.invokevirtual 135, 3) := by decide +kernel
theorem dJx4a65c_add_7a177_5 : decode cJx4a65c_add_7a177 5 = .ok (.aload_n 0, 1) := by decide +kernel
theorem dJx4a65c_add_7a177_6 : decode cJx4a65c_add_7a177 6 = .ok (.dup, 1) := by decide +kernel
theorem dJx4a65c_add_7a177_7 : decode cJx4a65c_add_7a177 7 = .ok (.getfield 63, 3) := by decide +kernel
theorem dJx4a65c_add_7a177_10 : decode cJx4a65c_add_7a177 10 = .ok (.iconst 1, 1) := by decide +kernel
theorem dJx4a65c_add_7a177_11 : decode cJx4a65c_add_7a177 11 = .ok (.iadd, 1) := by decide +kernel
theorem dJx4a65c_add_7a177_12 : decode cJx4a65c_add_7a177 12 = .ok (.putfield 63, 3) := by decide +kernel
theorem dJx4a65c_add_7a177_15 : decode cJx4a65c_add_7a177 15 = .ok (.aload_n 0, 1) := by decide +kernel
theorem dJx4a65c_add_7a177_16 : decode cJx4a65c_add_7a177 16 = .ok (.getfield 48, 3) := by decide +kernel
theorem dJx4a65c_add_7a177_19 : decode cJx4a65c_add_7a177 19 = .ok (.dup, 1) := by decide +kernel
theorem dJx4a65c_add_7a177_20 : decode cJx4a65c_add_7a177 20 = .ok (.istore_n 3, 1) := by decide +kernel
theorem dJx4a65c_add_7a177_21 : decode cJx4a65c_add_7a177 21 = .ok (.aload_n 0, 1) := by decide +kernel
theorem dJx4a65c_add_7a177_22 : decode cJx4a65c_add_7a177 22 = .ok (.getfield 9, 3) := by decide +kernel
theorem dJx4a65c_add_7a177_25 : decode cJx4a65c_add_7a177 25 = .ok (.dup, 1) := by decide +kernel
theorem dJx4a65c_add_7a177_26 : decode cJx4a65c_add_7a177 26 = .ok (.astore 4, 2) := by decide +kernel
theorem dJx4a65c_add_7a177_28 : decode cJx4a65c_add_7a177 28 = .ok (.arraylength, 1) := by decide +kernel
theorem dJx4a65c_add_7a177_29 : decode cJx4a65c_add_7a177 29 = .ok (.if_icmp .ne 9, 3) := by decide +kernel
theorem dJx4a65c_add_7a177_32 : decode cJx4a65c_add_7a177 32 = .ok (.aload_n 0, 1) := by decide +kernel
theorem dJx4a65c_add_7a177_33 : decode cJx4a65c_add_7a177 33 = .ok (.invokevirtual 129, 3) := by decide +kernel
theorem dJx4a65c_add_7a177_36 : decode cJx4a65c_add_7a177 36 = .ok (.astore 4, 2) := by decide +kernel
theorem dJx4a65c_add_7a177_38 : decode cJx4a65c_add_7a177 38 = .ok (.aload 4, 2) := by decide +kernel
theorem dJx4a65c_add_7a177_40 : decode cJx4a65c_add_7a177 40 = .ok (.iload_n 1, 1) := by decide +kernel
theorem dJx4a65c_add_7a177_41 : decode cJx4a65c_add_7a177 41 = .ok (.aload 4, 2) := by decide +kernel
theorem dJx4a65c_add_7a177_43 : decode cJx4a65c_add_7a177 43 = .ok (.iload_n 1, 1) := by decide +kernel
theorem dJx4a65c_add_7a177_44 : decode cJx4a65c_add_7a177 44 = .ok (.iconst 1, 1) := by decide +kernel
theorem dJx4a65c_add_7a177_45 : decode cJx4a65c_add_7a177 45 = .ok (.iadd, 1) := by decide +kernel
theorem dJx4a65c_add_7a177_46 : decode cJx4a65c_add_7a177 46 = .ok (.iload_n 3, 1) := by decide +kernel
theorem dJx4a65c_add_7a177_47 : decode cJx4a65c_add_7a177 47 = .ok (.iload_n 1, 1) := by decide +kernel
theorem dJx4a65c_add_7a177_48 : decode cJx4a65c_add_7a177 48 = .ok (.isub, 1) := by decide +kernel
theorem dJx4a65c_add_7a177_49 : decode cJx4a65c_add_7a177 49 = .ok (.invokestatic 112, 3) := by decide +kernel
theorem dJx4a65c_add_7a177_52 : decode cJx4a65c_add_7a177 52 = .ok (.aload 4, 2) := by decide +kernel
theorem dJx4a65c_add_7a177_54 : decode cJx4a65c_add_7a177 54 = .ok (.iload_n 1, 1) := by decide +kernel
theorem dJx4a65c_add_7a177_55 : decode cJx4a65c_add_7a177 55 = .ok (.aload_n 2, 1) := by decide +kernel
theorem dJx4a65c_add_7a177_56 : decode cJx4a65c_add_7a177 56 = .ok (.aastore, 1) := by decide +kernel
theorem dJx4a65c_add_7a177_57 : decode cJx4a65c_add_7a177 57 = .ok (.aload_n 0, 1) := by decide +kernel
theorem dJx4a65c_add_7a177_58 : decode cJx4a65c_add_7a177 58 = .ok (.iload_n 3, 1) := by decide +kernel
theorem dJx4a65c_add_7a177_59 : decode cJx4a65c_add_7a177 59 = .ok (.iconst 1, 1) := by decide +kernel
theorem dJx4a65c_add_7a177_60 : decode cJx4a65c_add_7a177 60 = .ok (.iadd, 1) := by decide +kernel
theorem dJx4a65c_add_7a177_61 : decode cJx4a65c_add_7a177 61 = .ok (.putfield 48, 3) := by decide +kernel
theorem dJx4a65c_add_7a177_64 : decode cJx4a65c_add_7a177 64 = .ok (.return_, 1) := by decide +kernel
theorem dJx4a65c_remove_915e3_0 : decode cJx4a65c_remove_915e3 0 = .ok (.iload_n 1, 1) := by decide +kernel
theorem dJx4a65c_remove_915e3_1 : decode cJx4a65c_remove_915e3 1 = .ok (.aload_n 0, 1) := by decide +kernel
theorem dJx4a65c_remove_915e3_2 : decode cJx4a65c_remove_915e3 2 = .ok (.getfield 48, 3) := by decide +kernel
theorem dJx4a65c_remove_915e3_5 : decode cJx4a65c_remove_915e3 5 = .ok (.invokestatic 118, 3) := by decide +kernel
theorem dJx4a65c_remove_915e3_8 : decode cJx4a65c_remove_915e3 8 = .ok (.pop, 1) := by decide +kernel
theorem dJx4a65c_remove_915e3_9 : decode cJx4a65c_remove_915e3 9 = .ok (.aload_n 0, 1) := by decide +kernel
theorem dJx4a65c_remove_915e3_10 : decode cJx4a65c_remove_915e3 10 = .ok (.getfield 9, 3) := by decide +kernel
theorem dJx4a65c_remove_915e3_13 : decode cJx4a65c_remove_915e3 13 = .ok (.astore_n 2, 1) := by decide +kernel
theorem dJx4a65c_remove_915e3_14 : decode cJx4a65c_remove_915e3 14 = .ok (.aload_n 2, 1) := by decide +kernel
theorem dJx4a65c_remove_915e3_15 : decode cJx4a65c_remove_915e3 15 = .ok (.iload_n 1, 1) := by decide +kernel
theorem dJx4a65c_remove_915e3_16 : decode cJx4a65c_remove_915e3 16 = .ok (.aaload, 1) := by decide +kernel
theorem dJx4a65c_remove_915e3_17 : decode cJx4a65c_remove_915e3 17 = .ok (.astore_n 3, 1) := by decide +kernel
theorem dJx4a65c_remove_915e3_18 : decode cJx4a65c_remove_915e3 18 = .ok (.aload_n 0, 1) := by decide +kernel
theorem dJx4a65c_remove_915e3_19 : decode cJx4a65c_remove_915e3 19 = .ok (.aload_n 2, 1) := by decide +kernel
theorem dJx4a65c_remove_915e3_20 : decode cJx4a65c_remove_915e3 20 = .ok (.iload_n 1, 1) := by decide +kernel
theorem dJx4a65c_remove_915e3_21 : decode cJx4a65c_remove_915e3 21 = .ok (.invokevirtual 144, 3) := by decide +kernel
theorem dJx4a65c_remove_915e3_24 : decode cJx4a65c_remove_915e3 24 = .ok (.aload_n 3, 1) := by decide +kernel
theorem dJx4a65c_remove_915e3_25 : decode cJx4a65c_remove_915e3 25 = .ok (.areturn, 1) := by decide +kernel
theorem dJx4a65c_fastRemove_b59b0_0 : decode cJx4a65c_fastRemove_b59b0 0 = .ok (.aload_n 0, 1) := by decide +kernel
theorem dJx4a65c_fastRemove_b59b0_1 : decode cJx4a65c_fastRemove_b59b0 1 = .ok (.dup, 1) := by decide +kernel
theorem dJx4a65c_fastRemove_b59b0_2 : decode cJx4a65c_fastRemove_b59b0 2 = .ok (.getfield 63, 3) := by decide +kernel
theorem dJx4a65c_fastRemove_b59b0_5 : decode cJx4a65c_fastRemove_b59b0 5 = .ok (.iconst 1, 1) := by decide +kernel
theorem dJx4a65c_fastRemove_b59b0_6 : decode cJx4a65c_fastRemove_b59b0 6 = .ok (.iadd, 1) := by decide +kernel
theorem dJx4a65c_fastRemove_b59b0_7 : decode cJx4a65c_fastRemove_b59b0 7 = .ok (.putfield 63, 3) := by decide +kernel
theorem dJx4a65c_fastRemove_b59b0_10 : decode cJx4a65c_fastRemove_b59b0 10 = .ok (.aload_n 0, 1) := by decide +kernel
theorem dJx4a65c_fastRemove_b59b0_11 : decode cJx4a65c_fastRemove_b59b0 11 = .ok (.getfield 48, 3) := by decide +kernel
theorem dJx4a65c_fastRemove_b59b0_14 : decode cJx4a65c_fastRemove_b59b0 14 = .ok (.iconst 1, 1) := by decide +kernel
theorem dJx4a65c_fastRemove_b59b0_15 : decode cJx4a65c_fastRemove_b59b0 15 = .ok (.isub, 1) := by decide +kernel
theorem dJx4a65c_fastRemove_b59b0_16 : decode cJx4a65c_fastRemove_b59b0 16 = .ok (.dup, 1) := by decide +kernel
theorem dJx4a65c_fastRemove_b59b0_17 : decode cJx4a65c_fastRemove_b59b0 17 = .ok (.istore_n 3, 1) := by decide +kernel
theorem dJx4a65c_fastRemove_b59b0_18 : decode cJx4a65c_fastRemove_b59b0 18 = .ok (.iload_n 2, 1) := by decide +kernel
theorem dJx4a65c_fastRemove_b59b0_19 : decode cJx4a65c_fastRemove_b59b0 19 = .ok (.if_icmp .le 15, 3) := by decide +kernel
theorem dJx4a65c_fastRemove_b59b0_22 : decode cJx4a65c_fastRemove_b59b0 22 = .ok (.aload_n 1, 1) := by decide +kernel
theorem dJx4a65c_fastRemove_b59b0_23 : decode cJx4a65c_fastRemove_b59b0 23 = .ok (.iload_n 2, 1) := by decide +kernel
theorem dJx4a65c_fastRemove_b59b0_24 : decode cJx4a65c_fastRemove_b59b0 24 = .ok (.iconst 1, 1) := by decide +kernel
theorem dJx4a65c_fastRemove_b59b0_25 : decode cJx4a65c_fastRemove_b59b0 25 = .ok (.iadd, 1) := by decide +kernel
theorem dJx4a65c_fastRemove_b59b0_26 : decode cJx4a65c_fastRemove_b59b0 26 = .ok (.aload_n 1, 1) := by decide +kernel
theorem dJx4a65c_fastRemove_b59b0_27 : decode cJx4a65c_fastRemove_b59b0 27 = .ok (.iload_n 2, 1) := by decide +kernel
theorem dJx4a65c_fastRemove_b59b0_28 : decode cJx4a65c_fastRemove_b59b0 28 = .ok (.iload_n 3, 1) := by decide +kernel
theorem dJx4a65c_fastRemove_b59b0_29 : decode cJx4a65c_fastRemove_b59b0 29 = .ok (.iload_n 2, 1) := by decide +kernel
theorem dJx4a65c_fastRemove_b59b0_30 : decode cJx4a65c_fastRemove_b59b0 30 = .ok (.isub, 1) := by decide +kernel
theorem dJx4a65c_fastRemove_b59b0_31 : decode cJx4a65c_fastRemove_b59b0 31 = .ok (.invokestatic 112, 3) := by decide +kernel
theorem dJx4a65c_fastRemove_b59b0_34 : decode cJx4a65c_fastRemove_b59b0 34 = .ok (.aload_n 1, 1) := by decide +kernel
theorem dJx4a65c_fastRemove_b59b0_35 : decode cJx4a65c_fastRemove_b59b0 35 = .ok (.aload_n 0, 1) := by decide +kernel
theorem dJx4a65c_fastRemove_b59b0_36 : decode cJx4a65c_fastRemove_b59b0 36 = .ok (.iload_n 3, 1) := by decide +kernel
theorem dJx4a65c_fastRemove_b59b0_37 : decode cJx4a65c_fastRemove_b59b0 37 = .ok (.dup_x1, 1) := by decide +kernel
theorem dJx4a65c_fastRemove_b59b0_38 : decode cJx4a65c_fastRemove_b59b0 38 = .ok (.putfield 48, 3) := by decide +kernel
theorem dJx4a65c_fastRemove_b59b0_41 : decode cJx4a65c_fastRemove_b59b0 41 = .ok (.aconst_null, 1) := by decide +kernel
theorem dJx4a65c_fastRemove_b59b0_42 : decode cJx4a65c_fastRemove_b59b0 42 = .ok (.aastore, 1) := by decide +kernel
theorem dJx4a65c_fastRemove_b59b0_43 : decode cJx4a65c_fastRemove_b59b0 43 = .ok (.return_, 1) := by decide +kernel
theorem dJx4a65c_rangeCheckForAdd_d00df_0 : decode cJx4a65c_rangeCheckForAdd_d00df 0 = .ok (.iload_n 1, 1) := by decide +kernel
theorem dJx4a65c_rangeCheckForAdd_d00df_1 : decode cJx4a65c_rangeCheckForAdd_d00df 1 = .ok (.aload_n 0, 1) := by decide +kernel
theorem dJx4a65c_rangeCheckForAdd_d00df_2 : decode cJx4a65c_rangeCheckForAdd_d00df 2 = .ok (.getfield 48, 3) := by decide +kernel
theorem dJx4a65c_rangeCheckForAdd_d00df_5 : decode cJx4a65c_rangeCheckForAdd_d00df 5 = .ok (.if_icmp .gt 7, 3) := by decide +kernel
theorem dJx4a65c_rangeCheckForAdd_d00df_8 : decode cJx4a65c_rangeCheckForAdd_d00df 8 = .ok (.iload_n 1, 1) := by decide +kernel
theorem dJx4a65c_rangeCheckForAdd_d00df_9 : decode cJx4a65c_rangeCheckForAdd_d00df 9 = .ok (.ifCond .ge 16, 3) := by decide +kernel
theorem dJx4a65c_rangeCheckForAdd_d00df_12 : decode cJx4a65c_rangeCheckForAdd_d00df 12 = .ok (.new 187, 3) := by decide +kernel
theorem dJx4a65c_rangeCheckForAdd_d00df_15 : decode cJx4a65c_rangeCheckForAdd_d00df 15 = .ok (.dup, 1) := by decide +kernel
theorem dJx4a65c_rangeCheckForAdd_d00df_16 : decode cJx4a65c_rangeCheckForAdd_d00df 16 = .ok (.aload_n 0, 1) := by decide +kernel
theorem dJx4a65c_rangeCheckForAdd_d00df_17 : decode cJx4a65c_rangeCheckForAdd_d00df 17 = .ok (.iload_n 1, 1) := by decide +kernel
theorem dJx4a65c_rangeCheckForAdd_d00df_18 : decode cJx4a65c_rangeCheckForAdd_d00df 18 = .ok (.invokevirtual 198, 3) := by decide +kernel
theorem dJx4a65c_rangeCheckForAdd_d00df_21 : decode cJx4a65c_rangeCheckForAdd_d00df 21 = .ok (.invokespecial 193, 3) := by decide +kernel
theorem dJx4a65c_rangeCheckForAdd_d00df_24 : decode cJx4a65c_rangeCheckForAdd_d00df 24 = .ok (.athrow, 1) := by decide +kernel
theorem dJx4a65c_rangeCheckForAdd_d00df_25 : decode cJx4a65c_rangeCheckForAdd_d00df 25 = .ok (.return_, 1) := by decide +kernel
theorem dJx4a65c_outOfBoundsMsg_b52d3_0 : decode cJx4a65c_outOfBoundsMsg_b52d3 0 = .ok (.new 20, 3) := by decide +kernel
theorem dJx4a65c_outOfBoundsMsg_b52d3_3 : decode cJx4a65c_outOfBoundsMsg_b52d3 3 = .ok (.dup, 1) := by decide +kernel
theorem dJx4a65c_outOfBoundsMsg_b52d3_4 : decode cJx4a65c_outOfBoundsMsg_b52d3 4 = .ok (.invokespecial 22, 3) := by decide +kernel
theorem dJx4a65c_outOfBoundsMsg_b52d3_7 : decode cJx4a65c_outOfBoundsMsg_b52d3 7 = .ok (.ldc 201, 2) := by decide +kernel
theorem dJx4a65c_outOfBoundsMsg_b52d3_9 : decode cJx4a65c_outOfBoundsMsg_b52d3 9 = .ok (.invokevirtual 25, 3) := by decide +kernel
theorem dJx4a65c_outOfBoundsMsg_b52d3_12 : decode cJx4a65c_outOfBoundsMsg_b52d3 12 = .ok (.iload_n 1, 1) := by decide +kernel
theorem dJx4a65c_outOfBoundsMsg_b52d3_13 : decode cJx4a65c_outOfBoundsMsg_b52d3 13 = .ok (.invokevirtual 29, 3) := by decide +kernel
theorem dJx4a65c_outOfBoundsMsg_b52d3_16 : decode cJx4a65c_outOfBoundsMsg_b52d3 16 = .ok (.ldc 203, 2) := by decide +kernel
theorem dJx4a65c_outOfBoundsMsg_b52d3_18 : decode cJx4a65c_outOfBoundsMsg_b52d3 18 = .ok (.invokevirtual 25, 3) := by decide +kernel
theorem dJx4a65c_outOfBoundsMsg_b52d3_21 : decode cJx4a65c_outOfBoundsMsg_b52d3 21 = .ok (.aload_n 0, 1) := by decide +kernel
theorem dJx4a65c_outOfBoundsMsg_b52d3_22 : decode cJx4a65c_outOfBoundsMsg_b52d3 22 = .ok (.getfield 48, 3) := by decide +kernel
theorem dJx4a65c_outOfBoundsMsg_b52d3_25 : decode cJx4a65c_outOfBoundsMsg_b52d3 25 = .ok (.invokevirtual 29, 3) := by decide +kernel
theorem dJx4a65c_outOfBoundsMsg_b52d3_28 : decode cJx4a65c_outOfBoundsMsg_b52d3 28 = .ok (.invokevirtual 32, 3) := by decide +kernel
theorem dJx4a65c_outOfBoundsMsg_b52d3_31 : decode cJx4a65c_outOfBoundsMsg_b52d3 31 = .ok (.areturn, 1) := by decide +kernel
theorem dJ7_copyOf_1904c_0 : decode cJ7_copyOf_1904c 0 = .ok (.aload_n 0, 1) := by decide +kernel
theorem dJ7_copyOf_1904c_1 : decode cJ7_copyOf_1904c 1 = .ok (.iload_n 1, 1) := by decide +kernel
theorem dJ7_copyOf_1904c_2 : decode cJ7_copyOf_1904c 2 = .ok (.aload_n 0, 1) := by decide +kernel
theorem dJ7_copyOf_1904c_3 : decode cJ7_copyOf_1904c 3 = .ok (.invokevirtual 86, 3) := by decide +kernel
theorem dJ7_copyOf_1904c_6 : decode cJ7_copyOf_1904c 6 = .ok (.invokestatic 300, 3) := by decide +kernel
theorem dJ7_copyOf_1904c_9 : decode cJ7_copyOf_1904c 9 = .ok (.areturn, 1) := by decide +kernel
theorem dJ7_copyOf_6403c_0 : decode cJ7_copyOf_6403c 0 = .ok (.aload_n 2, 1) := by decide +kernel
theorem dJ7_copyOf_6403c_1 : decode cJ7_copyOf_6403c 1 = .ok (.ldc 110, 2) := by decide +kernel
theorem dJ7_copyOf_6403c_3 : decode cJ7_copyOf_6403c 3 = .ok (.if_acmp .ne 10, 3) := by decide +kernel
theorem dJ7_copyOf_6403c_6 : decode cJ7_copyOf_6403c 6 = .ok (.iload_n 1, 1) := by decide +kernel
theorem dJ7_copyOf_6403c_7 : decode cJ7_copyOf_6403c 7 = .ok (.anewarray 2, 3) := by decide +kernel
theorem dJ7_copyOf_6403c_10 : decode cJ7_copyOf_6403c 10 = .ok (.goto 14, 3) := by decide +kernel
theorem dJ7_copyOf_6403c_13 : decode cJ7_copyOf_6403c 13 = .ok (.aload_n 2, 1) := by decide +kernel
theorem dJ7_copyOf_6403c_14 : decode cJ7_copyOf_6403c 14 = .ok (.invokevirtual 90, 3) := by decide +kernel
theorem dJ7_copyOf_6403c_17 : decode cJ7_copyOf_6403c 17 = .ok (.iload_n 1, 1) := by decide +kernel
theorem dJ7_copyOf_6403c_18 : decode cJ7_copyOf_6403c 18 = .ok (.invokestatic 95, 3) := by decide +kernel
theorem dJ7_copyOf_6403c_21 : decode cJ7_copyOf_6403c 21 = .ok (.checkcast 110, 3) := by decide +kernel
theorem dJ7_copyOf_6403c_24 : decode cJ7_copyOf_6403c 24 = .ok (.astore_n 3, 1) := by decide +kernel
theorem dJ7_copyOf_6403c_25 : decode cJ7_copyOf_6403c 25 = .ok (.aload_n 0, 1) := by decide +kernel
theorem dJ7_copyOf_6403c_26 : decode cJ7_copyOf_6403c 26 = .ok (.iconst 0, 1) := by decide +kernel
theorem dJ7_copyOf_6403c_27 : decode cJ7_copyOf_6403c 27 = .ok (.aload_n 3, 1) := by decide +kernel
theorem dJ7_copyOf_6403c_28 : decode cJ7_copyOf_6403c 28 = .ok (.iconst 0, 1) := by decide +kernel
theorem dJ7_copyOf_6403c_29 : decode cJ7_copyOf_6403c 29 = .ok (.aload_n 0, 1) := by decide +kernel
theorem dJ7_copyOf_6403c_30 : decode cJ7_copyOf_6403c 30 = .ok (.arraylength, 1) := by decide +kernel
theorem dJ7_copyOf_6403c_31 : decode cJ7_copyOf_6403c 31 = .ok (.iload_n 1, 1) := by decide +kernel
theorem dJ7_copyOf_6403c_32 : decode cJ7_copyOf_6403c 32 = .ok (.invokestatic 304, 3) := by decide +kernel
theorem dJ7_copyOf_6403c_35 : decode cJ7_copyOf_6403c 35 = .ok (.invokestatic 150, 3) := by decide +kernel
theorem dJ7_copyOf_6403c_38 : decode cJ7_copyOf_6403c 38 = .ok (.aload_n 3, 1) := by decide +kernel
theorem dJ7_copyOf_6403c_39 : decode cJ7_copyOf_6403c 39 = .ok (.areturn, 1) := by decide +kernel
theorem dJ15_checkIndex_7cf53_0 : decode cJ15_checkIndex_7cf53 0 = .ok (.iload_n 0, 1) := by decide +kernel
theorem dJ15_checkIndex_7cf53_1 : decode cJ15_checkIndex_7cf53 1 = .ok (.iload_n 1, 1) := by decide +kernel
theorem dJ15_checkIndex_7cf53_2 : decode cJ15_checkIndex_7cf53 2 = .ok (.aconst_null, 1) := by decide +kernel
theorem dJ15_checkIndex_7cf53_3 : decode cJ15_checkIndex_7cf53 3 = .ok (.invokestatic 105, 3) := by decide +kernel
theorem dJ15_checkIndex_7cf53_6 : decode cJ15_checkIndex_7cf53 6 = .ok (.ireturn, 1) := by decide +kernel
theorem dJ8_newLength_cabcc_0 : decode cJ8_newLength_cabcc 0 = .ok (.iload_n 0, 1) := by decide +kernel
theorem dJ8_newLength_cabcc_1 : decode cJ8_newLength_cabcc 1 = .ok (.iload_n 1, 1) := by decide +kernel
theorem dJ8_newLength_cabcc_2 : decode cJ8_newLength_cabcc 2 = .ok (.iload_n 2, 1) := by decide +kernel
theorem dJ8_newLength_cabcc_3 : decode cJ8_newLength_cabcc 3 = .ok (.invokestatic 194, 3) := by decide +kernel
theorem dJ8_newLength_cabcc_6 : decode cJ8_newLength_cabcc 6 = .ok (.iadd, 1) := by decide +kernel
theorem dJ8_newLength_cabcc_7 : decode cJ8_newLength_cabcc 7 = .ok (.istore_n 3, 1) := by decide +kernel
theorem dJ8_newLength_cabcc_8 : decode cJ8_newLength_cabcc 8 = .ok (.iconst 0, 1) := by decide +kernel
theorem dJ8_newLength_cabcc_9 : decode cJ8_newLength_cabcc 9 = .ok (.iload_n 3, 1) := by decide +kernel
theorem dJ8_newLength_cabcc_10 : decode cJ8_newLength_cabcc 10 = .ok (.if_icmp .ge 11, 3) := by decide +kernel
theorem dJ8_newLength_cabcc_13 : decode cJ8_newLength_cabcc 13 = .ok (.iload_n 3, 1) := by decide +kernel
theorem dJ8_newLength_cabcc_14 : decode cJ8_newLength_cabcc 14 = .ok (.ldc 200, 2) := by decide +kernel
theorem dJ8_newLength_cabcc_16 : decode cJ8_newLength_cabcc 16 = .ok (.if_icmp .gt 5, 3) := by decide +kernel
theorem dJ8_newLength_cabcc_19 : decode cJ8_newLength_cabcc 19 = .ok (.iload_n 3, 1) := by decide +kernel
theorem dJ8_newLength_cabcc_20 : decode cJ8_newLength_cabcc 20 = .ok (.ireturn, 1) := by decide +kernel
theorem dJ8_newLength_cabcc_21 : decode cJ8_newLength_cabcc 21 = .ok (.iload_n 0, 1) := by decide +kernel
theorem dJ8_newLength_cabcc_22 : decode cJ8_newLength_cabcc 22 = .ok (.iload_n 1, 1) := by decide +kernel
theorem dJ8_newLength_cabcc_23 : decode cJ8_newLength_cabcc 23 = .ok (.invokestatic 201, 3) := by decide +kernel
theorem dJ8_newLength_cabcc_26 : decode cJ8_newLength_cabcc 26 = .ok (.ireturn, 1) := by decide +kernel
theorem dJ8_hugeLength_7cf53_0 : decode cJ8_hugeLength_7cf53 0 = .ok (.iload_n 0, 1) := by decide +kernel
theorem dJ8_hugeLength_7cf53_1 : decode cJ8_hugeLength_7cf53 1 = .ok (.iload_n 1, 1) := by decide +kernel
theorem dJ8_hugeLength_7cf53_2 : decode cJ8_hugeLength_7cf53 2 = .ok (.iadd, 1) := by decide +kernel
theorem dJ8_hugeLength_7cf53_3 : decode cJ8_hugeLength_7cf53 3 = .ok (.istore_n 2, 1) := by decide +kernel
theorem dJ8_hugeLength_7cf53_4 : decode cJ8_hugeLength_7cf53 4 = .ok (.iload_n 2, 1) := by decide +kernel
theorem dJ8_hugeLength_7cf53_5 : decode cJ8_hugeLength_7cf53 5 = .ok (.ifCond .ge 44, 3) := by decide +kernel
theorem dJ8_hugeLength_7cf53_8 : decode cJ8_hugeLength_7cf53 8 = .ok (.new 204, 3) := by decide +kernel
theorem dJ8_hugeLength_7cf53_11 : decode cJ8_hugeLength_7cf53 11 = .ok (.dup, 1) := by decide +kernel
theorem dJ8_hugeLength_7cf53_12 : decode cJ8_hugeLength_7cf53 12 = .ok (.new 89, 3) := by decide +kernel
theorem dJ8_hugeLength_7cf53_15 : decode cJ8_hugeLength_7cf53 15 = .ok (.dup, 1) := by decide +kernel
theorem dJ8_hugeLength_7cf53_16 : decode cJ8_hugeLength_7cf53 16 = .ok (.invokespecial 91, 3) := by decide +kernel
theorem dJ8_hugeLength_7cf53_19 : decode cJ8_hugeLength_7cf53 19 = .ok (.ldc 206, 2) := by decide +kernel
theorem dJ8_hugeLength_7cf53_21 : decode cJ8_hugeLength_7cf53 21 = .ok (.invokevirtual 94, 3) := by decide +kernel
theorem dJ8_hugeLength_7cf53_24 : decode cJ8_hugeLength_7cf53 24 = .ok (.iload_n 0, 1) := by decide +kernel
theorem dJ8_hugeLength_7cf53_25 : decode cJ8_hugeLength_7cf53 25 = .ok (.invokevirtual 98, 3) := by decide +kernel
theorem dJ8_hugeLength_7cf53_28 : decode cJ8_hugeLength_7cf53 28 = .ok (.ldc 208, 2) := by decide +kernel
theorem dJ8_hugeLength_7cf53_30 : decode cJ8_hugeLength_7cf53 30 = .ok (.invokevirtual 94, 3) := by decide +kernel
theorem dJ8_hugeLength_7cf53_33 : decode cJ8_hugeLength_7cf53 33 = .ok (.iload_n 1, 1) := by decide +kernel
theorem dJ8_hugeLength_7cf53_34 : decode cJ8_hugeLength_7cf53 34 = .ok (.invokevirtual 98, 3) := by decide +kernel
theorem dJ8_hugeLength_7cf53_37 : decode cJ8_hugeLength_7cf53 37 = .ok (.ldc 210, 2) := by decide +kernel
theorem dJ8_hugeLength_7cf53_39 : decode cJ8_hugeLength_7cf53 39 = .ok (.invokevirtual 94, 3) := by decide +kernel
theorem dJ8_hugeLength_7cf53_42 : decode cJ8_hugeLength_7cf53 42 = .ok (.invokevirtual 101, 3) := by decide +kernel
theorem dJ8_hugeLength_7cf53_45 : decode cJ8_hugeLength_7cf53 45 = .ok (.invokespecial 212, 3) := by decide +kernel
theorem dJ8_hugeLength_7cf53_48 : decode cJ8_hugeLength_7cf53 48 = .ok (.athrow, 1) := by decide +kernel
theorem dJ8_hugeLength_7cf53_49 : decode cJ8_hugeLength_7cf53 49 = .ok (.iload_n 2, 1) := by decide +kernel
theorem dJ8_hugeLength_7cf53_50 : decode cJ8_hugeLength_7cf53 50 = .ok (.ldc 200, 2) := by decide +kernel
theorem dJ8_hugeLength_7cf53_52 : decode cJ8_hugeLength_7cf53 52 = .ok (.if_icmp .gt 6, 3) := by decide +kernel
theorem dJ8_hugeLength_7cf53_55 : decode cJ8_hugeLength_7cf53 55 = .ok (.ldc 200, 2) := by decide +kernel
theorem dJ8_hugeLength_7cf53_57 : decode cJ8_hugeLength_7cf53 57 = .ok (.ireturn, 1) := by decide +kernel
theorem dJ8_hugeLength_7cf53_58 : decode cJ8_hugeLength_7cf53 58 = .ok (.iload_n 2, 1) := by decide +kernel
theorem dJ8_hugeLength_7cf53_59 : decode cJ8_hugeLength_7cf53 59 = .ok (.ireturn, 1) := by decide +kernel
theorem dJ3_checkIndex_8e157_0 : decode cJ3_checkIndex_8e157 0 = .ok (.iload_n 0, 1) := by decide +kernel
theorem dJ3_checkIndex_8e157_1 : decode cJ3_checkIndex_8e157 1 = .ok (.ifCond .lt 8, 3) := by decide +kernel
theorem dJ3_checkIndex_8e157_4 : decode cJ3_checkIndex_8e157 4 = .ok (.iload_n 0, 1) := by decide +kernel
theorem dJ3_checkIndex_8e157_5 : decode cJ3_checkIndex_8e157 5 = .ok (.iload_n 1, 1) := by decide +kernel
theorem dJ3_checkIndex_8e157_6 : decode cJ3_checkIndex_8e157 6 = .ok (.if_icmp .lt 10, 3) := by decide +kernel
theorem dJ3_checkIndex_8e157_9 : decode cJ3_checkIndex_8e157 9 = .ok (.aload_n 2, 1) := by decide +kernel
theorem dJ3_checkIndex_8e157_10 : decode cJ3_checkIndex_8e157 10 = .ok (.iload_n 0, 1) := by decide +kernel
theorem dJ3_checkIndex_8e157_11 : decode cJ3_checkIndex_8e157 11 = .ok (.iload_n 1, 1) := by decide +kernel
theorem dJ3_checkIndex_8e157_12 : decode cJ3_checkIndex_8e157 12 = .ok (.invokestatic 95, 3) := by decide +kernel
theorem dJ3_checkIndex_8e157_15 : decode cJ3_checkIndex_8e157 15 = .ok (.athrow, 1) := by decide +kernel
theorem dJ3_checkIndex_8e157_16 : decode cJ3_checkIndex_8e157 16 = .ok (.iload_n 0, 1) := by decide +kernel
theorem dJ3_checkIndex_8e157_17 : decode cJ3_checkIndex_8e157 17 = .ok (.ireturn, 1) := by decide +kernel
theorem dL_person_0 : decode cL_person 0 = .ok (.aload_n 3, 1) := by decide +kernel
theorem dL_person_1 : decode cL_person 1 = .ok (.iconst 0, 1) := by decide +kernel
theorem dL_person_2 : decode cL_person 2 = .ok (.aload_n 0, 1) := by decide +kernel
theorem dL_person_3 : decode cL_person 3 = .ok (.iload_n 1, 1) := by decide +kernel
theorem dL_person_4 : decode cL_person 4 = .ok (.iload_n 2, 1) := by decide +kernel
theorem dL_person_5 : decode cL_person 5 = .ok (.invokevirtual 7, 3) := by decide +kernel
theorem dL_person_8 : decode cL_person 8 = .ok (.i2l, 1) := by decide +kernel
theorem dL_person_9 : decode cL_person 9 = .ok (.lastore, 1) := by decide +kernel
theorem dL_person_10 : decode cL_person 10 = .ok (.goto 11, 3) := by decide +kernel
theorem dL_person_13 : decode cL_person 13 = .ok (.astore 4, 2) := by decide +kernel
theorem dL_person_15 : decode cL_person 15 = .ok (.iconst 1, 1) := by decide +kernel
theorem dL_person_16 : decode cL_person 16 = .ok (.ireturn, 1) := by decide +kernel
theorem dL_person_17 : decode cL_person 17 = .ok (.astore 4, 2) := by decide +kernel
theorem dL_person_19 : decode cL_person 19 = .ok (.iconst 2, 1) := by decide +kernel
theorem dL_person_20 : decode cL_person 20 = .ok (.ireturn, 1) := by decide +kernel
theorem dL_person_21 : decode cL_person 21 = .ok (.iconst 0, 1) := by decide +kernel
theorem dL_person_22 : decode cL_person 22 = .ok (.ireturn, 1) := by decide +kernel
theorem dL_earn_0 : decode cL_earn 0 = .ok (.aload_n 3, 1) := by decide +kernel
theorem dL_earn_1 : decode cL_earn 1 = .ok (.iconst 0, 1) := by decide +kernel
theorem dL_earn_2 : decode cL_earn 2 = .ok (.aload_n 0, 1) := by decide +kernel
theorem dL_earn_3 : decode cL_earn 3 = .ok (.iload_n 1, 1) := by decide +kernel
theorem dL_earn_4 : decode cL_earn 4 = .ok (.iload_n 2, 1) := by decide +kernel
theorem dL_earn_5 : decode cL_earn 5 = .ok (.invokevirtual 17, 3) := by decide +kernel
theorem dL_earn_8 : decode cL_earn 8 = .ok (.i2l, 1) := by decide +kernel
theorem dL_earn_9 : decode cL_earn 9 = .ok (.lastore, 1) := by decide +kernel
theorem dL_earn_10 : decode cL_earn 10 = .ok (.goto 15, 3) := by decide +kernel
theorem dL_earn_13 : decode cL_earn 13 = .ok (.astore 4, 2) := by decide +kernel
theorem dL_earn_15 : decode cL_earn 15 = .ok (.iconst 1, 1) := by decide +kernel
theorem dL_earn_16 : decode cL_earn 16 = .ok (.ireturn, 1) := by decide +kernel
theorem dL_earn_17 : decode cL_earn 17 = .ok (.astore 4, 2) := by decide +kernel
theorem dL_earn_19 : decode cL_earn 19 = .ok (.iconst 2, 1) := by decide +kernel
theorem dL_earn_20 : decode cL_earn 20 = .ok (.ireturn, 1) := by decide +kernel
theorem dL_earn_21 : decode cL_earn 21 = .ok (.astore 4, 2) := by decide +kernel
theorem dL_earn_23 : decode cL_earn 23 = .ok (.iconst 3, 1) := by decide +kernel
theorem dL_earn_24 : decode cL_earn 24 = .ok (.ireturn, 1) := by decide +kernel
theorem dL_earn_25 : decode cL_earn 25 = .ok (.iconst 0, 1) := by decide +kernel
theorem dL_earn_26 : decode cL_earn 26 = .ok (.ireturn, 1) := by decide +kernel
theorem dL_die_0 : decode cL_die 0 = .ok (.aload_n 3, 1) := by decide +kernel
theorem dL_die_1 : decode cL_die 1 = .ok (.iconst 0, 1) := by decide +kernel
theorem dL_die_2 : decode cL_die 2 = .ok (.aload_n 0, 1) := by decide +kernel
theorem dL_die_3 : decode cL_die 3 = .ok (.iload_n 1, 1) := by decide +kernel
theorem dL_die_4 : decode cL_die 4 = .ok (.iload_n 2, 1) := by decide +kernel
theorem dL_die_5 : decode cL_die 5 = .ok (.invokevirtual 22, 3) := by decide +kernel
theorem dL_die_8 : decode cL_die 8 = .ok (.i2l, 1) := by decide +kernel
theorem dL_die_9 : decode cL_die 9 = .ok (.lastore, 1) := by decide +kernel
theorem dL_die_10 : decode cL_die 10 = .ok (.goto 15, 3) := by decide +kernel
theorem dL_die_13 : decode cL_die 13 = .ok (.astore 4, 2) := by decide +kernel
theorem dL_die_15 : decode cL_die 15 = .ok (.iconst 1, 1) := by decide +kernel
theorem dL_die_16 : decode cL_die 16 = .ok (.ireturn, 1) := by decide +kernel
theorem dL_die_17 : decode cL_die 17 = .ok (.astore 4, 2) := by decide +kernel
theorem dL_die_19 : decode cL_die 19 = .ok (.iconst 2, 1) := by decide +kernel
theorem dL_die_20 : decode cL_die 20 = .ok (.ireturn, 1) := by decide +kernel
theorem dL_die_21 : decode cL_die 21 = .ok (.astore 4, 2) := by decide +kernel
theorem dL_die_23 : decode cL_die 23 = .ok (.iconst 3, 1) := by decide +kernel
theorem dL_die_24 : decode cL_die 24 = .ok (.ireturn, 1) := by decide +kernel
theorem dL_die_25 : decode cL_die 25 = .ok (.iconst 0, 1) := by decide +kernel
theorem dL_die_26 : decode cL_die 26 = .ok (.ireturn, 1) := by decide +kernel
theorem dL_circle_0 : decode cL_circle 0 = .ok (.aload_n 3, 1) := by decide +kernel
theorem dL_circle_1 : decode cL_circle 1 = .ok (.iconst 0, 1) := by decide +kernel
theorem dL_circle_2 : decode cL_circle 2 = .ok (.aload_n 0, 1) := by decide +kernel
theorem dL_circle_3 : decode cL_circle 3 = .ok (.iload_n 1, 1) := by decide +kernel
theorem dL_circle_4 : decode cL_circle 4 = .ok (.iload_n 2, 1) := by decide +kernel
theorem dL_circle_5 : decode cL_circle 5 = .ok (.invokevirtual 25, 3) := by decide +kernel
theorem dL_circle_8 : decode cL_circle 8 = .ok (.i2l, 1) := by decide +kernel
theorem dL_circle_9 : decode cL_circle 9 = .ok (.lastore, 1) := by decide +kernel
theorem dL_circle_10 : decode cL_circle 10 = .ok (.goto 11, 3) := by decide +kernel
theorem dL_circle_13 : decode cL_circle 13 = .ok (.astore 4, 2) := by decide +kernel
theorem dL_circle_15 : decode cL_circle 15 = .ok (.iconst 1, 1) := by decide +kernel
theorem dL_circle_16 : decode cL_circle 16 = .ok (.ireturn, 1) := by decide +kernel
theorem dL_circle_17 : decode cL_circle 17 = .ok (.astore 4, 2) := by decide +kernel
theorem dL_circle_19 : decode cL_circle 19 = .ok (.iconst 2, 1) := by decide +kernel
theorem dL_circle_20 : decode cL_circle 20 = .ok (.ireturn, 1) := by decide +kernel
theorem dL_circle_21 : decode cL_circle 21 = .ok (.iconst 0, 1) := by decide +kernel
theorem dL_circle_22 : decode cL_circle 22 = .ok (.ireturn, 1) := by decide +kernel
theorem dL_enter_0 : decode cL_enter 0 = .ok (.aload_n 3, 1) := by decide +kernel
theorem dL_enter_1 : decode cL_enter 1 = .ok (.iconst 0, 1) := by decide +kernel
theorem dL_enter_2 : decode cL_enter 2 = .ok (.aload_n 0, 1) := by decide +kernel
theorem dL_enter_3 : decode cL_enter 3 = .ok (.iload_n 1, 1) := by decide +kernel
theorem dL_enter_4 : decode cL_enter 4 = .ok (.iload_n 2, 1) := by decide +kernel
theorem dL_enter_5 : decode cL_enter 5 = .ok (.invokevirtual 28, 3) := by decide +kernel
theorem dL_enter_8 : decode cL_enter 8 = .ok (.i2l, 1) := by decide +kernel
theorem dL_enter_9 : decode cL_enter 9 = .ok (.lastore, 1) := by decide +kernel
theorem dL_enter_10 : decode cL_enter 10 = .ok (.goto 11, 3) := by decide +kernel
theorem dL_enter_13 : decode cL_enter 13 = .ok (.astore 4, 2) := by decide +kernel
theorem dL_enter_15 : decode cL_enter 15 = .ok (.iconst 1, 1) := by decide +kernel
theorem dL_enter_16 : decode cL_enter 16 = .ok (.ireturn, 1) := by decide +kernel
theorem dL_enter_17 : decode cL_enter 17 = .ok (.astore 4, 2) := by decide +kernel
theorem dL_enter_19 : decode cL_enter 19 = .ok (.iconst 2, 1) := by decide +kernel
theorem dL_enter_20 : decode cL_enter 20 = .ok (.ireturn, 1) := by decide +kernel
theorem dL_enter_21 : decode cL_enter 21 = .ok (.iconst 0, 1) := by decide +kernel
theorem dL_enter_22 : decode cL_enter 22 = .ok (.ireturn, 1) := by decide +kernel
theorem dL_start_0 : decode cL_start 0 = .ok (.aload_n 3, 1) := by decide +kernel
theorem dL_start_1 : decode cL_start 1 = .ok (.iconst 0, 1) := by decide +kernel
theorem dL_start_2 : decode cL_start 2 = .ok (.aload_n 0, 1) := by decide +kernel
theorem dL_start_3 : decode cL_start 3 = .ok (.iload_n 1, 1) := by decide +kernel
theorem dL_start_4 : decode cL_start 4 = .ok (.iload_n 2, 1) := by decide +kernel
theorem dL_start_5 : decode cL_start 5 = .ok (.invokevirtual 31, 3) := by decide +kernel
theorem dL_start_8 : decode cL_start 8 = .ok (.i2l, 1) := by decide +kernel
theorem dL_start_9 : decode cL_start 9 = .ok (.lastore, 1) := by decide +kernel
theorem dL_start_10 : decode cL_start 10 = .ok (.goto 15, 3) := by decide +kernel
theorem dL_start_13 : decode cL_start 13 = .ok (.astore 4, 2) := by decide +kernel
theorem dL_start_15 : decode cL_start 15 = .ok (.iconst 1, 1) := by decide +kernel
theorem dL_start_16 : decode cL_start 16 = .ok (.ireturn, 1) := by decide +kernel
theorem dL_start_17 : decode cL_start 17 = .ok (.astore 4, 2) := by decide +kernel
theorem dL_start_19 : decode cL_start 19 = .ok (.iconst 2, 1) := by decide +kernel
theorem dL_start_20 : decode cL_start 20 = .ok (.ireturn, 1) := by decide +kernel
theorem dL_start_21 : decode cL_start 21 = .ok (.astore 4, 2) := by decide +kernel
theorem dL_start_23 : decode cL_start 23 = .ok (.iconst 3, 1) := by decide +kernel
theorem dL_start_24 : decode cL_start 24 = .ok (.ireturn, 1) := by decide +kernel
theorem dL_start_25 : decode cL_start 25 = .ok (.iconst 0, 1) := by decide +kernel
theorem dL_start_26 : decode cL_start 26 = .ok (.ireturn, 1) := by decide +kernel
theorem dL_want_0 : decode cL_want 0 = .ok (.aload 5, 2) := by decide +kernel
theorem dL_want_2 : decode cL_want 2 = .ok (.iconst 0, 1) := by decide +kernel
theorem dL_want_3 : decode cL_want 3 = .ok (.aload_n 0, 1) := by decide +kernel
theorem dL_want_4 : decode cL_want 4 = .ok (.iload_n 1, 1) := by decide +kernel
theorem dL_want_5 : decode cL_want 5 = .ok (.iload_n 2, 1) := by decide +kernel
theorem dL_want_6 : decode cL_want 6 = .ok (.iload_n 3, 1) := by decide +kernel
theorem dL_want_7 : decode cL_want 7 = .ok (.iload 4, 2) := by decide +kernel
theorem dL_want_9 : decode cL_want 9 = .ok (.invokevirtual 34, 3) := by decide +kernel
theorem dL_want_12 : decode cL_want 12 = .ok (.i2l, 1) := by decide +kernel
theorem dL_want_13 : decode cL_want 13 = .ok (.lastore, 1) := by decide +kernel
theorem dL_want_14 : decode cL_want 14 = .ok (.goto 15, 3) := by decide +kernel
theorem dL_want_17 : decode cL_want 17 = .ok (.astore 6, 2) := by decide +kernel
theorem dL_want_19 : decode cL_want 19 = .ok (.iconst 1, 1) := by decide +kernel
theorem dL_want_20 : decode cL_want 20 = .ok (.ireturn, 1) := by decide +kernel
theorem dL_want_21 : decode cL_want 21 = .ok (.astore 6, 2) := by decide +kernel
theorem dL_want_23 : decode cL_want 23 = .ok (.iconst 2, 1) := by decide +kernel
theorem dL_want_24 : decode cL_want 24 = .ok (.ireturn, 1) := by decide +kernel
theorem dL_want_25 : decode cL_want 25 = .ok (.astore 6, 2) := by decide +kernel
theorem dL_want_27 : decode cL_want 27 = .ok (.iconst 3, 1) := by decide +kernel
theorem dL_want_28 : decode cL_want 28 = .ok (.ireturn, 1) := by decide +kernel
theorem dL_want_29 : decode cL_want 29 = .ok (.iconst 0, 1) := by decide +kernel
theorem dL_want_30 : decode cL_want 30 = .ok (.ireturn, 1) := by decide +kernel
theorem dL_meet_0 : decode cL_meet 0 = .ok (.aload_n 3, 1) := by decide +kernel
theorem dL_meet_1 : decode cL_meet 1 = .ok (.iconst 0, 1) := by decide +kernel
theorem dL_meet_2 : decode cL_meet 2 = .ok (.aload_n 0, 1) := by decide +kernel
theorem dL_meet_3 : decode cL_meet 3 = .ok (.iload_n 1, 1) := by decide +kernel
theorem dL_meet_4 : decode cL_meet 4 = .ok (.iload_n 2, 1) := by decide +kernel
theorem dL_meet_5 : decode cL_meet 5 = .ok (.invokevirtual 38, 3) := by decide +kernel
theorem dL_meet_8 : decode cL_meet 8 = .ok (.i2l, 1) := by decide +kernel
theorem dL_meet_9 : decode cL_meet 9 = .ok (.lastore, 1) := by decide +kernel
theorem dL_meet_10 : decode cL_meet 10 = .ok (.goto 11, 3) := by decide +kernel
theorem dL_meet_13 : decode cL_meet 13 = .ok (.astore 4, 2) := by decide +kernel
theorem dL_meet_15 : decode cL_meet 15 = .ok (.iconst 1, 1) := by decide +kernel
theorem dL_meet_16 : decode cL_meet 16 = .ok (.ireturn, 1) := by decide +kernel
theorem dL_meet_17 : decode cL_meet 17 = .ok (.astore 4, 2) := by decide +kernel
theorem dL_meet_19 : decode cL_meet 19 = .ok (.iconst 2, 1) := by decide +kernel
theorem dL_meet_20 : decode cL_meet 20 = .ok (.ireturn, 1) := by decide +kernel
theorem dL_meet_21 : decode cL_meet 21 = .ok (.iconst 0, 1) := by decide +kernel
theorem dL_meet_22 : decode cL_meet 22 = .ok (.ireturn, 1) := by decide +kernel
theorem dL_leave_0 : decode cL_leave 0 = .ok (.aload_n 3, 1) := by decide +kernel
theorem dL_leave_1 : decode cL_leave 1 = .ok (.iconst 0, 1) := by decide +kernel
theorem dL_leave_2 : decode cL_leave 2 = .ok (.aload_n 0, 1) := by decide +kernel
theorem dL_leave_3 : decode cL_leave 3 = .ok (.iload_n 1, 1) := by decide +kernel
theorem dL_leave_4 : decode cL_leave 4 = .ok (.iload_n 2, 1) := by decide +kernel
theorem dL_leave_5 : decode cL_leave 5 = .ok (.invokevirtual 42, 3) := by decide +kernel
theorem dL_leave_8 : decode cL_leave 8 = .ok (.i2l, 1) := by decide +kernel
theorem dL_leave_9 : decode cL_leave 9 = .ok (.lastore, 1) := by decide +kernel
theorem dL_leave_10 : decode cL_leave 10 = .ok (.goto 11, 3) := by decide +kernel
theorem dL_leave_13 : decode cL_leave 13 = .ok (.astore 4, 2) := by decide +kernel
theorem dL_leave_15 : decode cL_leave 15 = .ok (.iconst 1, 1) := by decide +kernel
theorem dL_leave_16 : decode cL_leave 16 = .ok (.ireturn, 1) := by decide +kernel
theorem dL_leave_17 : decode cL_leave 17 = .ok (.astore 4, 2) := by decide +kernel
theorem dL_leave_19 : decode cL_leave 19 = .ok (.iconst 2, 1) := by decide +kernel
theorem dL_leave_20 : decode cL_leave 20 = .ok (.ireturn, 1) := by decide +kernel
theorem dL_leave_21 : decode cL_leave 21 = .ok (.iconst 0, 1) := by decide +kernel
theorem dL_leave_22 : decode cL_leave 22 = .ok (.ireturn, 1) := by decide +kernel
theorem dL_buy_0 : decode cL_buy 0 = .ok (.aload_n 3, 1) := by decide +kernel
theorem dL_buy_1 : decode cL_buy 1 = .ok (.iconst 0, 1) := by decide +kernel
theorem dL_buy_2 : decode cL_buy 2 = .ok (.aload_n 0, 1) := by decide +kernel
theorem dL_buy_3 : decode cL_buy 3 = .ok (.iload_n 1, 1) := by decide +kernel
theorem dL_buy_4 : decode cL_buy 4 = .ok (.iload_n 2, 1) := by decide +kernel
theorem dL_buy_5 : decode cL_buy 5 = .ok (.invokevirtual 45, 3) := by decide +kernel
theorem dL_buy_8 : decode cL_buy 8 = .ok (.i2l, 1) := by decide +kernel
theorem dL_buy_9 : decode cL_buy 9 = .ok (.lastore, 1) := by decide +kernel
theorem dL_buy_10 : decode cL_buy 10 = .ok (.goto 15, 3) := by decide +kernel
theorem dL_buy_13 : decode cL_buy 13 = .ok (.astore 4, 2) := by decide +kernel
theorem dL_buy_15 : decode cL_buy 15 = .ok (.iconst 1, 1) := by decide +kernel
theorem dL_buy_16 : decode cL_buy 16 = .ok (.ireturn, 1) := by decide +kernel
theorem dL_buy_17 : decode cL_buy 17 = .ok (.astore 4, 2) := by decide +kernel
theorem dL_buy_19 : decode cL_buy 19 = .ok (.iconst 2, 1) := by decide +kernel
theorem dL_buy_20 : decode cL_buy 20 = .ok (.ireturn, 1) := by decide +kernel
theorem dL_buy_21 : decode cL_buy 21 = .ok (.astore 4, 2) := by decide +kernel
theorem dL_buy_23 : decode cL_buy 23 = .ok (.iconst 3, 1) := by decide +kernel
theorem dL_buy_24 : decode cL_buy 24 = .ok (.ireturn, 1) := by decide +kernel
theorem dL_buy_25 : decode cL_buy 25 = .ok (.iconst 0, 1) := by decide +kernel
theorem dL_buy_26 : decode cL_buy 26 = .ok (.ireturn, 1) := by decide +kernel
theorem dL_borrow_0 : decode cL_borrow 0 = .ok (.aload 5, 2) := by decide +kernel
theorem dL_borrow_2 : decode cL_borrow 2 = .ok (.iconst 0, 1) := by decide +kernel
theorem dL_borrow_3 : decode cL_borrow 3 = .ok (.aload_n 0, 1) := by decide +kernel
theorem dL_borrow_4 : decode cL_borrow 4 = .ok (.iload_n 1, 1) := by decide +kernel
theorem dL_borrow_5 : decode cL_borrow 5 = .ok (.iload_n 2, 1) := by decide +kernel
theorem dL_borrow_6 : decode cL_borrow 6 = .ok (.iload_n 3, 1) := by decide +kernel
theorem dL_borrow_7 : decode cL_borrow 7 = .ok (.iload 4, 2) := by decide +kernel
theorem dL_borrow_9 : decode cL_borrow 9 = .ok (.invokevirtual 48, 3) := by decide +kernel
theorem dL_borrow_12 : decode cL_borrow 12 = .ok (.i2l, 1) := by decide +kernel
theorem dL_borrow_13 : decode cL_borrow 13 = .ok (.lastore, 1) := by decide +kernel
theorem dL_borrow_14 : decode cL_borrow 14 = .ok (.goto 15, 3) := by decide +kernel
theorem dL_borrow_17 : decode cL_borrow 17 = .ok (.astore 6, 2) := by decide +kernel
theorem dL_borrow_19 : decode cL_borrow 19 = .ok (.iconst 1, 1) := by decide +kernel
theorem dL_borrow_20 : decode cL_borrow 20 = .ok (.ireturn, 1) := by decide +kernel
theorem dL_borrow_21 : decode cL_borrow 21 = .ok (.astore 6, 2) := by decide +kernel
theorem dL_borrow_23 : decode cL_borrow 23 = .ok (.iconst 2, 1) := by decide +kernel
theorem dL_borrow_24 : decode cL_borrow 24 = .ok (.ireturn, 1) := by decide +kernel
theorem dL_borrow_25 : decode cL_borrow 25 = .ok (.astore 6, 2) := by decide +kernel
theorem dL_borrow_27 : decode cL_borrow 27 = .ok (.iconst 3, 1) := by decide +kernel
theorem dL_borrow_28 : decode cL_borrow 28 = .ok (.ireturn, 1) := by decide +kernel
theorem dL_borrow_29 : decode cL_borrow 29 = .ok (.iconst 0, 1) := by decide +kernel
theorem dL_borrow_30 : decode cL_borrow 30 = .ok (.ireturn, 1) := by decide +kernel
theorem dL_repay_0 : decode cL_repay 0 = .ok (.aload_n 3, 1) := by decide +kernel
theorem dL_repay_1 : decode cL_repay 1 = .ok (.iconst 0, 1) := by decide +kernel
theorem dL_repay_2 : decode cL_repay 2 = .ok (.aload_n 0, 1) := by decide +kernel
theorem dL_repay_3 : decode cL_repay 3 = .ok (.iload_n 1, 1) := by decide +kernel
theorem dL_repay_4 : decode cL_repay 4 = .ok (.iload_n 2, 1) := by decide +kernel
theorem dL_repay_5 : decode cL_repay 5 = .ok (.invokevirtual 52, 3) := by decide +kernel
theorem dL_repay_8 : decode cL_repay 8 = .ok (.i2l, 1) := by decide +kernel
theorem dL_repay_9 : decode cL_repay 9 = .ok (.lastore, 1) := by decide +kernel
theorem dL_repay_10 : decode cL_repay 10 = .ok (.goto 15, 3) := by decide +kernel
theorem dL_repay_13 : decode cL_repay 13 = .ok (.astore 4, 2) := by decide +kernel
theorem dL_repay_15 : decode cL_repay 15 = .ok (.iconst 1, 1) := by decide +kernel
theorem dL_repay_16 : decode cL_repay 16 = .ok (.ireturn, 1) := by decide +kernel
theorem dL_repay_17 : decode cL_repay 17 = .ok (.astore 4, 2) := by decide +kernel
theorem dL_repay_19 : decode cL_repay 19 = .ok (.iconst 2, 1) := by decide +kernel
theorem dL_repay_20 : decode cL_repay 20 = .ok (.ireturn, 1) := by decide +kernel
theorem dL_repay_21 : decode cL_repay 21 = .ok (.astore 4, 2) := by decide +kernel
theorem dL_repay_23 : decode cL_repay 23 = .ok (.iconst 3, 1) := by decide +kernel
theorem dL_repay_24 : decode cL_repay 24 = .ok (.ireturn, 1) := by decide +kernel
theorem dL_repay_25 : decode cL_repay 25 = .ok (.iconst 0, 1) := by decide +kernel
theorem dL_repay_26 : decode cL_repay 26 = .ok (.ireturn, 1) := by decide +kernel
theorem dL_feast_0 : decode cL_feast 0 = .ok (.aload_n 1, 1) := by decide +kernel
theorem dL_feast_1 : decode cL_feast 1 = .ok (.iconst 0, 1) := by decide +kernel
theorem dL_feast_2 : decode cL_feast 2 = .ok (.aload_n 0, 1) := by decide +kernel
theorem dL_feast_3 : decode cL_feast 3 = .ok (.invokevirtual 55, 3) := by decide +kernel
theorem dL_feast_6 : decode cL_feast 6 = .ok (.i2l, 1) := by decide +kernel
theorem dL_feast_7 : decode cL_feast 7 = .ok (.lastore, 1) := by decide +kernel
theorem dL_feast_8 : decode cL_feast 8 = .ok (.goto 6, 3) := by decide +kernel
theorem dL_feast_11 : decode cL_feast 11 = .ok (.astore_n 2, 1) := by decide +kernel
theorem dL_feast_12 : decode cL_feast 12 = .ok (.iconst 1, 1) := by decide +kernel
theorem dL_feast_13 : decode cL_feast 13 = .ok (.ireturn, 1) := by decide +kernel
theorem dL_feast_14 : decode cL_feast 14 = .ok (.iconst 0, 1) := by decide +kernel
theorem dL_feast_15 : decode cL_feast 15 = .ok (.ireturn, 1) := by decide +kernel
theorem dL_note_0 : decode cL_note 0 = .ok (.aload 4, 2) := by decide +kernel
theorem dL_note_2 : decode cL_note 2 = .ok (.iconst 0, 1) := by decide +kernel
theorem dL_note_3 : decode cL_note 3 = .ok (.aload_n 0, 1) := by decide +kernel
theorem dL_note_4 : decode cL_note 4 = .ok (.iload_n 1, 1) := by decide +kernel
theorem dL_note_5 : decode cL_note 5 = .ok (.iload_n 2, 1) := by decide +kernel
theorem dL_note_6 : decode cL_note 6 = .ok (.iload_n 3, 1) := by decide +kernel
theorem dL_note_7 : decode cL_note 7 = .ok (.invokevirtual 59, 3) := by decide +kernel
theorem dL_note_10 : decode cL_note 10 = .ok (.i2l, 1) := by decide +kernel
theorem dL_note_11 : decode cL_note 11 = .ok (.lastore, 1) := by decide +kernel
theorem dL_note_12 : decode cL_note 12 = .ok (.goto 11, 3) := by decide +kernel
theorem dL_note_15 : decode cL_note 15 = .ok (.astore 5, 2) := by decide +kernel
theorem dL_note_17 : decode cL_note 17 = .ok (.iconst 1, 1) := by decide +kernel
theorem dL_note_18 : decode cL_note 18 = .ok (.ireturn, 1) := by decide +kernel
theorem dL_note_19 : decode cL_note 19 = .ok (.astore 5, 2) := by decide +kernel
theorem dL_note_21 : decode cL_note 21 = .ok (.iconst 2, 1) := by decide +kernel
theorem dL_note_22 : decode cL_note 22 = .ok (.ireturn, 1) := by decide +kernel
theorem dL_note_23 : decode cL_note 23 = .ok (.iconst 0, 1) := by decide +kernel
theorem dL_note_24 : decode cL_note 24 = .ok (.ireturn, 1) := by decide +kernel
theorem dL_audit_0 : decode cL_audit 0 = .ok (.aload_n 2, 1) := by decide +kernel
theorem dL_audit_1 : decode cL_audit 1 = .ok (.iconst 0, 1) := by decide +kernel
theorem dL_audit_2 : decode cL_audit 2 = .ok (.aload_n 0, 1) := by decide +kernel
theorem dL_audit_3 : decode cL_audit 3 = .ok (.iload_n 1, 1) := by decide +kernel
theorem dL_audit_4 : decode cL_audit 4 = .ok (.invokevirtual 63, 3) := by decide +kernel
theorem dL_audit_7 : decode cL_audit 7 = .ok (.i2l, 1) := by decide +kernel
theorem dL_audit_8 : decode cL_audit 8 = .ok (.lastore, 1) := by decide +kernel
theorem dL_audit_9 : decode cL_audit 9 = .ok (.goto 6, 3) := by decide +kernel
theorem dL_audit_12 : decode cL_audit 12 = .ok (.astore_n 3, 1) := by decide +kernel
theorem dL_audit_13 : decode cL_audit 13 = .ok (.iconst 1, 1) := by decide +kernel
theorem dL_audit_14 : decode cL_audit 14 = .ok (.ireturn, 1) := by decide +kernel
theorem dL_audit_15 : decode cL_audit 15 = .ok (.iconst 0, 1) := by decide +kernel
theorem dL_audit_16 : decode cL_audit 16 = .ok (.ireturn, 1) := by decide +kernel
theorem dL_of_0 : decode cL_of 0 = .ok (.aload_n 3, 1) := by decide +kernel
theorem dL_of_1 : decode cL_of 1 = .ok (.iconst 0, 1) := by decide +kernel
theorem dL_of_2 : decode cL_of 2 = .ok (.aload_n 0, 1) := by decide +kernel
theorem dL_of_3 : decode cL_of 3 = .ok (.iload_n 1, 1) := by decide +kernel
theorem dL_of_4 : decode cL_of 4 = .ok (.iload_n 2, 1) := by decide +kernel
theorem dL_of_5 : decode cL_of 5 = .ok (.invokevirtual 67, 3) := by decide +kernel
theorem dL_of_8 : decode cL_of 8 = .ok (.i2l, 1) := by decide +kernel
theorem dL_of_9 : decode cL_of 9 = .ok (.lastore, 1) := by decide +kernel
theorem dL_of_10 : decode cL_of 10 = .ok (.goto 11, 3) := by decide +kernel
theorem dL_of_13 : decode cL_of 13 = .ok (.astore 4, 2) := by decide +kernel
theorem dL_of_15 : decode cL_of 15 = .ok (.iconst 1, 1) := by decide +kernel
theorem dL_of_16 : decode cL_of 16 = .ok (.ireturn, 1) := by decide +kernel
theorem dL_of_17 : decode cL_of 17 = .ok (.astore 4, 2) := by decide +kernel
theorem dL_of_19 : decode cL_of 19 = .ok (.iconst 2, 1) := by decide +kernel
theorem dL_of_20 : decode cL_of 20 = .ok (.ireturn, 1) := by decide +kernel
theorem dL_of_21 : decode cL_of 21 = .ok (.iconst 0, 1) := by decide +kernel
theorem dL_of_22 : decode cL_of 22 = .ok (.ireturn, 1) := by decide +kernel
theorem dL_member_0 : decode cL_member 0 = .ok (.aload 4, 2) := by decide +kernel
theorem dL_member_2 : decode cL_member 2 = .ok (.iconst 0, 1) := by decide +kernel
theorem dL_member_3 : decode cL_member 3 = .ok (.aload_n 0, 1) := by decide +kernel
theorem dL_member_4 : decode cL_member 4 = .ok (.iload_n 1, 1) := by decide +kernel
theorem dL_member_5 : decode cL_member 5 = .ok (.iload_n 2, 1) := by decide +kernel
theorem dL_member_6 : decode cL_member 6 = .ok (.iload_n 3, 1) := by decide +kernel
theorem dL_member_7 : decode cL_member 7 = .ok (.invokevirtual 70, 3) := by decide +kernel
theorem dL_member_10 : decode cL_member 10 = .ok (.i2l, 1) := by decide +kernel
theorem dL_member_11 : decode cL_member 11 = .ok (.lastore, 1) := by decide +kernel
theorem dL_member_12 : decode cL_member 12 = .ok (.goto 11, 3) := by decide +kernel
theorem dL_member_15 : decode cL_member 15 = .ok (.astore 5, 2) := by decide +kernel
theorem dL_member_17 : decode cL_member 17 = .ok (.iconst 1, 1) := by decide +kernel
theorem dL_member_18 : decode cL_member 18 = .ok (.ireturn, 1) := by decide +kernel
theorem dL_member_19 : decode cL_member 19 = .ok (.astore 5, 2) := by decide +kernel
theorem dL_member_21 : decode cL_member 21 = .ok (.iconst 2, 1) := by decide +kernel
theorem dL_member_22 : decode cL_member 22 = .ok (.ireturn, 1) := by decide +kernel
theorem dL_member_23 : decode cL_member 23 = .ok (.iconst 0, 1) := by decide +kernel
theorem dL_member_24 : decode cL_member 24 = .ok (.ireturn, 1) := by decide +kernel
theorem dL_ofCircle_0 : decode cL_ofCircle 0 = .ok (.aload_n 3, 1) := by decide +kernel
theorem dL_ofCircle_1 : decode cL_ofCircle 1 = .ok (.iconst 0, 1) := by decide +kernel
theorem dL_ofCircle_2 : decode cL_ofCircle 2 = .ok (.aload_n 0, 1) := by decide +kernel
theorem dL_ofCircle_3 : decode cL_ofCircle 3 = .ok (.iload_n 1, 1) := by decide +kernel
theorem dL_ofCircle_4 : decode cL_ofCircle 4 = .ok (.iload_n 2, 1) := by decide +kernel
theorem dL_ofCircle_5 : decode cL_ofCircle 5 = .ok (.invokevirtual 73, 3) := by decide +kernel
theorem dL_ofCircle_8 : decode cL_ofCircle 8 = .ok (.i2l, 1) := by decide +kernel
theorem dL_ofCircle_9 : decode cL_ofCircle 9 = .ok (.lastore, 1) := by decide +kernel
theorem dL_ofCircle_10 : decode cL_ofCircle 10 = .ok (.goto 11, 3) := by decide +kernel
theorem dL_ofCircle_13 : decode cL_ofCircle 13 = .ok (.astore 4, 2) := by decide +kernel
theorem dL_ofCircle_15 : decode cL_ofCircle 15 = .ok (.iconst 1, 1) := by decide +kernel
theorem dL_ofCircle_16 : decode cL_ofCircle 16 = .ok (.ireturn, 1) := by decide +kernel
theorem dL_ofCircle_17 : decode cL_ofCircle 17 = .ok (.astore 4, 2) := by decide +kernel
theorem dL_ofCircle_19 : decode cL_ofCircle 19 = .ok (.iconst 2, 1) := by decide +kernel
theorem dL_ofCircle_20 : decode cL_ofCircle 20 = .ok (.ireturn, 1) := by decide +kernel
theorem dL_ofCircle_21 : decode cL_ofCircle 21 = .ok (.iconst 0, 1) := by decide +kernel
theorem dL_ofCircle_22 : decode cL_ofCircle 22 = .ok (.ireturn, 1) := by decide +kernel
theorem dL_law_0 : decode cL_law 0 = .ok (.new 8, 3) := by decide +kernel
theorem dL_law_3 : decode cL_law 3 = .ok (.dup, 1) := by decide +kernel
theorem dL_law_4 : decode cL_law 4 = .ok (.invokespecial 76, 3) := by decide +kernel
theorem dL_law_7 : decode cL_law 7 = .ok (.astore_n 1, 1) := by decide +kernel
theorem dL_law_8 : decode cL_law 8 = .ok (.new 77, 3) := by decide +kernel
theorem dL_law_11 : decode cL_law 11 = .ok (.dup, 1) := by decide +kernel
theorem dL_law_12 : decode cL_law 12 = .ok (.invokespecial 79, 3) := by decide +kernel
theorem dL_law_15 : decode cL_law 15 = .ok (.astore_n 2, 1) := by decide +kernel
theorem dL_law_16 : decode cL_law 16 = .ok (.iconst 1, 1) := by decide +kernel
theorem dL_law_17 : decode cL_law 17 = .ok (.newarray .long, 2) := by decide +kernel
theorem dL_law_19 : decode cL_law 19 = .ok (.astore_n 3, 1) := by decide +kernel
theorem dL_law_20 : decode cL_law 20 = .ok (.iconst 0, 1) := by decide +kernel
theorem dL_law_21 : decode cL_law 21 = .ok (.istore 4, 2) := by decide +kernel
theorem dL_law_23 : decode cL_law 23 = .ok (.iload 4, 2) := by decide +kernel
theorem dL_law_25 : decode cL_law 25 = .ok (.aload_n 0, 1) := by decide +kernel
theorem dL_law_26 : decode cL_law 26 = .ok (.arraylength, 1) := by decide +kernel
theorem dL_law_27 : decode cL_law 27 = .ok (.iconst 5, 1) := by decide +kernel
theorem dL_law_28 : decode cL_law 28 = .ok (.isub, 1) := by decide +kernel
theorem dL_law_29 : decode cL_law 29 = .ok (.if_icmp .gt 1472, 3) := by decide +kernel
theorem dL_law_32 : decode cL_law 32 = .ok (.aload_n 0, 1) := by decide +kernel
theorem dL_law_33 : decode cL_law 33 = .ok (.iload 4, 2) := by decide +kernel
theorem dL_law_35 : decode cL_law 35 = .ok (.iaload, 1) := by decide +kernel
theorem dL_law_36 : decode cL_law 36 = .ok (.bipush 31, 2) := by decide +kernel
theorem dL_law_38 : decode cL_law 38 = .ok (.iand, 1) := by decide +kernel
theorem dL_law_39 : decode cL_law 39 = .ok (.tableswitch 1456 0 20 #[97, 165, 233, 301, 369, 437, 505, 613, 697, 765, 833, 925, 993, 1034, 1078, 1158, 1214, 1282, 1362, 1430, 1443], 97) := by decide +kernel
theorem dL_law_136 : decode cL_law 136 = .ok (.aload_n 1, 1) := by decide +kernel
theorem dL_law_137 : decode cL_law 137 = .ok (.aload_n 0, 1) := by decide +kernel
theorem dL_law_138 : decode cL_law 138 = .ok (.iload 4, 2) := by decide +kernel
theorem dL_law_140 : decode cL_law 140 = .ok (.iconst 1, 1) := by decide +kernel
theorem dL_law_141 : decode cL_law 141 = .ok (.iadd, 1) := by decide +kernel
theorem dL_law_142 : decode cL_law 142 = .ok (.iaload, 1) := by decide +kernel
theorem dL_law_143 : decode cL_law 143 = .ok (.aload_n 0, 1) := by decide +kernel
theorem dL_law_144 : decode cL_law 144 = .ok (.iload 4, 2) := by decide +kernel
theorem dL_law_146 : decode cL_law 146 = .ok (.iconst 2, 1) := by decide +kernel
theorem dL_law_147 : decode cL_law 147 = .ok (.iadd, 1) := by decide +kernel
theorem dL_law_148 : decode cL_law 148 = .ok (.iaload, 1) := by decide +kernel
theorem dL_law_149 : decode cL_law 149 = .ok (.aload_n 3, 1) := by decide +kernel
theorem dL_law_150 : decode cL_law 150 = .ok (.invokestatic 80, 3) := by decide +kernel
theorem dL_law_153 : decode cL_law 153 = .ok (.istore 5, 2) := by decide +kernel
theorem dL_law_155 : decode cL_law 155 = .ok (.aload_n 2, 1) := by decide +kernel
theorem dL_law_156 : decode cL_law 156 = .ok (.aload_n 0, 1) := by decide +kernel
theorem dL_law_157 : decode cL_law 157 = .ok (.iload 4, 2) := by decide +kernel
theorem dL_law_159 : decode cL_law 159 = .ok (.iconst 1, 1) := by decide +kernel
theorem dL_law_160 : decode cL_law 160 = .ok (.iadd, 1) := by decide +kernel
theorem dL_law_161 : decode cL_law 161 = .ok (.iaload, 1) := by decide +kernel
theorem dL_law_162 : decode cL_law 162 = .ok (.aload_n 0, 1) := by decide +kernel
theorem dL_law_163 : decode cL_law 163 = .ok (.iload 4, 2) := by decide +kernel
theorem dL_law_165 : decode cL_law 165 = .ok (.iconst 2, 1) := by decide +kernel
theorem dL_law_166 : decode cL_law 166 = .ok (.iadd, 1) := by decide +kernel
theorem dL_law_167 : decode cL_law 167 = .ok (.iaload, 1) := by decide +kernel
theorem dL_law_168 : decode cL_law 168 = .ok (.invokevirtual 85, 3) := by decide +kernel
theorem dL_law_171 : decode cL_law 171 = .ok (.istore 6, 2) := by decide +kernel
theorem dL_law_173 : decode cL_law 173 = .ok (.aload_n 2, 1) := by decide +kernel
theorem dL_law_174 : decode cL_law 174 = .ok (.invokevirtual 86, 3) := by decide +kernel
theorem dL_law_177 : decode cL_law 177 = .ok (.iload 5, 2) := by decide +kernel
theorem dL_law_179 : decode cL_law 179 = .ok (.if_icmp .eq 5, 3) := by decide +kernel
theorem dL_law_182 : decode cL_law 182 = .ok (.iconst 0, 1) := by decide +kernel
theorem dL_law_183 : decode cL_law 183 = .ok (.ireturn, 1) := by decide +kernel
theorem dL_law_184 : decode cL_law 184 = .ok (.iload 5, 2) := by decide +kernel
theorem dL_law_186 : decode cL_law 186 = .ok (.ifCond .ne 15, 3) := by decide +kernel
theorem dL_law_189 : decode cL_law 189 = .ok (.aload_n 3, 1) := by decide +kernel
theorem dL_law_190 : decode cL_law 190 = .ok (.iconst 0, 1) := by decide +kernel
theorem dL_law_191 : decode cL_law 191 = .ok (.laload, 1) := by decide +kernel
theorem dL_law_192 : decode cL_law 192 = .ok (.iload 6, 2) := by decide +kernel
theorem dL_law_194 : decode cL_law 194 = .ok (.i2l, 1) := by decide +kernel
theorem dL_law_195 : decode cL_law 195 = .ok (.lcmp, 1) := by decide +kernel
theorem dL_law_196 : decode cL_law 196 = .ok (.ifCond .eq 5, 3) := by decide +kernel
theorem dL_law_199 : decode cL_law 199 = .ok (.iconst 0, 1) := by decide +kernel
theorem dL_law_200 : decode cL_law 200 = .ok (.ireturn, 1) := by decide +kernel
theorem dL_law_201 : decode cL_law 201 = .ok (.goto 1294, 3) := by decide +kernel
theorem dL_law_204 : decode cL_law 204 = .ok (.aload_n 1, 1) := by decide +kernel
theorem dL_law_205 : decode cL_law 205 = .ok (.aload_n 0, 1) := by decide +kernel
theorem dL_law_206 : decode cL_law 206 = .ok (.iload 4, 2) := by decide +kernel
theorem dL_law_208 : decode cL_law 208 = .ok (.iconst 1, 1) := by decide +kernel
theorem dL_law_209 : decode cL_law 209 = .ok (.iadd, 1) := by decide +kernel
theorem dL_law_210 : decode cL_law 210 = .ok (.iaload, 1) := by decide +kernel
theorem dL_law_211 : decode cL_law 211 = .ok (.aload_n 0, 1) := by decide +kernel
theorem dL_law_212 : decode cL_law 212 = .ok (.iload 4, 2) := by decide +kernel
theorem dL_law_214 : decode cL_law 214 = .ok (.iconst 2, 1) := by decide +kernel
theorem dL_law_215 : decode cL_law 215 = .ok (.iadd, 1) := by decide +kernel
theorem dL_law_216 : decode cL_law 216 = .ok (.iaload, 1) := by decide +kernel
theorem dL_law_217 : decode cL_law 217 = .ok (.aload_n 3, 1) := by decide +kernel
theorem dL_law_218 : decode cL_law 218 = .ok (.invokestatic 89, 3) := by decide +kernel
theorem dL_law_221 : decode cL_law 221 = .ok (.istore 5, 2) := by decide +kernel
theorem dL_law_223 : decode cL_law 223 = .ok (.aload_n 2, 1) := by decide +kernel
theorem dL_law_224 : decode cL_law 224 = .ok (.aload_n 0, 1) := by decide +kernel
theorem dL_law_225 : decode cL_law 225 = .ok (.iload 4, 2) := by decide +kernel
theorem dL_law_227 : decode cL_law 227 = .ok (.iconst 1, 1) := by decide +kernel
theorem dL_law_228 : decode cL_law 228 = .ok (.iadd, 1) := by decide +kernel
theorem dL_law_229 : decode cL_law 229 = .ok (.iaload, 1) := by decide +kernel
theorem dL_law_230 : decode cL_law 230 = .ok (.aload_n 0, 1) := by decide +kernel
theorem dL_law_231 : decode cL_law 231 = .ok (.iload 4, 2) := by decide +kernel
theorem dL_law_233 : decode cL_law 233 = .ok (.iconst 2, 1) := by decide +kernel
theorem dL_law_234 : decode cL_law 234 = .ok (.iadd, 1) := by decide +kernel
theorem dL_law_235 : decode cL_law 235 = .ok (.iaload, 1) := by decide +kernel
theorem dL_law_236 : decode cL_law 236 = .ok (.invokevirtual 91, 3) := by decide +kernel
theorem dL_law_239 : decode cL_law 239 = .ok (.istore 6, 2) := by decide +kernel
theorem dL_law_241 : decode cL_law 241 = .ok (.aload_n 2, 1) := by decide +kernel
theorem dL_law_242 : decode cL_law 242 = .ok (.invokevirtual 86, 3) := by decide +kernel
theorem dL_law_245 : decode cL_law 245 = .ok (.iload 5, 2) := by decide +kernel
theorem dL_law_247 : decode cL_law 247 = .ok (.if_icmp .eq 5, 3) := by decide +kernel
theorem dL_law_250 : decode cL_law 250 = .ok (.iconst 0, 1) := by decide +kernel
theorem dL_law_251 : decode cL_law 251 = .ok (.ireturn, 1) := by decide +kernel
theorem dL_law_252 : decode cL_law 252 = .ok (.iload 5, 2) := by decide +kernel
theorem dL_law_254 : decode cL_law 254 = .ok (.ifCond .ne 15, 3) := by decide +kernel
theorem dL_law_257 : decode cL_law 257 = .ok (.aload_n 3, 1) := by decide +kernel
theorem dL_law_258 : decode cL_law 258 = .ok (.iconst 0, 1) := by decide +kernel
theorem dL_law_259 : decode cL_law 259 = .ok (.laload, 1) := by decide +kernel
theorem dL_law_260 : decode cL_law 260 = .ok (.iload 6, 2) := by decide +kernel
theorem dL_law_262 : decode cL_law 262 = .ok (.i2l, 1) := by decide +kernel
theorem dL_law_263 : decode cL_law 263 = .ok (.lcmp, 1) := by decide +kernel
theorem dL_law_264 : decode cL_law 264 = .ok (.ifCond .eq 5, 3) := by decide +kernel
theorem dL_law_267 : decode cL_law 267 = .ok (.iconst 0, 1) := by decide +kernel
theorem dL_law_268 : decode cL_law 268 = .ok (.ireturn, 1) := by decide +kernel
theorem dL_law_269 : decode cL_law 269 = .ok (.goto 1226, 3) := by decide +kernel
theorem dL_law_272 : decode cL_law 272 = .ok (.aload_n 1, 1) := by decide +kernel
theorem dL_law_273 : decode cL_law 273 = .ok (.aload_n 0, 1) := by decide +kernel
theorem dL_law_274 : decode cL_law 274 = .ok (.iload 4, 2) := by decide +kernel
theorem dL_law_276 : decode cL_law 276 = .ok (.iconst 1, 1) := by decide +kernel
theorem dL_law_277 : decode cL_law 277 = .ok (.iadd, 1) := by decide +kernel
theorem dL_law_278 : decode cL_law 278 = .ok (.iaload, 1) := by decide +kernel
theorem dL_law_279 : decode cL_law 279 = .ok (.aload_n 0, 1) := by decide +kernel
theorem dL_law_280 : decode cL_law 280 = .ok (.iload 4, 2) := by decide +kernel
theorem dL_law_282 : decode cL_law 282 = .ok (.iconst 2, 1) := by decide +kernel
theorem dL_law_283 : decode cL_law 283 = .ok (.iadd, 1) := by decide +kernel
theorem dL_law_284 : decode cL_law 284 = .ok (.iaload, 1) := by decide +kernel
theorem dL_law_285 : decode cL_law 285 = .ok (.aload_n 3, 1) := by decide +kernel
theorem dL_law_286 : decode cL_law 286 = .ok (.invokestatic 92, 3) := by decide +kernel
theorem dL_law_289 : decode cL_law 289 = .ok (.istore 5, 2) := by decide +kernel
theorem dL_law_291 : decode cL_law 291 = .ok (.aload_n 2, 1) := by decide +kernel
theorem dL_law_292 : decode cL_law 292 = .ok (.aload_n 0, 1) := by decide +kernel
theorem dL_law_293 : decode cL_law 293 = .ok (.iload 4, 2) := by decide +kernel
theorem dL_law_295 : decode cL_law 295 = .ok (.iconst 1, 1) := by decide +kernel
theorem dL_law_296 : decode cL_law 296 = .ok (.iadd, 1) := by decide +kernel
theorem dL_law_297 : decode cL_law 297 = .ok (.iaload, 1) := by decide +kernel
theorem dL_law_298 : decode cL_law 298 = .ok (.aload_n 0, 1) := by decide +kernel
theorem dL_law_299 : decode cL_law 299 = .ok (.iload 4, 2) := by decide +kernel
theorem dL_law_301 : decode cL_law 301 = .ok (.iconst 2, 1) := by decide +kernel
theorem dL_law_302 : decode cL_law 302 = .ok (.iadd, 1) := by decide +kernel
theorem dL_law_303 : decode cL_law 303 = .ok (.iaload, 1) := by decide +kernel
theorem dL_law_304 : decode cL_law 304 = .ok (.invokevirtual 94, 3) := by decide +kernel
theorem dL_law_307 : decode cL_law 307 = .ok (.istore 6, 2) := by decide +kernel
theorem dL_law_309 : decode cL_law 309 = .ok (.aload_n 2, 1) := by decide +kernel
theorem dL_law_310 : decode cL_law 310 = .ok (.invokevirtual 86, 3) := by decide +kernel
theorem dL_law_313 : decode cL_law 313 = .ok (.iload 5, 2) := by decide +kernel
theorem dL_law_315 : decode cL_law 315 = .ok (.if_icmp .eq 5, 3) := by decide +kernel
theorem dL_law_318 : decode cL_law 318 = .ok (.iconst 0, 1) := by decide +kernel
theorem dL_law_319 : decode cL_law 319 = .ok (.ireturn, 1) := by decide +kernel
theorem dL_law_320 : decode cL_law 320 = .ok (.iload 5, 2) := by decide +kernel
theorem dL_law_322 : decode cL_law 322 = .ok (.ifCond .ne 15, 3) := by decide +kernel
theorem dL_law_325 : decode cL_law 325 = .ok (.aload_n 3, 1) := by decide +kernel
theorem dL_law_326 : decode cL_law 326 = .ok (.iconst 0, 1) := by decide +kernel
theorem dL_law_327 : decode cL_law 327 = .ok (.laload, 1) := by decide +kernel
theorem dL_law_328 : decode cL_law 328 = .ok (.iload 6, 2) := by decide +kernel
theorem dL_law_330 : decode cL_law 330 = .ok (.i2l, 1) := by decide +kernel
theorem dL_law_331 : decode cL_law 331 = .ok (.lcmp, 1) := by decide +kernel
theorem dL_law_332 : decode cL_law 332 = .ok (.ifCond .eq 5, 3) := by decide +kernel
theorem dL_law_335 : decode cL_law 335 = .ok (.iconst 0, 1) := by decide +kernel
theorem dL_law_336 : decode cL_law 336 = .ok (.ireturn, 1) := by decide +kernel
theorem dL_law_337 : decode cL_law 337 = .ok (.goto 1158, 3) := by decide +kernel
theorem dL_law_340 : decode cL_law 340 = .ok (.aload_n 1, 1) := by decide +kernel
theorem dL_law_341 : decode cL_law 341 = .ok (.aload_n 0, 1) := by decide +kernel
theorem dL_law_342 : decode cL_law 342 = .ok (.iload 4, 2) := by decide +kernel
theorem dL_law_344 : decode cL_law 344 = .ok (.iconst 1, 1) := by decide +kernel
theorem dL_law_345 : decode cL_law 345 = .ok (.iadd, 1) := by decide +kernel
theorem dL_law_346 : decode cL_law 346 = .ok (.iaload, 1) := by decide +kernel
theorem dL_law_347 : decode cL_law 347 = .ok (.aload_n 0, 1) := by decide +kernel
theorem dL_law_348 : decode cL_law 348 = .ok (.iload 4, 2) := by decide +kernel
theorem dL_law_350 : decode cL_law 350 = .ok (.iconst 2, 1) := by decide +kernel
theorem dL_law_351 : decode cL_law 351 = .ok (.iadd, 1) := by decide +kernel
theorem dL_law_352 : decode cL_law 352 = .ok (.iaload, 1) := by decide +kernel
theorem dL_law_353 : decode cL_law 353 = .ok (.aload_n 3, 1) := by decide +kernel
theorem dL_law_354 : decode cL_law 354 = .ok (.invokestatic 95, 3) := by decide +kernel
theorem dL_law_357 : decode cL_law 357 = .ok (.istore 5, 2) := by decide +kernel
theorem dL_law_359 : decode cL_law 359 = .ok (.aload_n 2, 1) := by decide +kernel
theorem dL_law_360 : decode cL_law 360 = .ok (.aload_n 0, 1) := by decide +kernel
theorem dL_law_361 : decode cL_law 361 = .ok (.iload 4, 2) := by decide +kernel
theorem dL_law_363 : decode cL_law 363 = .ok (.iconst 1, 1) := by decide +kernel
theorem dL_law_364 : decode cL_law 364 = .ok (.iadd, 1) := by decide +kernel
theorem dL_law_365 : decode cL_law 365 = .ok (.iaload, 1) := by decide +kernel
theorem dL_law_366 : decode cL_law 366 = .ok (.aload_n 0, 1) := by decide +kernel
theorem dL_law_367 : decode cL_law 367 = .ok (.iload 4, 2) := by decide +kernel
theorem dL_law_369 : decode cL_law 369 = .ok (.iconst 2, 1) := by decide +kernel
theorem dL_law_370 : decode cL_law 370 = .ok (.iadd, 1) := by decide +kernel
theorem dL_law_371 : decode cL_law 371 = .ok (.iaload, 1) := by decide +kernel
theorem dL_law_372 : decode cL_law 372 = .ok (.invokevirtual 97, 3) := by decide +kernel
theorem dL_law_375 : decode cL_law 375 = .ok (.istore 6, 2) := by decide +kernel
theorem dL_law_377 : decode cL_law 377 = .ok (.aload_n 2, 1) := by decide +kernel
theorem dL_law_378 : decode cL_law 378 = .ok (.invokevirtual 86, 3) := by decide +kernel
theorem dL_law_381 : decode cL_law 381 = .ok (.iload 5, 2) := by decide +kernel
theorem dL_law_383 : decode cL_law 383 = .ok (.if_icmp .eq 5, 3) := by decide +kernel
theorem dL_law_386 : decode cL_law 386 = .ok (.iconst 0, 1) := by decide +kernel
theorem dL_law_387 : decode cL_law 387 = .ok (.ireturn, 1) := by decide +kernel
theorem dL_law_388 : decode cL_law 388 = .ok (.iload 5, 2) := by decide +kernel
theorem dL_law_390 : decode cL_law 390 = .ok (.ifCond .ne 15, 3) := by decide +kernel
theorem dL_law_393 : decode cL_law 393 = .ok (.aload_n 3, 1) := by decide +kernel
theorem dL_law_394 : decode cL_law 394 = .ok (.iconst 0, 1) := by decide +kernel
theorem dL_law_395 : decode cL_law 395 = .ok (.laload, 1) := by decide +kernel
theorem dL_law_396 : decode cL_law 396 = .ok (.iload 6, 2) := by decide +kernel
theorem dL_law_398 : decode cL_law 398 = .ok (.i2l, 1) := by decide +kernel
theorem dL_law_399 : decode cL_law 399 = .ok (.lcmp, 1) := by decide +kernel
theorem dL_law_400 : decode cL_law 400 = .ok (.ifCond .eq 5, 3) := by decide +kernel
theorem dL_law_403 : decode cL_law 403 = .ok (.iconst 0, 1) := by decide +kernel
theorem dL_law_404 : decode cL_law 404 = .ok (.ireturn, 1) := by decide +kernel
theorem dL_law_405 : decode cL_law 405 = .ok (.goto 1090, 3) := by decide +kernel
theorem dL_law_408 : decode cL_law 408 = .ok (.aload_n 1, 1) := by decide +kernel
theorem dL_law_409 : decode cL_law 409 = .ok (.aload_n 0, 1) := by decide +kernel
theorem dL_law_410 : decode cL_law 410 = .ok (.iload 4, 2) := by decide +kernel
theorem dL_law_412 : decode cL_law 412 = .ok (.iconst 1, 1) := by decide +kernel
theorem dL_law_413 : decode cL_law 413 = .ok (.iadd, 1) := by decide +kernel
theorem dL_law_414 : decode cL_law 414 = .ok (.iaload, 1) := by decide +kernel
theorem dL_law_415 : decode cL_law 415 = .ok (.aload_n 0, 1) := by decide +kernel
theorem dL_law_416 : decode cL_law 416 = .ok (.iload 4, 2) := by decide +kernel
theorem dL_law_418 : decode cL_law 418 = .ok (.iconst 2, 1) := by decide +kernel
theorem dL_law_419 : decode cL_law 419 = .ok (.iadd, 1) := by decide +kernel
theorem dL_law_420 : decode cL_law 420 = .ok (.iaload, 1) := by decide +kernel
theorem dL_law_421 : decode cL_law 421 = .ok (.aload_n 3, 1) := by decide +kernel
theorem dL_law_422 : decode cL_law 422 = .ok (.invokestatic 98, 3) := by decide +kernel
theorem dL_law_425 : decode cL_law 425 = .ok (.istore 5, 2) := by decide +kernel
theorem dL_law_427 : decode cL_law 427 = .ok (.aload_n 2, 1) := by decide +kernel
theorem dL_law_428 : decode cL_law 428 = .ok (.aload_n 0, 1) := by decide +kernel
theorem dL_law_429 : decode cL_law 429 = .ok (.iload 4, 2) := by decide +kernel
theorem dL_law_431 : decode cL_law 431 = .ok (.iconst 1, 1) := by decide +kernel
theorem dL_law_432 : decode cL_law 432 = .ok (.iadd, 1) := by decide +kernel
theorem dL_law_433 : decode cL_law 433 = .ok (.iaload, 1) := by decide +kernel
theorem dL_law_434 : decode cL_law 434 = .ok (.aload_n 0, 1) := by decide +kernel
theorem dL_law_435 : decode cL_law 435 = .ok (.iload 4, 2) := by decide +kernel
theorem dL_law_437 : decode cL_law 437 = .ok (.iconst 2, 1) := by decide +kernel
theorem dL_law_438 : decode cL_law 438 = .ok (.iadd, 1) := by decide +kernel
theorem dL_law_439 : decode cL_law 439 = .ok (.iaload, 1) := by decide +kernel
theorem dL_law_440 : decode cL_law 440 = .ok (.invokevirtual 100, 3) := by decide +kernel
theorem dL_law_443 : decode cL_law 443 = .ok (.istore 6, 2) := by decide +kernel
theorem dL_law_445 : decode cL_law 445 = .ok (.aload_n 2, 1) := by decide +kernel
theorem dL_law_446 : decode cL_law 446 = .ok (.invokevirtual 86, 3) := by decide +kernel
theorem dL_law_449 : decode cL_law 449 = .ok (.iload 5, 2) := by decide +kernel
theorem dL_law_451 : decode cL_law 451 = .ok (.if_icmp .eq 5, 3) := by decide +kernel
theorem dL_law_454 : decode cL_law 454 = .ok (.iconst 0, 1) := by decide +kernel
theorem dL_law_455 : decode cL_law 455 = .ok (.ireturn, 1) := by decide +kernel
theorem dL_law_456 : decode cL_law 456 = .ok (.iload 5, 2) := by decide +kernel
theorem dL_law_458 : decode cL_law 458 = .ok (.ifCond .ne 15, 3) := by decide +kernel
theorem dL_law_461 : decode cL_law 461 = .ok (.aload_n 3, 1) := by decide +kernel
theorem dL_law_462 : decode cL_law 462 = .ok (.iconst 0, 1) := by decide +kernel
theorem dL_law_463 : decode cL_law 463 = .ok (.laload, 1) := by decide +kernel
theorem dL_law_464 : decode cL_law 464 = .ok (.iload 6, 2) := by decide +kernel
theorem dL_law_466 : decode cL_law 466 = .ok (.i2l, 1) := by decide +kernel
theorem dL_law_467 : decode cL_law 467 = .ok (.lcmp, 1) := by decide +kernel
theorem dL_law_468 : decode cL_law 468 = .ok (.ifCond .eq 5, 3) := by decide +kernel
theorem dL_law_471 : decode cL_law 471 = .ok (.iconst 0, 1) := by decide +kernel
theorem dL_law_472 : decode cL_law 472 = .ok (.ireturn, 1) := by decide +kernel
theorem dL_law_473 : decode cL_law 473 = .ok (.goto 1022, 3) := by decide +kernel
theorem dL_law_476 : decode cL_law 476 = .ok (.aload_n 1, 1) := by decide +kernel
theorem dL_law_477 : decode cL_law 477 = .ok (.aload_n 0, 1) := by decide +kernel
theorem dL_law_478 : decode cL_law 478 = .ok (.iload 4, 2) := by decide +kernel
theorem dL_law_480 : decode cL_law 480 = .ok (.iconst 1, 1) := by decide +kernel
theorem dL_law_481 : decode cL_law 481 = .ok (.iadd, 1) := by decide +kernel
theorem dL_law_482 : decode cL_law 482 = .ok (.iaload, 1) := by decide +kernel
theorem dL_law_483 : decode cL_law 483 = .ok (.aload_n 0, 1) := by decide +kernel
theorem dL_law_484 : decode cL_law 484 = .ok (.iload 4, 2) := by decide +kernel
theorem dL_law_486 : decode cL_law 486 = .ok (.iconst 2, 1) := by decide +kernel
theorem dL_law_487 : decode cL_law 487 = .ok (.iadd, 1) := by decide +kernel
theorem dL_law_488 : decode cL_law 488 = .ok (.iaload, 1) := by decide +kernel
theorem dL_law_489 : decode cL_law 489 = .ok (.aload_n 3, 1) := by decide +kernel
theorem dL_law_490 : decode cL_law 490 = .ok (.invokestatic 101, 3) := by decide +kernel
theorem dL_law_493 : decode cL_law 493 = .ok (.istore 5, 2) := by decide +kernel
theorem dL_law_495 : decode cL_law 495 = .ok (.aload_n 2, 1) := by decide +kernel
theorem dL_law_496 : decode cL_law 496 = .ok (.aload_n 0, 1) := by decide +kernel
theorem dL_law_497 : decode cL_law 497 = .ok (.iload 4, 2) := by decide +kernel
theorem dL_law_499 : decode cL_law 499 = .ok (.iconst 1, 1) := by decide +kernel
theorem dL_law_500 : decode cL_law 500 = .ok (.iadd, 1) := by decide +kernel
theorem dL_law_501 : decode cL_law 501 = .ok (.iaload, 1) := by decide +kernel
theorem dL_law_502 : decode cL_law 502 = .ok (.aload_n 0, 1) := by decide +kernel
theorem dL_law_503 : decode cL_law 503 = .ok (.iload 4, 2) := by decide +kernel
theorem dL_law_505 : decode cL_law 505 = .ok (.iconst 2, 1) := by decide +kernel
theorem dL_law_506 : decode cL_law 506 = .ok (.iadd, 1) := by decide +kernel
theorem dL_law_507 : decode cL_law 507 = .ok (.iaload, 1) := by decide +kernel
theorem dL_law_508 : decode cL_law 508 = .ok (.invokevirtual 103, 3) := by decide +kernel
theorem dL_law_511 : decode cL_law 511 = .ok (.istore 6, 2) := by decide +kernel
theorem dL_law_513 : decode cL_law 513 = .ok (.aload_n 2, 1) := by decide +kernel
theorem dL_law_514 : decode cL_law 514 = .ok (.invokevirtual 86, 3) := by decide +kernel
theorem dL_law_517 : decode cL_law 517 = .ok (.iload 5, 2) := by decide +kernel
theorem dL_law_519 : decode cL_law 519 = .ok (.if_icmp .eq 5, 3) := by decide +kernel
theorem dL_law_522 : decode cL_law 522 = .ok (.iconst 0, 1) := by decide +kernel
theorem dL_law_523 : decode cL_law 523 = .ok (.ireturn, 1) := by decide +kernel
theorem dL_law_524 : decode cL_law 524 = .ok (.iload 5, 2) := by decide +kernel
theorem dL_law_526 : decode cL_law 526 = .ok (.ifCond .ne 15, 3) := by decide +kernel
theorem dL_law_529 : decode cL_law 529 = .ok (.aload_n 3, 1) := by decide +kernel
theorem dL_law_530 : decode cL_law 530 = .ok (.iconst 0, 1) := by decide +kernel
theorem dL_law_531 : decode cL_law 531 = .ok (.laload, 1) := by decide +kernel
theorem dL_law_532 : decode cL_law 532 = .ok (.iload 6, 2) := by decide +kernel
theorem dL_law_534 : decode cL_law 534 = .ok (.i2l, 1) := by decide +kernel
theorem dL_law_535 : decode cL_law 535 = .ok (.lcmp, 1) := by decide +kernel
theorem dL_law_536 : decode cL_law 536 = .ok (.ifCond .eq 5, 3) := by decide +kernel
theorem dL_law_539 : decode cL_law 539 = .ok (.iconst 0, 1) := by decide +kernel
theorem dL_law_540 : decode cL_law 540 = .ok (.ireturn, 1) := by decide +kernel
theorem dL_law_541 : decode cL_law 541 = .ok (.goto 954, 3) := by decide +kernel
theorem dL_law_544 : decode cL_law 544 = .ok (.aload_n 1, 1) := by decide +kernel
theorem dL_law_545 : decode cL_law 545 = .ok (.aload_n 0, 1) := by decide +kernel
theorem dL_law_546 : decode cL_law 546 = .ok (.iload 4, 2) := by decide +kernel
theorem dL_law_548 : decode cL_law 548 = .ok (.iconst 1, 1) := by decide +kernel
theorem dL_law_549 : decode cL_law 549 = .ok (.iadd, 1) := by decide +kernel
theorem dL_law_550 : decode cL_law 550 = .ok (.iaload, 1) := by decide +kernel
theorem dL_law_551 : decode cL_law 551 = .ok (.aload_n 0, 1) := by decide +kernel
theorem dL_law_552 : decode cL_law 552 = .ok (.iload 4, 2) := by decide +kernel
theorem dL_law_554 : decode cL_law 554 = .ok (.iconst 2, 1) := by decide +kernel
theorem dL_law_555 : decode cL_law 555 = .ok (.iadd, 1) := by decide +kernel
theorem dL_law_556 : decode cL_law 556 = .ok (.iaload, 1) := by decide +kernel
theorem dL_law_557 : decode cL_law 557 = .ok (.aload_n 0, 1) := by decide +kernel
theorem dL_law_558 : decode cL_law 558 = .ok (.iload 4, 2) := by decide +kernel
theorem dL_law_560 : decode cL_law 560 = .ok (.iconst 3, 1) := by decide +kernel
theorem dL_law_561 : decode cL_law 561 = .ok (.iadd, 1) := by decide +kernel
theorem dL_law_562 : decode cL_law 562 = .ok (.iaload, 1) := by decide +kernel
theorem dL_law_563 : decode cL_law 563 = .ok (.aload_n 0, 1) := by decide +kernel
theorem dL_law_564 : decode cL_law 564 = .ok (.iload 4, 2) := by decide +kernel
theorem dL_law_566 : decode cL_law 566 = .ok (.iconst 4, 1) := by decide +kernel
theorem dL_law_567 : decode cL_law 567 = .ok (.iadd, 1) := by decide +kernel
theorem dL_law_568 : decode cL_law 568 = .ok (.iaload, 1) := by decide +kernel
theorem dL_law_569 : decode cL_law 569 = .ok (.ifCond .eq 7, 3) := by decide +kernel
theorem dL_law_572 : decode cL_law 572 = .ok (.iconst 1, 1) := by decide +kernel
theorem dL_law_573 : decode cL_law 573 = .ok (.goto 4, 3) := by decide +kernel
theorem dL_law_576 : decode cL_law 576 = .ok (.iconst 0, 1) := by decide +kernel
theorem dL_law_577 : decode cL_law 577 = .ok (.aload_n 3, 1) := by decide +kernel
theorem dL_law_578 : decode cL_law 578 = .ok (.invokestatic 104, 3) := by decide +kernel
theorem dL_law_581 : decode cL_law 581 = .ok (.istore 5, 2) := by decide +kernel
theorem dL_law_583 : decode cL_law 583 = .ok (.aload_n 2, 1) := by decide +kernel
theorem dL_law_584 : decode cL_law 584 = .ok (.aload_n 0, 1) := by decide +kernel
theorem dL_law_585 : decode cL_law 585 = .ok (.iload 4, 2) := by decide +kernel
theorem dL_law_587 : decode cL_law 587 = .ok (.iconst 1, 1) := by decide +kernel
theorem dL_law_588 : decode cL_law 588 = .ok (.iadd, 1) := by decide +kernel
theorem dL_law_589 : decode cL_law 589 = .ok (.iaload, 1) := by decide +kernel
theorem dL_law_590 : decode cL_law 590 = .ok (.aload_n 0, 1) := by decide +kernel
theorem dL_law_591 : decode cL_law 591 = .ok (.iload 4, 2) := by decide +kernel
theorem dL_law_593 : decode cL_law 593 = .ok (.iconst 2, 1) := by decide +kernel
theorem dL_law_594 : decode cL_law 594 = .ok (.iadd, 1) := by decide +kernel
theorem dL_law_595 : decode cL_law 595 = .ok (.iaload, 1) := by decide +kernel
theorem dL_law_596 : decode cL_law 596 = .ok (.aload_n 0, 1) := by decide +kernel
theorem dL_law_597 : decode cL_law 597 = .ok (.iload 4, 2) := by decide +kernel
theorem dL_law_599 : decode cL_law 599 = .ok (.iconst 3, 1) := by decide +kernel
theorem dL_law_600 : decode cL_law 600 = .ok (.iadd, 1) := by decide +kernel
theorem dL_law_601 : decode cL_law 601 = .ok (.iaload, 1) := by decide +kernel
theorem dL_law_602 : decode cL_law 602 = .ok (.aload_n 0, 1) := by decide +kernel
theorem dL_law_603 : decode cL_law 603 = .ok (.iload 4, 2) := by decide +kernel
theorem dL_law_605 : decode cL_law 605 = .ok (.iconst 4, 1) := by decide +kernel
theorem dL_law_606 : decode cL_law 606 = .ok (.iadd, 1) := by decide +kernel
theorem dL_law_607 : decode cL_law 607 = .ok (.iaload, 1) := by decide +kernel
theorem dL_law_608 : decode cL_law 608 = .ok (.ifCond .eq 7, 3) := by decide +kernel
theorem dL_law_611 : decode cL_law 611 = .ok (.iconst 1, 1) := by decide +kernel
theorem dL_law_612 : decode cL_law 612 = .ok (.goto 4, 3) := by decide +kernel
theorem dL_law_615 : decode cL_law 615 = .ok (.iconst 0, 1) := by decide +kernel
theorem dL_law_616 : decode cL_law 616 = .ok (.invokevirtual 107, 3) := by decide +kernel
theorem dL_law_619 : decode cL_law 619 = .ok (.istore 6, 2) := by decide +kernel
theorem dL_law_621 : decode cL_law 621 = .ok (.aload_n 2, 1) := by decide +kernel
theorem dL_law_622 : decode cL_law 622 = .ok (.invokevirtual 86, 3) := by decide +kernel
theorem dL_law_625 : decode cL_law 625 = .ok (.iload 5, 2) := by decide +kernel
theorem dL_law_627 : decode cL_law 627 = .ok (.if_icmp .eq 5, 3) := by decide +kernel
theorem dL_law_630 : decode cL_law 630 = .ok (.iconst 0, 1) := by decide +kernel
theorem dL_law_631 : decode cL_law 631 = .ok (.ireturn, 1) := by decide +kernel
theorem dL_law_632 : decode cL_law 632 = .ok (.iload 5, 2) := by decide +kernel
theorem dL_law_634 : decode cL_law 634 = .ok (.ifCond .ne 15, 3) := by decide +kernel
theorem dL_law_637 : decode cL_law 637 = .ok (.aload_n 3, 1) := by decide +kernel
theorem dL_law_638 : decode cL_law 638 = .ok (.iconst 0, 1) := by decide +kernel
theorem dL_law_639 : decode cL_law 639 = .ok (.laload, 1) := by decide +kernel
theorem dL_law_640 : decode cL_law 640 = .ok (.iload 6, 2) := by decide +kernel
theorem dL_law_642 : decode cL_law 642 = .ok (.i2l, 1) := by decide +kernel
theorem dL_law_643 : decode cL_law 643 = .ok (.lcmp, 1) := by decide +kernel
theorem dL_law_644 : decode cL_law 644 = .ok (.ifCond .eq 5, 3) := by decide +kernel
theorem dL_law_647 : decode cL_law 647 = .ok (.iconst 0, 1) := by decide +kernel
theorem dL_law_648 : decode cL_law 648 = .ok (.ireturn, 1) := by decide +kernel
theorem dL_law_649 : decode cL_law 649 = .ok (.goto 846, 3) := by decide +kernel
theorem dL_law_652 : decode cL_law 652 = .ok (.aload_n 1, 1) := by decide +kernel
theorem dL_law_653 : decode cL_law 653 = .ok (.aload_n 0, 1) := by decide +kernel
theorem dL_law_654 : decode cL_law 654 = .ok (.iload 4, 2) := by decide +kernel
theorem dL_law_656 : decode cL_law 656 = .ok (.iconst 1, 1) := by decide +kernel
theorem dL_law_657 : decode cL_law 657 = .ok (.iadd, 1) := by decide +kernel
theorem dL_law_658 : decode cL_law 658 = .ok (.iaload, 1) := by decide +kernel
theorem dL_law_659 : decode cL_law 659 = .ok (.aload_n 0, 1) := by decide +kernel
theorem dL_law_660 : decode cL_law 660 = .ok (.iload 4, 2) := by decide +kernel
theorem dL_law_662 : decode cL_law 662 = .ok (.iconst 2, 1) := by decide +kernel
theorem dL_law_663 : decode cL_law 663 = .ok (.iadd, 1) := by decide +kernel
theorem dL_law_664 : decode cL_law 664 = .ok (.iaload, 1) := by decide +kernel
theorem dL_law_665 : decode cL_law 665 = .ok (.ifCond .eq 7, 3) := by decide +kernel
theorem dL_law_668 : decode cL_law 668 = .ok (.iconst 1, 1) := by decide +kernel
theorem dL_law_669 : decode cL_law 669 = .ok (.goto 4, 3) := by decide +kernel
theorem dL_law_672 : decode cL_law 672 = .ok (.iconst 0, 1) := by decide +kernel
theorem dL_law_673 : decode cL_law 673 = .ok (.aload_n 3, 1) := by decide +kernel
theorem dL_law_674 : decode cL_law 674 = .ok (.invokestatic 108, 3) := by decide +kernel
theorem dL_law_677 : decode cL_law 677 = .ok (.istore 5, 2) := by decide +kernel
theorem dL_law_679 : decode cL_law 679 = .ok (.aload_n 2, 1) := by decide +kernel
theorem dL_law_680 : decode cL_law 680 = .ok (.aload_n 0, 1) := by decide +kernel
theorem dL_law_681 : decode cL_law 681 = .ok (.iload 4, 2) := by decide +kernel
theorem dL_law_683 : decode cL_law 683 = .ok (.iconst 1, 1) := by decide +kernel
theorem dL_law_684 : decode cL_law 684 = .ok (.iadd, 1) := by decide +kernel
theorem dL_law_685 : decode cL_law 685 = .ok (.iaload, 1) := by decide +kernel
theorem dL_law_686 : decode cL_law 686 = .ok (.aload_n 0, 1) := by decide +kernel
theorem dL_law_687 : decode cL_law 687 = .ok (.iload 4, 2) := by decide +kernel
theorem dL_law_689 : decode cL_law 689 = .ok (.iconst 2, 1) := by decide +kernel
theorem dL_law_690 : decode cL_law 690 = .ok (.iadd, 1) := by decide +kernel
theorem dL_law_691 : decode cL_law 691 = .ok (.iaload, 1) := by decide +kernel
theorem dL_law_692 : decode cL_law 692 = .ok (.ifCond .eq 7, 3) := by decide +kernel
theorem dL_law_695 : decode cL_law 695 = .ok (.iconst 1, 1) := by decide +kernel
theorem dL_law_696 : decode cL_law 696 = .ok (.goto 4, 3) := by decide +kernel
theorem dL_law_699 : decode cL_law 699 = .ok (.iconst 0, 1) := by decide +kernel
theorem dL_law_700 : decode cL_law 700 = .ok (.invokevirtual 111, 3) := by decide +kernel
theorem dL_law_703 : decode cL_law 703 = .ok (.istore 6, 2) := by decide +kernel
theorem dL_law_705 : decode cL_law 705 = .ok (.aload_n 2, 1) := by decide +kernel
theorem dL_law_706 : decode cL_law 706 = .ok (.invokevirtual 86, 3) := by decide +kernel
theorem dL_law_709 : decode cL_law 709 = .ok (.iload 5, 2) := by decide +kernel
theorem dL_law_711 : decode cL_law 711 = .ok (.if_icmp .eq 5, 3) := by decide +kernel
theorem dL_law_714 : decode cL_law 714 = .ok (.iconst 0, 1) := by decide +kernel
theorem dL_law_715 : decode cL_law 715 = .ok (.ireturn, 1) := by decide +kernel
theorem dL_law_716 : decode cL_law 716 = .ok (.iload 5, 2) := by decide +kernel
theorem dL_law_718 : decode cL_law 718 = .ok (.ifCond .ne 15, 3) := by decide +kernel
theorem dL_law_721 : decode cL_law 721 = .ok (.aload_n 3, 1) := by decide +kernel
theorem dL_law_722 : decode cL_law 722 = .ok (.iconst 0, 1) := by decide +kernel
theorem dL_law_723 : decode cL_law 723 = .ok (.laload, 1) := by decide +kernel
theorem dL_law_724 : decode cL_law 724 = .ok (.iload 6, 2) := by decide +kernel
theorem dL_law_726 : decode cL_law 726 = .ok (.i2l, 1) := by decide +kernel
theorem dL_law_727 : decode cL_law 727 = .ok (.lcmp, 1) := by decide +kernel
theorem dL_law_728 : decode cL_law 728 = .ok (.ifCond .eq 5, 3) := by decide +kernel
theorem dL_law_731 : decode cL_law 731 = .ok (.iconst 0, 1) := by decide +kernel
theorem dL_law_732 : decode cL_law 732 = .ok (.ireturn, 1) := by decide +kernel
theorem dL_law_733 : decode cL_law 733 = .ok (.goto 762, 3) := by decide +kernel
theorem dL_law_736 : decode cL_law 736 = .ok (.aload_n 1, 1) := by decide +kernel
theorem dL_law_737 : decode cL_law 737 = .ok (.aload_n 0, 1) := by decide +kernel
theorem dL_law_738 : decode cL_law 738 = .ok (.iload 4, 2) := by decide +kernel
theorem dL_law_740 : decode cL_law 740 = .ok (.iconst 1, 1) := by decide +kernel
theorem dL_law_741 : decode cL_law 741 = .ok (.iadd, 1) := by decide +kernel
theorem dL_law_742 : decode cL_law 742 = .ok (.iaload, 1) := by decide +kernel
theorem dL_law_743 : decode cL_law 743 = .ok (.aload_n 0, 1) := by decide +kernel
theorem dL_law_744 : decode cL_law 744 = .ok (.iload 4, 2) := by decide +kernel
theorem dL_law_746 : decode cL_law 746 = .ok (.iconst 2, 1) := by decide +kernel
theorem dL_law_747 : decode cL_law 747 = .ok (.iadd, 1) := by decide +kernel
theorem dL_law_748 : decode cL_law 748 = .ok (.iaload, 1) := by decide +kernel
theorem dL_law_749 : decode cL_law 749 = .ok (.aload_n 3, 1) := by decide +kernel
theorem dL_law_750 : decode cL_law 750 = .ok (.invokestatic 112, 3) := by decide +kernel
theorem dL_law_753 : decode cL_law 753 = .ok (.istore 5, 2) := by decide +kernel
theorem dL_law_755 : decode cL_law 755 = .ok (.aload_n 2, 1) := by decide +kernel
theorem dL_law_756 : decode cL_law 756 = .ok (.aload_n 0, 1) := by decide +kernel
theorem dL_law_757 : decode cL_law 757 = .ok (.iload 4, 2) := by decide +kernel
theorem dL_law_759 : decode cL_law 759 = .ok (.iconst 1, 1) := by decide +kernel
theorem dL_law_760 : decode cL_law 760 = .ok (.iadd, 1) := by decide +kernel
theorem dL_law_761 : decode cL_law 761 = .ok (.iaload, 1) := by decide +kernel
theorem dL_law_762 : decode cL_law 762 = .ok (.aload_n 0, 1) := by decide +kernel
theorem dL_law_763 : decode cL_law 763 = .ok (.iload 4, 2) := by decide +kernel
theorem dL_law_765 : decode cL_law 765 = .ok (.iconst 2, 1) := by decide +kernel
theorem dL_law_766 : decode cL_law 766 = .ok (.iadd, 1) := by decide +kernel
theorem dL_law_767 : decode cL_law 767 = .ok (.iaload, 1) := by decide +kernel
theorem dL_law_768 : decode cL_law 768 = .ok (.invokevirtual 114, 3) := by decide +kernel
theorem dL_law_771 : decode cL_law 771 = .ok (.istore 6, 2) := by decide +kernel
theorem dL_law_773 : decode cL_law 773 = .ok (.aload_n 2, 1) := by decide +kernel
theorem dL_law_774 : decode cL_law 774 = .ok (.invokevirtual 86, 3) := by decide +kernel
theorem dL_law_777 : decode cL_law 777 = .ok (.iload 5, 2) := by decide +kernel
theorem dL_law_779 : decode cL_law 779 = .ok (.if_icmp .eq 5, 3) := by decide +kernel
theorem dL_law_782 : decode cL_law 782 = .ok (.iconst 0, 1) := by decide +kernel
theorem dL_law_783 : decode cL_law 783 = .ok (.ireturn, 1) := by decide +kernel
theorem dL_law_784 : decode cL_law 784 = .ok (.iload 5, 2) := by decide +kernel
theorem dL_law_786 : decode cL_law 786 = .ok (.ifCond .ne 15, 3) := by decide +kernel
theorem dL_law_789 : decode cL_law 789 = .ok (.aload_n 3, 1) := by decide +kernel
theorem dL_law_790 : decode cL_law 790 = .ok (.iconst 0, 1) := by decide +kernel
theorem dL_law_791 : decode cL_law 791 = .ok (.laload, 1) := by decide +kernel
theorem dL_law_792 : decode cL_law 792 = .ok (.iload 6, 2) := by decide +kernel
theorem dL_law_794 : decode cL_law 794 = .ok (.i2l, 1) := by decide +kernel
theorem dL_law_795 : decode cL_law 795 = .ok (.lcmp, 1) := by decide +kernel
theorem dL_law_796 : decode cL_law 796 = .ok (.ifCond .eq 5, 3) := by decide +kernel
theorem dL_law_799 : decode cL_law 799 = .ok (.iconst 0, 1) := by decide +kernel
theorem dL_law_800 : decode cL_law 800 = .ok (.ireturn, 1) := by decide +kernel
theorem dL_law_801 : decode cL_law 801 = .ok (.goto 694, 3) := by decide +kernel
theorem dL_law_804 : decode cL_law 804 = .ok (.aload_n 1, 1) := by decide +kernel
theorem dL_law_805 : decode cL_law 805 = .ok (.aload_n 0, 1) := by decide +kernel
theorem dL_law_806 : decode cL_law 806 = .ok (.iload 4, 2) := by decide +kernel
theorem dL_law_808 : decode cL_law 808 = .ok (.iconst 1, 1) := by decide +kernel
theorem dL_law_809 : decode cL_law 809 = .ok (.iadd, 1) := by decide +kernel
theorem dL_law_810 : decode cL_law 810 = .ok (.iaload, 1) := by decide +kernel
theorem dL_law_811 : decode cL_law 811 = .ok (.aload_n 0, 1) := by decide +kernel
theorem dL_law_812 : decode cL_law 812 = .ok (.iload 4, 2) := by decide +kernel
theorem dL_law_814 : decode cL_law 814 = .ok (.iconst 2, 1) := by decide +kernel
theorem dL_law_815 : decode cL_law 815 = .ok (.iadd, 1) := by decide +kernel
theorem dL_law_816 : decode cL_law 816 = .ok (.iaload, 1) := by decide +kernel
theorem dL_law_817 : decode cL_law 817 = .ok (.aload_n 3, 1) := by decide +kernel
theorem dL_law_818 : decode cL_law 818 = .ok (.invokestatic 115, 3) := by decide +kernel
theorem dL_law_821 : decode cL_law 821 = .ok (.istore 5, 2) := by decide +kernel
theorem dL_law_823 : decode cL_law 823 = .ok (.aload_n 2, 1) := by decide +kernel
theorem dL_law_824 : decode cL_law 824 = .ok (.aload_n 0, 1) := by decide +kernel
theorem dL_law_825 : decode cL_law 825 = .ok (.iload 4, 2) := by decide +kernel
theorem dL_law_827 : decode cL_law 827 = .ok (.iconst 1, 1) := by decide +kernel
theorem dL_law_828 : decode cL_law 828 = .ok (.iadd, 1) := by decide +kernel
theorem dL_law_829 : decode cL_law 829 = .ok (.iaload, 1) := by decide +kernel
theorem dL_law_830 : decode cL_law 830 = .ok (.aload_n 0, 1) := by decide +kernel
theorem dL_law_831 : decode cL_law 831 = .ok (.iload 4, 2) := by decide +kernel
theorem dL_law_833 : decode cL_law 833 = .ok (.iconst 2, 1) := by decide +kernel
theorem dL_law_834 : decode cL_law 834 = .ok (.iadd, 1) := by decide +kernel
theorem dL_law_835 : decode cL_law 835 = .ok (.iaload, 1) := by decide +kernel
theorem dL_law_836 : decode cL_law 836 = .ok (.invokevirtual 117, 3) := by decide +kernel
theorem dL_law_839 : decode cL_law 839 = .ok (.istore 6, 2) := by decide +kernel
theorem dL_law_841 : decode cL_law 841 = .ok (.aload_n 2, 1) := by decide +kernel
theorem dL_law_842 : decode cL_law 842 = .ok (.invokevirtual 86, 3) := by decide +kernel
theorem dL_law_845 : decode cL_law 845 = .ok (.iload 5, 2) := by decide +kernel
theorem dL_law_847 : decode cL_law 847 = .ok (.if_icmp .eq 5, 3) := by decide +kernel
theorem dL_law_850 : decode cL_law 850 = .ok (.iconst 0, 1) := by decide +kernel
theorem dL_law_851 : decode cL_law 851 = .ok (.ireturn, 1) := by decide +kernel
theorem dL_law_852 : decode cL_law 852 = .ok (.iload 5, 2) := by decide +kernel
theorem dL_law_854 : decode cL_law 854 = .ok (.ifCond .ne 15, 3) := by decide +kernel
theorem dL_law_857 : decode cL_law 857 = .ok (.aload_n 3, 1) := by decide +kernel
theorem dL_law_858 : decode cL_law 858 = .ok (.iconst 0, 1) := by decide +kernel
theorem dL_law_859 : decode cL_law 859 = .ok (.laload, 1) := by decide +kernel
theorem dL_law_860 : decode cL_law 860 = .ok (.iload 6, 2) := by decide +kernel
theorem dL_law_862 : decode cL_law 862 = .ok (.i2l, 1) := by decide +kernel
theorem dL_law_863 : decode cL_law 863 = .ok (.lcmp, 1) := by decide +kernel
theorem dL_law_864 : decode cL_law 864 = .ok (.ifCond .eq 5, 3) := by decide +kernel
theorem dL_law_867 : decode cL_law 867 = .ok (.iconst 0, 1) := by decide +kernel
theorem dL_law_868 : decode cL_law 868 = .ok (.ireturn, 1) := by decide +kernel
theorem dL_law_869 : decode cL_law 869 = .ok (.goto 626, 3) := by decide +kernel
theorem dL_law_872 : decode cL_law 872 = .ok (.aload_n 1, 1) := by decide +kernel
theorem dL_law_873 : decode cL_law 873 = .ok (.aload_n 0, 1) := by decide +kernel
theorem dL_law_874 : decode cL_law 874 = .ok (.iload 4, 2) := by decide +kernel
theorem dL_law_876 : decode cL_law 876 = .ok (.iconst 1, 1) := by decide +kernel
theorem dL_law_877 : decode cL_law 877 = .ok (.iadd, 1) := by decide +kernel
theorem dL_law_878 : decode cL_law 878 = .ok (.iaload, 1) := by decide +kernel
theorem dL_law_879 : decode cL_law 879 = .ok (.aload_n 0, 1) := by decide +kernel
theorem dL_law_880 : decode cL_law 880 = .ok (.iload 4, 2) := by decide +kernel
theorem dL_law_882 : decode cL_law 882 = .ok (.iconst 2, 1) := by decide +kernel
theorem dL_law_883 : decode cL_law 883 = .ok (.iadd, 1) := by decide +kernel
theorem dL_law_884 : decode cL_law 884 = .ok (.iaload, 1) := by decide +kernel
theorem dL_law_885 : decode cL_law 885 = .ok (.aload_n 0, 1) := by decide +kernel
theorem dL_law_886 : decode cL_law 886 = .ok (.iload 4, 2) := by decide +kernel
theorem dL_law_888 : decode cL_law 888 = .ok (.iconst 3, 1) := by decide +kernel
theorem dL_law_889 : decode cL_law 889 = .ok (.iadd, 1) := by decide +kernel
theorem dL_law_890 : decode cL_law 890 = .ok (.iaload, 1) := by decide +kernel
theorem dL_law_891 : decode cL_law 891 = .ok (.aload_n 0, 1) := by decide +kernel
theorem dL_law_892 : decode cL_law 892 = .ok (.iload 4, 2) := by decide +kernel
theorem dL_law_894 : decode cL_law 894 = .ok (.iconst 4, 1) := by decide +kernel
theorem dL_law_895 : decode cL_law 895 = .ok (.iadd, 1) := by decide +kernel
theorem dL_law_896 : decode cL_law 896 = .ok (.iaload, 1) := by decide +kernel
theorem dL_law_897 : decode cL_law 897 = .ok (.aload_n 3, 1) := by decide +kernel
theorem dL_law_898 : decode cL_law 898 = .ok (.invokestatic 118, 3) := by decide +kernel
theorem dL_law_901 : decode cL_law 901 = .ok (.istore 5, 2) := by decide +kernel
theorem dL_law_903 : decode cL_law 903 = .ok (.aload_n 2, 1) := by decide +kernel
theorem dL_law_904 : decode cL_law 904 = .ok (.aload_n 0, 1) := by decide +kernel
theorem dL_law_905 : decode cL_law 905 = .ok (.iload 4, 2) := by decide +kernel
theorem dL_law_907 : decode cL_law 907 = .ok (.iconst 1, 1) := by decide +kernel
theorem dL_law_908 : decode cL_law 908 = .ok (.iadd, 1) := by decide +kernel
theorem dL_law_909 : decode cL_law 909 = .ok (.iaload, 1) := by decide +kernel
theorem dL_law_910 : decode cL_law 910 = .ok (.aload_n 0, 1) := by decide +kernel
theorem dL_law_911 : decode cL_law 911 = .ok (.iload 4, 2) := by decide +kernel
theorem dL_law_913 : decode cL_law 913 = .ok (.iconst 2, 1) := by decide +kernel
theorem dL_law_914 : decode cL_law 914 = .ok (.iadd, 1) := by decide +kernel
theorem dL_law_915 : decode cL_law 915 = .ok (.iaload, 1) := by decide +kernel
theorem dL_law_916 : decode cL_law 916 = .ok (.aload_n 0, 1) := by decide +kernel
theorem dL_law_917 : decode cL_law 917 = .ok (.iload 4, 2) := by decide +kernel
theorem dL_law_919 : decode cL_law 919 = .ok (.iconst 3, 1) := by decide +kernel
theorem dL_law_920 : decode cL_law 920 = .ok (.iadd, 1) := by decide +kernel
theorem dL_law_921 : decode cL_law 921 = .ok (.iaload, 1) := by decide +kernel
theorem dL_law_922 : decode cL_law 922 = .ok (.aload_n 0, 1) := by decide +kernel
theorem dL_law_923 : decode cL_law 923 = .ok (.iload 4, 2) := by decide +kernel
theorem dL_law_925 : decode cL_law 925 = .ok (.iconst 4, 1) := by decide +kernel
theorem dL_law_926 : decode cL_law 926 = .ok (.iadd, 1) := by decide +kernel
theorem dL_law_927 : decode cL_law 927 = .ok (.iaload, 1) := by decide +kernel
theorem dL_law_928 : decode cL_law 928 = .ok (.invokevirtual 121, 3) := by decide +kernel
theorem dL_law_931 : decode cL_law 931 = .ok (.istore 6, 2) := by decide +kernel
theorem dL_law_933 : decode cL_law 933 = .ok (.aload_n 2, 1) := by decide +kernel
theorem dL_law_934 : decode cL_law 934 = .ok (.invokevirtual 86, 3) := by decide +kernel
theorem dL_law_937 : decode cL_law 937 = .ok (.iload 5, 2) := by decide +kernel
theorem dL_law_939 : decode cL_law 939 = .ok (.if_icmp .eq 5, 3) := by decide +kernel
theorem dL_law_942 : decode cL_law 942 = .ok (.iconst 0, 1) := by decide +kernel
theorem dL_law_943 : decode cL_law 943 = .ok (.ireturn, 1) := by decide +kernel
theorem dL_law_944 : decode cL_law 944 = .ok (.iload 5, 2) := by decide +kernel
theorem dL_law_946 : decode cL_law 946 = .ok (.ifCond .ne 15, 3) := by decide +kernel
theorem dL_law_949 : decode cL_law 949 = .ok (.aload_n 3, 1) := by decide +kernel
theorem dL_law_950 : decode cL_law 950 = .ok (.iconst 0, 1) := by decide +kernel
theorem dL_law_951 : decode cL_law 951 = .ok (.laload, 1) := by decide +kernel
theorem dL_law_952 : decode cL_law 952 = .ok (.iload 6, 2) := by decide +kernel
theorem dL_law_954 : decode cL_law 954 = .ok (.i2l, 1) := by decide +kernel
theorem dL_law_955 : decode cL_law 955 = .ok (.lcmp, 1) := by decide +kernel
theorem dL_law_956 : decode cL_law 956 = .ok (.ifCond .eq 5, 3) := by decide +kernel
theorem dL_law_959 : decode cL_law 959 = .ok (.iconst 0, 1) := by decide +kernel
theorem dL_law_960 : decode cL_law 960 = .ok (.ireturn, 1) := by decide +kernel
theorem dL_law_961 : decode cL_law 961 = .ok (.goto 534, 3) := by decide +kernel
theorem dL_law_964 : decode cL_law 964 = .ok (.aload_n 1, 1) := by decide +kernel
theorem dL_law_965 : decode cL_law 965 = .ok (.aload_n 0, 1) := by decide +kernel
theorem dL_law_966 : decode cL_law 966 = .ok (.iload 4, 2) := by decide +kernel
theorem dL_law_968 : decode cL_law 968 = .ok (.iconst 1, 1) := by decide +kernel
theorem dL_law_969 : decode cL_law 969 = .ok (.iadd, 1) := by decide +kernel
theorem dL_law_970 : decode cL_law 970 = .ok (.iaload, 1) := by decide +kernel
theorem dL_law_971 : decode cL_law 971 = .ok (.aload_n 0, 1) := by decide +kernel
theorem dL_law_972 : decode cL_law 972 = .ok (.iload 4, 2) := by decide +kernel
theorem dL_law_974 : decode cL_law 974 = .ok (.iconst 2, 1) := by decide +kernel
theorem dL_law_975 : decode cL_law 975 = .ok (.iadd, 1) := by decide +kernel
theorem dL_law_976 : decode cL_law 976 = .ok (.iaload, 1) := by decide +kernel
theorem dL_law_977 : decode cL_law 977 = .ok (.aload_n 3, 1) := by decide +kernel
theorem dL_law_978 : decode cL_law 978 = .ok (.invokestatic 122, 3) := by decide +kernel
theorem dL_law_981 : decode cL_law 981 = .ok (.istore 5, 2) := by decide +kernel
theorem dL_law_983 : decode cL_law 983 = .ok (.aload_n 2, 1) := by decide +kernel
theorem dL_law_984 : decode cL_law 984 = .ok (.aload_n 0, 1) := by decide +kernel
theorem dL_law_985 : decode cL_law 985 = .ok (.iload 4, 2) := by decide +kernel
theorem dL_law_987 : decode cL_law 987 = .ok (.iconst 1, 1) := by decide +kernel
theorem dL_law_988 : decode cL_law 988 = .ok (.iadd, 1) := by decide +kernel
theorem dL_law_989 : decode cL_law 989 = .ok (.iaload, 1) := by decide +kernel
theorem dL_law_990 : decode cL_law 990 = .ok (.aload_n 0, 1) := by decide +kernel
theorem dL_law_991 : decode cL_law 991 = .ok (.iload 4, 2) := by decide +kernel
theorem dL_law_993 : decode cL_law 993 = .ok (.iconst 2, 1) := by decide +kernel
theorem dL_law_994 : decode cL_law 994 = .ok (.iadd, 1) := by decide +kernel
theorem dL_law_995 : decode cL_law 995 = .ok (.iaload, 1) := by decide +kernel
theorem dL_law_996 : decode cL_law 996 = .ok (.invokevirtual 124, 3) := by decide +kernel
theorem dL_law_999 : decode cL_law 999 = .ok (.istore 6, 2) := by decide +kernel
theorem dL_law_1001 : decode cL_law 1001 = .ok (.aload_n 2, 1) := by decide +kernel
theorem dL_law_1002 : decode cL_law 1002 = .ok (.invokevirtual 86, 3) := by decide +kernel
theorem dL_law_1005 : decode cL_law 1005 = .ok (.iload 5, 2) := by decide +kernel
theorem dL_law_1007 : decode cL_law 1007 = .ok (.if_icmp .eq 5, 3) := by decide +kernel
theorem dL_law_1010 : decode cL_law 1010 = .ok (.iconst 0, 1) := by decide +kernel
theorem dL_law_1011 : decode cL_law 1011 = .ok (.ireturn, 1) := by decide +kernel
theorem dL_law_1012 : decode cL_law 1012 = .ok (.iload 5, 2) := by decide +kernel
theorem dL_law_1014 : decode cL_law 1014 = .ok (.ifCond .ne 15, 3) := by decide +kernel
theorem dL_law_1017 : decode cL_law 1017 = .ok (.aload_n 3, 1) := by decide +kernel
theorem dL_law_1018 : decode cL_law 1018 = .ok (.iconst 0, 1) := by decide +kernel
theorem dL_law_1019 : decode cL_law 1019 = .ok (.laload, 1) := by decide +kernel
theorem dL_law_1020 : decode cL_law 1020 = .ok (.iload 6, 2) := by decide +kernel
theorem dL_law_1022 : decode cL_law 1022 = .ok (.i2l, 1) := by decide +kernel
theorem dL_law_1023 : decode cL_law 1023 = .ok (.lcmp, 1) := by decide +kernel
theorem dL_law_1024 : decode cL_law 1024 = .ok (.ifCond .eq 5, 3) := by decide +kernel
theorem dL_law_1027 : decode cL_law 1027 = .ok (.iconst 0, 1) := by decide +kernel
theorem dL_law_1028 : decode cL_law 1028 = .ok (.ireturn, 1) := by decide +kernel
theorem dL_law_1029 : decode cL_law 1029 = .ok (.goto 466, 3) := by decide +kernel
theorem dL_law_1032 : decode cL_law 1032 = .ok (.aload_n 1, 1) := by decide +kernel
theorem dL_law_1033 : decode cL_law 1033 = .ok (.aload_n 0, 1) := by decide +kernel
theorem dL_law_1034 : decode cL_law 1034 = .ok (.iload 4, 2) := by decide +kernel
theorem dL_law_1036 : decode cL_law 1036 = .ok (.iconst 1, 1) := by decide +kernel
theorem dL_law_1037 : decode cL_law 1037 = .ok (.iadd, 1) := by decide +kernel
theorem dL_law_1038 : decode cL_law 1038 = .ok (.iaload, 1) := by decide +kernel
theorem dL_law_1039 : decode cL_law 1039 = .ok (.ifCond .eq 7, 3) := by decide +kernel
theorem dL_law_1042 : decode cL_law 1042 = .ok (.iconst 1, 1) := by decide +kernel
theorem dL_law_1043 : decode cL_law 1043 = .ok (.goto 4, 3) := by decide +kernel
theorem dL_law_1046 : decode cL_law 1046 = .ok (.iconst 0, 1) := by decide +kernel
theorem dL_law_1047 : decode cL_law 1047 = .ok (.invokevirtual 125, 3) := by decide +kernel
theorem dL_law_1050 : decode cL_law 1050 = .ok (.aload_n 2, 1) := by decide +kernel
theorem dL_law_1051 : decode cL_law 1051 = .ok (.aload_n 0, 1) := by decide +kernel
theorem dL_law_1052 : decode cL_law 1052 = .ok (.iload 4, 2) := by decide +kernel
theorem dL_law_1054 : decode cL_law 1054 = .ok (.iconst 1, 1) := by decide +kernel
theorem dL_law_1055 : decode cL_law 1055 = .ok (.iadd, 1) := by decide +kernel
theorem dL_law_1056 : decode cL_law 1056 = .ok (.iaload, 1) := by decide +kernel
theorem dL_law_1057 : decode cL_law 1057 = .ok (.ifCond .eq 7, 3) := by decide +kernel
theorem dL_law_1060 : decode cL_law 1060 = .ok (.iconst 1, 1) := by decide +kernel
theorem dL_law_1061 : decode cL_law 1061 = .ok (.goto 4, 3) := by decide +kernel
theorem dL_law_1064 : decode cL_law 1064 = .ok (.iconst 0, 1) := by decide +kernel
theorem dL_law_1065 : decode cL_law 1065 = .ok (.invokevirtual 129, 3) := by decide +kernel
theorem dL_law_1068 : decode cL_law 1068 = .ok (.if_icmp .eq 427, 3) := by decide +kernel
theorem dL_law_1071 : decode cL_law 1071 = .ok (.iconst 0, 1) := by decide +kernel
theorem dL_law_1072 : decode cL_law 1072 = .ok (.ireturn, 1) := by decide +kernel
theorem dL_law_1073 : decode cL_law 1073 = .ok (.aload_n 1, 1) := by decide +kernel
theorem dL_law_1074 : decode cL_law 1074 = .ok (.aload_n 3, 1) := by decide +kernel
theorem dL_law_1075 : decode cL_law 1075 = .ok (.invokestatic 130, 3) := by decide +kernel
theorem dL_law_1078 : decode cL_law 1078 = .ok (.istore 5, 2) := by decide +kernel
theorem dL_law_1080 : decode cL_law 1080 = .ok (.aload_n 2, 1) := by decide +kernel
theorem dL_law_1081 : decode cL_law 1081 = .ok (.invokevirtual 133, 3) := by decide +kernel
theorem dL_law_1084 : decode cL_law 1084 = .ok (.istore 6, 2) := by decide +kernel
theorem dL_law_1086 : decode cL_law 1086 = .ok (.aload_n 2, 1) := by decide +kernel
theorem dL_law_1087 : decode cL_law 1087 = .ok (.invokevirtual 86, 3) := by decide +kernel
theorem dL_law_1090 : decode cL_law 1090 = .ok (.iload 5, 2) := by decide +kernel
theorem dL_law_1092 : decode cL_law 1092 = .ok (.if_icmp .eq 5, 3) := by decide +kernel
theorem dL_law_1095 : decode cL_law 1095 = .ok (.iconst 0, 1) := by decide +kernel
theorem dL_law_1096 : decode cL_law 1096 = .ok (.ireturn, 1) := by decide +kernel
theorem dL_law_1097 : decode cL_law 1097 = .ok (.iload 5, 2) := by decide +kernel
theorem dL_law_1099 : decode cL_law 1099 = .ok (.ifCond .ne 15, 3) := by decide +kernel
theorem dL_law_1102 : decode cL_law 1102 = .ok (.aload_n 3, 1) := by decide +kernel
theorem dL_law_1103 : decode cL_law 1103 = .ok (.iconst 0, 1) := by decide +kernel
theorem dL_law_1104 : decode cL_law 1104 = .ok (.laload, 1) := by decide +kernel
theorem dL_law_1105 : decode cL_law 1105 = .ok (.iload 6, 2) := by decide +kernel
theorem dL_law_1107 : decode cL_law 1107 = .ok (.i2l, 1) := by decide +kernel
theorem dL_law_1108 : decode cL_law 1108 = .ok (.lcmp, 1) := by decide +kernel
theorem dL_law_1109 : decode cL_law 1109 = .ok (.ifCond .eq 5, 3) := by decide +kernel
theorem dL_law_1112 : decode cL_law 1112 = .ok (.iconst 0, 1) := by decide +kernel
theorem dL_law_1113 : decode cL_law 1113 = .ok (.ireturn, 1) := by decide +kernel
theorem dL_law_1114 : decode cL_law 1114 = .ok (.goto 381, 3) := by decide +kernel
theorem dL_law_1117 : decode cL_law 1117 = .ok (.aload_n 1, 1) := by decide +kernel
theorem dL_law_1118 : decode cL_law 1118 = .ok (.aload_n 0, 1) := by decide +kernel
theorem dL_law_1119 : decode cL_law 1119 = .ok (.iload 4, 2) := by decide +kernel
theorem dL_law_1121 : decode cL_law 1121 = .ok (.iconst 1, 1) := by decide +kernel
theorem dL_law_1122 : decode cL_law 1122 = .ok (.iadd, 1) := by decide +kernel
theorem dL_law_1123 : decode cL_law 1123 = .ok (.iaload, 1) := by decide +kernel
theorem dL_law_1124 : decode cL_law 1124 = .ok (.aload_n 0, 1) := by decide +kernel
theorem dL_law_1125 : decode cL_law 1125 = .ok (.iload 4, 2) := by decide +kernel
theorem dL_law_1127 : decode cL_law 1127 = .ok (.iconst 2, 1) := by decide +kernel
theorem dL_law_1128 : decode cL_law 1128 = .ok (.iadd, 1) := by decide +kernel
theorem dL_law_1129 : decode cL_law 1129 = .ok (.iaload, 1) := by decide +kernel
theorem dL_law_1130 : decode cL_law 1130 = .ok (.aload_n 0, 1) := by decide +kernel
theorem dL_law_1131 : decode cL_law 1131 = .ok (.iload 4, 2) := by decide +kernel
theorem dL_law_1133 : decode cL_law 1133 = .ok (.iconst 3, 1) := by decide +kernel
theorem dL_law_1134 : decode cL_law 1134 = .ok (.iadd, 1) := by decide +kernel
theorem dL_law_1135 : decode cL_law 1135 = .ok (.iaload, 1) := by decide +kernel
theorem dL_law_1136 : decode cL_law 1136 = .ok (.aload_n 3, 1) := by decide +kernel
theorem dL_law_1137 : decode cL_law 1137 = .ok (.invokestatic 134, 3) := by decide +kernel
theorem dL_law_1140 : decode cL_law 1140 = .ok (.istore 5, 2) := by decide +kernel
theorem dL_law_1142 : decode cL_law 1142 = .ok (.aload_n 2, 1) := by decide +kernel
theorem dL_law_1143 : decode cL_law 1143 = .ok (.aload_n 0, 1) := by decide +kernel
theorem dL_law_1144 : decode cL_law 1144 = .ok (.iload 4, 2) := by decide +kernel
theorem dL_law_1146 : decode cL_law 1146 = .ok (.iconst 1, 1) := by decide +kernel
theorem dL_law_1147 : decode cL_law 1147 = .ok (.iadd, 1) := by decide +kernel
theorem dL_law_1148 : decode cL_law 1148 = .ok (.iaload, 1) := by decide +kernel
theorem dL_law_1149 : decode cL_law 1149 = .ok (.aload_n 0, 1) := by decide +kernel
theorem dL_law_1150 : decode cL_law 1150 = .ok (.iload 4, 2) := by decide +kernel
theorem dL_law_1152 : decode cL_law 1152 = .ok (.iconst 2, 1) := by decide +kernel
theorem dL_law_1153 : decode cL_law 1153 = .ok (.iadd, 1) := by decide +kernel
theorem dL_law_1154 : decode cL_law 1154 = .ok (.iaload, 1) := by decide +kernel
theorem dL_law_1155 : decode cL_law 1155 = .ok (.aload_n 0, 1) := by decide +kernel
theorem dL_law_1156 : decode cL_law 1156 = .ok (.iload 4, 2) := by decide +kernel
theorem dL_law_1158 : decode cL_law 1158 = .ok (.iconst 3, 1) := by decide +kernel
theorem dL_law_1159 : decode cL_law 1159 = .ok (.iadd, 1) := by decide +kernel
theorem dL_law_1160 : decode cL_law 1160 = .ok (.iaload, 1) := by decide +kernel
theorem dL_law_1161 : decode cL_law 1161 = .ok (.invokevirtual 137, 3) := by decide +kernel
theorem dL_law_1164 : decode cL_law 1164 = .ok (.istore 6, 2) := by decide +kernel
theorem dL_law_1166 : decode cL_law 1166 = .ok (.aload_n 2, 1) := by decide +kernel
theorem dL_law_1167 : decode cL_law 1167 = .ok (.invokevirtual 86, 3) := by decide +kernel
theorem dL_law_1170 : decode cL_law 1170 = .ok (.iload 5, 2) := by decide +kernel
theorem dL_law_1172 : decode cL_law 1172 = .ok (.if_icmp .eq 5, 3) := by decide +kernel
theorem dL_law_1175 : decode cL_law 1175 = .ok (.iconst 0, 1) := by decide +kernel
theorem dL_law_1176 : decode cL_law 1176 = .ok (.ireturn, 1) := by decide +kernel
theorem dL_law_1177 : decode cL_law 1177 = .ok (.iload 5, 2) := by decide +kernel
theorem dL_law_1179 : decode cL_law 1179 = .ok (.ifCond .ne 15, 3) := by decide +kernel
theorem dL_law_1182 : decode cL_law 1182 = .ok (.aload_n 3, 1) := by decide +kernel
theorem dL_law_1183 : decode cL_law 1183 = .ok (.iconst 0, 1) := by decide +kernel
theorem dL_law_1184 : decode cL_law 1184 = .ok (.laload, 1) := by decide +kernel
theorem dL_law_1185 : decode cL_law 1185 = .ok (.iload 6, 2) := by decide +kernel
theorem dL_law_1187 : decode cL_law 1187 = .ok (.i2l, 1) := by decide +kernel
theorem dL_law_1188 : decode cL_law 1188 = .ok (.lcmp, 1) := by decide +kernel
theorem dL_law_1189 : decode cL_law 1189 = .ok (.ifCond .eq 5, 3) := by decide +kernel
theorem dL_law_1192 : decode cL_law 1192 = .ok (.iconst 0, 1) := by decide +kernel
theorem dL_law_1193 : decode cL_law 1193 = .ok (.ireturn, 1) := by decide +kernel
theorem dL_law_1194 : decode cL_law 1194 = .ok (.goto 301, 3) := by decide +kernel
theorem dL_law_1197 : decode cL_law 1197 = .ok (.aload_n 1, 1) := by decide +kernel
theorem dL_law_1198 : decode cL_law 1198 = .ok (.aload_n 0, 1) := by decide +kernel
theorem dL_law_1199 : decode cL_law 1199 = .ok (.iload 4, 2) := by decide +kernel
theorem dL_law_1201 : decode cL_law 1201 = .ok (.iconst 1, 1) := by decide +kernel
theorem dL_law_1202 : decode cL_law 1202 = .ok (.iadd, 1) := by decide +kernel
theorem dL_law_1203 : decode cL_law 1203 = .ok (.iaload, 1) := by decide +kernel
theorem dL_law_1204 : decode cL_law 1204 = .ok (.aload_n 3, 1) := by decide +kernel
theorem dL_law_1205 : decode cL_law 1205 = .ok (.invokestatic 138, 3) := by decide +kernel
theorem dL_law_1208 : decode cL_law 1208 = .ok (.istore 5, 2) := by decide +kernel
theorem dL_law_1210 : decode cL_law 1210 = .ok (.aload_n 2, 1) := by decide +kernel
theorem dL_law_1211 : decode cL_law 1211 = .ok (.aload_n 0, 1) := by decide +kernel
theorem dL_law_1212 : decode cL_law 1212 = .ok (.iload 4, 2) := by decide +kernel
theorem dL_law_1214 : decode cL_law 1214 = .ok (.iconst 1, 1) := by decide +kernel
theorem dL_law_1215 : decode cL_law 1215 = .ok (.iadd, 1) := by decide +kernel
theorem dL_law_1216 : decode cL_law 1216 = .ok (.iaload, 1) := by decide +kernel
theorem dL_law_1217 : decode cL_law 1217 = .ok (.invokevirtual 141, 3) := by decide +kernel
theorem dL_law_1220 : decode cL_law 1220 = .ok (.istore 6, 2) := by decide +kernel
theorem dL_law_1222 : decode cL_law 1222 = .ok (.aload_n 2, 1) := by decide +kernel
theorem dL_law_1223 : decode cL_law 1223 = .ok (.invokevirtual 86, 3) := by decide +kernel
theorem dL_law_1226 : decode cL_law 1226 = .ok (.iload 5, 2) := by decide +kernel
theorem dL_law_1228 : decode cL_law 1228 = .ok (.if_icmp .eq 5, 3) := by decide +kernel
theorem dL_law_1231 : decode cL_law 1231 = .ok (.iconst 0, 1) := by decide +kernel
theorem dL_law_1232 : decode cL_law 1232 = .ok (.ireturn, 1) := by decide +kernel
theorem dL_law_1233 : decode cL_law 1233 = .ok (.iload 5, 2) := by decide +kernel
theorem dL_law_1235 : decode cL_law 1235 = .ok (.ifCond .ne 15, 3) := by decide +kernel
theorem dL_law_1238 : decode cL_law 1238 = .ok (.aload_n 3, 1) := by decide +kernel
theorem dL_law_1239 : decode cL_law 1239 = .ok (.iconst 0, 1) := by decide +kernel
theorem dL_law_1240 : decode cL_law 1240 = .ok (.laload, 1) := by decide +kernel
theorem dL_law_1241 : decode cL_law 1241 = .ok (.iload 6, 2) := by decide +kernel
theorem dL_law_1243 : decode cL_law 1243 = .ok (.i2l, 1) := by decide +kernel
theorem dL_law_1244 : decode cL_law 1244 = .ok (.lcmp, 1) := by decide +kernel
theorem dL_law_1245 : decode cL_law 1245 = .ok (.ifCond .eq 5, 3) := by decide +kernel
theorem dL_law_1248 : decode cL_law 1248 = .ok (.iconst 0, 1) := by decide +kernel
theorem dL_law_1249 : decode cL_law 1249 = .ok (.ireturn, 1) := by decide +kernel
theorem dL_law_1250 : decode cL_law 1250 = .ok (.goto 245, 3) := by decide +kernel
theorem dL_law_1253 : decode cL_law 1253 = .ok (.aload_n 1, 1) := by decide +kernel
theorem dL_law_1254 : decode cL_law 1254 = .ok (.aload_n 0, 1) := by decide +kernel
theorem dL_law_1255 : decode cL_law 1255 = .ok (.iload 4, 2) := by decide +kernel
theorem dL_law_1257 : decode cL_law 1257 = .ok (.iconst 1, 1) := by decide +kernel
theorem dL_law_1258 : decode cL_law 1258 = .ok (.iadd, 1) := by decide +kernel
theorem dL_law_1259 : decode cL_law 1259 = .ok (.iaload, 1) := by decide +kernel
theorem dL_law_1260 : decode cL_law 1260 = .ok (.aload_n 0, 1) := by decide +kernel
theorem dL_law_1261 : decode cL_law 1261 = .ok (.iload 4, 2) := by decide +kernel
theorem dL_law_1263 : decode cL_law 1263 = .ok (.iconst 2, 1) := by decide +kernel
theorem dL_law_1264 : decode cL_law 1264 = .ok (.iadd, 1) := by decide +kernel
theorem dL_law_1265 : decode cL_law 1265 = .ok (.iaload, 1) := by decide +kernel
theorem dL_law_1266 : decode cL_law 1266 = .ok (.aload_n 3, 1) := by decide +kernel
theorem dL_law_1267 : decode cL_law 1267 = .ok (.invokestatic 142, 3) := by decide +kernel
theorem dL_law_1270 : decode cL_law 1270 = .ok (.istore 5, 2) := by decide +kernel
theorem dL_law_1272 : decode cL_law 1272 = .ok (.aload_n 2, 1) := by decide +kernel
theorem dL_law_1273 : decode cL_law 1273 = .ok (.aload_n 0, 1) := by decide +kernel
theorem dL_law_1274 : decode cL_law 1274 = .ok (.iload 4, 2) := by decide +kernel
theorem dL_law_1276 : decode cL_law 1276 = .ok (.iconst 1, 1) := by decide +kernel
theorem dL_law_1277 : decode cL_law 1277 = .ok (.iadd, 1) := by decide +kernel
theorem dL_law_1278 : decode cL_law 1278 = .ok (.iaload, 1) := by decide +kernel
theorem dL_law_1279 : decode cL_law 1279 = .ok (.aload_n 0, 1) := by decide +kernel
theorem dL_law_1280 : decode cL_law 1280 = .ok (.iload 4, 2) := by decide +kernel
theorem dL_law_1282 : decode cL_law 1282 = .ok (.iconst 2, 1) := by decide +kernel
theorem dL_law_1283 : decode cL_law 1283 = .ok (.iadd, 1) := by decide +kernel
theorem dL_law_1284 : decode cL_law 1284 = .ok (.iaload, 1) := by decide +kernel
theorem dL_law_1285 : decode cL_law 1285 = .ok (.invokevirtual 144, 3) := by decide +kernel
theorem dL_law_1288 : decode cL_law 1288 = .ok (.istore 6, 2) := by decide +kernel
theorem dL_law_1290 : decode cL_law 1290 = .ok (.aload_n 2, 1) := by decide +kernel
theorem dL_law_1291 : decode cL_law 1291 = .ok (.invokevirtual 86, 3) := by decide +kernel
theorem dL_law_1294 : decode cL_law 1294 = .ok (.iload 5, 2) := by decide +kernel
theorem dL_law_1296 : decode cL_law 1296 = .ok (.if_icmp .eq 5, 3) := by decide +kernel
theorem dL_law_1299 : decode cL_law 1299 = .ok (.iconst 0, 1) := by decide +kernel
theorem dL_law_1300 : decode cL_law 1300 = .ok (.ireturn, 1) := by decide +kernel
theorem dL_law_1301 : decode cL_law 1301 = .ok (.iload 5, 2) := by decide +kernel
theorem dL_law_1303 : decode cL_law 1303 = .ok (.ifCond .ne 15, 3) := by decide +kernel
theorem dL_law_1306 : decode cL_law 1306 = .ok (.aload_n 3, 1) := by decide +kernel
theorem dL_law_1307 : decode cL_law 1307 = .ok (.iconst 0, 1) := by decide +kernel
theorem dL_law_1308 : decode cL_law 1308 = .ok (.laload, 1) := by decide +kernel
theorem dL_law_1309 : decode cL_law 1309 = .ok (.iload 6, 2) := by decide +kernel
theorem dL_law_1311 : decode cL_law 1311 = .ok (.i2l, 1) := by decide +kernel
theorem dL_law_1312 : decode cL_law 1312 = .ok (.lcmp, 1) := by decide +kernel
theorem dL_law_1313 : decode cL_law 1313 = .ok (.ifCond .eq 5, 3) := by decide +kernel
theorem dL_law_1316 : decode cL_law 1316 = .ok (.iconst 0, 1) := by decide +kernel
theorem dL_law_1317 : decode cL_law 1317 = .ok (.ireturn, 1) := by decide +kernel
theorem dL_law_1318 : decode cL_law 1318 = .ok (.goto 177, 3) := by decide +kernel
theorem dL_law_1321 : decode cL_law 1321 = .ok (.aload_n 1, 1) := by decide +kernel
theorem dL_law_1322 : decode cL_law 1322 = .ok (.aload_n 0, 1) := by decide +kernel
theorem dL_law_1323 : decode cL_law 1323 = .ok (.iload 4, 2) := by decide +kernel
theorem dL_law_1325 : decode cL_law 1325 = .ok (.iconst 1, 1) := by decide +kernel
theorem dL_law_1326 : decode cL_law 1326 = .ok (.iadd, 1) := by decide +kernel
theorem dL_law_1327 : decode cL_law 1327 = .ok (.iaload, 1) := by decide +kernel
theorem dL_law_1328 : decode cL_law 1328 = .ok (.aload_n 0, 1) := by decide +kernel
theorem dL_law_1329 : decode cL_law 1329 = .ok (.iload 4, 2) := by decide +kernel
theorem dL_law_1331 : decode cL_law 1331 = .ok (.iconst 2, 1) := by decide +kernel
theorem dL_law_1332 : decode cL_law 1332 = .ok (.iadd, 1) := by decide +kernel
theorem dL_law_1333 : decode cL_law 1333 = .ok (.iaload, 1) := by decide +kernel
theorem dL_law_1334 : decode cL_law 1334 = .ok (.aload_n 0, 1) := by decide +kernel
theorem dL_law_1335 : decode cL_law 1335 = .ok (.iload 4, 2) := by decide +kernel
theorem dL_law_1337 : decode cL_law 1337 = .ok (.iconst 3, 1) := by decide +kernel
theorem dL_law_1338 : decode cL_law 1338 = .ok (.iadd, 1) := by decide +kernel
theorem dL_law_1339 : decode cL_law 1339 = .ok (.iaload, 1) := by decide +kernel
theorem dL_law_1340 : decode cL_law 1340 = .ok (.aload_n 3, 1) := by decide +kernel
theorem dL_law_1341 : decode cL_law 1341 = .ok (.invokestatic 145, 3) := by decide +kernel
theorem dL_law_1344 : decode cL_law 1344 = .ok (.istore 5, 2) := by decide +kernel
theorem dL_law_1346 : decode cL_law 1346 = .ok (.aload_n 2, 1) := by decide +kernel
theorem dL_law_1347 : decode cL_law 1347 = .ok (.aload_n 0, 1) := by decide +kernel
theorem dL_law_1348 : decode cL_law 1348 = .ok (.iload 4, 2) := by decide +kernel
theorem dL_law_1350 : decode cL_law 1350 = .ok (.iconst 1, 1) := by decide +kernel
theorem dL_law_1351 : decode cL_law 1351 = .ok (.iadd, 1) := by decide +kernel
theorem dL_law_1352 : decode cL_law 1352 = .ok (.iaload, 1) := by decide +kernel
theorem dL_law_1353 : decode cL_law 1353 = .ok (.aload_n 0, 1) := by decide +kernel
theorem dL_law_1354 : decode cL_law 1354 = .ok (.iload 4, 2) := by decide +kernel
theorem dL_law_1356 : decode cL_law 1356 = .ok (.iconst 2, 1) := by decide +kernel
theorem dL_law_1357 : decode cL_law 1357 = .ok (.iadd, 1) := by decide +kernel
theorem dL_law_1358 : decode cL_law 1358 = .ok (.iaload, 1) := by decide +kernel
theorem dL_law_1359 : decode cL_law 1359 = .ok (.aload_n 0, 1) := by decide +kernel
theorem dL_law_1360 : decode cL_law 1360 = .ok (.iload 4, 2) := by decide +kernel
theorem dL_law_1362 : decode cL_law 1362 = .ok (.iconst 3, 1) := by decide +kernel
theorem dL_law_1363 : decode cL_law 1363 = .ok (.iadd, 1) := by decide +kernel
theorem dL_law_1364 : decode cL_law 1364 = .ok (.iaload, 1) := by decide +kernel
theorem dL_law_1365 : decode cL_law 1365 = .ok (.invokevirtual 147, 3) := by decide +kernel
theorem dL_law_1368 : decode cL_law 1368 = .ok (.istore 6, 2) := by decide +kernel
theorem dL_law_1370 : decode cL_law 1370 = .ok (.aload_n 2, 1) := by decide +kernel
theorem dL_law_1371 : decode cL_law 1371 = .ok (.invokevirtual 86, 3) := by decide +kernel
theorem dL_law_1374 : decode cL_law 1374 = .ok (.iload 5, 2) := by decide +kernel
theorem dL_law_1376 : decode cL_law 1376 = .ok (.if_icmp .eq 5, 3) := by decide +kernel
theorem dL_law_1379 : decode cL_law 1379 = .ok (.iconst 0, 1) := by decide +kernel
theorem dL_law_1380 : decode cL_law 1380 = .ok (.ireturn, 1) := by decide +kernel
theorem dL_law_1381 : decode cL_law 1381 = .ok (.iload 5, 2) := by decide +kernel
theorem dL_law_1383 : decode cL_law 1383 = .ok (.ifCond .ne 15, 3) := by decide +kernel
theorem dL_law_1386 : decode cL_law 1386 = .ok (.aload_n 3, 1) := by decide +kernel
theorem dL_law_1387 : decode cL_law 1387 = .ok (.iconst 0, 1) := by decide +kernel
theorem dL_law_1388 : decode cL_law 1388 = .ok (.laload, 1) := by decide +kernel
theorem dL_law_1389 : decode cL_law 1389 = .ok (.iload 6, 2) := by decide +kernel
theorem dL_law_1391 : decode cL_law 1391 = .ok (.i2l, 1) := by decide +kernel
theorem dL_law_1392 : decode cL_law 1392 = .ok (.lcmp, 1) := by decide +kernel
theorem dL_law_1393 : decode cL_law 1393 = .ok (.ifCond .eq 5, 3) := by decide +kernel
theorem dL_law_1396 : decode cL_law 1396 = .ok (.iconst 0, 1) := by decide +kernel
theorem dL_law_1397 : decode cL_law 1397 = .ok (.ireturn, 1) := by decide +kernel
theorem dL_law_1398 : decode cL_law 1398 = .ok (.goto 97, 3) := by decide +kernel
theorem dL_law_1401 : decode cL_law 1401 = .ok (.aload_n 1, 1) := by decide +kernel
theorem dL_law_1402 : decode cL_law 1402 = .ok (.aload_n 0, 1) := by decide +kernel
theorem dL_law_1403 : decode cL_law 1403 = .ok (.iload 4, 2) := by decide +kernel
theorem dL_law_1405 : decode cL_law 1405 = .ok (.iconst 1, 1) := by decide +kernel
theorem dL_law_1406 : decode cL_law 1406 = .ok (.iadd, 1) := by decide +kernel
theorem dL_law_1407 : decode cL_law 1407 = .ok (.iaload, 1) := by decide +kernel
theorem dL_law_1408 : decode cL_law 1408 = .ok (.aload_n 0, 1) := by decide +kernel
theorem dL_law_1409 : decode cL_law 1409 = .ok (.iload 4, 2) := by decide +kernel
theorem dL_law_1411 : decode cL_law 1411 = .ok (.iconst 2, 1) := by decide +kernel
theorem dL_law_1412 : decode cL_law 1412 = .ok (.iadd, 1) := by decide +kernel
theorem dL_law_1413 : decode cL_law 1413 = .ok (.iaload, 1) := by decide +kernel
theorem dL_law_1414 : decode cL_law 1414 = .ok (.aload_n 3, 1) := by decide +kernel
theorem dL_law_1415 : decode cL_law 1415 = .ok (.invokestatic 148, 3) := by decide +kernel
theorem dL_law_1418 : decode cL_law 1418 = .ok (.istore 5, 2) := by decide +kernel
theorem dL_law_1420 : decode cL_law 1420 = .ok (.aload_n 2, 1) := by decide +kernel
theorem dL_law_1421 : decode cL_law 1421 = .ok (.aload_n 0, 1) := by decide +kernel
theorem dL_law_1422 : decode cL_law 1422 = .ok (.iload 4, 2) := by decide +kernel
theorem dL_law_1424 : decode cL_law 1424 = .ok (.iconst 1, 1) := by decide +kernel
theorem dL_law_1425 : decode cL_law 1425 = .ok (.iadd, 1) := by decide +kernel
theorem dL_law_1426 : decode cL_law 1426 = .ok (.iaload, 1) := by decide +kernel
theorem dL_law_1427 : decode cL_law 1427 = .ok (.aload_n 0, 1) := by decide +kernel
theorem dL_law_1428 : decode cL_law 1428 = .ok (.iload 4, 2) := by decide +kernel
theorem dL_law_1430 : decode cL_law 1430 = .ok (.iconst 2, 1) := by decide +kernel
theorem dL_law_1431 : decode cL_law 1431 = .ok (.iadd, 1) := by decide +kernel
theorem dL_law_1432 : decode cL_law 1432 = .ok (.iaload, 1) := by decide +kernel
theorem dL_law_1433 : decode cL_law 1433 = .ok (.invokevirtual 150, 3) := by decide +kernel
theorem dL_law_1436 : decode cL_law 1436 = .ok (.istore 6, 2) := by decide +kernel
theorem dL_law_1438 : decode cL_law 1438 = .ok (.aload_n 2, 1) := by decide +kernel
theorem dL_law_1439 : decode cL_law 1439 = .ok (.invokevirtual 86, 3) := by decide +kernel
theorem dL_law_1442 : decode cL_law 1442 = .ok (.iload 5, 2) := by decide +kernel
theorem dL_law_1444 : decode cL_law 1444 = .ok (.if_icmp .eq 5, 3) := by decide +kernel
theorem dL_law_1447 : decode cL_law 1447 = .ok (.iconst 0, 1) := by decide +kernel
theorem dL_law_1448 : decode cL_law 1448 = .ok (.ireturn, 1) := by decide +kernel
theorem dL_law_1449 : decode cL_law 1449 = .ok (.iload 5, 2) := by decide +kernel
theorem dL_law_1451 : decode cL_law 1451 = .ok (.ifCond .ne 15, 3) := by decide +kernel
theorem dL_law_1454 : decode cL_law 1454 = .ok (.aload_n 3, 1) := by decide +kernel
theorem dL_law_1455 : decode cL_law 1455 = .ok (.iconst 0, 1) := by decide +kernel
theorem dL_law_1456 : decode cL_law 1456 = .ok (.laload, 1) := by decide +kernel
theorem dL_law_1457 : decode cL_law 1457 = .ok (.iload 6, 2) := by decide +kernel
theorem dL_law_1459 : decode cL_law 1459 = .ok (.i2l, 1) := by decide +kernel
theorem dL_law_1460 : decode cL_law 1460 = .ok (.lcmp, 1) := by decide +kernel
theorem dL_law_1461 : decode cL_law 1461 = .ok (.ifCond .eq 5, 3) := by decide +kernel
theorem dL_law_1464 : decode cL_law 1464 = .ok (.iconst 0, 1) := by decide +kernel
theorem dL_law_1465 : decode cL_law 1465 = .ok (.ireturn, 1) := by decide +kernel
theorem dL_law_1466 : decode cL_law 1466 = .ok (.goto 29, 3) := by decide +kernel
theorem dL_law_1469 : decode cL_law 1469 = .ok (.aload_n 1, 1) := by decide +kernel
theorem dL_law_1470 : decode cL_law 1470 = .ok (.invokevirtual 151, 3) := by decide +kernel
theorem dL_law_1473 : decode cL_law 1473 = .ok (.aload_n 2, 1) := by decide +kernel
theorem dL_law_1474 : decode cL_law 1474 = .ok (.invokevirtual 154, 3) := by decide +kernel
theorem dL_law_1477 : decode cL_law 1477 = .ok (.if_icmp .eq 18, 3) := by decide +kernel
theorem dL_law_1480 : decode cL_law 1480 = .ok (.iconst 0, 1) := by decide +kernel
theorem dL_law_1481 : decode cL_law 1481 = .ok (.ireturn, 1) := by decide +kernel
theorem dL_law_1482 : decode cL_law 1482 = .ok (.aload_n 1, 1) := by decide +kernel
theorem dL_law_1483 : decode cL_law 1483 = .ok (.invokevirtual 155, 3) := by decide +kernel
theorem dL_law_1486 : decode cL_law 1486 = .ok (.aload_n 2, 1) := by decide +kernel
theorem dL_law_1487 : decode cL_law 1487 = .ok (.invokevirtual 158, 3) := by decide +kernel
theorem dL_law_1490 : decode cL_law 1490 = .ok (.if_icmp .eq 5, 3) := by decide +kernel
theorem dL_law_1493 : decode cL_law 1493 = .ok (.iconst 0, 1) := by decide +kernel
theorem dL_law_1494 : decode cL_law 1494 = .ok (.ireturn, 1) := by decide +kernel
theorem dL_law_1495 : decode cL_law 1495 = .ok (.iinc 4 5, 3) := by decide +kernel
theorem dL_law_1498 : decode cL_law 1498 = .ok (.goto (-1475), 3) := by decide +kernel
theorem dL_law_1501 : decode cL_law 1501 = .ok (.iconst 1, 1) := by decide +kernel
theorem dL_law_1502 : decode cL_law 1502 = .ok (.ireturn, 1) := by decide +kernel
abbrev vwCl : List vw_C := [(RJ0, TJ0, 4), (RJ4, TJ4, 4), (RJx4a65c, TJx4a65c, 3), (RX0, TX0, 8), (RX1, TX1, 13), (RX2, TX2, 6), (RX3, TX3, 4), (RX4, TX4, 31)]
end
section
-- ===== the words that last: one list for every method
def wAll : List Cond := lw_tbl.filter goodWord
theorem wA_in {i : Nat} {w : Cond} (h : lw_tbl[i]? = some w) (hg : goodWord w = true) : w ∈ wAll := List.mem_filter.mpr ⟨List.mem_of_getElem? h, hg⟩
theorem wA_ok {w : Cond} (h : w ∈ wAll) : (w.onTables && w.keeps) = true ∨ ∃ ty, w = .arrayClass ty := good_of_word (List.mem_filter.mp h).2
theorem wA_good {w : Cond} (h : w ∈ wAll) : GoodIn wAll (w :: wAll) := fun x hx => (List.mem_cons.mp hx).elim (fun e => by rw [e]; exact ⟨h, wA_ok h⟩) (fun h => ⟨h, wA_ok h⟩)
-- ===== the world: kinds by address; int fields, references; lengths and contents of arrays
def Wd : Type := (Nat → Nat) × (Nat → Nat → Int32) × (Nat → Nat → Option Nat) × (Nat → Nat) × (Nat → Nat → Int32) × (Nat → Nat → Option Nat) × (Nat → Nat → Int64)
def Wd.K (w : Wd) : Nat → Nat := w.1
def Wd.I (w : Wd) : Nat → Nat → Int32 := w.2.1
def Wd.R (w : Wd) : Nat → Nat → Option Nat := w.2.2.1
def Wd.N (w : Wd) : Nat → Nat := w.2.2.2.1
def Wd.A (w : Wd) : Nat → Nat → Int32 := w.2.2.2.2.1
def Wd.O (w : Wd) : Nat → Nat → Option Nat := w.2.2.2.2.2.1
def Wd.J (w : Wd) : Nat → Nat → Int64 := w.2.2.2.2.2.2
def up2 {α : Type} (f : Nat → Nat → α) (a b : Nat) (v : α) : Nat → Nat → α := fun x y => if x = a ∧ y = b then v else f x y
def Wd.setI (w : Wd) (f a : Nat) (v : Int32) : Wd := (w.K, up2 w.I f a v, w.R, w.N, w.A, w.O, w.J)
def Wd.setR (w : Wd) (f a : Nat) (v : Option Nat) : Wd := (w.K, w.I, up2 w.R f a v, w.N, w.A, w.O, w.J)
def Wd.setA (w : Wd) (a j : Nat) (v : Int32) : Wd := (w.K, w.I, w.R, w.N, up2 w.A a j v, w.O, w.J)
def Wd.setO (w : Wd) (a j : Nat) (v : Option Nat) : Wd := (w.K, w.I, w.R, w.N, w.A, up2 w.O a j v, w.J)
def Wd.setJ (w : Wd) (a j : Nat) (v : Int64) : Wd := (w.K, w.I, w.R, w.N, w.A, w.O, up2 w.J a j v)
def Wd.cpO (w : Wd) (a b sp dp n : Nat) : Wd := (w.K, w.I, w.R, w.N, w.A, va_up w.O b (va_cpy (w.O a) (w.O b) sp dp n), w.J)
def Wd.new (w : Wd) (k a : Nat) : Wd := (va_up w.K a k, fun f x => if x = a then 0 else w.I f x, fun f x => if x = a then none else w.R f x, w.N, w.A, w.O, w.J)
def Wd.newA (w : Wd) (k a n : Nat) : Wd := (va_up w.K a k, w.I, w.R, va_up w.N a n, fun x j => if x = a then 0 else w.A x j, fun x j => if x = a then none else w.O x j, fun x j => if x = a then 0 else w.J x j)
abbrev GT : Type := va_G × ClassId × ClassId × ClassId × ClassId × Nat
def shp (G : GT) (k : Nat) (I : Nat → Int32) (R : Nat → Option Nat) (n : Nat) (A : Nat → Int32) (O : Nat → Option Nat) (J : Nat → Int64) : va_E := match k with
  | 1 => .inr (3, [.int (I 100), .int (I 101), va_rf (R 102), va_rf (R 103), .int (I 104), .int (I 105), .int (I 106), .int (I 107)])
  | 2 => .inr (4, [.int (I 200), .int (I 201), .int (I 202), va_rf (R 203), .int (I 204), .int (I 205), .int (I 206), .int (I 207), va_rf (R 208), va_rf (R 209), .int (I 210), .int (I 211), .int (I 212)])
  | 3 => .inr (5, [va_rf (R 300), .int (I 301), .int (I 302), .int (I 303), .int (I 304), .int (I 305)])
  | 4 => .inr (6, [va_rf (R 400), va_rf (R 401), .int (I 402), .int (I 403)])
  | 5 => .inr (7, [.int (I 500), .int (I 501), va_rf (R 502), va_rf (R 503), va_rf (R 504), va_rf (R 505), va_rf (R 506), va_rf (R 507), va_rf (R 508), va_rf (R 509), va_rf (R 510), va_rf (R 511), va_rf (R 512), .int (I 513), va_rf (R 514), va_rf (R 515), va_rf (R 516), va_rf (R 517), va_rf (R 518), va_rf (R 519), va_rf (R 520), va_rf (R 521), va_rf (R 522), va_rf (R 523), va_rf (R 524), va_rf (R 525), va_rf (R 526), va_rf (R 527), .int (I 528), .int (I 529), va_rf (R 530)])
  | 6 => .inr (2, [.int (I 600), va_rf (R 601), .int (I 602)])
  | 11 => .inl (G.2.1, (n, .inl A))
  | 12 => .inl (G.2.2.1, (n, .inl A))
  | 13 => .inl (G.2.2.2.1, (n, .inr (.inr (.inr (.inr O)))))
  | _ => .inl (G.2.2.2.2.1, (n, .inr (.inl J)))
def wE (G : GT) (w : Wd) (k a : Nat) : va_E := shp G k (fun f => w.I f a) (fun f => w.R f a) (w.N a) (w.A a) (w.O a) (w.J a)
def GA (L0 : Nat) : Nat → Prop := fun q => L0 ≤ q
def gE0 (G : GT) : va_E := .inl (G.2.2.2.1, (0, .inr (.inr (.inr (.inr (fun _ => none))))))
def gE15 (G : GT) (L0 : Nat) (w : Wd) (H : Heap) : Prop := (∀ b, w.K b = 15 ↔ b = G.2.2.2.2.2) ∧ w.N G.2.2.2.2.2 = 0 ∧ G.2.2.2.2.2 < L0 ∧ va_at G.1 vwCl (G.2.2.2.2.2, gE0 G) H
def GWd (G : GT) (L0 : Nat) (w : Wd) (H : Heap) : Prop := ∃ L : List Nat, (∀ b, b ∈ L ↔ (w.K b ≠ 0 ∧ w.K b ≠ 15)) ∧ va_P G.1 vwCl ([] ++ va_pl L (fun b => wE G w (w.K b) b)) H ∧ va_D (GA L0) ([] ++ va_pl L (fun b => wE G w (w.K b) b)) ∧ gE15 G L0 w H
def gTys (G : GT) : List (ClassId × FieldType) := [(G.2.1, .int), (G.2.2.1, .boolean), (G.2.2.2.1, .object "java/lang/Object"), (G.2.2.2.2.1, .long)]
def GZ (G : GT) (L0 : Nat) (U : State) (H : Heap) : Prop := vx_Zq Bundle.tN "UNASSIGNED_STACK" Bundle.steD (GA L0) U H ∧ vx_Zq Bundle.tN "SUPPRESSED_SENTINEL" Bundle.listD (GA L0) U H ∧ va_Z "java/util/ArrayList" "DEFAULTCAPACITY_EMPTY_ELEMENTDATA" "[Ljava/lang/Object;" (.ref G.2.2.2.2.2) (GA L0) U H
theorem GZ.moved {G : GT} {L0 : Nat} {u U : State} {H : Heap} (hvm : u.vm.Alike U.vm) (h : GZ G L0 u H) : GZ G L0 U H := ⟨vx_Zq.moved hvm h.1, vx_Zq.moved hvm h.2.1, va_Z.moved hvm h.2.2⟩
theorem GZ.kept {G : GT} {L0 : Nat} {U : State} {H H1 : Heap} (h : GZ G L0 U H) (hq : ∀ a : Nat, a < H.size → ¬ GA L0 a → H1[a]? = H[a]?) : GZ G L0 U H1 := ⟨vx_Zq.kept h.1 hq, vx_Zq.kept h.2.1 hq, va_Z.kept h.2.2 hq⟩
def gCast : List (String × String) := [("SusuRing$Person", "java/lang/Object"), ("SusuRing$Circle", "java/lang/Object"), ("SusuRing$Place", "java/lang/Object"), ("java/lang/IllegalArgumentException", "java/lang/IllegalArgumentException"), ("java/lang/IllegalStateException", "java/lang/IllegalStateException"), ("java/lang/IndexOutOfBoundsException", "java/lang/IndexOutOfBoundsException")]
def gNot : List (String × String) := [("java/lang/IllegalStateException", "java/lang/IllegalArgumentException"), ("java/lang/IndexOutOfBoundsException", "java/lang/IllegalArgumentException"), ("java/lang/IllegalArgumentException", "java/lang/IllegalStateException"), ("java/lang/IndexOutOfBoundsException", "java/lang/IllegalStateException"), ("java/lang/IllegalArgumentException", "java/lang/IndexOutOfBoundsException"), ("java/lang/IllegalStateException", "java/lang/IndexOutOfBoundsException")]
def gDecl : List MethodName := [⟨"java/lang/RuntimeException", "<init>", "(Ljava/lang/String;)V"⟩, ⟨"java/lang/Exception", "<init>", "(Ljava/lang/String;)V"⟩, ⟨"java/lang/Throwable", "<init>", "(Ljava/lang/String;)V"⟩]
def gStr : List (String × Nat × String) := [("SusuRing", 30, "there are 16 people"), ("SusuRing", 59, "dead, or the purse has too little or too much"), ("SusuRing", 66, "nobody is the own heir"), ("SusuRing", 72, "one is dead, or the heir would have too many shares"), ("SusuRing", 88, "there are 4 circles"), ("SusuRing", 103, "the circle has started, or is full"), ("SusuRing", 109, "the person is dead, or a member"), ("SusuRing", 115, "the circle has started, or too few members"), ("SusuRing", 133, "the person is no member"), ("SusuRing", 142, "the circle has not started, or too few members"), ("SusuRing", 167, "no member, or with a turn or arrears"), ("SusuRing", 188, "dead, too many shares, or too little in the purse"), ("SusuRing", 194, "two of the three are the same"), ("SusuRing", 199, "one of the three is dead, or has no share"), ("SusuRing", 211, "there is a loan, or the amount is too high"), ("SusuRing", 220, "there is no loan, or too little in the purse"), ("SusuRing", 234, "there are no shares, or somebody has a loan"), ("SusuRing", 241, "there is no such book"), ("SusuRing", 260, "there is no such person"), ("SusuRing", 262, "there is no such circle"), ("SusuRing", 264, "an argument is out of its range")]
def GX (U : State) : Prop := (∀ q ∈ gCast, va_Nw (.castable q.1 q.2) U) ∧ (∀ q ∈ gNot, va_Nc q.1 q.2 U) ∧ va_AO "java/lang/Object" U ∧ va_Dc U ∧ (∃ mi, va_Mi "[Ljava/lang/Object;" mi U) ∧ (∀ y ∈ gDecl, va_Nw (.declares y) U) ∧ ∀ q ∈ gStr, ∃ a, vk_R q.1 q.2.1 q.2.2 a U
theorem GX.warm {s U : State} (hW : s.WarmedH U.vm) (h : GX s) : GX U :=
  ⟨fun q hq => va_Nw.warmC hW (h.1 q hq), fun q hq => va_Nc.moved hW.alike (h.2.1 q hq), va_AO.moved hW.alike h.2.2.1, va_Dc.moved hW.alike h.2.2.2.1, ⟨h.2.2.2.2.1.choose, va_Mi.moved hW.alike h.2.2.2.2.1.choose_spec⟩, fun y hy => va_Nw.warmD hW (h.2.2.2.2.2.1 y hy), fun q hq => ⟨(h.2.2.2.2.2.2 q hq).choose, vk_R.warm hW (h.2.2.2.2.2.2 q hq).choose_spec⟩⟩
def GS (G : GT) (L0 : Nat) (U : State) : Prop := L0 ≤ U.heap.size ∧ va_K G.1 vwCl (gTys G) U ∧ GZ G L0 U U.heap ∧ GX U
/-- a callee's start: the same facts in its state -/
theorem GS.call {G : GT} {L0 : Nat} {s U : State} {H : Heap} {locs : List Loc} (h : GS G L0 s) (hS : va_S (GA L0) s.heap H locs) (hU : U.heap = H) (hW : s.WarmedH U.vm) : GS G L0 U :=
  ⟨by rw [hU]; exact Nat.le_trans h.1 hS.1, va_K.moved hW.alike h.2.1, by rw [hU]; exact GZ.moved hW.alike (h.2.2.1.kept hS.2.1), h.2.2.2.warm hW⟩
theorem GS.same {G : GT} {L0 : Nat} {U V : State} (h : GS G L0 U) (hv : V.vm = U.vm) (hh : V.heap = U.heap) : GS G L0 V :=
  ⟨by rw [hh]; exact h.1, va_K.moved (by rw [hv]; exact Vm.Alike.refl U.vm) h.2.1, by rw [hh]; exact GZ.moved (by rw [hv]; exact Vm.Alike.refl U.vm) h.2.2.1, GX.warm (s := U) (U := V) (by rw [hv]; exact State.WarmedH.refl U) h.2.2.2⟩
def GC (l : Launch) (G : GT) (L0 : Nat) (p : Program) (s : State) (m : MethodId) (args : Array Value) (meth : Method) (c : Code) (cc : ByteArray) (nL : Nat) (own : String) : Prop := CallFix p m c cc nL s args wAll own ∧ meth.locks = false ∧ l.stackTraces = false ∧ GS G L0 s
/-- locals by their numbers: ints and references -/
abbrev Lc : Type := List (Nat × (Int32 ⊕ Option Nat))
def lcV : Int32 ⊕ Option Nat → Value
  | .inl x => .int x
  | .inr r => va_rf r
def lvV (lv : Lc) : List (Nat × Value) := lv.map (fun q => (q.1, lcV q.2))
def lset (lv : Lc) (i : Nat) (v : Int32 ⊕ Option Nat) : Lc := (i, v) :: lv.filter (fun q => !(q.1 == i))
def lpick (lv : Lc) (ks : List Nat) : Lc := ks.filterMap (fun k => lv[k]?)
theorem lvV_at {ls : Array Slot} {nL : Nat} {lv : Lc} (h : lv_has ls nL (lvV lv)) (j : Nat) {i : Nat} {v : Int32 ⊕ Option Nat} (hj : lv[j]? = some (i, v)) : ls[i]? = some (.val (lcV v)) :=
  lv_at h j (by rw [lvV, List.getElem?_map, hj]; rfl)
theorem lcV_cat {v : Int32 ⊕ Option Nat} : (lcV v).category = 1 := by
  cases v with
  | inl x => rfl
  | inr r => cases r <;> rfl
theorem lvV_set {lv lv' : Lc} {i : Nat} {v : Int32 ⊕ Option Nat} (h : lset lv i v = lv') : (i, lcV v) :: (lvV lv).filter (fun q => !(q.1 == i) && !(q.1 + 1 == i && q.2.category == 2)) = lvV lv' := by
  subst h
  show _ = (i, lcV v) :: (lv.filter (fun q => !(q.1 == i))).map (fun q => (q.1, lcV q.2))
  rw [lvV, List.filter_map]
  congr 2
  apply List.filter_congr
  intro q _
  simp [Function.comp, lcV_cat]
theorem lvV_pick {lv lv' : Lc} {ks : List Nat} (h : lpick lv ks = lv') : lv_pick (lvV lv) ks = lvV lv' := by
  subst h
  show ks.filterMap (fun k => (lvV lv)[k]?) = (ks.filterMap (fun k => lv[k]?)).map _
  rw [List.map_filterMap]
  congr 1
  funext k
  rw [lvV, List.getElem?_map]
/-- the judgement: at pc, with these locals and this stack, in any heap that holds the world -/
def Gw (l : Launch) (G : GT) (L0 : Nat) (p : Program) (e : Env) (R : Room) (s : State) (m : MethodId) (args : Array Value) (below : List Frame) (meth : Method) (c : Code) (nL : Nat) (cells slots : Nat) (Q : State → Prop) (w : Wd) (pc : Nat) (lv : Lc) (st : List Value) : Prop :=
  ∀ (H : Heap) (locs : List Loc) (ls : Array Slot), GWd G L0 w H → va_S (GA L0) s.heap H locs → lv_has ls nL (lvV lv) → W p l e R s m args below meth c H locs cells slots Q (F0 m pc ls st)
theorem gw_set {G : GT} {L0 : Nat} {w w1 : Wd} {H H1 H0 : Heap} {L : List Nat} {locs locs1 : List Loc} {k0 a : Nat} {e : va_E} (hL : ∀ b, b ∈ L ↔ (w.K b ≠ 0 ∧ w.K b ≠ 15)) (hD : va_D (GA L0) ([] ++ va_pl L (fun b => wE G w (w.K b) b))) (haL : a ∈ L)
    (hk0 : ([] ++ va_pl L (fun b => wE G w (w.K b) b))[k0]? = some (a, wE G w (w.K a) a)) (h15 : gE15 G L0 w H) (h0 : L0 ≤ H0.size) (hS : va_S (GA L0) H0 H locs) (hS1 : va_S (GA L0) H0 H1 locs1)
    (hP1 : va_P G.1 vwCl (([] ++ va_pl L (fun b => wE G w (w.K b) b)).set k0 (a, e)) H1) (hD1 : va_D (GA L0) (([] ++ va_pl L (fun b => wE G w (w.K b) b)).set k0 (a, e))) (hK : w1.K = w.K) (hN : w1.N = w.N) (hE : e = wE G w1 (w.K a) a) (ho : ∀ b, b ≠ a → wE G w1 (w.K b) b = wE G w (w.K b) b) : GWd G L0 w1 H1 := by
  have hf : ∀ b, va_up (fun b => wE G w (w.K b) b) a e b = wE G w1 (w1.K b) b := by
    intro b
    rw [hK]
    by_cases hb : b = a
    · subst hb; rw [va_up_self]; exact hE
    · rw [va_up_ne _ _ hb]; exact (ho b hb).symm
  rw [va_pl_set hD haL hk0, va_pl_congr hf] at hP1 hD1
  obtain ⟨h0', h1, h2, h3⟩ := h15
  have hbA : ¬ GA L0 G.2.2.2.2.2 := Nat.not_le.mpr h2
  have hb0 : G.2.2.2.2.2 < H0.size := Nat.lt_of_lt_of_le h2 h0
  exact ⟨L, fun b => by rw [hK]; exact hL b, hP1, hD1, fun b => by rw [hK]; exact h0' b, by rw [hN]; exact h1, h2, h3.kept ((hS1.2.1 _ hb0 hbA).trans (hS.2.1 _ hb0 hbA).symm)⟩
theorem gw_push {G : GT} {L0 : Nat} {w w1 : Wd} {H H1 H0 : Heap} {L : List Nat} {locs locs1 : List Loc} {a : Nat} {e : va_E} (hL : ∀ b, b ∈ L ↔ (w.K b ≠ 0 ∧ w.K b ≠ 15)) (haL : a ∉ L) (h15 : gE15 G L0 w H) (h0 : L0 ≤ H0.size) (hS : va_S (GA L0) H0 H locs) (hS1 : va_S (GA L0) H0 H1 locs1) (haA : L0 ≤ a)
    (hP1 : va_P G.1 vwCl (([] ++ va_pl L (fun b => wE G w (w.K b) b)) ++ [(a, e)]) H1) (hD1 : va_D (GA L0) (([] ++ va_pl L (fun b => wE G w (w.K b) b)) ++ [(a, e)])) {k : Nat} (hk : k ≠ 0 ∧ k ≠ 15) (hK : ∀ b, w1.K b = va_up w.K a k b) (hN : ∀ b, b ≠ a → w1.N b = w.N b) (hE : e = wE G w1 k a) (ho : ∀ b, b ≠ a → wE G w1 (w.K b) b = wE G w (w.K b) b) : GWd G L0 w1 H1 := by
  have hf : ∀ b, va_up (fun b => wE G w (w.K b) b) a e b = wE G w1 (w1.K b) b := by
    intro b
    rw [hK]
    by_cases hb : b = a
    · subst hb; rw [va_up_self, va_up_self]; exact hE
    · rw [va_up_ne _ _ hb, va_up_ne _ _ hb]; exact (ho b hb).symm
  rw [List.nil_append, va_pl_push haL, va_pl_congr hf] at hP1 hD1
  obtain ⟨h0', h1, h2, h3⟩ := h15
  have hbA : ¬ GA L0 G.2.2.2.2.2 := Nat.not_le.mpr h2
  have hb0 : G.2.2.2.2.2 < H0.size := Nat.lt_of_lt_of_le h2 h0
  have hea : G.2.2.2.2.2 ≠ a := by omega
  refine ⟨L ++ [a], fun b => ?_, hP1, hD1, fun b => ?_, by rw [hN _ hea]; exact h1, h2, h3.kept ((hS1.2.1 _ hb0 hbA).trans (hS.2.1 _ hb0 hbA).symm)⟩
  · rw [hK, List.mem_append, List.mem_singleton]
    by_cases hb : b = a
    · subst hb; rw [va_up_self]; exact ⟨fun _ => hk, fun _ => Or.inr rfl⟩
    · rw [va_up_ne _ _ hb, ← hL b]
      exact ⟨fun h => h.elim id (fun h => absurd h hb), Or.inl⟩
  · rw [hK]
    by_cases hb : b = a
    · subst hb; rw [va_up_self]; exact ⟨fun h => absurd h hk.2, fun h => absurd h.symm hea⟩
    · rw [va_up_ne _ _ hb]; exact h0' b
theorem gw_new {A : Nat → Prop} {L : List Nat} {f : Nat → va_E} {a : Nat} {e : va_E} (h : va_D A (([] ++ va_pl L f) ++ [(a, e)])) : a ∉ L ∧ A a := by
  have hl : (([] ++ va_pl L f) ++ [(a, e)])[([] ++ va_pl L f).length]? = some (a, e) := by simp
  refine ⟨fun ha => ?_, h.2 _ _ hl⟩
  obtain ⟨k, hk⟩ := va_pl_get (X := []) (f := f) ha
  have hk1 := (List.getElem?_eq_some_iff.mp hk).1
  have hk2 : (([] ++ va_pl L f) ++ [(a, e)])[k]? = some (a, f a) := by rw [List.getElem?_append_left hk1]; exact hk
  have := h.1 _ _ _ _ hk2 hl rfl
  omega
theorem gw_at {G : GT} {L0 : Nat} {w : Wd} {H : Heap} {a : Nat} (hG : GWd G L0 w H) (hk : w.K a ≠ 0 ∧ w.K a ≠ 15) : va_at G.1 vwCl (a, wE G w (w.K a) a) H := by
  obtain ⟨L, hL, hP, -⟩ := hG
  obtain ⟨k0, hk0⟩ := va_pl_get (X := []) (f := fun b => wE G w (w.K b) b) ((hL a).mpr hk)
  exact hP k0 _ hk0
theorem gw_one {G : GT} {L0 : Nat} {w : Wd} {H : Heap} {a : Nat} {ee : va_E} (hG : GWd G L0 w H) {k : Nat} (hk : w.K a = k) (h0 : k ≠ 0 ∧ k ≠ 15) (he : wE G w k a = ee) : va_P G.1 vwCl [(a, ee)] H := by
  intro i q hi
  have hz : i < 1 := (List.getElem?_eq_some_iff.mp hi).1
  rw [show i = 0 by omega] at hi
  cases hi
  have h := gw_at hG (a := a) (by rw [hk]; exact h0)
  rw [hk, he] at h
  exact h
-- how other cells' pictures stay
theorem wE_I {G : GT} {w : Wd} {f a b k : Nat} {v : Int32} (h : b ≠ a) : wE G (w.setI f a v) k b = wE G w k b := by
  show shp G k (fun g => up2 w.I f a v g b) _ _ _ _ _ = _
  rw [show (fun g => up2 w.I f a v g b) = fun g => w.I g b from funext fun g => by simp [up2, h]]
  rfl
theorem wE_R {G : GT} {w : Wd} {f a b k : Nat} {v : Option Nat} (h : b ≠ a) : wE G (w.setR f a v) k b = wE G w k b := by
  show shp G k _ (fun g => up2 w.R f a v g b) _ _ _ _ = _
  rw [show (fun g => up2 w.R f a v g b) = fun g => w.R g b from funext fun g => by simp [up2, h]]
  rfl
theorem wE_A {G : GT} {w : Wd} {a b k j : Nat} {v : Int32} (h : b ≠ a) : wE G (w.setA a j v) k b = wE G w k b := by
  show shp G k _ _ _ (up2 w.A a j v b) _ _ = _
  rw [show up2 w.A a j v b = w.A b from funext fun g => by simp [up2, h]]
  rfl
theorem wE_O {G : GT} {w : Wd} {a b k j : Nat} {v : Option Nat} (h : b ≠ a) : wE G (w.setO a j v) k b = wE G w k b := by
  show shp G k _ _ _ _ (up2 w.O a j v b) _ = _
  rw [show up2 w.O a j v b = w.O b from funext fun g => by simp [up2, h]]
  rfl
theorem wE_J {G : GT} {w : Wd} {a b k j : Nat} {v : Int64} (h : b ≠ a) : wE G (w.setJ a j v) k b = wE G w k b := by
  show shp G k _ _ _ _ _ (up2 w.J a j v b) = _
  rw [show up2 w.J a j v b = w.J b from funext fun g => by simp [up2, h]]
  rfl
theorem wE_C {G : GT} {w : Wd} {a a2 b k sp dp n : Nat} (h : b ≠ a) : wE G (w.cpO a2 a sp dp n) k b = wE G w k b := by
  show shp G k _ _ _ _ (va_up w.O a _ b) _ = _
  rw [va_up_ne _ _ h]
  rfl
theorem wE_n {G : GT} {w : Wd} {a b k k1 : Nat} (h : b ≠ a) : wE G (w.new k1 a) k b = wE G w k b := by
  show shp G k (fun g => if b = a then 0 else w.I g b) (fun g => if b = a then none else w.R g b) _ _ _ _ = _
  simp only [if_neg h]
  rfl
theorem wE_nA {G : GT} {w : Wd} {a b k k1 n : Nat} (h : b ≠ a) : wE G (w.newA k1 a n) k b = wE G w k b := by
  show shp G k _ _ (va_up w.N a n b) (fun j => if b = a then 0 else w.A b j) (fun j => if b = a then none else w.O b j) (fun j => if b = a then 0 else w.J b j) = _
  simp only [if_neg h]
  rw [va_up_ne _ _ h]
  rfl
end
section
section GR
variable {l : Launch} {G : GT} {L0 : Nat} {p : Program} {e : Env} {R : Room} {s : State} {m : MethodId} {args : Array Value} {below : List Frame} {meth : Method} {c : Code} {cc : ByteArray} {nL : Nat} {own : String} {cells slots : Nat} {Q : State → Prop} {w : Wd} {pc : Nat} {lv : Lc} {st : List Value}
-- ===== locals, stack, arithmetic
theorem g_iload_n (X : GC l G L0 p s m args meth c cc nL own) {k : Fin 4} {i : Nat} {x : Int32} (hd : decode cc pc = .ok (.iload_n k, 1)) (hi : (k : Nat) = i) (j : Nat) (hj : lv[j]? = some (i, .inl x))
    (kk : Gw l G L0 p e R s m args below meth c nL cells slots Q w (pc + 1) lv (.int x :: st)) : Gw l G L0 p e R s m args below meth c nL cells slots Q w pc lv st :=
  fun H locs ls hG hS hl => lv_iload_n X.1.1 X.1.2.1 hd hi (lvV_at hl j hj) (kk H locs ls hG hS hl)
theorem g_iload (X : GC l G L0 p s m args meth c cc nL own) {i : Nat} {x : Int32} (hd : decode cc pc = .ok (.iload i, 2)) (j : Nat) (hj : lv[j]? = some (i, .inl x))
    (kk : Gw l G L0 p e R s m args below meth c nL cells slots Q w (pc + 2) lv (.int x :: st)) : Gw l G L0 p e R s m args below meth c nL cells slots Q w pc lv st :=
  fun H locs ls hG hS hl => lv_iload X.1.1 X.1.2.1 hd (lvV_at hl j hj) (kk H locs ls hG hS hl)
theorem g_aload_n (X : GC l G L0 p s m args meth c cc nL own) {k : Fin 4} {i : Nat} {r : Option Nat} (hd : decode cc pc = .ok (.aload_n k, 1)) (hi : (k : Nat) = i) (j : Nat) (hj : lv[j]? = some (i, .inr r))
    (kk : Gw l G L0 p e R s m args below meth c nL cells slots Q w (pc + 1) lv (va_rf r :: st)) : Gw l G L0 p e R s m args below meth c nL cells slots Q w pc lv st := by
  intro H locs ls hG hS hl
  have h1 := lvV_at hl j hj
  cases r with
  | none => exact lv_aload_nN X.1.1 X.1.2.1 hd hi h1 (kk H locs ls hG hS hl)
  | some a => exact lv_aload_n X.1.1 X.1.2.1 hd hi h1 (kk H locs ls hG hS hl)
theorem g_aload (X : GC l G L0 p s m args meth c cc nL own) {i : Nat} {r : Option Nat} (hd : decode cc pc = .ok (.aload i, 2)) (j : Nat) (hj : lv[j]? = some (i, .inr r))
    (kk : Gw l G L0 p e R s m args below meth c nL cells slots Q w (pc + 2) lv (va_rf r :: st)) : Gw l G L0 p e R s m args below meth c nL cells slots Q w pc lv st := by
  intro H locs ls hG hS hl
  have h1 := lvV_at hl j hj
  cases r with
  | none => exact lv_aloadN X.1.1 X.1.2.1 hd h1 (kk H locs ls hG hS hl)
  | some a => exact lv_aload X.1.1 X.1.2.1 hd h1 (kk H locs ls hG hS hl)
theorem g_istore_n (X : GC l G L0 p s m args meth c cc nL own) {k : Fin 4} {i : Nat} {x : Int32} (lv' : Lc) (hd : decode cc pc = .ok (.istore_n k, 1)) (hi : (k : Nat) = i) (hn : i < nL) (hl' : lset lv i (.inl x) = lv')
    (kk : Gw l G L0 p e R s m args below meth c nL cells slots Q w (pc + 1) lv' st) : Gw l G L0 p e R s m args below meth c nL cells slots Q w pc lv (.int x :: st) :=
  fun H locs _ hG hS hl => lv_istore_n X.1.1 X.1.2.1 hd hi hl hn (lvV_set hl') (fun ls' h' => kk H locs ls' hG hS h')
theorem g_istore (X : GC l G L0 p s m args meth c cc nL own) {i : Nat} {x : Int32} (lv' : Lc) (hd : decode cc pc = .ok (.istore i, 2)) (hn : i < nL) (hl' : lset lv i (.inl x) = lv')
    (kk : Gw l G L0 p e R s m args below meth c nL cells slots Q w (pc + 2) lv' st) : Gw l G L0 p e R s m args below meth c nL cells slots Q w pc lv (.int x :: st) :=
  fun H locs _ hG hS hl => lv_istore X.1.1 X.1.2.1 hd hl hn (lvV_set hl') (fun ls' h' => kk H locs ls' hG hS h')
theorem g_astore_n (X : GC l G L0 p s m args meth c cc nL own) {k : Fin 4} {i : Nat} {r : Option Nat} (lv' : Lc) (hd : decode cc pc = .ok (.astore_n k, 1)) (hi : (k : Nat) = i) (hn : i < nL) (hl' : lset lv i (.inr r) = lv')
    (kk : Gw l G L0 p e R s m args below meth c nL cells slots Q w (pc + 1) lv' st) : Gw l G L0 p e R s m args below meth c nL cells slots Q w pc lv (va_rf r :: st) := by
  intro H locs _ hG hS hl
  have h1 := lvV_set hl'
  cases r with
  | none => exact lv_astore_nN X.1.1 X.1.2.1 hd hi hl hn h1 (fun ls' h' => kk H locs ls' hG hS h')
  | some a => exact lv_astore_n X.1.1 X.1.2.1 hd hi hl hn h1 (fun ls' h' => kk H locs ls' hG hS h')
theorem g_astore (X : GC l G L0 p s m args meth c cc nL own) {i : Nat} {r : Option Nat} (lv' : Lc) (hd : decode cc pc = .ok (.astore i, 2)) (hn : i < nL) (hl' : lset lv i (.inr r) = lv')
    (kk : Gw l G L0 p e R s m args below meth c nL cells slots Q w (pc + 2) lv' st) : Gw l G L0 p e R s m args below meth c nL cells slots Q w pc lv (va_rf r :: st) := by
  intro H locs _ hG hS hl
  have h1 := lvV_set hl'
  cases r with
  | none => exact lv_astoreN X.1.1 X.1.2.1 hd hl hn h1 (fun ls' h' => kk H locs ls' hG hS h')
  | some a => exact lv_astore X.1.1 X.1.2.1 hd hl hn h1 (fun ls' h' => kk H locs ls' hG hS h')
theorem g_iinc (X : GC l G L0 p s m args meth c cc nL own) {i : Nat} {n : Int} {x d : Int32} (hd : decode cc pc = .ok (.iinc i n, 3)) (j : Nat) (hj : lv[j]? = some (i, .inl x)) (hv : Int32.ofInt n = d) (hn : i < nL)
    (kk : ∀ v : Int32, v = x + d → Gw l G L0 p e R s m args below meth c nL cells slots Q w (pc + 3) (lset lv i (.inl v)) st) : Gw l G L0 p e R s m args below meth c nL cells slots Q w pc lv st := by
  intro H locs _ hG hS hl
  have hj1 : (lvV lv)[j]? = some (i, .int x) := by rw [lvV, List.getElem?_map, hj]; rfl
  exact lv_iinc X.1.1 X.1.2.1 hd hl hj1 (v := x + d) (by rw [hv]) hn (lvV_set (lv := lv) (i := i) (v := .inl (x + d)) rfl) (fun ls' h' => kk _ rfl H locs ls' hG hS h')
/-- the same locals in another order, or fewer -/
theorem g_sub (ks : List Nat) (lv' : Lc) (h : lpick lv ks = lv') (kk : Gw l G L0 p e R s m args below meth c nL cells slots Q w pc lv' st) : Gw l G L0 p e R s m args below meth c nL cells slots Q w pc lv st :=
  fun H locs ls hG hS hl => kk H locs ls hG hS (lv_sub hl ks (lvV_pick h))
theorem g_widen {c2 s2 : Nat} (h1 : cells ≤ c2) (h2 : slots ≤ s2) (kk : Gw l G L0 p e R s m args below meth c nL c2 s2 Q w pc lv st) : Gw l G L0 p e R s m args below meth c nL cells slots Q w pc lv st :=
  fun H locs ls hG hS hl => W.widen h1 h2 (kk H locs ls hG hS hl)
theorem g_iconst (X : GC l G L0 p s m args meth c cc nL own) {n : Int} {v : Int32} (hd : decode cc pc = .ok (.iconst n, 1)) (hv : Int32.ofInt n = v)
    (kk : Gw l G L0 p e R s m args below meth c nL cells slots Q w (pc + 1) lv (.int v :: st)) : Gw l G L0 p e R s m args below meth c nL cells slots Q w pc lv st :=
  fun H locs ls hG hS hl => lv_iconst X.1.1 X.1.2.1 hd hv (kk H locs ls hG hS hl)
theorem g_bipush (X : GC l G L0 p s m args meth c cc nL own) {n : Int} {v : Int32} (hd : decode cc pc = .ok (.bipush n, 2)) (hv : (Int8.ofInt n).toInt32 = v)
    (kk : Gw l G L0 p e R s m args below meth c nL cells slots Q w (pc + 2) lv (.int v :: st)) : Gw l G L0 p e R s m args below meth c nL cells slots Q w pc lv st :=
  fun H locs ls hG hS hl => lv_bipush X.1.1 X.1.2.1 hd hv (kk H locs ls hG hS hl)
theorem g_sipush (X : GC l G L0 p s m args meth c cc nL own) {n : Int} {v : Int32} (hd : decode cc pc = .ok (.sipush n, 3)) (hv : (Int16.ofInt n).toInt32 = v)
    (kk : Gw l G L0 p e R s m args below meth c nL cells slots Q w (pc + 3) lv (.int v :: st)) : Gw l G L0 p e R s m args below meth c nL cells slots Q w pc lv st :=
  fun H locs ls hG hS hl => lv_sipush X.1.1 X.1.2.1 hd hv (kk H locs ls hG hS hl)
theorem g_ldc (X : GC l G L0 p s m args meth c cc nL own) {index : Nat} {v : Int32} (hw : Cond.constant own index v ∈ wAll) (hd : decode cc pc = .ok (.ldc index, 2))
    (kk : Gw l G L0 p e R s m args below meth c nL cells slots Q w (pc + 2) lv (.int v :: st)) : Gw l G L0 p e R s m args below meth c nL cells slots Q w pc lv st :=
  fun H locs ls hG hS hl => lv_ldc X.1.1 X.1.2.1 X.1.2.2.2.1 (X.1.2.2.2.2 _ hw) hd (kk H locs ls hG hS hl)
theorem g_ldcw (X : GC l G L0 p s m args meth c cc nL own) {index : Nat} {v : Int32} (hw : Cond.constant own index v ∈ wAll) (hd : decode cc pc = .ok (.ldc_w index, 3))
    (kk : Gw l G L0 p e R s m args below meth c nL cells slots Q w (pc + 3) lv (.int v :: st)) : Gw l G L0 p e R s m args below meth c nL cells slots Q w pc lv st :=
  fun H locs ls hG hS hl => lv_ldcw X.1.1 X.1.2.1 X.1.2.2.2.1 (X.1.2.2.2.2 _ hw) hd (kk H locs ls hG hS hl)
theorem g_null (X : GC l G L0 p s m args meth c cc nL own) (hd : decode cc pc = .ok (.aconst_null, 1))
    (kk : Gw l G L0 p e R s m args below meth c nL cells slots Q w (pc + 1) lv (va_rf none :: st)) : Gw l G L0 p e R s m args below meth c nL cells slots Q w pc lv st :=
  fun H locs ls hG hS hl => lv_null X.1.1 X.1.2.1 hd (kk H locs ls hG hS hl)
theorem g_iadd (X : GC l G L0 p s m args meth c cc nL own) {x y : Int32} (hd : decode cc pc = .ok (.iadd, 1))
    (kk : ∀ v : Int32, v = x + y → Gw l G L0 p e R s m args below meth c nL cells slots Q w (pc + 1) lv (.int v :: st)) : Gw l G L0 p e R s m args below meth c nL cells slots Q w pc lv (.int y :: .int x :: st) :=
  fun H locs ls hG hS hl => lv_iadd X.1.1 X.1.2.1 hd (kk _ rfl H locs ls hG hS hl)
theorem g_isub (X : GC l G L0 p s m args meth c cc nL own) {x y : Int32} (hd : decode cc pc = .ok (.isub, 1))
    (kk : ∀ v : Int32, v = x - y → Gw l G L0 p e R s m args below meth c nL cells slots Q w (pc + 1) lv (.int v :: st)) : Gw l G L0 p e R s m args below meth c nL cells slots Q w pc lv (.int y :: .int x :: st) :=
  fun H locs ls hG hS hl => lv_isub X.1.1 X.1.2.1 hd (kk _ rfl H locs ls hG hS hl)
theorem g_imul (X : GC l G L0 p s m args meth c cc nL own) {x y : Int32} (hd : decode cc pc = .ok (.imul, 1))
    (kk : ∀ v : Int32, v = x * y → Gw l G L0 p e R s m args below meth c nL cells slots Q w (pc + 1) lv (.int v :: st)) : Gw l G L0 p e R s m args below meth c nL cells slots Q w pc lv (.int y :: .int x :: st) :=
  fun H locs ls hG hS hl => lv_imul X.1.1 X.1.2.1 hd (kk _ rfl H locs ls hG hS hl)
theorem g_iand (X : GC l G L0 p s m args meth c cc nL own) {x y : Int32} (hd : decode cc pc = .ok (.iand, 1))
    (kk : ∀ v : Int32, v = x &&& y → Gw l G L0 p e R s m args below meth c nL cells slots Q w (pc + 1) lv (.int v :: st)) : Gw l G L0 p e R s m args below meth c nL cells slots Q w pc lv (.int y :: .int x :: st) :=
  fun H locs ls hG hS hl => lv_iand X.1.1 X.1.2.1 hd (kk _ rfl H locs ls hG hS hl)
theorem g_ishr (X : GC l G L0 p s m args meth c cc nL own) {x y : Int32} (hd : decode cc pc = .ok (.ishr, 1))
    (kk : ∀ v : Int32, v = x >>> (y &&& 31) → Gw l G L0 p e R s m args below meth c nL cells slots Q w (pc + 1) lv (.int v :: st)) : Gw l G L0 p e R s m args below meth c nL cells slots Q w pc lv (.int y :: .int x :: st) :=
  fun H locs ls hG hS hl => lv_ishr X.1.1 X.1.2.1 hd (kk _ rfl H locs ls hG hS hl)
theorem g_idiv (X : GC l G L0 p s m args meth c cc nL own) {x y : Int32} (hd : decode cc pc = .ok (.idiv, 1)) (hne : ¬ y = 0)
    (kk : ∀ v : Int32, v = x / y → Gw l G L0 p e R s m args below meth c nL cells slots Q w (pc + 1) lv (.int v :: st)) : Gw l G L0 p e R s m args below meth c nL cells slots Q w pc lv (.int y :: .int x :: st) :=
  fun H locs ls hG hS hl => lv_idiv X.1.1 X.1.2.1 hd hne (kk _ rfl H locs ls hG hS hl)
theorem g_irem (X : GC l G L0 p s m args meth c cc nL own) {x y : Int32} (hd : decode cc pc = .ok (.irem, 1)) (hne : ¬ y = 0)
    (kk : ∀ v : Int32, v = x - x / y * y → Gw l G L0 p e R s m args below meth c nL cells slots Q w (pc + 1) lv (.int v :: st)) : Gw l G L0 p e R s m args below meth c nL cells slots Q w pc lv (.int y :: .int x :: st) :=
  fun H locs ls hG hS hl => lv_irem X.1.1 X.1.2.1 hd hne (kk _ rfl H locs ls hG hS hl)
theorem g_ineg (X : GC l G L0 p s m args meth c cc nL own) {x : Int32} (hd : decode cc pc = .ok (.ineg, 1))
    (kk : ∀ v : Int32, v = -x → Gw l G L0 p e R s m args below meth c nL cells slots Q w (pc + 1) lv (.int v :: st)) : Gw l G L0 p e R s m args below meth c nL cells slots Q w pc lv (.int x :: st) :=
  fun H locs ls hG hS hl => lv_ineg X.1.1 X.1.2.1 hd (kk _ rfl H locs ls hG hS hl)
theorem g_i2l (X : GC l G L0 p s m args meth c cc nL own) {x : Int32} (hd : decode cc pc = .ok (.i2l, 1))
    (kk : Gw l G L0 p e R s m args below meth c nL cells slots Q w (pc + 1) lv (.long x.toInt64 :: st)) : Gw l G L0 p e R s m args below meth c nL cells slots Q w pc lv (.int x :: st) :=
  fun H locs ls hG hS hl => lv_i2l X.1.1 X.1.2.1 hd rfl (kk H locs ls hG hS hl)
theorem g_dup (X : GC l G L0 p s m args meth c cc nL own) {v : Value} (hd : decode cc pc = .ok (.dup, 1)) (hv : v.category = 1)
    (kk : Gw l G L0 p e R s m args below meth c nL cells slots Q w (pc + 1) lv (v :: v :: st)) : Gw l G L0 p e R s m args below meth c nL cells slots Q w pc lv (v :: st) :=
  fun H locs ls hG hS hl => lv_dup X.1.1 X.1.2.1 hd hv (kk H locs ls hG hS hl)
theorem g_pop (X : GC l G L0 p s m args meth c cc nL own) {v : Value} (hd : decode cc pc = .ok (.pop, 1)) (hv : v.category = 1)
    (kk : Gw l G L0 p e R s m args below meth c nL cells slots Q w (pc + 1) lv st) : Gw l G L0 p e R s m args below meth c nL cells slots Q w pc lv (v :: st) :=
  fun H locs ls hG hS hl => lv_pop X.1.1 X.1.2.1 hd hv (kk H locs ls hG hS hl)
theorem g_dup2 (X : GC l G L0 p s m args meth c cc nL own) {v u : Value} (hd : decode cc pc = .ok (.dup2, 1)) (hv : v.category = 1) (hu : u.category = 1)
    (kk : Gw l G L0 p e R s m args below meth c nL cells slots Q w (pc + 1) lv (v :: u :: v :: u :: st)) : Gw l G L0 p e R s m args below meth c nL cells slots Q w pc lv (v :: u :: st) :=
  fun H locs ls hG hS hl => lv_dup2_11 X.1.1 X.1.2.1 hd hv hu (kk H locs ls hG hS hl)
theorem g_dup_x1 (X : GC l G L0 p s m args meth c cc nL own) {v u : Value} (hd : decode cc pc = .ok (.dup_x1, 1)) (hv : v.category = 1) (hu : u.category = 1)
    (kk : Gw l G L0 p e R s m args below meth c nL cells slots Q w (pc + 1) lv (v :: u :: v :: st)) : Gw l G L0 p e R s m args below meth c nL cells slots Q w pc lv (v :: u :: st) :=
  fun H locs ls hG hS hl => lv_dup_x1 X.1.1 X.1.2.1 hd hv hu (kk H locs ls hG hS hl)
theorem rf_cat {r : Option Nat} : (va_rf r).category = 1 := by cases r <;> rfl
-- ===== branches
theorem g_if_eq (X : GC l G L0 p s m args meth c cc nL own) {x : Int32} {off : Int} {tgt : Nat} (hd : decode cc pc = .ok (.ifCond .eq off, 3)) (ht : (pc : Int) + off = (tgt : Int))
    (kt : x = 0 → Gw l G L0 p e R s m args below meth c nL cells slots Q w tgt lv st) (kf : ¬ x = 0 → Gw l G L0 p e R s m args below meth c nL cells slots Q w (pc + 3) lv st) : Gw l G L0 p e R s m args below meth c nL cells slots Q w pc lv (.int x :: st) :=
  fun H locs ls hG hS hl => lv_if_eq X.1.1 X.1.2.1 hd ht (fun h => kt h H locs ls hG hS hl) (fun h => kf h H locs ls hG hS hl)
theorem g_icmp_eq (X : GC l G L0 p s m args meth c cc nL own) {x y : Int32} {off : Int} {tgt : Nat} (hd : decode cc pc = .ok (.if_icmp .eq off, 3)) (ht : (pc : Int) + off = (tgt : Int))
    (kt : x = y → Gw l G L0 p e R s m args below meth c nL cells slots Q w tgt lv st) (kf : ¬ x = y → Gw l G L0 p e R s m args below meth c nL cells slots Q w (pc + 3) lv st) : Gw l G L0 p e R s m args below meth c nL cells slots Q w pc lv (.int y :: .int x :: st) :=
  fun H locs ls hG hS hl => lv_icmp_eq X.1.1 X.1.2.1 hd ht (fun h => kt h H locs ls hG hS hl) (fun h => kf h H locs ls hG hS hl)
theorem g_if_ne (X : GC l G L0 p s m args meth c cc nL own) {x : Int32} {off : Int} {tgt : Nat} (hd : decode cc pc = .ok (.ifCond .ne off, 3)) (ht : (pc : Int) + off = (tgt : Int))
    (kt : ¬ x = 0 → Gw l G L0 p e R s m args below meth c nL cells slots Q w tgt lv st) (kf : x = 0 → Gw l G L0 p e R s m args below meth c nL cells slots Q w (pc + 3) lv st) : Gw l G L0 p e R s m args below meth c nL cells slots Q w pc lv (.int x :: st) :=
  fun H locs ls hG hS hl => lv_if_ne X.1.1 X.1.2.1 hd ht (fun h => kt h H locs ls hG hS hl) (fun h => kf h H locs ls hG hS hl)
theorem g_icmp_ne (X : GC l G L0 p s m args meth c cc nL own) {x y : Int32} {off : Int} {tgt : Nat} (hd : decode cc pc = .ok (.if_icmp .ne off, 3)) (ht : (pc : Int) + off = (tgt : Int))
    (kt : ¬ x = y → Gw l G L0 p e R s m args below meth c nL cells slots Q w tgt lv st) (kf : x = y → Gw l G L0 p e R s m args below meth c nL cells slots Q w (pc + 3) lv st) : Gw l G L0 p e R s m args below meth c nL cells slots Q w pc lv (.int y :: .int x :: st) :=
  fun H locs ls hG hS hl => lv_icmp_ne X.1.1 X.1.2.1 hd ht (fun h => kt h H locs ls hG hS hl) (fun h => kf h H locs ls hG hS hl)
theorem g_if_lt (X : GC l G L0 p s m args meth c cc nL own) {x : Int32} {off : Int} {tgt : Nat} (hd : decode cc pc = .ok (.ifCond .lt off, 3)) (ht : (pc : Int) + off = (tgt : Int))
    (kt : x < 0 → Gw l G L0 p e R s m args below meth c nL cells slots Q w tgt lv st) (kf : ¬ x < 0 → Gw l G L0 p e R s m args below meth c nL cells slots Q w (pc + 3) lv st) : Gw l G L0 p e R s m args below meth c nL cells slots Q w pc lv (.int x :: st) :=
  fun H locs ls hG hS hl => lv_if_lt X.1.1 X.1.2.1 hd ht (fun h => kt h H locs ls hG hS hl) (fun h => kf h H locs ls hG hS hl)
theorem g_icmp_lt (X : GC l G L0 p s m args meth c cc nL own) {x y : Int32} {off : Int} {tgt : Nat} (hd : decode cc pc = .ok (.if_icmp .lt off, 3)) (ht : (pc : Int) + off = (tgt : Int))
    (kt : x < y → Gw l G L0 p e R s m args below meth c nL cells slots Q w tgt lv st) (kf : ¬ x < y → Gw l G L0 p e R s m args below meth c nL cells slots Q w (pc + 3) lv st) : Gw l G L0 p e R s m args below meth c nL cells slots Q w pc lv (.int y :: .int x :: st) :=
  fun H locs ls hG hS hl => lv_icmp_lt X.1.1 X.1.2.1 hd ht (fun h => kt h H locs ls hG hS hl) (fun h => kf h H locs ls hG hS hl)
theorem g_if_ge (X : GC l G L0 p s m args meth c cc nL own) {x : Int32} {off : Int} {tgt : Nat} (hd : decode cc pc = .ok (.ifCond .ge off, 3)) (ht : (pc : Int) + off = (tgt : Int))
    (kt : 0 ≤ x → Gw l G L0 p e R s m args below meth c nL cells slots Q w tgt lv st) (kf : ¬ 0 ≤ x → Gw l G L0 p e R s m args below meth c nL cells slots Q w (pc + 3) lv st) : Gw l G L0 p e R s m args below meth c nL cells slots Q w pc lv (.int x :: st) :=
  fun H locs ls hG hS hl => lv_if_ge X.1.1 X.1.2.1 hd ht (fun h => kt h H locs ls hG hS hl) (fun h => kf h H locs ls hG hS hl)
theorem g_icmp_ge (X : GC l G L0 p s m args meth c cc nL own) {x y : Int32} {off : Int} {tgt : Nat} (hd : decode cc pc = .ok (.if_icmp .ge off, 3)) (ht : (pc : Int) + off = (tgt : Int))
    (kt : y ≤ x → Gw l G L0 p e R s m args below meth c nL cells slots Q w tgt lv st) (kf : ¬ y ≤ x → Gw l G L0 p e R s m args below meth c nL cells slots Q w (pc + 3) lv st) : Gw l G L0 p e R s m args below meth c nL cells slots Q w pc lv (.int y :: .int x :: st) :=
  fun H locs ls hG hS hl => lv_icmp_ge X.1.1 X.1.2.1 hd ht (fun h => kt h H locs ls hG hS hl) (fun h => kf h H locs ls hG hS hl)
theorem g_if_gt (X : GC l G L0 p s m args meth c cc nL own) {x : Int32} {off : Int} {tgt : Nat} (hd : decode cc pc = .ok (.ifCond .gt off, 3)) (ht : (pc : Int) + off = (tgt : Int))
    (kt : 0 < x → Gw l G L0 p e R s m args below meth c nL cells slots Q w tgt lv st) (kf : ¬ 0 < x → Gw l G L0 p e R s m args below meth c nL cells slots Q w (pc + 3) lv st) : Gw l G L0 p e R s m args below meth c nL cells slots Q w pc lv (.int x :: st) :=
  fun H locs ls hG hS hl => lv_if_gt X.1.1 X.1.2.1 hd ht (fun h => kt h H locs ls hG hS hl) (fun h => kf h H locs ls hG hS hl)
theorem g_icmp_gt (X : GC l G L0 p s m args meth c cc nL own) {x y : Int32} {off : Int} {tgt : Nat} (hd : decode cc pc = .ok (.if_icmp .gt off, 3)) (ht : (pc : Int) + off = (tgt : Int))
    (kt : y < x → Gw l G L0 p e R s m args below meth c nL cells slots Q w tgt lv st) (kf : ¬ y < x → Gw l G L0 p e R s m args below meth c nL cells slots Q w (pc + 3) lv st) : Gw l G L0 p e R s m args below meth c nL cells slots Q w pc lv (.int y :: .int x :: st) :=
  fun H locs ls hG hS hl => lv_icmp_gt X.1.1 X.1.2.1 hd ht (fun h => kt h H locs ls hG hS hl) (fun h => kf h H locs ls hG hS hl)
theorem g_if_le (X : GC l G L0 p s m args meth c cc nL own) {x : Int32} {off : Int} {tgt : Nat} (hd : decode cc pc = .ok (.ifCond .le off, 3)) (ht : (pc : Int) + off = (tgt : Int))
    (kt : x ≤ 0 → Gw l G L0 p e R s m args below meth c nL cells slots Q w tgt lv st) (kf : ¬ x ≤ 0 → Gw l G L0 p e R s m args below meth c nL cells slots Q w (pc + 3) lv st) : Gw l G L0 p e R s m args below meth c nL cells slots Q w pc lv (.int x :: st) :=
  fun H locs ls hG hS hl => lv_if_le X.1.1 X.1.2.1 hd ht (fun h => kt h H locs ls hG hS hl) (fun h => kf h H locs ls hG hS hl)
theorem g_icmp_le (X : GC l G L0 p s m args meth c cc nL own) {x y : Int32} {off : Int} {tgt : Nat} (hd : decode cc pc = .ok (.if_icmp .le off, 3)) (ht : (pc : Int) + off = (tgt : Int))
    (kt : x ≤ y → Gw l G L0 p e R s m args below meth c nL cells slots Q w tgt lv st) (kf : ¬ x ≤ y → Gw l G L0 p e R s m args below meth c nL cells slots Q w (pc + 3) lv st) : Gw l G L0 p e R s m args below meth c nL cells slots Q w pc lv (.int y :: .int x :: st) :=
  fun H locs ls hG hS hl => lv_icmp_le X.1.1 X.1.2.1 hd ht (fun h => kt h H locs ls hG hS hl) (fun h => kf h H locs ls hG hS hl)
theorem g_goto (X : GC l G L0 p s m args meth c cc nL own) {off : Int} {tgt : Nat} (hd : decode cc pc = .ok (.goto off, 3)) (ht : (pc : Int) + off = (tgt : Int))
    (kk : Gw l G L0 p e R s m args below meth c nL cells slots Q w tgt lv st) : Gw l G L0 p e R s m args below meth c nL cells slots Q w pc lv st :=
  fun H locs ls hG hS hl => lv_goto X.1.1 X.1.2.1 hd ht (kk H locs ls hG hS hl)
theorem g_acmp_eq (X : GC l G L0 p s m args meth c cc nL own) {rx ry : Option Nat} {off : Int} {tgt : Nat} (hd : decode cc pc = .ok (.if_acmp .eq off, 3)) (ht : (pc : Int) + off = (tgt : Int))
    (kt : rx = ry → Gw l G L0 p e R s m args below meth c nL cells slots Q w tgt lv st) (kf : ¬ rx = ry → Gw l G L0 p e R s m args below meth c nL cells slots Q w (pc + 3) lv st) : Gw l G L0 p e R s m args below meth c nL cells slots Q w pc lv (va_rf ry :: va_rf rx :: st) :=
  fun H locs ls hG hS hl => lv_acmp_eq X.1.1 X.1.2.1 hd ht (fun h => kt h H locs ls hG hS hl) (fun h => kf h H locs ls hG hS hl)
theorem g_acmp_ne (X : GC l G L0 p s m args meth c cc nL own) {rx ry : Option Nat} {off : Int} {tgt : Nat} (hd : decode cc pc = .ok (.if_acmp .ne off, 3)) (ht : (pc : Int) + off = (tgt : Int))
    (kt : ¬ rx = ry → Gw l G L0 p e R s m args below meth c nL cells slots Q w tgt lv st) (kf : rx = ry → Gw l G L0 p e R s m args below meth c nL cells slots Q w (pc + 3) lv st) : Gw l G L0 p e R s m args below meth c nL cells slots Q w pc lv (va_rf ry :: va_rf rx :: st) :=
  fun H locs ls hG hS hl => lv_acmp_ne X.1.1 X.1.2.1 hd ht (fun h => kt h H locs ls hG hS hl) (fun h => kf h H locs ls hG hS hl)
theorem g_ifnull (X : GC l G L0 p s m args meth c cc nL own) {r : Option Nat} {off : Int} {tgt : Nat} (hd : decode cc pc = .ok (.ifnull off, 3)) (ht : (pc : Int) + off = (tgt : Int))
    (kt : r = none → Gw l G L0 p e R s m args below meth c nL cells slots Q w tgt lv st) (kf : ¬ r = none → Gw l G L0 p e R s m args below meth c nL cells slots Q w (pc + 3) lv st) : Gw l G L0 p e R s m args below meth c nL cells slots Q w pc lv (va_rf r :: st) := by
  intro H locs ls hG hS hl
  cases r with
  | none => exact lv_ifnullN X.1.1 X.1.2.1 hd ht (kt rfl H locs ls hG hS hl)
  | some a => exact lv_ifnull X.1.1 X.1.2.1 hd (kf (fun h => nomatch h) H locs ls hG hS hl)
theorem g_ifnonnull (X : GC l G L0 p s m args meth c cc nL own) {r : Option Nat} {off : Int} {tgt : Nat} (hd : decode cc pc = .ok (.ifnonnull off, 3)) (ht : (pc : Int) + off = (tgt : Int))
    (kt : ¬ r = none → Gw l G L0 p e R s m args below meth c nL cells slots Q w tgt lv st) (kf : r = none → Gw l G L0 p e R s m args below meth c nL cells slots Q w (pc + 3) lv st) : Gw l G L0 p e R s m args below meth c nL cells slots Q w pc lv (va_rf r :: st) := by
  intro H locs ls hG hS hl
  cases r with
  | none => exact lv_ifnonnullN X.1.1 X.1.2.1 hd (kf rfl H locs ls hG hS hl)
  | some a => exact lv_ifnonnull X.1.1 X.1.2.1 hd ht (kt (fun h => nomatch h) H locs ls hG hS hl)
theorem g_tableIn (X : GC l G L0 p s m args meth c cc nL own) {dflt lo hi : Int} {offs : Array Int} {len : Nat} {x : Int32} {off : Int} {tgt : Nat} (hd : decode cc pc = .ok (.tableswitch dflt lo hi offs, len)) (h1 : ¬ x.toInt < lo) (h2 : ¬ hi < x.toInt) (ho : offs[(x.toInt - lo).toNat]? = some off) (ht : (pc : Int) + off = (tgt : Int))
    (kk : Gw l G L0 p e R s m args below meth c nL cells slots Q w tgt lv st) : Gw l G L0 p e R s m args below meth c nL cells slots Q w pc lv (.int x :: st) :=
  fun H locs ls hG hS hl => lv_tableIn X.1.1 X.1.2.1 hd h1 h2 ho ht (kk H locs ls hG hS hl)
theorem g_tableOut (X : GC l G L0 p s m args meth c cc nL own) {dflt lo hi : Int} {offs : Array Int} {len : Nat} {x : Int32} {tgt : Nat} (hd : decode cc pc = .ok (.tableswitch dflt lo hi offs, len)) (h : x.toInt < lo ∨ hi < x.toInt) (ht : (pc : Int) + dflt = (tgt : Int))
    (kk : Gw l G L0 p e R s m args below meth c nL cells slots Q w tgt lv st) : Gw l G L0 p e R s m args below meth c nL cells slots Q w pc lv (.int x :: st) :=
  fun H locs ls hG hS hl => lv_tableOut X.1.1 X.1.2.1 hd h ht (kk H locs ls hG hS hl)
theorem g_mmin (X : GC l G L0 p s m args meth c cc nL own) {index : Nat} {x y : Int32} (h1 : Cond.methodLink own index Lib.Math.min.name ∈ wAll) (h2 : Cond.static Lib.Math.min.name ∈ wAll) (h3 : Cond.initialized "java/lang/Math" ∈ wAll) (h4 : Cond.code Lib.Math.min.name Lib.Math.min.code 2 (some .int) ∈ wAll) (hf : 1 ≤ R.frames) (hlo : (st.map fun v => v.category).sum + 13 ≤ R.locals) (hc : cells ≤ R.cells) (hs : slots ≤ R.slots) (hd : decode cc pc = .ok (.invokestatic index, 3))
    (kk : ∀ v : Int32, v = (if y < x then y else x) → Gw l G L0 p e R s m args below meth c nL cells slots Q w (pc + 3) lv (.int v :: st)) : Gw l G L0 p e R s m args below meth c nL cells slots Q w pc lv (.int y :: .int x :: st) :=
  fun H locs ls hG hS hl => va_mmin X.1.1 X.1.2.1 (X.1.2.2.1.trans hl.1.symm) X.1.2.2.2.1 (X.1.2.2.2.2 _ h1) (X.1.2.2.2.2 _ h2) (X.1.2.2.2.2 _ h3) (X.1.2.2.2.2 _ h4) hf hlo hc hs hd (kk _ rfl H locs ls hG hS hl)
theorem g_mmax (X : GC l G L0 p s m args meth c cc nL own) {index : Nat} {x y : Int32} (h1 : Cond.methodLink own index Lib.Math.max.name ∈ wAll) (h2 : Cond.static Lib.Math.max.name ∈ wAll) (h3 : Cond.initialized "java/lang/Math" ∈ wAll) (h4 : Cond.code Lib.Math.max.name Lib.Math.max.code 2 (some .int) ∈ wAll) (hf : 1 ≤ R.frames) (hlo : (st.map fun v => v.category).sum + 13 ≤ R.locals) (hc : cells ≤ R.cells) (hs : slots ≤ R.slots) (hd : decode cc pc = .ok (.invokestatic index, 3))
    (kk : ∀ v : Int32, v = (if x < y then y else x) → Gw l G L0 p e R s m args below meth c nL cells slots Q w (pc + 3) lv (.int v :: st)) : Gw l G L0 p e R s m args below meth c nL cells slots Q w pc lv (.int y :: .int x :: st) :=
  fun H locs ls hG hS hl => va_mmax X.1.1 X.1.2.1 (X.1.2.2.1.trans hl.1.symm) X.1.2.2.2.1 (X.1.2.2.2.2 _ h1) (X.1.2.2.2.2 _ h2) (X.1.2.2.2.2 _ h3) (X.1.2.2.2.2 _ h4) hf hlo hc hs hd (kk _ rfl H locs ls hG hS hl)
-- ===== fields
theorem g_get (X : GC l G L0 p s m args meth c cc nL own) {C : String} {T : u_T} {N ci k j index a : Nat} {fs : List Value} {v : Value} (hin : ∀ x ∈ u_ws C T N, x ∈ wAll) (hc : vwCl[ci]? = some (C, T, N)) (h0 : k ≠ 0 ∧ k ≠ 15) (hj : j < N) (hk : w.K a = k) (he : wE G w k a = .inr (ci, fs)) (hv : fs[j]? = some v)
    (ref : String) (hsame : ∀ x, s.fieldFound? (T j).1 (T j).2.1 (T j).2.2.1 = some x → s.fieldFound? ref (T j).2.1 (T j).2.2.1 = some x) (hlink : Cond.fieldLink own index ref (T j).2.1 (T j).2.2.1 ∈ wAll) (hd : decode cc pc = .ok (.getfield index, 3))
    (kk : Gw l G L0 p e R s m args below meth c nL cells slots Q w (pc + 3) lv (v :: st)) : Gw l G L0 p e R s m args below meth c nL cells slots Q w pc lv (.ref a :: st) :=
  fun H locs ls hG hS hl => va_get X.1.1 X.1.2.1 X.1.2.2.2.2 hin X.1.2.2.2.1 X.2.2.2.2.1 (gw_one hG hk h0 he) 0 rfl hc j hj (X.1.2.2.2.2 _ hlink) hsame hv hd (kk H locs ls hG hS hl)
/-- a field is written: any picture w1 that differs there alone -/
theorem g_put (X : GC l G L0 p s m args meth c cc nL own) {C : String} {T : u_T} {N ci k j index a : Nat} {fs : List Value} {v : Value} {ty : FieldType} {w1 : Wd} (ty0 : Nat → FieldType) (hty : ∀ k, k < N → parseFieldDescriptor (T k).2.2.1 = some (ty0 k)) (hnm : ∀ a, a < N → ∀ b, b < N → a ≠ b → (T a).2.1 ≠ (T b).2.1) (hin : ∀ x ∈ u_ws C T N, x ∈ wAll) (hc : vwCl[ci]? = some (C, T, N)) (h0 : k ≠ 0 ∧ k ≠ 15) (hj : j < N) (hk : w.K a = k) (he : wE G w k a = .inr (ci, fs)) (hl1 : j < fs.length)
    (hfin : (T j).2.2.2 = false) (hpd : parseFieldDescriptor (T j).2.2.1 = some ty) (hn : narrow ty v = v) (hfit : fits ty v = true) (ref : String) (hsame : ∀ x, s.fieldFound? (T j).1 (T j).2.1 (T j).2.2.1 = some x → s.fieldFound? ref (T j).2.1 (T j).2.2.1 = some x) (hlink : Cond.fieldLink own index ref (T j).2.1 (T j).2.2.1 ∈ wAll) (hd : decode cc pc = .ok (.putfield index, 3))
    (hK : w1.K = w.K) (hN : w1.N = w.N) (hE : wE G w1 k a = .inr (ci, fs.set j v)) (ho : ∀ b, b ≠ a → wE G w1 (w.K b) b = wE G w (w.K b) b)
    (kk : Gw l G L0 p e R s m args below meth c nL cells slots Q w1 (pc + 3) lv st) : Gw l G L0 p e R s m args below meth c nL cells slots Q w pc lv (v :: .ref a :: st) := by
  intro H locs ls hG hS hl
  obtain ⟨L, hL, hP, hD, h15⟩ := hG
  have haL : a ∈ L := (hL a).mpr (by rw [hk]; exact h0)
  obtain ⟨k0, hk0⟩ := va_pl_get (X := []) (f := fun b => wE G w (w.K b) b) haL
  have hk1 : ([] ++ va_pl L (fun b => wE G w (w.K b) b))[k0]? = some (a, .inr (ci, fs)) := by rw [hk0, hk, he]
  refine va_put X.1.1 X.1.2.1 X.1.2.2.2.2 hin ty0 hty hnm X.1.2.2.2.1 X.2.2.2.2.1 hP hD hS k0 hk1 hc j hj (X.1.2.2.2.2 _ hlink) hsame hfin hpd hn hfit hl1 hd (fun H1 locs1 hP1 hD1 hS1 => ?_)
  exact kk H1 locs1 ls (gw_set hL hD haL hk0 h15 X.2.2.2.1 hS hS1 hP1 hD1 hK hN (by rw [hk]; exact hE.symm) ho) hS1 hl
theorem g_putF (X : GC l G L0 p s m args meth c cc nL own) {C : String} {T : u_T} {N ci k j index a : Nat} {fs : List Value} {v : Value} {ty : FieldType} {w1 : Wd} (ty0 : Nat → FieldType) (hty : ∀ k, k < N → parseFieldDescriptor (T k).2.2.1 = some (ty0 k)) (hnm : ∀ a, a < N → ∀ b, b < N → a ≠ b → (T a).2.1 ≠ (T b).2.1) (hin : ∀ x ∈ u_ws C T N, x ∈ wAll) (hc : vwCl[ci]? = some (C, T, N)) (h0 : k ≠ 0 ∧ k ≠ 15) (hj : j < N) (hk : w.K a = k) (he : wE G w k a = .inr (ci, fs)) (hl1 : j < fs.length)
    (hin2 : meth.name = "<init>") (hdecl : (T j).1 = own) (hfin : (T j).2.2.2 = true) (hpd : parseFieldDescriptor (T j).2.2.1 = some ty) (hn : narrow ty v = v) (hfit : fits ty v = true) (ref : String) (hsame : ∀ x, s.fieldFound? (T j).1 (T j).2.1 (T j).2.2.1 = some x → s.fieldFound? ref (T j).2.1 (T j).2.2.1 = some x) (hlink : Cond.fieldLink own index ref (T j).2.1 (T j).2.2.1 ∈ wAll) (hd : decode cc pc = .ok (.putfield index, 3))
    (hK : w1.K = w.K) (hN : w1.N = w.N) (hE : wE G w1 k a = .inr (ci, fs.set j v)) (ho : ∀ b, b ≠ a → wE G w1 (w.K b) b = wE G w (w.K b) b)
    (kk : Gw l G L0 p e R s m args below meth c nL cells slots Q w1 (pc + 3) lv st) : Gw l G L0 p e R s m args below meth c nL cells slots Q w pc lv (v :: .ref a :: st) := by
  intro H locs ls hG hS hl
  obtain ⟨L, hL, hP, hD, h15⟩ := hG
  have haL : a ∈ L := (hL a).mpr (by rw [hk]; exact h0)
  obtain ⟨k0, hk0⟩ := va_pl_get (X := []) (f := fun b => wE G w (w.K b) b) haL
  have hk1 : ([] ++ va_pl L (fun b => wE G w (w.K b) b))[k0]? = some (a, .inr (ci, fs)) := by rw [hk0, hk, he]
  refine va_putF X.1.1 X.1.2.1 X.1.2.2.2.2 hin ty0 hty hnm X.1.2.2.2.1 X.2.2.2.2.1 hP hD hS k0 hk1 hc j hj (X.1.2.2.2.2 _ hlink) hsame hfin hin2 hdecl hpd hn hfit hl1 hd (fun H1 locs1 hP1 hD1 hS1 => ?_)
  exact kk H1 locs1 ls (gw_set hL hD haL hk0 h15 X.2.2.2.1 hS hS1 hP1 hD1 hK hN (by rw [hk]; exact hE.symm) ho) hS1 hl
-- ===== arrays
theorem nI_in2 {j N : Nat} (h : j < N) (hN : N < 2 ^ 31) : vp_in (nI j) N := vp_in_nI h hN
theorem g_iald (X : GC l G L0 p s m args meth c cc nL own) {a j : Nat} {i : Int32} (hk : w.K a = 11) (hi : i = nI j) (hj : j < w.N a) (hN : w.N a < 2 ^ 31) (hd : decode cc pc = .ok (.iaload, 1))
    (kk : ∀ v : Int32, v = w.A a j → Gw l G L0 p e R s m args below meth c nL cells slots Q w (pc + 1) lv (.int v :: st)) : Gw l G L0 p e R s m args below meth c nL cells slots Q w pc lv (.int i :: .ref a :: st) := by
  intro H locs ls hG hS hl
  subst hi
  refine va_iald X.1.1 X.1.2.1 X.2.2.2.2.1 (gw_one hG hk (by decide) (ee := .inl (G.2.1, w.N a, .inl (w.A a))) rfl) 0 0 rfl rfl (nI_in2 hj hN) hd ?_
  rw [nI_clamp (by omega)]
  exact kk _ rfl H locs ls hG hS hl
theorem g_zald (X : GC l G L0 p s m args meth c cc nL own) {a j : Nat} {i : Int32} (hk : w.K a = 12) (hi : i = nI j) (hj : j < w.N a) (hN : w.N a < 2 ^ 31) (hd : decode cc pc = .ok (.baload, 1))
    (kk : ∀ v : Int32, v = w.A a j → Gw l G L0 p e R s m args below meth c nL cells slots Q w (pc + 1) lv (.int v :: st)) : Gw l G L0 p e R s m args below meth c nL cells slots Q w pc lv (.int i :: .ref a :: st) := by
  intro H locs ls hG hS hl
  subst hi
  refine va_zald X.1.1 X.1.2.1 X.2.2.2.2.1 (gw_one hG hk (by decide) (ee := .inl (G.2.2.1, w.N a, .inl (w.A a))) rfl) 0 1 rfl rfl (nI_in2 hj hN) hd ?_
  rw [nI_clamp (by omega)]
  exact kk _ rfl H locs ls hG hS hl
theorem g_aald (X : GC l G L0 p s m args meth c cc nL own) {a j : Nat} {i : Int32} (hk : w.K a = 13) (hi : i = nI j) (hj : j < w.N a) (hN : w.N a < 2 ^ 31) (hd : decode cc pc = .ok (.aaload, 1))
    (kk : ∀ v : Option Nat, v = w.O a j → Gw l G L0 p e R s m args below meth c nL cells slots Q w (pc + 1) lv (va_rf v :: st)) : Gw l G L0 p e R s m args below meth c nL cells slots Q w pc lv (.int i :: .ref a :: st) := by
  intro H locs ls hG hS hl
  subst hi
  refine va_aldq X.1.1 X.1.2.1 X.2.2.2.2.1 (gw_one hG hk (by decide) (ee := .inl (G.2.2.2.1, w.N a, .inr (.inr (.inr (.inr (w.O a)))))) rfl) 0 2 rfl rfl (nI_in2 hj hN) hd ?_
  rw [nI_clamp (by omega)]
  exact kk _ rfl H locs ls hG hS hl
theorem g_lald (X : GC l G L0 p s m args meth c cc nL own) {a j : Nat} {i : Int32} (hk : w.K a = 14) (hi : i = nI j) (hj : j < w.N a) (hN : w.N a < 2 ^ 31) (hd : decode cc pc = .ok (.laload, 1))
    (kk : ∀ v : Int64, v = w.J a j → Gw l G L0 p e R s m args below meth c nL cells slots Q w (pc + 1) lv (.long v :: st)) : Gw l G L0 p e R s m args below meth c nL cells slots Q w pc lv (.int i :: .ref a :: st) := by
  intro H locs ls hG hS hl
  subst hi
  refine va_lald X.1.1 X.1.2.1 X.2.2.2.2.1 (gw_one hG hk (by decide) (ee := .inl (G.2.2.2.2.1, w.N a, .inr (.inl (w.J a)))) rfl) 0 3 rfl rfl (nI_in2 hj hN) hd ?_
  rw [nI_clamp (by omega)]
  exact kk _ rfl H locs ls hG hS hl
theorem gw_upd (w : Wd) (a j : Nat) {v : Int32} : upd (w.A a) j v = (w.setA a j v).A a := by
  funext x
  show _ = up2 w.A a j v a x
  simp [up2, upd]
theorem gw_updL (w : Wd) (a j : Nat) {v : Int64} : vp_updL (w.J a) j v = (w.setJ a j v).J a := by
  funext x
  show _ = up2 w.J a j v a x
  simp [up2, vp_updL]
theorem gw_updO (w : Wd) (a j : Nat) {v : Option Nat} : va_up (w.O a) j v = (w.setO a j v).O a := by
  funext x
  show _ = up2 w.O a j v a x
  simp [up2, va_up]
theorem up2_row {α : Type} (f : Nat → Nat → α) (a j : Nat) (v : α) : up2 f a j v a = fun x => if x = j then v else f a x := by
  funext x; simp [up2]
theorem g_iast (X : GC l G L0 p s m args meth c cc nL own) {a j : Nat} {i v : Int32} (hk : w.K a = 11) (hi : i = nI j) (hj : j < w.N a) (hN : w.N a < 2 ^ 31) (hd : decode cc pc = .ok (.iastore, 1))
    (kk : ∀ w1 : Wd, w1 = w.setA a j v → Gw l G L0 p e R s m args below meth c nL cells slots Q w1 (pc + 1) lv st) : Gw l G L0 p e R s m args below meth c nL cells slots Q w pc lv (.int v :: .int i :: .ref a :: st) := by
  intro H locs ls hG hS hl
  subst hi
  obtain ⟨L, hL, hP, hD, h15⟩ := hG
  have haL : a ∈ L := (hL a).mpr (by rw [hk]; decide)
  obtain ⟨k0, hk0⟩ := va_pl_get (X := []) (f := fun b => wE G w (w.K b) b) haL
  have hk1 : ([] ++ va_pl L (fun b => wE G w (w.K b) b))[k0]? = some (a, .inl (G.2.1, w.N a, .inl (w.A a))) := by rw [hk0, hk]; rfl
  refine va_iast X.1.1 X.1.2.1 X.2.2.2.2.1 hP hD hS k0 0 hk1 rfl (nI_in2 hj hN) hd (fun H1 locs1 hP1 hD1 hS1 => ?_)
  rw [nI_clamp (by omega)] at hP1 hD1
  refine kk _ rfl H1 locs1 ls (gw_set hL hD haL hk0 h15 X.2.2.2.1 hS hS1 hP1 hD1 rfl rfl ?_ (fun b hb => wE_A hb)) hS1 hl
  rw [hk]
  exact congrArg (fun f => (Sum.inl (G.2.1, w.N a, .inl f) : va_E)) (gw_upd _ _ _)
theorem g_zast (X : GC l G L0 p s m args meth c cc nL own) {a j : Nat} {i v : Int32} (hk : w.K a = 12) (hi : i = nI j) (hj : j < w.N a) (hN : w.N a < 2 ^ 31) (hd : decode cc pc = .ok (.bastore, 1))
    (kk : ∀ w1 : Wd, w1 = w.setA a j (vp_nar .boolean v) → Gw l G L0 p e R s m args below meth c nL cells slots Q w1 (pc + 1) lv st) : Gw l G L0 p e R s m args below meth c nL cells slots Q w pc lv (.int v :: .int i :: .ref a :: st) := by
  intro H locs ls hG hS hl
  subst hi
  obtain ⟨L, hL, hP, hD, h15⟩ := hG
  have haL : a ∈ L := (hL a).mpr (by rw [hk]; decide)
  obtain ⟨k0, hk0⟩ := va_pl_get (X := []) (f := fun b => wE G w (w.K b) b) haL
  have hk1 : ([] ++ va_pl L (fun b => wE G w (w.K b) b))[k0]? = some (a, .inl (G.2.2.1, w.N a, .inl (w.A a))) := by rw [hk0, hk]; rfl
  refine va_zast X.1.1 X.1.2.1 X.2.2.2.2.1 hP hD hS k0 1 hk1 rfl (nI_in2 hj hN) hd (fun H1 locs1 hP1 hD1 hS1 => ?_)
  rw [nI_clamp (by omega)] at hP1 hD1
  refine kk _ rfl H1 locs1 ls (gw_set hL hD haL hk0 h15 X.2.2.2.1 hS hS1 hP1 hD1 rfl rfl ?_ (fun b hb => wE_A hb)) hS1 hl
  rw [hk]
  exact congrArg (fun f => (Sum.inl (G.2.2.1, w.N a, .inl f) : va_E)) (gw_upd _ _ _)
theorem g_last (X : GC l G L0 p s m args meth c cc nL own) {a j : Nat} {i : Int32} {v : Int64} (hk : w.K a = 14) (hi : i = nI j) (hj : j < w.N a) (hN : w.N a < 2 ^ 31) (hd : decode cc pc = .ok (.lastore, 1))
    (kk : ∀ w1 : Wd, w1 = w.setJ a j v → Gw l G L0 p e R s m args below meth c nL cells slots Q w1 (pc + 1) lv st) : Gw l G L0 p e R s m args below meth c nL cells slots Q w pc lv (.long v :: .int i :: .ref a :: st) := by
  intro H locs ls hG hS hl
  subst hi
  obtain ⟨L, hL, hP, hD, h15⟩ := hG
  have haL : a ∈ L := (hL a).mpr (by rw [hk]; decide)
  obtain ⟨k0, hk0⟩ := va_pl_get (X := []) (f := fun b => wE G w (w.K b) b) haL
  have hk1 : ([] ++ va_pl L (fun b => wE G w (w.K b) b))[k0]? = some (a, .inl (G.2.2.2.2.1, w.N a, .inr (.inl (w.J a)))) := by rw [hk0, hk]; rfl
  refine va_last X.1.1 X.1.2.1 X.2.2.2.2.1 hP hD hS k0 3 hk1 rfl (nI_in2 hj hN) hd (fun H1 locs1 hP1 hD1 hS1 => ?_)
  rw [nI_clamp (by omega)] at hP1 hD1
  refine kk _ rfl H1 locs1 ls (gw_set hL hD haL hk0 h15 X.2.2.2.1 hS hS1 hP1 hD1 rfl rfl ?_ (fun b hb => wE_J hb)) hS1 hl
  rw [hk]
  exact congrArg (fun f => (Sum.inl (G.2.2.2.2.1, w.N a, .inr (.inl f)) : va_E)) (gw_updL _ _ _)
theorem gw_any (X : GC l G L0 p s m args meth c cc nL own) {H : Heap} {a k ci : Nat} {fs : List Value} {r : vw_C} (hG : GWd G L0 w H) (hk : w.K a = k) (h0 : k ≠ 0 ∧ k ≠ 15) (he : wE G w k a = .inr (ci, fs)) (hc : vwCl[ci]? = some r) (hq : (r.1, "java/lang/Object") ∈ gCast) : va_Any "java/lang/Object" s H a :=
  va_rAny X.2.2.2.2.1 (gw_one hG hk h0 he) (q0 := 0) rfl hc (fun comp c0 h1 h2 => by
    obtain ⟨c3, c4, hc3, hc4, hasg⟩ := Cond.castable_spec (X.2.2.2.2.2.2.1 _ hq)
    cases h1.symm.trans hc4
    cases h2.symm.trans hc3
    exact hasg)
theorem gw_any3 (X : GC l G L0 p s m args meth c cc nL own) {H : Heap} {a : Nat} (hG : GWd G L0 w H) (hk : w.K a = 1 ∨ w.K a = 2 ∨ w.K a = 3) : va_Any "java/lang/Object" s H a := by
  rcases hk with hk | hk | hk
  · exact gw_any X hG hk (by decide) (ci := 3) rfl rfl (by decide +kernel)
  · exact gw_any X hG hk (by decide) (ci := 4) rfl rfl (by decide +kernel)
  · exact gw_any X hG hk (by decide) (ci := 5) rfl rfl (by decide +kernel)
theorem g_aast (X : GC l G L0 p s m args meth c cc nL own) {a j : Nat} {i : Int32} {r : Option Nat} (hk : w.K a = 13) (hi : i = nI j) (hj : j < w.N a) (hN : w.N a < 2 ^ 31) (hr : ∀ y, r = some y → w.K y = 1 ∨ w.K y = 2 ∨ w.K y = 3) (hd : decode cc pc = .ok (.aastore, 1))
    (kk : ∀ w1 : Wd, w1 = w.setO a j r → Gw l G L0 p e R s m args below meth c nL cells slots Q w1 (pc + 1) lv st) : Gw l G L0 p e R s m args below meth c nL cells slots Q w pc lv (va_rf r :: .int i :: .ref a :: st) := by
  intro H locs ls hG hS hl
  subst hi
  have hG0 := hG
  obtain ⟨L, hL, hP, hD, h15⟩ := hG
  have haL : a ∈ L := (hL a).mpr (by rw [hk]; decide)
  obtain ⟨k0, hk0⟩ := va_pl_get (X := []) (f := fun b => wE G w (w.K b) b) haL
  have hk1 : ([] ++ va_pl L (fun b => wE G w (w.K b) b))[k0]? = some (a, .inl (G.2.2.2.1, w.N a, .inr (.inr (.inr (.inr (w.O a)))))) := by rw [hk0, hk]; rfl
  cases r with
  | none =>
    refine va_astqN X.1.1 X.1.2.1 X.2.2.2.2.1 hP hD hS k0 2 hk1 rfl (nI_in2 hj hN) hd (fun H1 locs1 hP1 hD1 hS1 => ?_)
    rw [nI_clamp (by omega)] at hP1 hD1
    refine kk _ rfl H1 locs1 ls (gw_set hL hD haL hk0 h15 X.2.2.2.1 hS hS1 hP1 hD1 rfl rfl ?_ (fun b hb => wE_O hb)) hS1 hl
    rw [hk]
    exact congrArg (fun f => (Sum.inl (G.2.2.2.1, w.N a, .inr (.inr (.inr (.inr f)))) : va_E)) (gw_updO _ _ _)
  | some y =>
    refine va_astqM X.1.1 X.1.2.1 X.2.2.2.2.1 hP hD hS k0 2 hk1 rfl (gw_any3 X hG0 (hr y rfl)) (nI_in2 hj hN) hd (fun H1 locs1 hP1 hD1 hS1 => ?_)
    rw [nI_clamp (by omega)] at hP1 hD1
    refine kk _ rfl H1 locs1 ls (gw_set hL hD haL hk0 h15 X.2.2.2.1 hS hS1 hP1 hD1 rfl rfl ?_ (fun b hb => wE_O hb)) hS1 hl
    rw [hk]
    exact congrArg (fun f => (Sum.inl (G.2.2.2.1, w.N a, .inr (.inr (.inr (.inr f)))) : va_E)) (gw_updO _ _ _)
theorem g_acpy (X : GC l G L0 p s m args meth c cc nL own) {a b sp dp n index : Nat} {i j k : Int32} (ha : w.K a = 13) (hb : w.K b = 13) (hi : i = nI sp) (hj : j = nI dp) (hk : k = nI n) (h1 : sp + n ≤ w.N a) (h2 : dp + n ≤ w.N b) (hNa : w.N a < 2 ^ 31) (hNb : w.N b < 2 ^ 31) (hel : ∀ x, x < n → ∀ y, w.O a (sp + x) = some y → w.K y = 1 ∨ w.K y = 2 ∨ w.K y = 3)
    (q1 : Cond.methodLink own index arraycopyName ∈ wAll) (q2 : Cond.native arraycopyName ∈ wAll) (q3 : Cond.static arraycopyName ∈ wAll) (q4 : Cond.initialized "java/lang/System" ∈ wAll) (hf : 1 ≤ R.frames) (hlo : (st.map fun v => v.category).sum + (nativeFrameWords "java/lang/System" "arraycopy" 5 + 11) ≤ R.locals) (hd : decode cc pc = .ok (.invokestatic index, 3))
    (kk : ∀ w1 : Wd, w1 = w.cpO a b sp dp n → Gw l G L0 p e R s m args below meth c nL cells slots Q w1 (pc + 3) lv st) : Gw l G L0 p e R s m args below meth c nL cells slots Q w pc lv (.int k :: .int j :: .ref b :: .int i :: .ref a :: st) := by
  intro H locs ls hG hS hl
  subst hi; subst hj; subst hk
  have hG0 := hG
  obtain ⟨L, hL, hP, hD, h15⟩ := hG
  have haL : a ∈ L := (hL a).mpr (by rw [ha]; decide)
  have hbL : b ∈ L := (hL b).mpr (by rw [hb]; decide)
  obtain ⟨k0, hk0⟩ := va_pl_get (X := []) (f := fun b => wE G w (w.K b) b) haL
  obtain ⟨k1, hk1⟩ := va_pl_get (X := []) (f := fun b => wE G w (w.K b) b) hbL
  have hk0' : ([] ++ va_pl L (fun b => wE G w (w.K b) b))[k0]? = some (a, .inl (G.2.2.2.1, w.N a, .inr (.inr (.inr (.inr (w.O a)))))) := by rw [hk0, ha]; rfl
  have hk1' : ([] ++ va_pl L (fun b => wE G w (w.K b) b))[k1]? = some (b, .inl (G.2.2.2.1, w.N b, .inr (.inr (.inr (.inr (w.O b)))))) := by rw [hk1, hb]; rfl
  have es : (nI sp).toNatClampNeg = sp := nI_clamp (by omega)
  have ed : (nI dp).toNatClampNeg = dp := nI_clamp (by omega)
  have en : (nI n).toNatClampNeg = n := nI_clamp (by omega)
  refine va_copyM X.1.1 X.1.2.1 (X.1.2.2.1.trans hl.1.symm) X.1.2.2.2.1 (X.1.2.2.2.2 _ q1) (X.1.2.2.2.2 _ q2) (X.1.2.2.2.2 _ q3) (X.1.2.2.2.2 _ q4) X.2.2.2.2.1 hP hD hS k0 k1 2 2 hk0' hk1' rfl rfl (nI_pos (by omega)) (nI_pos (by omega)) (nI_pos (by omega)) (by rw [es, en]; exact h1) (by rw [ed, en]; exact h2) (fun x hx y hy => gw_any3 X hG0 (hel x (by rw [en] at hx; exact hx) y (by rw [es] at hy; exact hy))) hf hlo hd (fun H1 locs1 hP1 hD1 hS1 => ?_)
  rw [es, ed, en] at hP1 hD1
  refine kk _ rfl H1 locs1 ls (gw_set hL hD hbL hk1 h15 X.2.2.2.1 hS hS1 hP1 hD1 rfl rfl ?_ (fun b' hb' => wE_C hb')) hS1 hl
  rw [hb]
  show (Sum.inl (G.2.2.2.1, w.N b, .inr (.inr (.inr (.inr (va_cpy (w.O a) (w.O b) sp dp n)))) ) : va_E) = Sum.inl (G.2.2.2.1, w.N b, .inr (.inr (.inr (.inr (va_up w.O b (va_cpy (w.O a) (w.O b) sp dp n) b)))))
  rw [va_up_self]
theorem g_alen (X : GC l G L0 p s m args meth c cc nL own) {a k : Nat} (hk : w.K a = k) (h3 : k = 11 ∨ k = 12 ∨ k = 13 ∨ k = 14 ∨ k = 15) (hd : decode cc pc = .ok (.arraylength, 1))
    (kk : ∀ v : Int32, v = nI (w.N a) → Gw l G L0 p e R s m args below meth c nL cells slots Q w (pc + 1) lv (.int v :: st)) : Gw l G L0 p e R s m args below meth c nL cells slots Q w pc lv (.ref a :: st) := by
  intro H locs ls hG hS hl
  rcases h3 with h3 | h3 | h3 | h3 | h3 <;> subst h3
  · exact va_alen X.1.1 X.1.2.1 X.2.2.2.2.1 (gw_one hG hk (by decide) (ee := .inl (G.2.1, w.N a, .inl (w.A a))) rfl) 0 0 rfl rfl rfl hd (kk _ rfl H locs ls hG hS hl)
  · exact va_alen X.1.1 X.1.2.1 X.2.2.2.2.1 (gw_one hG hk (by decide) (ee := .inl (G.2.2.1, w.N a, .inl (w.A a))) rfl) 0 1 rfl rfl rfl hd (kk _ rfl H locs ls hG hS hl)
  · exact va_alen X.1.1 X.1.2.1 X.2.2.2.2.1 (gw_one hG hk (by decide) (ee := .inl (G.2.2.2.1, w.N a, .inr (.inr (.inr (.inr (w.O a)))))) rfl) 0 2 rfl rfl rfl hd (kk _ rfl H locs ls hG hS hl)
  · exact va_alen X.1.1 X.1.2.1 X.2.2.2.2.1 (gw_one hG hk (by decide) (ee := .inl (G.2.2.2.2.1, w.N a, .inr (.inl (w.J a)))) rfl) 0 3 rfl rfl rfl hd (kk _ rfl H locs ls hG hS hl)
  · have hG0 := hG
    obtain ⟨L, hL, hP, hD, h0, h1, h2, h3⟩ := hG
    have hae : a = G.2.2.2.2.2 := (h0 a).mp hk
    have h3' : va_at G.1 vwCl (a, gE0 G) H := by rw [hae]; exact h3
    have hP1 : va_P G.1 vwCl [(a, gE0 G)] H := by
      intro i q hi
      have hz : i < 1 := (List.getElem?_eq_some_iff.mp hi).1
      rw [show i = 0 by omega] at hi
      cases hi
      exact h3'
    have hz : w.N a = 0 := by rw [hae]; exact h1
    exact va_alen X.1.1 X.1.2.1 X.2.2.2.2.1 hP1 0 2 rfl rfl (v := nI (w.N a)) (by rw [hz]; rfl) hd (kk _ rfl H locs ls hG0 hS hl)
-- ===== making
theorem g_new (X : GC l G L0 p s m args meth c cc nL own) {C : String} {T : u_T} {N ci k index : Nat} {fs : List Value} (ty : Nat → FieldType) (hty : ∀ k, k < N → parseFieldDescriptor (T k).2.2.1 = some (ty k)) (hin : ∀ x ∈ u_ws C T N, x ∈ wAll) (hc : vwCl[ci]? = some (C, T, N)) (h0 : k ≠ 0 ∧ k ≠ 15) (hfs : ∀ j, j < N → defaultValue (ty j) = vp_V fs j) (he : ∀ a, wE G (w.new k a) k a = .inr (ci, fs))
    (q1 : Cond.classLink own index C ∈ wAll) (q2 : Cond.instantiable C N ∈ wAll) (q3 : Cond.initialized C ∈ wAll) (hcells : cells + 1 ≤ R.cells) (hslots : slots + N ≤ R.slots) (hd : decode cc pc = .ok (.new index, 3))
    (kk : ∀ a : Nat, w.K a = 0 → ∀ w1 : Wd, w1 = w.new k a → Gw l G L0 p e R s m args below meth c nL (cells + 1) (slots + N) Q w1 (pc + 3) lv (va_rf (some a) :: st)) : Gw l G L0 p e R s m args below meth c nL cells slots Q w pc lv st := by
  intro H locs ls hG hS hl
  obtain ⟨L, hL, hP, hD, h15⟩ := hG
  refine va_new X.1.1 X.1.2.1 X.1.2.2.2.2 hin ty hty X.1.2.2.2.1 (X.1.2.2.2.2 _ q1) (X.1.2.2.2.2 _ q2) (X.1.2.2.2.2 _ q3) X.2.2.2.2.1 hP hD hS (fun q h => Nat.le_trans X.2.2.2.1 h) hc hfs hcells hslots hd (fun a H1 hP1 hD1 hS1 => ?_)
  obtain ⟨haL, haA⟩ := gw_new hD1
  have haK : w.K a = 0 := by
    rcases Nat.decEq (w.K a) 0 with h | h
    · exfalso
      rcases Nat.decEq (w.K a) 15 with h2 | h2
      · exact haL ((hL a).mpr ⟨h, h2⟩)
      · have h3 := (h15.1 a).mp h2
        have h4 := h15.2.2.1
        have h5 : L0 ≤ a := haA
        omega
    · exact h
  exact kk a haK _ rfl H1 locs ls (gw_push hL haL h15 X.2.2.2.1 hS hS1 haA hP1 hD1 h0 (fun b => rfl) (fun b hb => rfl) (he a).symm (fun b hb => wE_n hb)) hS1 hl
theorem g_newA (X : GC l G L0 p s m args meth c cc nL own) {atype : ArrayType} {ty : FieldType} {k t0 n : Nat} {i : Int32} {cA : ClassId} {a0 : vp_A} (q1 : Cond.arrayClass (newarray.typeOf atype) ∈ wAll) (hty : newarray.typeOf atype = ty) (ht : (gTys G)[t0]? = some (cA, ty)) (hobj : ∀ C, ty ≠ .object C) (h0 : k ≠ 0 ∧ k ≠ 15) (ha0 : ∀ cA : ClassId, vp_cell cA a0 = arrV cA n (fun _ => defaultValue ty)) (hi : i = nI n) (hn : n ≤ 65536) (hby : componentBytes ty ≤ 8) (he : ∀ a, wE G (w.newA k a n) k a = .inl (cA, a0)) (hcells : cells + 1 ≤ R.cells) (hslots : slots + n ≤ R.slots) (hd : decode cc pc = .ok (.newarray atype, 2))
    (kk : ∀ a : Nat, w.K a = 0 → ∀ w1 : Wd, w1 = w.newA k a n → Gw l G L0 p e R s m args below meth c nL (cells + 1) (slots + n) Q w1 (pc + 2) lv (va_rf (some a) :: st)) : Gw l G L0 p e R s m args below meth c nL cells slots Q w pc lv (.int i :: st) := by
  intro H locs ls hG hS hl
  subst hi
  obtain ⟨L, hL, hP, hD, h15⟩ := hG
  refine va_newa X.1.1 X.1.2.1 (X.1.2.2.2.2 _ q1) hty X.2.2.2.2.1 hP hD hS (fun q h => Nat.le_trans X.2.2.2.1 h) ha0 (nI_pos (by omega)) (nI_clamp (by omega)) (Nat.le_trans (Nat.mul_le_mul hn hby) (by decide)) hcells hslots hd (fun a cA2 H1 hK1 hP1 hD1 hS1 => ?_)
  have e1 : cA2 = cA := by
    have h1 := (hK1.2 (gTys G).length (cA2, ty) (by simp)).2
    have h2 := (X.2.2.2.2.1.2 t0 _ ht).2
    cases ty <;> first | exact Option.some.inj (h1.symm.trans h2) | exact absurd rfl (hobj _)
  subst e1
  obtain ⟨haL, haA⟩ := gw_new hD1
  have haK : w.K a = 0 := by
    rcases Nat.decEq (w.K a) 0 with h | h
    · exfalso
      rcases Nat.decEq (w.K a) 15 with h2 | h2
      · exact haL ((hL a).mpr ⟨h, h2⟩)
      · have h3 := (h15.1 a).mp h2
        have h4 := h15.2.2.1
        have h5 : L0 ≤ a := haA
        omega
    · exact h
  exact kk a haK _ rfl H1 locs ls (gw_push hL haL h15 X.2.2.2.1 hS hS1 haA hP1 hD1 h0 (fun b => rfl) (fun b hb => va_up_ne _ _ hb) (he a).symm (fun b hb => wE_nA hb)) hS1 hl
theorem g_newO (X : GC l G L0 p s m args meth c cc nL own) {n index : Nat} {i : Int32} (q1 : Cond.classLink own index "java/lang/Object" ∈ wAll) (hi : i = nI n) (hn : n ≤ 65536) (hcells : cells + 1 ≤ R.cells) (hslots : slots + n ≤ R.slots) (hd : decode cc pc = .ok (.anewarray index, 3))
    (kk : ∀ a : Nat, w.K a = 0 → ∀ w1 : Wd, w1 = w.newA 13 a n → Gw l G L0 p e R s m args below meth c nL (cells + 1) (slots + n) Q w1 (pc + 3) lv (va_rf (some a) :: st)) : Gw l G L0 p e R s m args below meth c nL cells slots Q w pc lv (.int i :: st) := by
  intro H locs ls hG hS hl
  subst hi
  obtain ⟨L, hL, hP, hD, h15⟩ := hG
  refine va_newq X.1.1 X.1.2.1 X.1.2.2.2.1 (X.1.2.2.2.2 _ q1) X.2.2.2.2.2.2.2.2.1 X.2.2.2.2.1 hP hD hS (fun q h => Nat.le_trans X.2.2.2.1 h) (nI_pos (by omega)) (nI_clamp (by omega)) (by omega) hcells hslots hd (fun a cA2 H1 hK1 hP1 hD1 hS1 => ?_)
  have e1 : cA2 = G.2.2.2.1 := by
    obtain ⟨-, -, -, -, -, h1⟩ := (hK1.2 (gTys G).length (cA2, .object "java/lang/Object") (by simp)).2
    obtain ⟨-, -, -, -, -, h2⟩ := (X.2.2.2.2.1.2 2 _ rfl).2
    exact Option.some.inj (h1.symm.trans h2)
  subst e1
  obtain ⟨haL, haA⟩ := gw_new hD1
  have haK : w.K a = 0 := by
    rcases Nat.decEq (w.K a) 0 with h | h
    · exfalso
      rcases Nat.decEq (w.K a) 15 with h2 | h2
      · exact haL ((hL a).mpr ⟨h, h2⟩)
      · have h3 := (h15.1 a).mp h2
        have h4 := h15.2.2.1
        have h5 : L0 ≤ a := haA
        omega
    · exact h
  refine kk a haK _ rfl H1 locs ls (gw_push hL haL h15 X.2.2.2.1 hS hS1 haA hP1 hD1 (k := 13) (by decide) (fun b => rfl) (fun b hb => va_up_ne _ _ hb) ?_ (fun b hb => wE_nA hb)) hS1 hl
  show (Sum.inl (G.2.2.2.1, n, .inr (.inr (.inr (.inr (fun _ => none))))) : va_E) = Sum.inl (G.2.2.2.1, va_up w.N a n a, .inr (.inr (.inr (.inr (fun j => if a = a then none else w.O a j)))))
  rw [va_up_self]
  simp
/-- ArrayList's empty row -/
theorem g_empty (X : GC l G L0 p s m args meth c cc nL own) {index : Nat} (q1 : Cond.fieldLink own index "java/util/ArrayList" "DEFAULTCAPACITY_EMPTY_ELEMENTDATA" "[Ljava/lang/Object;" ∈ wAll) (hd : decode cc pc = .ok (.getstatic index, 3))
    (kk : ∀ a : Nat, w.K a = 15 → w.N a = 0 → (∀ b, w.K b = 15 → b = a) → Gw l G L0 p e R s m args below meth c nL cells slots Q w (pc + 3) lv (va_rf (some a) :: st)) : Gw l G L0 p e R s m args below meth c nL cells slots Q w pc lv st := by
  intro H locs ls hG hS hl
  have hG0 := hG
  obtain ⟨L, hL, hP, hD, h0, h1, h2, h3⟩ := hG
  exact va_gets X.1.1 X.1.2.1 X.2.2.2.2.2.1.2.2 hS X.1.2.2.2.1 (X.1.2.2.2.2 _ q1) (fun _ h => h) hd (kk _ ((h0 _).mpr rfl) h1 (fun b hb => (h0 b).mp hb) H locs ls hG0 hS hl)
theorem g_castS (X : GC l G L0 p s m args meth c cc nL own) {C : String} {T : u_T} {N ci k index : Nat} {r : Option Nat} (hc : vwCl[ci]? = some (C, T, N)) (h0 : k ≠ 0 ∧ k ≠ 15) (he : ∀ a, ∃ fs, wE G w k a = .inr (ci, fs)) (hr : ∀ a, r = some a → w.K a = k) (q1 : Cond.classLink own index C ∈ wAll) (hd : decode cc pc = .ok (.checkcast index, 3))
    (kk : Gw l G L0 p e R s m args below meth c nL cells slots Q w (pc + 3) lv (va_rf r :: st)) : Gw l G L0 p e R s m args below meth c nL cells slots Q w pc lv (va_rf r :: st) := by
  intro H locs ls hG hS hl
  cases r with
  | none => exact lv_castN X.1.1 X.1.2.1 hd (kk H locs ls hG hS hl)
  | some a =>
    obtain ⟨fs, he⟩ := he a
    exact va_castS X.1.1 X.1.2.1 X.1.2.2.2.1 (X.1.2.2.2.2 _ q1) (X.2.2.2.2.1.1 ci _ hc).2 (va_recv X.2.2.2.2.1 (gw_one hG (hr a rfl) h0 he) (q0 := 0) hc rfl) hd (kk H locs ls hG hS hl)
theorem g_lcmp (X : GC l G L0 p s m args meth c cc nL own) {x y : Int64} (hd : decode cc pc = .ok (.lcmp, 1))
    (kk : Gw l G L0 p e R s m args below meth c nL cells slots Q w (pc + 1) lv (.int (lg_cmp x y) :: st)) : Gw l G L0 p e R s m args below meth c nL cells slots Q w pc lv (.long y :: .long x :: st) :=
  fun H locs ls hG hS hl => W.lcmp X.1.1 X.1.2.1 hd (kk H locs ls hG hS hl)
end GR
end
section
def gN2 : List String := ["java/lang/RuntimeException", "java/lang/Exception"]
def gNG : List Cond := gCast.map (fun q => Cond.castable q.1 q.2) ++ gDecl.map Cond.declares
theorem at_IAE_g : ∀ x ∈ (vx_atS "SusuRing" 68 "java/lang/IllegalArgumentException" gN2).filter goodWord, x ∈ wAll := by decide +kernel
theorem at_IAE_b : ∀ x ∈ (vx_atS "SusuRing" 68 "java/lang/IllegalArgumentException" gN2).filter (fun x => !goodWord x), x ∈ gNG := by decide +kernel
theorem at_IAE_o : ∀ x ∈ vx_atS "SusuRing" 68 "java/lang/IllegalArgumentException" gN2, vx_ot x = true := by decide +kernel
theorem at_ISE_g : ∀ x ∈ (vx_atS "SusuRing" 32 "java/lang/IllegalStateException" gN2).filter goodWord, x ∈ wAll := by decide +kernel
theorem at_ISE_b : ∀ x ∈ (vx_atS "SusuRing" 32 "java/lang/IllegalStateException" gN2).filter (fun x => !goodWord x), x ∈ gNG := by decide +kernel
theorem at_ISE_o : ∀ x ∈ vx_atS "SusuRing" 32 "java/lang/IllegalStateException" gN2, vx_ot x = true := by decide +kernel
theorem at_IOB_g : ∀ x ∈ (vx_atS "SusuRing" 243 "java/lang/IndexOutOfBoundsException" gN2).filter goodWord, x ∈ wAll := by decide +kernel
theorem at_IOB_b : ∀ x ∈ (vx_atS "SusuRing" 243 "java/lang/IndexOutOfBoundsException" gN2).filter (fun x => !goodWord x), x ∈ gNG := by decide +kernel
theorem at_IOB_o : ∀ x ∈ vx_atS "SusuRing" 243 "java/lang/IndexOutOfBoundsException" gN2, vx_ot x = true := by decide +kernel
theorem gw_kept {G : GT} {L0 : Nat} {w : Wd} {H H1 : Heap} (h : GWd G L0 w H) (h1 : ∀ q : Nat, q < H.size → H1[q]? = H[q]?) : GWd G L0 w H1 := by
  obtain ⟨L, hL, hP, hD, h0, hN, hl, he⟩ := h
  exact ⟨L, hL, hP.kept (fun k q hk => h1 q.1 (hP k q hk).lt), hD, h0, hN, hl, he.kept (h1 _ he.lt)⟩
-- ===== contracts
def gPc (G : GT) (L0 : Nat) (As : List Value) (w : Wd) : Array Value → State → Prop := va_Pc As (fun U => GS G L0 U ∧ GWd G L0 w U.heap)
theorem gPc_blind {G : GT} {L0 : Nat} {As : List Value} {w : Wd} : FrameBlind (gPc G L0 As w) := fun _ _ _ _ h => ⟨h.1, GS.same h.2.1 rfl rfl, h.2.2⟩
def gQi (G : GT) (L0 : Nat) (Q : Int32 → Wd → Prop) : Array Value → State → Outcome → State → Prop := va_Qi Q (fun w1 t => GWd G L0 w1 t.heap) (GA L0)
def gQq (G : GT) (L0 : Nat) (Q : Option Nat → Wd → Prop) : Array Value → State → Outcome → State → Prop := va_Qq Q (fun w1 t => GWd G L0 w1 t.heap) (GA L0)
def gQv (G : GT) (L0 : Nat) (Q : Wd → Prop) : Array Value → State → Outcome → State → Prop := va_Qv Q (fun w1 t => GWd G L0 w1 t.heap) (GA L0)
def gXC (G : GT) (L0 : Nat) (QX : String → Wd → Prop) : String → State → State → Prop := vx_X (fun _ : Wd => True) (fun E w1 t => QX E w1 ∧ GWd G L0 w1 t.heap) (GA L0)
def GMi (l : Launch) (G : GT) (L0 : Nat) (y : MethodName) (cc : ByteArray) (nL : Nat) (ret : Option FieldType) (rm : Room) (As : List Value) (w : Wd) (Q : Int32 → Wd → Prop) : Prop := Met l y (.code y cc nL ret :: wAll) rm (gPc G L0 As w) (gQi G L0 Q) rm.cells rm.slots (GA L0)
def GMq (l : Launch) (G : GT) (L0 : Nat) (y : MethodName) (cc : ByteArray) (nL : Nat) (ret : Option FieldType) (rm : Room) (As : List Value) (w : Wd) (Q : Option Nat → Wd → Prop) : Prop := Met l y (.code y cc nL ret :: wAll) rm (gPc G L0 As w) (gQq G L0 Q) rm.cells rm.slots (GA L0)
def GMv (l : Launch) (G : GT) (L0 : Nat) (y : MethodName) (cc : ByteArray) (nL : Nat) (ret : Option FieldType) (rm : Room) (As : List Value) (w : Wd) (Q : Wd → Prop) : Prop := Met l y (.code y cc nL ret :: wAll) rm (gPc G L0 As w) (gQv G L0 Q) rm.cells rm.slots (GA L0)
def GXi (l : Launch) (G : GT) (L0 : Nat) (y : MethodName) (cc : ByteArray) (nL : Nat) (ret : Option FieldType) (rm : Room) (As : List Value) (w : Wd) (Q : Int32 → Wd → Prop) (QX : String → Wd → Prop) : Prop := vx_Met l y (.code y cc nL ret :: wAll) rm (gPc G L0 As w) (gQi G L0 Q) (gXC G L0 QX) rm.cells rm.slots (GA L0)
def GXq (l : Launch) (G : GT) (L0 : Nat) (y : MethodName) (cc : ByteArray) (nL : Nat) (ret : Option FieldType) (rm : Room) (As : List Value) (w : Wd) (Q : Option Nat → Wd → Prop) (QX : String → Wd → Prop) : Prop := vx_Met l y (.code y cc nL ret :: wAll) rm (gPc G L0 As w) (gQq G L0 Q) (gXC G L0 QX) rm.cells rm.slots (GA L0)
def GXv (l : Launch) (G : GT) (L0 : Nat) (y : MethodName) (cc : ByteArray) (nL : Nat) (ret : Option FieldType) (rm : Room) (As : List Value) (w : Wd) (Q : Wd → Prop) (QX : String → Wd → Prop) : Prop := vx_Met l y (.code y cc nL ret :: wAll) rm (gPc G L0 As w) (gQv G L0 Q) (gXC G L0 QX) rm.cells rm.slots (GA L0)
theorem g_enter {l : Launch} {G : GT} {L0 : Nat} {y : MethodName} {cc : ByteArray} {nL : Nat} {ret : Option FieldType} {rm : Room} {As : List Value} {w : Wd} {Qc : Array Value → State → Outcome → State → Prop} (hst : l.stackTraces = false) (hy : plainName y.cls = true) (hn : (lg_sl As).length ≤ nL) (lv : Lc) (hlv : lv_args 0 As = lvV lv)
    (body : ∀ (p : Program) (e : Env) (s : State) (m : MethodId) (args : Array Value) (below : List Frame) (meth : Method) (c : Code), GC l G L0 p s m args meth c cc nL y.cls → meth.sig.returnType = ret → meth.name = y.name → Gw l G L0 p e rm s m args below meth c nL 0 0 (MQ below Qc args s rm.cells rm.slots (GA L0)) w 0 lv []) : Met l y (.code y cc nL ret :: wAll) rm (gPc G L0 As w) Qc rm.cells rm.slots (GA L0) := by
  refine Met.ofW (cc := cc) (maxL := nL) (ret := ret) hy rfl ?_
  intro p e s m args below meth c s₁ B hml hv
  obtain ⟨rfl, hGS, hG⟩ := hv
  have hts := atoms_spec (ws := .code y cc nL ret :: wAll) B.pre
  have hX : GC l G L0 p s m As.toArray meth c cc nL y.cls := ⟨⟨B.exec, B.bytes, hml, findClass_of_methodNamed B.named, fun x hx => hts x (List.mem_cons_of_mem _ hx)⟩, B.notSynchronized, hst, hGS⟩
  have h := body p e s m As.toArray below meth c hX B.returns (name_of_methodNamed B.named B.method).1 s.heap [] _ hG va_S.rf (by rw [← hlv]; exact lv_entry As hn)
  rw [lg_entry_eq]
  exact h
theorem g_enterX {l : Launch} {G : GT} {L0 : Nat} {y : MethodName} {cc : ByteArray} {nL : Nat} {ret : Option FieldType} {rm : Room} {As : List Value} {w : Wd} {Qc : Array Value → State → Outcome → State → Prop} {XC : String → State → State → Prop} (hst : l.stackTraces = false) (hy : plainName y.cls = true) (hn : (lg_sl As).length ≤ nL) (lv : Lc) (hlv : lv_args 0 As = lvV lv)
    (body : ∀ (p : Program) (e : Env) (s : State) (m : MethodId) (args : Array Value) (below : List Frame) (meth : Method) (c : Code), GC l G L0 p s m args meth c cc nL y.cls → meth.sig.returnType = ret → meth.name = y.name → (∀ x ∈ c.exceptionTable.toList, False) → Gw l G L0 p e rm s m args below meth c nL 0 0 (vx_MQ below Qc XC args s rm.cells rm.slots (GA L0)) w 0 lv []) : vx_Met l y (.code y cc nL ret :: wAll) rm (gPc G L0 As w) Qc XC rm.cells rm.slots (GA L0) := by
  refine vx_ofW (cc := cc) (maxL := nL) (ret := ret) hy rfl ?_
  intro p e s m args below meth c s₁ B hml htab hv
  obtain ⟨rfl, hGS, hG⟩ := hv
  have hts := atoms_spec (ws := .code y cc nL ret :: wAll) B.pre
  have hX : GC l G L0 p s m As.toArray meth c cc nL y.cls := ⟨⟨B.exec, B.bytes, hml, findClass_of_methodNamed B.named, fun x hx => hts x (List.mem_cons_of_mem _ hx)⟩, B.notSynchronized, hst, hGS⟩
  have h := body p e s m As.toArray below meth c hX B.returns (name_of_methodNamed B.named B.method).1 htab s.heap [] _ hG va_S.rf (by rw [← hlv]; exact lv_entry As hn)
  rw [lg_entry_eq]
  exact h
section GR2
variable {l : Launch} {G : GT} {L0 : Nat} {p : Program} {e : Env} {R : Room} {s : State} {m : MethodId} {args : Array Value} {below : List Frame} {meth : Method} {c : Code} {cc : ByteArray} {nL : Nat} {own : String} {cells slots mc ms : Nat} {Q : State → Prop} {w : Wd} {pc : Nat} {lv : Lc} {st : List Value}
theorem nar_z {v : Int32} (h : v = 0 ∨ v = 1) : narrow .boolean (.int v) = .int v := by
  rcases h with h | h <;> rw [h] <;> decide
theorem fit_z {v : Int32} (h : v = 0 ∨ v = 1) : fits .boolean (.int v) = true := by
  rcases h with h | h <;> rw [h] <;> decide
theorem g_iret (X : GC l G L0 p s m args meth c cc nL own) {v : Int32} {Q : Int32 → Wd → Prop} (hr : meth.sig.returnType = some .int) (h1 : cells ≤ mc) (h2 : slots ≤ ms) (hd : decode cc pc = .ok (.ireturn, 1)) (hq : Q v w) : Gw l G L0 p e R s m args below meth c nL cells slots (MQ below (gQi G L0 Q) args s mc ms (GA L0)) w pc lv [.int v] :=
  fun H locs ls hG hS hl => W.widen h1 h2 ((W.iret X.1.1 X.1.2.1 hr (fun t ht hW => ⟨⟨v, w, rfl, hq, by show GWd G L0 w t.heap; rw [ht]; exact hG⟩, hS.F ht⟩) hS.2.2 hd X.2.1))
theorem g_zret (X : GC l G L0 p s m args meth c cc nL own) {v : Int32} {Q : Int32 → Wd → Prop} (hr : meth.sig.returnType = some .boolean) (h1 : cells ≤ mc) (h2 : slots ≤ ms) (hd : decode cc pc = .ok (.ireturn, 1)) (hz : v = 0 ∨ v = 1) (hq : Q v w) : Gw l G L0 p e R s m args below meth c nL cells slots (MQ below (gQi G L0 Q) args s mc ms (GA L0)) w pc lv [.int v] :=
  fun H locs ls hG hS hl => W.widen h1 h2 ((W.zret X.1.1 X.1.2.1 hr (nar_z hz) (fun t ht hW => ⟨⟨v, w, rfl, hq, by show GWd G L0 w t.heap; rw [ht]; exact hG⟩, hS.F ht⟩) hS.2.2 hd X.2.1))
theorem g_vret (X : GC l G L0 p s m args meth c cc nL own) {Q : Wd → Prop} (hr : meth.sig.returnType = none) (h1 : cells ≤ mc) (h2 : slots ≤ ms) (hd : decode cc pc = .ok (.return_, 1)) (hq : Q w) : Gw l G L0 p e R s m args below meth c nL cells slots (MQ below (gQv G L0 Q) args s mc ms (GA L0)) w pc lv [] :=
  fun H locs ls hG hS hl => W.widen h1 h2 ((W.vret X.1.1 X.1.2.1 hr (fun t ht hW => ⟨⟨w, rfl, hq, by show GWd G L0 w t.heap; rw [ht]; exact hG⟩, hS.F ht⟩) hS.2.2 hd X.2.1))
theorem g_aret (X : GC l G L0 p s m args meth c cc nL own) {v : Option Nat} {rt : FieldType} {Q : Option Nat → Wd → Prop} (hr : meth.sig.returnType = some rt) (hrt : (∃ n, rt = .object n) ∨ ∃ t, rt = .array t) (h1 : cells ≤ mc) (h2 : slots ≤ ms) (hd : decode cc pc = .ok (.areturn, 1)) (hq : Q v w) : Gw l G L0 p e R s m args below meth c nL cells slots (MQ below (gQq G L0 Q) args s mc ms (GA L0)) w pc lv [va_rf v] :=
  fun H locs ls hG hS hl => W.widen h1 h2 ((W.aret X.1.1 X.1.2.1 hr hrt (by cases v with | none => exact Or.inl rfl | some a => exact Or.inr ⟨a, rfl⟩) (fun t ht hW => ⟨⟨v, w, rfl, hq, by show GWd G L0 w t.heap; rw [ht]; exact hG⟩, hS.F ht⟩) hS.2.2 hd X.2.1))
theorem g_iretX (X : GC l G L0 p s m args meth c cc nL own) {v : Int32} {Q : Int32 → Wd → Prop} {XC : String → State → State → Prop} (hr : meth.sig.returnType = some .int) (h1 : cells ≤ mc) (h2 : slots ≤ ms) (hd : decode cc pc = .ok (.ireturn, 1)) (hq : Q v w) : Gw l G L0 p e R s m args below meth c nL cells slots (vx_MQ below (gQi G L0 Q) XC args s mc ms (GA L0)) w pc lv [.int v] :=
  fun H locs ls hG hS hl => W.widen h1 h2 (vx_ret (W.iret X.1.1 X.1.2.1 hr (fun t ht hW => ⟨⟨v, w, rfl, hq, by show GWd G L0 w t.heap; rw [ht]; exact hG⟩, hS.F ht⟩) hS.2.2 hd X.2.1))
theorem g_zretX (X : GC l G L0 p s m args meth c cc nL own) {v : Int32} {Q : Int32 → Wd → Prop} {XC : String → State → State → Prop} (hr : meth.sig.returnType = some .boolean) (h1 : cells ≤ mc) (h2 : slots ≤ ms) (hd : decode cc pc = .ok (.ireturn, 1)) (hz : v = 0 ∨ v = 1) (hq : Q v w) : Gw l G L0 p e R s m args below meth c nL cells slots (vx_MQ below (gQi G L0 Q) XC args s mc ms (GA L0)) w pc lv [.int v] :=
  fun H locs ls hG hS hl => W.widen h1 h2 (vx_ret (W.zret X.1.1 X.1.2.1 hr (nar_z hz) (fun t ht hW => ⟨⟨v, w, rfl, hq, by show GWd G L0 w t.heap; rw [ht]; exact hG⟩, hS.F ht⟩) hS.2.2 hd X.2.1))
theorem g_vretX (X : GC l G L0 p s m args meth c cc nL own) {Q : Wd → Prop} {XC : String → State → State → Prop} (hr : meth.sig.returnType = none) (h1 : cells ≤ mc) (h2 : slots ≤ ms) (hd : decode cc pc = .ok (.return_, 1)) (hq : Q w) : Gw l G L0 p e R s m args below meth c nL cells slots (vx_MQ below (gQv G L0 Q) XC args s mc ms (GA L0)) w pc lv [] :=
  fun H locs ls hG hS hl => W.widen h1 h2 (vx_ret (W.vret X.1.1 X.1.2.1 hr (fun t ht hW => ⟨⟨w, rfl, hq, by show GWd G L0 w t.heap; rw [ht]; exact hG⟩, hS.F ht⟩) hS.2.2 hd X.2.1))
theorem g_aretX (X : GC l G L0 p s m args meth c cc nL own) {v : Option Nat} {rt : FieldType} {Q : Option Nat → Wd → Prop} {XC : String → State → State → Prop} (hr : meth.sig.returnType = some rt) (hrt : (∃ n, rt = .object n) ∨ ∃ t, rt = .array t) (h1 : cells ≤ mc) (h2 : slots ≤ ms) (hd : decode cc pc = .ok (.areturn, 1)) (hq : Q v w) : Gw l G L0 p e R s m args below meth c nL cells slots (vx_MQ below (gQq G L0 Q) XC args s mc ms (GA L0)) w pc lv [va_rf v] :=
  fun H locs ls hG hS hl => W.widen h1 h2 (vx_ret (W.aret X.1.1 X.1.2.1 hr hrt (by cases v with | none => exact Or.inl rfl | some a => exact Or.inr ⟨a, rfl⟩) (fun t ht hW => ⟨⟨v, w, rfl, hq, by show GWd G L0 w t.heap; rw [ht]; exact hG⟩, hS.F ht⟩) hS.2.2 hd X.2.1))
theorem g_callV_i (X : GC l G L0 p s m args meth c cc nL own) {y : MethodName} {bytes : ByteArray} {maxL n index : Nat} {ret : Option FieldType} {rm : Room} {b : Nat} {C : String} {T : u_T} {N ci k : Nat} {fs : List Value} {As stk : List Value} {Q1 : Int32 → Wd → Prop} (hM : GMi l G L0 y bytes maxL ret rm (.ref b :: As) w Q1) (hc : vwCl[ci]? = some (C, T, N)) (h0 : k ≠ 0 ∧ k ≠ 15) (hk : w.K b = k) (he : wE G w k b = .inr (ci, fs)) 
    (q1 : Cond.methodLink own index y ∈ wAll) (q2 : Cond.instanceMethod y ∈ wAll) (q3 : Cond.selects C y y ∈ wAll) (q4 : Cond.initialized y.cls ∈ wAll) (q5 : Cond.code y bytes maxL ret ∈ wAll) (hd0 : y.cls ≠ "java/lang/invoke/MethodHandle" ∧ y.cls ≠ "java/lang/invoke/VarHandle" ∧ (parseMethodDescriptor y.desc).map (fun d => d.parameters.length) = some n) (hR : rm.frames + 1 ≤ R.frames ∧ 8 + (maxL + 11) + rm.locals ≤ R.locals)
    (hn : As.length = n) (hst : stk = As.reverse ++ .ref b :: st) (hW : (st.map fun v => v.category).sum ≤ 8) (hf : cells + rm.cells ≤ R.cells ∧ slots + rm.slots ≤ R.slots) (hd : decode cc pc = .ok (.invokevirtual index, 3))
    (kk : ∀ (r : Int32) (w1 : Wd), Q1 r w1 → Gw l G L0 p e R s m args below meth c nL (cells + rm.cells) (slots + rm.slots) Q w1 (pc + 3) lv (.int r :: st)) : Gw l G L0 p e R s m args below meth c nL cells slots Q w pc lv stk := by
  intro H locs ls hG hS hl
  subst hst
  exact va_calli (va_runV X.1 hM ⟨callB_of (ws' := wAll) n X.1.2.2.2.2 (wA_good q5) rfl rfl rfl (X.1.2.2.2.2 _ q4) (X.1.2.2.2.2 _ q1) hd0 hR, X.1.2.2.2.2 _ q2, X.1.2.2.2.2 _ q3⟩ ⟨gPc_blind, va_recv X.2.2.2.2.1 (gw_one hG hk h0 he) (q0 := 0) hc rfl, fun U hU hW => ⟨rfl, GS.call X.2.2.2 hS hU hW, by rw [hU]; exact hG⟩⟩ rfl hn hl.1 rfl (lv_room hW) hd hf) hS (fun q _ h => h) (fun q h => h) (fun r u t H1 locs1 ht hvm hq hB hz hk1 hS1 => kk r u hq H1 locs1 ls (by rw [← ht]; exact hB) hS1 hl)
theorem g_callV_q (X : GC l G L0 p s m args meth c cc nL own) {y : MethodName} {bytes : ByteArray} {maxL n index : Nat} {ret : Option FieldType} {rm : Room} {b : Nat} {C : String} {T : u_T} {N ci k : Nat} {fs : List Value} {As stk : List Value} {Q1 : Option Nat → Wd → Prop} (hM : GMq l G L0 y bytes maxL ret rm (.ref b :: As) w Q1) (hc : vwCl[ci]? = some (C, T, N)) (h0 : k ≠ 0 ∧ k ≠ 15) (hk : w.K b = k) (he : wE G w k b = .inr (ci, fs)) 
    (q1 : Cond.methodLink own index y ∈ wAll) (q2 : Cond.instanceMethod y ∈ wAll) (q3 : Cond.selects C y y ∈ wAll) (q4 : Cond.initialized y.cls ∈ wAll) (q5 : Cond.code y bytes maxL ret ∈ wAll) (hd0 : y.cls ≠ "java/lang/invoke/MethodHandle" ∧ y.cls ≠ "java/lang/invoke/VarHandle" ∧ (parseMethodDescriptor y.desc).map (fun d => d.parameters.length) = some n) (hR : rm.frames + 1 ≤ R.frames ∧ 8 + (maxL + 11) + rm.locals ≤ R.locals)
    (hn : As.length = n) (hst : stk = As.reverse ++ .ref b :: st) (hW : (st.map fun v => v.category).sum ≤ 8) (hf : cells + rm.cells ≤ R.cells ∧ slots + rm.slots ≤ R.slots) (hd : decode cc pc = .ok (.invokevirtual index, 3))
    (kk : ∀ (r : Option Nat) (w1 : Wd), Q1 r w1 → Gw l G L0 p e R s m args below meth c nL (cells + rm.cells) (slots + rm.slots) Q w1 (pc + 3) lv (va_rf r :: st)) : Gw l G L0 p e R s m args below meth c nL cells slots Q w pc lv stk := by
  intro H locs ls hG hS hl
  subst hst
  exact va_callq (va_runV X.1 hM ⟨callB_of (ws' := wAll) n X.1.2.2.2.2 (wA_good q5) rfl rfl rfl (X.1.2.2.2.2 _ q4) (X.1.2.2.2.2 _ q1) hd0 hR, X.1.2.2.2.2 _ q2, X.1.2.2.2.2 _ q3⟩ ⟨gPc_blind, va_recv X.2.2.2.2.1 (gw_one hG hk h0 he) (q0 := 0) hc rfl, fun U hU hW => ⟨rfl, GS.call X.2.2.2 hS hU hW, by rw [hU]; exact hG⟩⟩ rfl hn hl.1 rfl (lv_room hW) hd hf) hS (fun q _ h => h) (fun q h => h) (fun r u t H1 locs1 ht hvm hq hB hz hk1 hS1 => kk r u hq H1 locs1 ls (by rw [← ht]; exact hB) hS1 hl)
theorem g_callV_v (X : GC l G L0 p s m args meth c cc nL own) {y : MethodName} {bytes : ByteArray} {maxL n index : Nat} {ret : Option FieldType} {rm : Room} {b : Nat} {C : String} {T : u_T} {N ci k : Nat} {fs : List Value} {As stk : List Value} {Q1 : Wd → Prop} (hM : GMv l G L0 y bytes maxL ret rm (.ref b :: As) w Q1) (hc : vwCl[ci]? = some (C, T, N)) (h0 : k ≠ 0 ∧ k ≠ 15) (hk : w.K b = k) (he : wE G w k b = .inr (ci, fs)) 
    (q1 : Cond.methodLink own index y ∈ wAll) (q2 : Cond.instanceMethod y ∈ wAll) (q3 : Cond.selects C y y ∈ wAll) (q4 : Cond.initialized y.cls ∈ wAll) (q5 : Cond.code y bytes maxL ret ∈ wAll) (hd0 : y.cls ≠ "java/lang/invoke/MethodHandle" ∧ y.cls ≠ "java/lang/invoke/VarHandle" ∧ (parseMethodDescriptor y.desc).map (fun d => d.parameters.length) = some n) (hR : rm.frames + 1 ≤ R.frames ∧ 8 + (maxL + 11) + rm.locals ≤ R.locals)
    (hn : As.length = n) (hst : stk = As.reverse ++ .ref b :: st) (hW : (st.map fun v => v.category).sum ≤ 8) (hf : cells + rm.cells ≤ R.cells ∧ slots + rm.slots ≤ R.slots) (hd : decode cc pc = .ok (.invokevirtual index, 3))
    (kk : ∀ w1 : Wd, Q1 w1 → Gw l G L0 p e R s m args below meth c nL (cells + rm.cells) (slots + rm.slots) Q w1 (pc + 3) lv (st)) : Gw l G L0 p e R s m args below meth c nL cells slots Q w pc lv stk := by
  intro H locs ls hG hS hl
  subst hst
  exact va_callv (va_runV X.1 hM ⟨callB_of (ws' := wAll) n X.1.2.2.2.2 (wA_good q5) rfl rfl rfl (X.1.2.2.2.2 _ q4) (X.1.2.2.2.2 _ q1) hd0 hR, X.1.2.2.2.2 _ q2, X.1.2.2.2.2 _ q3⟩ ⟨gPc_blind, va_recv X.2.2.2.2.1 (gw_one hG hk h0 he) (q0 := 0) hc rfl, fun U hU hW => ⟨rfl, GS.call X.2.2.2 hS hU hW, by rw [hU]; exact hG⟩⟩ rfl hn hl.1 rfl (lv_room hW) hd hf) hS (fun q _ h => h) (fun q h => h) (fun u t H1 locs1 ht hvm hq hB hz hk1 hS1 => kk u hq H1 locs1 ls (by rw [← ht]; exact hB) hS1 hl)
theorem g_callS_i (X : GC l G L0 p s m args meth c cc nL own) {y : MethodName} {bytes : ByteArray} {maxL n index : Nat} {ret : Option FieldType} {rm : Room} {As stk : List Value} {Q1 : Int32 → Wd → Prop} (hM : GMi l G L0 y bytes maxL ret rm (As) w Q1) 
    (q1 : Cond.methodLink own index y ∈ wAll) (q3 : Cond.static y ∈ wAll) (q4 : Cond.initialized y.cls ∈ wAll) (q5 : Cond.code y bytes maxL ret ∈ wAll) (hd0 : y.cls ≠ "java/lang/invoke/MethodHandle" ∧ y.cls ≠ "java/lang/invoke/VarHandle" ∧ (parseMethodDescriptor y.desc).map (fun d => d.parameters.length) = some n) (hR : rm.frames + 1 ≤ R.frames ∧ 8 + (maxL + 11) + rm.locals ≤ R.locals)
    (hn : As.length = n) (hst : stk = As.reverse ++ st) (hW : (st.map fun v => v.category).sum ≤ 8) (hf : cells + rm.cells ≤ R.cells ∧ slots + rm.slots ≤ R.slots) (hd : decode cc pc = .ok (.invokestatic index, 3))
    (kk : ∀ (r : Int32) (w1 : Wd), Q1 r w1 → Gw l G L0 p e R s m args below meth c nL (cells + rm.cells) (slots + rm.slots) Q w1 (pc + 3) lv (.int r :: st)) : Gw l G L0 p e R s m args below meth c nL cells slots Q w pc lv stk := by
  intro H locs ls hG hS hl
  subst hst
  exact va_calli (va_runS X.1 hM ⟨callB_of (ws' := wAll) n X.1.2.2.2.2 (wA_good q5) rfl rfl rfl (X.1.2.2.2.2 _ q4) (X.1.2.2.2.2 _ q1) hd0 hR, X.1.2.2.2.2 _ q3⟩ ⟨gPc_blind, fun U hU hW => ⟨rfl, GS.call X.2.2.2 hS hU hW, by rw [hU]; exact hG⟩⟩ rfl hn hl.1 rfl (lv_room hW) hd hf) hS (fun q _ h => h) (fun q h => h) (fun r u t H1 locs1 ht hvm hq hB hz hk1 hS1 => kk r u hq H1 locs1 ls (by rw [← ht]; exact hB) hS1 hl)
theorem g_callS_q (X : GC l G L0 p s m args meth c cc nL own) {y : MethodName} {bytes : ByteArray} {maxL n index : Nat} {ret : Option FieldType} {rm : Room} {As stk : List Value} {Q1 : Option Nat → Wd → Prop} (hM : GMq l G L0 y bytes maxL ret rm (As) w Q1) 
    (q1 : Cond.methodLink own index y ∈ wAll) (q3 : Cond.static y ∈ wAll) (q4 : Cond.initialized y.cls ∈ wAll) (q5 : Cond.code y bytes maxL ret ∈ wAll) (hd0 : y.cls ≠ "java/lang/invoke/MethodHandle" ∧ y.cls ≠ "java/lang/invoke/VarHandle" ∧ (parseMethodDescriptor y.desc).map (fun d => d.parameters.length) = some n) (hR : rm.frames + 1 ≤ R.frames ∧ 8 + (maxL + 11) + rm.locals ≤ R.locals)
    (hn : As.length = n) (hst : stk = As.reverse ++ st) (hW : (st.map fun v => v.category).sum ≤ 8) (hf : cells + rm.cells ≤ R.cells ∧ slots + rm.slots ≤ R.slots) (hd : decode cc pc = .ok (.invokestatic index, 3))
    (kk : ∀ (r : Option Nat) (w1 : Wd), Q1 r w1 → Gw l G L0 p e R s m args below meth c nL (cells + rm.cells) (slots + rm.slots) Q w1 (pc + 3) lv (va_rf r :: st)) : Gw l G L0 p e R s m args below meth c nL cells slots Q w pc lv stk := by
  intro H locs ls hG hS hl
  subst hst
  exact va_callq (va_runS X.1 hM ⟨callB_of (ws' := wAll) n X.1.2.2.2.2 (wA_good q5) rfl rfl rfl (X.1.2.2.2.2 _ q4) (X.1.2.2.2.2 _ q1) hd0 hR, X.1.2.2.2.2 _ q3⟩ ⟨gPc_blind, fun U hU hW => ⟨rfl, GS.call X.2.2.2 hS hU hW, by rw [hU]; exact hG⟩⟩ rfl hn hl.1 rfl (lv_room hW) hd hf) hS (fun q _ h => h) (fun q h => h) (fun r u t H1 locs1 ht hvm hq hB hz hk1 hS1 => kk r u hq H1 locs1 ls (by rw [← ht]; exact hB) hS1 hl)
theorem g_callS_v (X : GC l G L0 p s m args meth c cc nL own) {y : MethodName} {bytes : ByteArray} {maxL n index : Nat} {ret : Option FieldType} {rm : Room} {As stk : List Value} {Q1 : Wd → Prop} (hM : GMv l G L0 y bytes maxL ret rm (As) w Q1) 
    (q1 : Cond.methodLink own index y ∈ wAll) (q3 : Cond.static y ∈ wAll) (q4 : Cond.initialized y.cls ∈ wAll) (q5 : Cond.code y bytes maxL ret ∈ wAll) (hd0 : y.cls ≠ "java/lang/invoke/MethodHandle" ∧ y.cls ≠ "java/lang/invoke/VarHandle" ∧ (parseMethodDescriptor y.desc).map (fun d => d.parameters.length) = some n) (hR : rm.frames + 1 ≤ R.frames ∧ 8 + (maxL + 11) + rm.locals ≤ R.locals)
    (hn : As.length = n) (hst : stk = As.reverse ++ st) (hW : (st.map fun v => v.category).sum ≤ 8) (hf : cells + rm.cells ≤ R.cells ∧ slots + rm.slots ≤ R.slots) (hd : decode cc pc = .ok (.invokestatic index, 3))
    (kk : ∀ w1 : Wd, Q1 w1 → Gw l G L0 p e R s m args below meth c nL (cells + rm.cells) (slots + rm.slots) Q w1 (pc + 3) lv (st)) : Gw l G L0 p e R s m args below meth c nL cells slots Q w pc lv stk := by
  intro H locs ls hG hS hl
  subst hst
  exact va_callv (va_runS X.1 hM ⟨callB_of (ws' := wAll) n X.1.2.2.2.2 (wA_good q5) rfl rfl rfl (X.1.2.2.2.2 _ q4) (X.1.2.2.2.2 _ q1) hd0 hR, X.1.2.2.2.2 _ q3⟩ ⟨gPc_blind, fun U hU hW => ⟨rfl, GS.call X.2.2.2 hS hU hW, by rw [hU]; exact hG⟩⟩ rfl hn hl.1 rfl (lv_room hW) hd hf) hS (fun q _ h => h) (fun q h => h) (fun u t H1 locs1 ht hvm hq hB hz hk1 hS1 => kk u hq H1 locs1 ls (by rw [← ht]; exact hB) hS1 hl)
theorem g_callI_v (X : GC l G L0 p s m args meth c cc nL own) {y : MethodName} {bytes : ByteArray} {maxL n index : Nat} {ret : Option FieldType} {rm : Room} {b : Nat} {As stk : List Value} {Q1 : Wd → Prop} (hM : GMv l G L0 y bytes maxL none rm (.ref b :: As) w Q1) 
    (q1 : Cond.methodLink own index y ∈ wAll) (q2 : Cond.instanceMethod y ∈ wAll) (hy1 : y.name = "<init>") (q4 : Cond.initialized y.cls ∈ wAll) (q5 : Cond.code y bytes maxL none ∈ wAll) (hd0 : y.cls ≠ "java/lang/invoke/MethodHandle" ∧ y.cls ≠ "java/lang/invoke/VarHandle" ∧ (parseMethodDescriptor y.desc).map (fun d => d.parameters.length) = some n) (hR : rm.frames + 1 ≤ R.frames ∧ 8 + (maxL + 11) + rm.locals ≤ R.locals)
    (hn : As.length = n) (hst : stk = As.reverse ++ .ref b :: st) (hW : (st.map fun v => v.category).sum ≤ 8) (hf : cells + rm.cells ≤ R.cells ∧ slots + rm.slots ≤ R.slots) (hd : decode cc pc = .ok (.invokespecial index, 3))
    (kk : ∀ w1 : Wd, Q1 w1 → Gw l G L0 p e R s m args below meth c nL (cells + rm.cells) (slots + rm.slots) Q w1 (pc + 3) lv (st)) : Gw l G L0 p e R s m args below meth c nL cells slots Q w pc lv stk := by
  intro H locs ls hG hS hl
  subst hst
  exact va_callv (va_runI X.1 hM ⟨callB_of (ws' := wAll) n X.1.2.2.2.2 (wA_good q5) rfl rfl rfl (X.1.2.2.2.2 _ q4) (X.1.2.2.2.2 _ q1) hd0 hR, hy1, X.1.2.2.2.2 _ q2⟩ ⟨gPc_blind, fun U hU hW => ⟨rfl, GS.call X.2.2.2 hS hU hW, by rw [hU]; exact hG⟩⟩ rfl hn hl.1 rfl (lv_room hW) hd hf) hS (fun q _ h => h) (fun q h => h) (fun u t H1 locs1 ht hvm hq hB hz hk1 hS1 => kk u hq H1 locs1 ls (by rw [← ht]; exact hB) hS1 hl)
theorem vx_callq {S SX : Type} {post : Option Nat → S → Prop} {px : SX → Prop} {B : S → State → Prop} {BX : String → SX → State → Prop} {AX A0 A1 free : Nat → Prop} {H H0 : Heap} {locs : List Loc} {a : Array Value} {ls : Array Slot} {st0 rest : List Value} (hr : vx_Run p l e R s m args below meth c H locs cells slots mc ms (F0 m pc ls st0) rest (va_Qq post B A1 a) (vx_X px BX AX) free) (hS : va_S A0 H0 H locs) (hA : ∀ q, q < H.size → A1 q → A0 q) (hf : ∀ q, free q → A0 q) (hAX : ∀ q, q < H.size → AX q → A0 q)
    (kx : ∀ (E : String) (ce : Cell) (q9 : Addr) (u : SX) (t : State) (H1 : Heap) (locs1 : List Loc), t.heap = H1 → s.vm.Alike t.vm → px u → BX E u t → H.size ≤ H1.size → (∀ q : Nat, q < H.size → ¬ AX q → H1[q]? = H[q]?) → va_S A0 H0 H1 locs1 → H1[q9]? = some ce → ce.vm = .none → s.vm.findClass E = some ce.cls → vx_W p l e R s m args below meth c H1 locs1 (cells + mc) (slots + ms) Q (F0 m pc ls rest) q9)
    (kk : ∀ (r : Option Nat) (u : S) (t : State) (H1 : Heap) (locs1 : List Loc), t.heap = H1 → s.vm.Alike t.vm → post r u → B u t → H.size ≤ H1.size → (∀ q : Nat, q < H.size → ¬ A1 q → H1[q]? = H[q]?) → va_S A0 H0 H1 locs1 → W p l e R s m args below meth c H1 locs1 (cells + mc) (slots + ms) Q (F0 m (pc + 3) ls (va_rf r :: rest))) : W p l e R s m args below meth c H locs cells slots Q (F0 m pc ls st0) := by
  intro T hT X
  rcases hr T hT X with ⟨v, st₀, t, T', L, h0, X', hL, e1, e2, ⟨⟨r, u, hv, hp, hb⟩, hF⟩, st⟩ | ⟨q, st₀, t, T', L, E, ce, h0, X', hL, e1, e2, ⟨u, hp, hb, hF⟩, hce, hcv, hcl, st⟩
  · cases hv
    obtain ⟨k1, k2, k3⟩ := vx_keep h0 e1 hS hA hf hL hF
    obtain ⟨t2, a1, b1⟩ := kk r u t T'.heap (locs ++ L) e1.symm (by rw [← e2]; exact X'.warmed.alike) hp hb k1 k2 k3 T' rfl X'
    exact ⟨t2, st t2 a1, b1⟩
  · obtain ⟨k1, k2, k3⟩ := vx_keep h0 e1 hS hAX hf hL hF
    obtain ⟨t2, a1, b1⟩ := kx E ce q u t T'.heap (locs ++ L) e1.symm (by rw [← e2]; exact X'.warmed.alike) hp hb k1 k2 k3 (by rw [e1]; exact hce) hcv hcl T' rfl X'
    exact ⟨t2, st.trans a1, b1⟩
theorem g_callXV_q (X : GC l G L0 p s m args meth c cc nL own) {y : MethodName} {bytes : ByteArray} {maxL n index : Nat} {ret : Option FieldType} {rm : Room} {b : Nat} {C : String} {T : u_T} {N ci k : Nat} {fs : List Value} {As stk : List Value} {Q1 : Option Nat → Wd → Prop} {QX1 : String → Wd → Prop} {Qc : Array Value → State → Outcome → State → Prop} {QX : String → Wd → Prop} (htab : ∀ x ∈ c.exceptionTable.toList, False) (hM : GXq l G L0 y bytes maxL ret rm (.ref b :: As) w Q1 QX1) (hc : vwCl[ci]? = some (C, T, N)) (h0 : k ≠ 0 ∧ k ≠ 15) (hk : w.K b = k) (he : wE G w k b = .inr (ci, fs)) 
    (q1 : Cond.methodLink own index y ∈ wAll) (q2 : Cond.instanceMethod y ∈ wAll) (q3 : Cond.selects C y y ∈ wAll) (q4 : Cond.initialized y.cls ∈ wAll) (q5 : Cond.code y bytes maxL ret ∈ wAll) (hd0 : y.cls ≠ "java/lang/invoke/MethodHandle" ∧ y.cls ≠ "java/lang/invoke/VarHandle" ∧ (parseMethodDescriptor y.desc).map (fun d => d.parameters.length) = some n) (hR : rm.frames + 1 ≤ R.frames ∧ 8 + (maxL + 11) + rm.locals ≤ R.locals)
    (hn : As.length = n) (hst : stk = As.reverse ++ .ref b :: st) (hW : (st.map fun v => v.category).sum ≤ 8) (hf : cells + rm.cells ≤ R.cells ∧ slots + rm.slots ≤ R.slots) (hd : decode cc pc = .ok (.invokevirtual index, 3))
    (hcm : cells + rm.cells ≤ mc) (hsm : slots + rm.slots ≤ ms) (kx : ∀ (E : String) (w1 : Wd), QX1 E w1 → QX E w1)
    (kk : ∀ (r : Option Nat) (w1 : Wd), Q1 r w1 → Gw l G L0 p e R s m args below meth c nL (cells + rm.cells) (slots + rm.slots) (vx_MQ below Qc (gXC G L0 QX) args s mc ms (GA L0)) w1 (pc + 3) lv (va_rf r :: st)) : Gw l G L0 p e R s m args below meth c nL cells slots (vx_MQ below Qc (gXC G L0 QX) args s mc ms (GA L0)) w pc lv stk := by
  intro H locs ls hG hS hl
  subst hst
  exact vx_callq (vx_runV X.1 hM ⟨callB_of (ws' := wAll) n X.1.2.2.2.2 (wA_good q5) rfl rfl rfl (X.1.2.2.2.2 _ q4) (X.1.2.2.2.2 _ q1) hd0 hR, X.1.2.2.2.2 _ q2, X.1.2.2.2.2 _ q3⟩ ⟨gPc_blind, va_recv X.2.2.2.2.1 (gw_one hG hk h0 he) (q0 := 0) hc rfl, fun U hU hW => ⟨rfl, GS.call X.2.2.2 hS hU hW, by rw [hU]; exact hG⟩⟩ rfl hn hl.1 rfl (lv_room hW) hd hf) hS (fun q _ h => h) (fun q h => h) (fun q _ h => h)
    (fun E ce q9 u t H1 locs1 ht hvm _ hB hz hk1 hS1 hce hcv hcl => vx_out (fun x hx => (htab x hx).elim) X.2.1 hce hcv hcl (fun t1 ht1 hvm1 => ⟨u, trivial, ⟨kx E u hB.1, by show GWd G L0 u t1.heap; rw [ht1, ← ht]; exact hB.2⟩, hS1.F ht1⟩) hS1.2.2 hcm hsm)
    (fun r u t H1 locs1 ht hvm hq hB hz hk1 hS1 => kk r u hq H1 locs1 ls (by rw [← ht]; exact hB) hS1 hl)
theorem g_callXS_v (X : GC l G L0 p s m args meth c cc nL own) {y : MethodName} {bytes : ByteArray} {maxL n index : Nat} {ret : Option FieldType} {rm : Room} {As stk : List Value} {Q1 : Wd → Prop} {QX1 : String → Wd → Prop} {Qc : Array Value → State → Outcome → State → Prop} {QX : String → Wd → Prop} (htab : ∀ x ∈ c.exceptionTable.toList, False) (hM : GXv l G L0 y bytes maxL ret rm (As) w Q1 QX1) 
    (q1 : Cond.methodLink own index y ∈ wAll) (q3 : Cond.static y ∈ wAll) (q4 : Cond.initialized y.cls ∈ wAll) (q5 : Cond.code y bytes maxL ret ∈ wAll) (hd0 : y.cls ≠ "java/lang/invoke/MethodHandle" ∧ y.cls ≠ "java/lang/invoke/VarHandle" ∧ (parseMethodDescriptor y.desc).map (fun d => d.parameters.length) = some n) (hR : rm.frames + 1 ≤ R.frames ∧ 8 + (maxL + 11) + rm.locals ≤ R.locals)
    (hn : As.length = n) (hst : stk = As.reverse ++ st) (hW : (st.map fun v => v.category).sum ≤ 8) (hf : cells + rm.cells ≤ R.cells ∧ slots + rm.slots ≤ R.slots) (hd : decode cc pc = .ok (.invokestatic index, 3))
    (hcm : cells + rm.cells ≤ mc) (hsm : slots + rm.slots ≤ ms) (kx : ∀ (E : String) (w1 : Wd), QX1 E w1 → QX E w1)
    (kk : ∀ w1 : Wd, Q1 w1 → Gw l G L0 p e R s m args below meth c nL (cells + rm.cells) (slots + rm.slots) (vx_MQ below Qc (gXC G L0 QX) args s mc ms (GA L0)) w1 (pc + 3) lv (st)) : Gw l G L0 p e R s m args below meth c nL cells slots (vx_MQ below Qc (gXC G L0 QX) args s mc ms (GA L0)) w pc lv stk := by
  intro H locs ls hG hS hl
  subst hst
  exact vx_callv (vx_runS X.1 hM ⟨callB_of (ws' := wAll) n X.1.2.2.2.2 (wA_good q5) rfl rfl rfl (X.1.2.2.2.2 _ q4) (X.1.2.2.2.2 _ q1) hd0 hR, X.1.2.2.2.2 _ q3⟩ ⟨gPc_blind, fun U hU hW => ⟨rfl, GS.call X.2.2.2 hS hU hW, by rw [hU]; exact hG⟩⟩ rfl hn hl.1 rfl (lv_room hW) hd hf) hS (fun q _ h => h) (fun q h => h) (fun q _ h => h)
    (fun E ce q9 u t H1 locs1 ht hvm _ hB hz hk1 hS1 hce hcv hcl => vx_out (fun x hx => (htab x hx).elim) X.2.1 hce hcv hcl (fun t1 ht1 hvm1 => ⟨u, trivial, ⟨kx E u hB.1, by show GWd G L0 u t1.heap; rw [ht1, ← ht]; exact hB.2⟩, hS1.F ht1⟩) hS1.2.2 hcm hsm)
    (fun u t H1 locs1 ht hvm hq hB hz hk1 hS1 => kk u hq H1 locs1 ls (by rw [← ht]; exact hB) hS1 hl)
theorem g_callYV_i (X : GC l G L0 p s m args meth c cc nL own) {y : MethodName} {bytes : ByteArray} {maxL n index : Nat} {ret : Option FieldType} {rm : Room} {b : Nat} {C : String} {T : u_T} {N ci k : Nat} {fs : List Value} {As stk : List Value} {Q1 : Int32 → Wd → Prop} {QX1 : String → Wd → Prop} {Q : State → Prop} (hM : GXi l G L0 y bytes maxL ret rm (.ref b :: As) w Q1 QX1) (hc : vwCl[ci]? = some (C, T, N)) (h0 : k ≠ 0 ∧ k ≠ 15) (hk : w.K b = k) (he : wE G w k b = .inr (ci, fs)) 
    (q1 : Cond.methodLink own index y ∈ wAll) (q2 : Cond.instanceMethod y ∈ wAll) (q3 : Cond.selects C y y ∈ wAll) (q4 : Cond.initialized y.cls ∈ wAll) (q5 : Cond.code y bytes maxL ret ∈ wAll) (hd0 : y.cls ≠ "java/lang/invoke/MethodHandle" ∧ y.cls ≠ "java/lang/invoke/VarHandle" ∧ (parseMethodDescriptor y.desc).map (fun d => d.parameters.length) = some n) (hR : rm.frames + 1 ≤ R.frames ∧ 8 + (maxL + 11) + rm.locals ≤ R.locals)
    (hn : As.length = n) (hst : stk = As.reverse ++ .ref b :: st) (hW : (st.map fun v => v.category).sum ≤ 8) (hf : cells + rm.cells ≤ R.cells ∧ slots + rm.slots ≤ R.slots) (hd : decode cc pc = .ok (.invokevirtual index, 3))
    (kx : ∀ (E : String) (w1 : Wd), QX1 E w1 → ∀ (H : Heap) (locs : List Loc) (ls : Array Slot) (ce : Cell) (q9 : Addr), GWd G L0 w1 H → va_S (GA L0) s.heap H locs → lv_has ls nL (lvV lv) → H[q9]? = some ce → ce.vm = .none → s.vm.findClass E = some ce.cls → vx_W p l e R s m args below meth c H locs (cells + rm.cells) (slots + rm.slots) Q (F0 m pc ls st) q9)
    (kk : ∀ (r : Int32) (w1 : Wd), Q1 r w1 → Gw l G L0 p e R s m args below meth c nL (cells + rm.cells) (slots + rm.slots) Q w1 (pc + 3) lv (.int r :: st)) : Gw l G L0 p e R s m args below meth c nL cells slots Q w pc lv stk := by
  intro H locs ls hG hS hl
  subst hst
  exact vx_calli (vx_runV X.1 hM ⟨callB_of (ws' := wAll) n X.1.2.2.2.2 (wA_good q5) rfl rfl rfl (X.1.2.2.2.2 _ q4) (X.1.2.2.2.2 _ q1) hd0 hR, X.1.2.2.2.2 _ q2, X.1.2.2.2.2 _ q3⟩ ⟨gPc_blind, va_recv X.2.2.2.2.1 (gw_one hG hk h0 he) (q0 := 0) hc rfl, fun U hU hW => ⟨rfl, GS.call X.2.2.2 hS hU hW, by rw [hU]; exact hG⟩⟩ rfl hn hl.1 rfl (lv_room hW) hd hf) hS (fun q _ h => h) (fun q h => h) (fun q _ h => h)
    (fun E ce q9 u t H1 locs1 ht hvm _ hB hz hk1 hS1 hce hcv hcl => kx E u hB.1 H1 locs1 ls ce q9 (by rw [← ht]; exact hB.2) hS1 hl hce hcv hcl)
    (fun r u t H1 locs1 ht hvm hq hB hz hk1 hS1 => kk r u hq H1 locs1 ls (by rw [← ht]; exact hB) hS1 hl)
theorem g_objInit (X : GC l G L0 p s m args meth c cc nL own) {idx b : Nat} (q1 : Cond.methodLink own idx objectInit ∈ wAll) (q2 : Cond.instanceMethod objectInit ∈ wAll) (q3 : Cond.code objectInit ⟨#[0xb1]⟩ 1 none ∈ wAll) (hf : 1 ≤ R.frames) (hlo : (st.map fun v => v.category).sum + 12 ≤ R.locals) (hd : decode cc pc = .ok (.invokespecial idx, 3))
    (kk : Gw l G L0 p e R s m args below meth c nL cells slots Q w (pc + 3) lv st) : Gw l G L0 p e R s m args below meth c nL cells slots Q w pc lv (.ref b :: st) :=
  fun H locs ls hG hS hl => W.objInit X.1.1 X.1.2.1 X.1.2.2.2.1 (X.1.2.2.2.2 _ q1) (X.1.2.2.2.2 _ q2) (X.1.2.2.2.2 _ q3) rfl (hl.1.trans X.1.2.2.1.symm) rfl hd hf (by show 2 * 0 + _ + 12 ≤ _; omega) (kk H locs ls hG hS hl)
theorem g_throw (X : GC l G L0 p s m args meth c cc nL own) {Qc : Array Value → State → Outcome → State → Prop} {QX : String → Wd → Prop} {cls text : String} {ik is ic : Nat} (htab : ∀ x ∈ c.exceptionTable.toList, False) (hcls : Bundle.fit cls = true) (q1 : Cond.classLink own ik cls ∈ wAll) (q2 : Cond.initialized cls ∈ wAll) (q3 : (own, is, text) ∈ gStr)
    (hg : ∀ x ∈ (vx_atS own ic cls gN2).filter goodWord, x ∈ wAll) (hb : ∀ x ∈ (vx_atS own ic cls gN2).filter (fun x => !goodWord x), x ∈ gNG) (ho : ∀ x ∈ vx_atS own ic cls gN2, vx_ot x = true)
    (d0 : decode cc pc = .ok (.new ik, 3)) (d3 : decode cc (pc + 3) = .ok (.dup, 1)) (d4 : (decode cc (pc + 4) = .ok (.ldc is, 2) ∧ decode cc (pc + 6) = .ok (.invokespecial ic, 3) ∧ decode cc (pc + 9) = .ok (.athrow, 1)) ∨ (decode cc (pc + 4) = .ok (.ldc_w is, 3) ∧ decode cc (pc + 7) = .ok (.invokespecial ic, 3) ∧ decode cc (pc + 10) = .ok (.athrow, 1)))
    (hf : 6 ≤ R.frames) (hlo : (st.map fun v => v.category).sum + 82 ≤ R.locals) (hRc : cells + 1 ≤ R.cells) (hRs : slots + 6 ≤ R.slots) (hc : cells + 1 ≤ mc) (hs : slots + 6 ≤ ms) (hq : QX cls w) : Gw l G L0 p e R s m args below meth c nL cells slots (vx_MQ below Qc (gXC G L0 QX) args s mc ms (GA L0)) w pc lv st := by
  intro H locs ls hG hS hl
  obtain ⟨sa, hsa⟩ := X.2.2.2.2.2.2.2.2.2.2.2.2 _ q3
  have hat : ∀ x ∈ vx_atS own ic cls gN2, x.before args s = true := vx_hat (fun x h => X.1.2.2.2.2 x (hg x h)) hb (fun x hx => by
    rcases List.mem_append.mp hx with h | h
    · obtain ⟨q, hq, rfl⟩ := List.mem_map.mp h
      exact va_Nw.use rfl (X.2.2.2.2.2.2.1 q hq)
    · obtain ⟨q, hq, rfl⟩ := List.mem_map.mp h
      exact va_Nw.use rfl (X.2.2.2.2.2.2.2.2.2.2.2.1 q hq))
  have hot : ∀ x ∈ Cond.classLink own ik cls :: Cond.initialized cls :: vx_atS own ic cls gN2, vx_ot x = true := fun x hx => by
    rcases List.mem_cons.mp hx with h | h
    · rw [h]; rfl
    · rcases List.mem_cons.mp h with h | h
      · rw [h]; rfl
      · exact ho x h
  have hx : ∀ t : State, s.vm.Alike t.vm → H.size ≤ t.heap.size → (∀ q : Nat, q < H.size → t.heap[q]? = H[q]?) → gXC G L0 QX cls s t := by
    intro t _ h1 h2
    refine ⟨w, trivial, ⟨hq, gw_kept hG h2⟩, Nat.le_trans hS.1 h1, fun q h3 h4 => ?_⟩
    rw [h2 q (Nat.lt_of_lt_of_le h3 hS.1)]
    exact hS.2.1 q h3 h4
  rcases d4 with ⟨d4, d6, d9⟩ | ⟨d4, d6, d9⟩
  · exact vx_throwS (names := gN2) X.1.1 X.1.2.1 X.2.2.1 X.1.2.2.2.1 hcls (by decide +kernel) (X.1.2.2.2.2 _ q1) (X.1.2.2.2.2 _ q2) hsa hat hot X.2.2.2.2.2.1.1 X.2.2.2.2.2.1.2.1 hS (hl.1.trans X.1.2.2.1.symm) d0 d3 d4 d6 d9 (fun x hx => (htab x hx).elim) (by show 2 + 3 < _; omega) (by show _ + (13 * (2 + 1) + 43) ≤ _; omega) hRc hRs X.2.1 hx hS.2.2 hc hs
  · exact vx_throwSW (names := gN2) X.1.1 X.1.2.1 X.2.2.1 X.1.2.2.2.1 hcls (by decide +kernel) (X.1.2.2.2.2 _ q1) (X.1.2.2.2.2 _ q2) hsa hat hot X.2.2.2.2.2.1.1 X.2.2.2.2.2.1.2.1 hS (hl.1.trans X.1.2.2.1.symm) d0 d3 d4 d6 d9 (fun x hx => (htab x hx).elim) (by show 2 + 3 < _; omega) (by show _ + (13 * (2 + 1) + 43) ≤ _; omega) hRc hRs X.2.1 hx hS.2.2 hc hs
end GR2
end
section
section FLD
variable {l : Launch} {G : GT} {L0 : Nat} {p : Program} {e : Env} {R : Room} {s : State} {m : MethodId} {args : Array Value} {below : List Frame} {meth : Method} {c : Code} {cc : ByteArray} {nL : Nat} {own : String} {cells slots : Nat} {Q : State → Prop} {w : Wd} {pc : Nat} {lv : Lc} {st : List Value}
theorem in_X0 : ∀ x ∈ u_ws RX0 TX0 8, x ∈ wAll := by decide +kernel
def fs_1 (w : Wd) (a : Nat) : List Value := [.int (w.I 100 a), .int (w.I 101 a), va_rf (w.R 102 a), va_rf (w.R 103 a), .int (w.I 104 a), .int (w.I 105 a), .int (w.I 106 a), .int (w.I 107 a)]
theorem wE_1 (G : GT) (w : Wd) (a : Nat) : wE G w 1 a = .inr (3, fs_1 w a) := rfl
theorem gg_100 (X : GC l G L0 p s m args meth c cc nL own) {a index : Nat} (hk : w.K a = 1) (q : Cond.fieldLink own index "SusuRing$Circle" "sum" "I" ∈ wAll) (hd : decode cc pc = .ok (.getfield index, 3)) (kk : ∀ v : Int32, v = w.I 100 a → Gw l G L0 p e R s m args below meth c nL cells slots Q w (pc + 3) lv (.int v :: st)) : Gw l G L0 p e R s m args below meth c nL cells slots Q w pc lv (.ref a :: st) :=
  g_get X (C := RX0) (T := TX0) (N := 8) (ci := 3) (j := 0) in_X0 rfl (by decide) (by decide) hk (wE_1 G w a) rfl "SusuRing$Circle" (fun _ h => h) q hd (kk _ rfl)
theorem gp_100 (X : GC l G L0 p s m args meth c cc nL own) {a index : Nat} {v : Int32} (hk : w.K a = 1) (hin2 : meth.name = "<init>") (hown : RX0 = own) (q : Cond.fieldLink own index "SusuRing$Circle" "sum" "I" ∈ wAll) (hd : decode cc pc = .ok (.putfield index, 3)) (kk : ∀ w1 : Wd, w1 = w.setI 100 a v → Gw l G L0 p e R s m args below meth c nL cells slots Q w1 (pc + 3) lv st) : Gw l G L0 p e R s m args below meth c nL cells slots Q w pc lv (.int v :: .ref a :: st) :=
  g_putF X (C := RX0) (T := TX0) (N := 8) (ci := 3) (j := 0) (w1 := w.setI 100 a v) tyX0 tyX0_ok nmX0 in_X0 rfl (by decide) (by decide) hk (wE_1 G w a) (show 0 < 8 by decide) hin2 hown rfl rfl rfl rfl "SusuRing$Circle" (fun _ h => h) q hd rfl rfl (by show (Sum.inr (3, [.int (up2 w.I 100 a v 100 a), .int (up2 w.I 100 a v 101 a), va_rf (w.R 102 a), va_rf (w.R 103 a), .int (up2 w.I 100 a v 104 a), .int (up2 w.I 100 a v 105 a), .int (up2 w.I 100 a v 106 a), .int (up2 w.I 100 a v 107 a)]) : va_E) = Sum.inr (3, (fs_1 w a).set 0 (.int v)); simp [fs_1, up2]) (fun b hb => wE_I hb) (kk _ rfl)
theorem gg_101 (X : GC l G L0 p s m args meth c cc nL own) {a index : Nat} (hk : w.K a = 1) (q : Cond.fieldLink own index "SusuRing$Circle" "way" "I" ∈ wAll) (hd : decode cc pc = .ok (.getfield index, 3)) (kk : ∀ v : Int32, v = w.I 101 a → Gw l G L0 p e R s m args below meth c nL cells slots Q w (pc + 3) lv (.int v :: st)) : Gw l G L0 p e R s m args below meth c nL cells slots Q w pc lv (.ref a :: st) :=
  g_get X (C := RX0) (T := TX0) (N := 8) (ci := 3) (j := 1) in_X0 rfl (by decide) (by decide) hk (wE_1 G w a) rfl "SusuRing$Circle" (fun _ h => h) q hd (kk _ rfl)
theorem gp_101 (X : GC l G L0 p s m args meth c cc nL own) {a index : Nat} {v : Int32} (hk : w.K a = 1) (hin2 : meth.name = "<init>") (hown : RX0 = own) (q : Cond.fieldLink own index "SusuRing$Circle" "way" "I" ∈ wAll) (hd : decode cc pc = .ok (.putfield index, 3)) (kk : ∀ w1 : Wd, w1 = w.setI 101 a v → Gw l G L0 p e R s m args below meth c nL cells slots Q w1 (pc + 3) lv st) : Gw l G L0 p e R s m args below meth c nL cells slots Q w pc lv (.int v :: .ref a :: st) :=
  g_putF X (C := RX0) (T := TX0) (N := 8) (ci := 3) (j := 1) (w1 := w.setI 101 a v) tyX0 tyX0_ok nmX0 in_X0 rfl (by decide) (by decide) hk (wE_1 G w a) (show 1 < 8 by decide) hin2 hown rfl rfl rfl rfl "SusuRing$Circle" (fun _ h => h) q hd rfl rfl (by show (Sum.inr (3, [.int (up2 w.I 101 a v 100 a), .int (up2 w.I 101 a v 101 a), va_rf (w.R 102 a), va_rf (w.R 103 a), .int (up2 w.I 101 a v 104 a), .int (up2 w.I 101 a v 105 a), .int (up2 w.I 101 a v 106 a), .int (up2 w.I 101 a v 107 a)]) : va_E) = Sum.inr (3, (fs_1 w a).set 1 (.int v)); simp [fs_1, up2]) (fun b hb => wE_I hb) (kk _ rfl)
theorem gg_102 (X : GC l G L0 p s m args meth c cc nL own) {a index : Nat} (hk : w.K a = 1) (q : Cond.fieldLink own index "SusuRing$Circle" "places" "Ljava/util/ArrayList;" ∈ wAll) (hd : decode cc pc = .ok (.getfield index, 3)) (kk : ∀ v : Option Nat, v = w.R 102 a → Gw l G L0 p e R s m args below meth c nL cells slots Q w (pc + 3) lv (va_rf v :: st)) : Gw l G L0 p e R s m args below meth c nL cells slots Q w pc lv (.ref a :: st) :=
  g_get X (C := RX0) (T := TX0) (N := 8) (ci := 3) (j := 2) in_X0 rfl (by decide) (by decide) hk (wE_1 G w a) rfl "SusuRing$Circle" (fun _ h => h) q hd (kk _ rfl)
theorem gp_102 (X : GC l G L0 p s m args meth c cc nL own) {a index : Nat} {v : Option Nat} (hk : w.K a = 1) (hin2 : meth.name = "<init>") (hown : RX0 = own) (q : Cond.fieldLink own index "SusuRing$Circle" "places" "Ljava/util/ArrayList;" ∈ wAll) (hd : decode cc pc = .ok (.putfield index, 3)) (kk : ∀ w1 : Wd, w1 = w.setR 102 a v → Gw l G L0 p e R s m args below meth c nL cells slots Q w1 (pc + 3) lv st) : Gw l G L0 p e R s m args below meth c nL cells slots Q w pc lv (va_rf v :: .ref a :: st) :=
  g_putF X (C := RX0) (T := TX0) (N := 8) (ci := 3) (j := 2) (w1 := w.setR 102 a v) tyX0 tyX0_ok nmX0 in_X0 rfl (by decide) (by decide) hk (wE_1 G w a) (show 2 < 8 by decide) hin2 hown rfl rfl (by cases v <;> rfl) (by cases v <;> rfl) "SusuRing$Circle" (fun _ h => h) q hd rfl rfl (by show (Sum.inr (3, [.int (w.I 100 a), .int (w.I 101 a), va_rf (up2 w.R 102 a v 102 a), va_rf (up2 w.R 102 a v 103 a), .int (w.I 104 a), .int (w.I 105 a), .int (w.I 106 a), .int (w.I 107 a)]) : va_E) = Sum.inr (3, (fs_1 w a).set 2 (va_rf v)); simp [fs_1, up2]) (fun b hb => wE_R hb) (kk _ rfl)
theorem gg_103 (X : GC l G L0 p s m args meth c cc nL own) {a index : Nat} (hk : w.K a = 1) (q : Cond.fieldLink own index "SusuRing$Circle" "order" "Ljava/util/ArrayList;" ∈ wAll) (hd : decode cc pc = .ok (.getfield index, 3)) (kk : ∀ v : Option Nat, v = w.R 103 a → Gw l G L0 p e R s m args below meth c nL cells slots Q w (pc + 3) lv (va_rf v :: st)) : Gw l G L0 p e R s m args below meth c nL cells slots Q w pc lv (.ref a :: st) :=
  g_get X (C := RX0) (T := TX0) (N := 8) (ci := 3) (j := 3) in_X0 rfl (by decide) (by decide) hk (wE_1 G w a) rfl "SusuRing$Circle" (fun _ h => h) q hd (kk _ rfl)
theorem gp_103 (X : GC l G L0 p s m args meth c cc nL own) {a index : Nat} {v : Option Nat} (hk : w.K a = 1) (hin2 : meth.name = "<init>") (hown : RX0 = own) (q : Cond.fieldLink own index "SusuRing$Circle" "order" "Ljava/util/ArrayList;" ∈ wAll) (hd : decode cc pc = .ok (.putfield index, 3)) (kk : ∀ w1 : Wd, w1 = w.setR 103 a v → Gw l G L0 p e R s m args below meth c nL cells slots Q w1 (pc + 3) lv st) : Gw l G L0 p e R s m args below meth c nL cells slots Q w pc lv (va_rf v :: .ref a :: st) :=
  g_putF X (C := RX0) (T := TX0) (N := 8) (ci := 3) (j := 3) (w1 := w.setR 103 a v) tyX0 tyX0_ok nmX0 in_X0 rfl (by decide) (by decide) hk (wE_1 G w a) (show 3 < 8 by decide) hin2 hown rfl rfl (by cases v <;> rfl) (by cases v <;> rfl) "SusuRing$Circle" (fun _ h => h) q hd rfl rfl (by show (Sum.inr (3, [.int (w.I 100 a), .int (w.I 101 a), va_rf (up2 w.R 103 a v 102 a), va_rf (up2 w.R 103 a v 103 a), .int (w.I 104 a), .int (w.I 105 a), .int (w.I 106 a), .int (w.I 107 a)]) : va_E) = Sum.inr (3, (fs_1 w a).set 3 (va_rf v)); simp [fs_1, up2]) (fun b hb => wE_R hb) (kk _ rfl)
theorem gg_104 (X : GC l G L0 p s m args meth c cc nL own) {a index : Nat} (hk : w.K a = 1) (q : Cond.fieldLink own index "SusuRing$Circle" "started" "Z" ∈ wAll) (hd : decode cc pc = .ok (.getfield index, 3)) (kk : ∀ v : Int32, v = w.I 104 a → Gw l G L0 p e R s m args below meth c nL cells slots Q w (pc + 3) lv (.int v :: st)) : Gw l G L0 p e R s m args below meth c nL cells slots Q w pc lv (.ref a :: st) :=
  g_get X (C := RX0) (T := TX0) (N := 8) (ci := 3) (j := 4) in_X0 rfl (by decide) (by decide) hk (wE_1 G w a) rfl "SusuRing$Circle" (fun _ h => h) q hd (kk _ rfl)
theorem gp_104 (X : GC l G L0 p s m args meth c cc nL own) {a index : Nat} {v : Int32} (hk : w.K a = 1) (hz : v = 0 ∨ v = 1) (q : Cond.fieldLink own index "SusuRing$Circle" "started" "Z" ∈ wAll) (hd : decode cc pc = .ok (.putfield index, 3)) (kk : ∀ w1 : Wd, w1 = w.setI 104 a v → Gw l G L0 p e R s m args below meth c nL cells slots Q w1 (pc + 3) lv st) : Gw l G L0 p e R s m args below meth c nL cells slots Q w pc lv (.int v :: .ref a :: st) :=
  g_put X (C := RX0) (T := TX0) (N := 8) (ci := 3) (j := 4) (w1 := w.setI 104 a v) tyX0 tyX0_ok nmX0 in_X0 rfl (by decide) (by decide) hk (wE_1 G w a) (show 4 < 8 by decide) rfl rfl (nar_z hz) (fit_z hz) "SusuRing$Circle" (fun _ h => h) q hd rfl rfl (by show (Sum.inr (3, [.int (up2 w.I 104 a v 100 a), .int (up2 w.I 104 a v 101 a), va_rf (w.R 102 a), va_rf (w.R 103 a), .int (up2 w.I 104 a v 104 a), .int (up2 w.I 104 a v 105 a), .int (up2 w.I 104 a v 106 a), .int (up2 w.I 104 a v 107 a)]) : va_E) = Sum.inr (3, (fs_1 w a).set 4 (.int v)); simp [fs_1, up2]) (fun b hb => wE_I hb) (kk _ rfl)
theorem gg_105 (X : GC l G L0 p s m args meth c cc nL own) {a index : Nat} (hk : w.K a = 1) (q : Cond.fieldLink own index "SusuRing$Circle" "box" "I" ∈ wAll) (hd : decode cc pc = .ok (.getfield index, 3)) (kk : ∀ v : Int32, v = w.I 105 a → Gw l G L0 p e R s m args below meth c nL cells slots Q w (pc + 3) lv (.int v :: st)) : Gw l G L0 p e R s m args below meth c nL cells slots Q w pc lv (.ref a :: st) :=
  g_get X (C := RX0) (T := TX0) (N := 8) (ci := 3) (j := 5) in_X0 rfl (by decide) (by decide) hk (wE_1 G w a) rfl "SusuRing$Circle" (fun _ h => h) q hd (kk _ rfl)
theorem gp_105 (X : GC l G L0 p s m args meth c cc nL own) {a index : Nat} {v : Int32} (hk : w.K a = 1) (q : Cond.fieldLink own index "SusuRing$Circle" "box" "I" ∈ wAll) (hd : decode cc pc = .ok (.putfield index, 3)) (kk : ∀ w1 : Wd, w1 = w.setI 105 a v → Gw l G L0 p e R s m args below meth c nL cells slots Q w1 (pc + 3) lv st) : Gw l G L0 p e R s m args below meth c nL cells slots Q w pc lv (.int v :: .ref a :: st) :=
  g_put X (C := RX0) (T := TX0) (N := 8) (ci := 3) (j := 5) (w1 := w.setI 105 a v) tyX0 tyX0_ok nmX0 in_X0 rfl (by decide) (by decide) hk (wE_1 G w a) (show 5 < 8 by decide) rfl rfl rfl rfl "SusuRing$Circle" (fun _ h => h) q hd rfl rfl (by show (Sum.inr (3, [.int (up2 w.I 105 a v 100 a), .int (up2 w.I 105 a v 101 a), va_rf (w.R 102 a), va_rf (w.R 103 a), .int (up2 w.I 105 a v 104 a), .int (up2 w.I 105 a v 105 a), .int (up2 w.I 105 a v 106 a), .int (up2 w.I 105 a v 107 a)]) : va_E) = Sum.inr (3, (fs_1 w a).set 5 (.int v)); simp [fs_1, up2]) (fun b hb => wE_I hb) (kk _ rfl)
theorem gg_106 (X : GC l G L0 p s m args meth c cc nL own) {a index : Nat} (hk : w.K a = 1) (q : Cond.fieldLink own index "SusuRing$Circle" "meetings" "I" ∈ wAll) (hd : decode cc pc = .ok (.getfield index, 3)) (kk : ∀ v : Int32, v = w.I 106 a → Gw l G L0 p e R s m args below meth c nL cells slots Q w (pc + 3) lv (.int v :: st)) : Gw l G L0 p e R s m args below meth c nL cells slots Q w pc lv (.ref a :: st) :=
  g_get X (C := RX0) (T := TX0) (N := 8) (ci := 3) (j := 6) in_X0 rfl (by decide) (by decide) hk (wE_1 G w a) rfl "SusuRing$Circle" (fun _ h => h) q hd (kk _ rfl)
theorem gp_106 (X : GC l G L0 p s m args meth c cc nL own) {a index : Nat} {v : Int32} (hk : w.K a = 1) (q : Cond.fieldLink own index "SusuRing$Circle" "meetings" "I" ∈ wAll) (hd : decode cc pc = .ok (.putfield index, 3)) (kk : ∀ w1 : Wd, w1 = w.setI 106 a v → Gw l G L0 p e R s m args below meth c nL cells slots Q w1 (pc + 3) lv st) : Gw l G L0 p e R s m args below meth c nL cells slots Q w pc lv (.int v :: .ref a :: st) :=
  g_put X (C := RX0) (T := TX0) (N := 8) (ci := 3) (j := 6) (w1 := w.setI 106 a v) tyX0 tyX0_ok nmX0 in_X0 rfl (by decide) (by decide) hk (wE_1 G w a) (show 6 < 8 by decide) rfl rfl rfl rfl "SusuRing$Circle" (fun _ h => h) q hd rfl rfl (by show (Sum.inr (3, [.int (up2 w.I 106 a v 100 a), .int (up2 w.I 106 a v 101 a), va_rf (w.R 102 a), va_rf (w.R 103 a), .int (up2 w.I 106 a v 104 a), .int (up2 w.I 106 a v 105 a), .int (up2 w.I 106 a v 106 a), .int (up2 w.I 106 a v 107 a)]) : va_E) = Sum.inr (3, (fs_1 w a).set 6 (.int v)); simp [fs_1, up2]) (fun b hb => wE_I hb) (kk _ rfl)
theorem gg_107 (X : GC l G L0 p s m args meth c cc nL own) {a index : Nat} (hk : w.K a = 1) (q : Cond.fieldLink own index "SusuRing$Circle" "rounds" "I" ∈ wAll) (hd : decode cc pc = .ok (.getfield index, 3)) (kk : ∀ v : Int32, v = w.I 107 a → Gw l G L0 p e R s m args below meth c nL cells slots Q w (pc + 3) lv (.int v :: st)) : Gw l G L0 p e R s m args below meth c nL cells slots Q w pc lv (.ref a :: st) :=
  g_get X (C := RX0) (T := TX0) (N := 8) (ci := 3) (j := 7) in_X0 rfl (by decide) (by decide) hk (wE_1 G w a) rfl "SusuRing$Circle" (fun _ h => h) q hd (kk _ rfl)
theorem gp_107 (X : GC l G L0 p s m args meth c cc nL own) {a index : Nat} {v : Int32} (hk : w.K a = 1) (q : Cond.fieldLink own index "SusuRing$Circle" "rounds" "I" ∈ wAll) (hd : decode cc pc = .ok (.putfield index, 3)) (kk : ∀ w1 : Wd, w1 = w.setI 107 a v → Gw l G L0 p e R s m args below meth c nL cells slots Q w1 (pc + 3) lv st) : Gw l G L0 p e R s m args below meth c nL cells slots Q w pc lv (.int v :: .ref a :: st) :=
  g_put X (C := RX0) (T := TX0) (N := 8) (ci := 3) (j := 7) (w1 := w.setI 107 a v) tyX0 tyX0_ok nmX0 in_X0 rfl (by decide) (by decide) hk (wE_1 G w a) (show 7 < 8 by decide) rfl rfl rfl rfl "SusuRing$Circle" (fun _ h => h) q hd rfl rfl (by show (Sum.inr (3, [.int (up2 w.I 107 a v 100 a), .int (up2 w.I 107 a v 101 a), va_rf (w.R 102 a), va_rf (w.R 103 a), .int (up2 w.I 107 a v 104 a), .int (up2 w.I 107 a v 105 a), .int (up2 w.I 107 a v 106 a), .int (up2 w.I 107 a v 107 a)]) : va_E) = Sum.inr (3, (fs_1 w a).set 7 (.int v)); simp [fs_1, up2]) (fun b hb => wE_I hb) (kk _ rfl)
theorem in_X1 : ∀ x ∈ u_ws RX1 TX1 13, x ∈ wAll := by decide +kernel
def fs_2 (w : Wd) (a : Nat) : List Value := [.int (w.I 200 a), .int (w.I 201 a), .int (w.I 202 a), va_rf (w.R 203 a), .int (w.I 204 a), .int (w.I 205 a), .int (w.I 206 a), .int (w.I 207 a), va_rf (w.R 208 a), va_rf (w.R 209 a), .int (w.I 210 a), .int (w.I 211 a), .int (w.I 212 a)]
theorem wE_2 (G : GT) (w : Wd) (a : Nat) : wE G w 2 a = .inr (4, fs_2 w a) := rfl
theorem gg_200 (X : GC l G L0 p s m args meth c cc nL own) {a index : Nat} (hk : w.K a = 2) (q : Cond.fieldLink own index "SusuRing$Person" "number" "I" ∈ wAll) (hd : decode cc pc = .ok (.getfield index, 3)) (kk : ∀ v : Int32, v = w.I 200 a → Gw l G L0 p e R s m args below meth c nL cells slots Q w (pc + 3) lv (.int v :: st)) : Gw l G L0 p e R s m args below meth c nL cells slots Q w pc lv (.ref a :: st) :=
  g_get X (C := RX1) (T := TX1) (N := 13) (ci := 4) (j := 0) in_X1 rfl (by decide) (by decide) hk (wE_2 G w a) rfl "SusuRing$Person" (fun _ h => h) q hd (kk _ rfl)
theorem gp_200 (X : GC l G L0 p s m args meth c cc nL own) {a index : Nat} {v : Int32} (hk : w.K a = 2) (hin2 : meth.name = "<init>") (hown : RX1 = own) (q : Cond.fieldLink own index "SusuRing$Person" "number" "I" ∈ wAll) (hd : decode cc pc = .ok (.putfield index, 3)) (kk : ∀ w1 : Wd, w1 = w.setI 200 a v → Gw l G L0 p e R s m args below meth c nL cells slots Q w1 (pc + 3) lv st) : Gw l G L0 p e R s m args below meth c nL cells slots Q w pc lv (.int v :: .ref a :: st) :=
  g_putF X (C := RX1) (T := TX1) (N := 13) (ci := 4) (j := 0) (w1 := w.setI 200 a v) tyX1 tyX1_ok nmX1 in_X1 rfl (by decide) (by decide) hk (wE_2 G w a) (show 0 < 13 by decide) hin2 hown rfl rfl rfl rfl "SusuRing$Person" (fun _ h => h) q hd rfl rfl (by show (Sum.inr (4, [.int (up2 w.I 200 a v 200 a), .int (up2 w.I 200 a v 201 a), .int (up2 w.I 200 a v 202 a), va_rf (w.R 203 a), .int (up2 w.I 200 a v 204 a), .int (up2 w.I 200 a v 205 a), .int (up2 w.I 200 a v 206 a), .int (up2 w.I 200 a v 207 a), va_rf (w.R 208 a), va_rf (w.R 209 a), .int (up2 w.I 200 a v 210 a), .int (up2 w.I 200 a v 211 a), .int (up2 w.I 200 a v 212 a)]) : va_E) = Sum.inr (4, (fs_2 w a).set 0 (.int v)); simp [fs_2, up2]) (fun b hb => wE_I hb) (kk _ rfl)
theorem gg_201 (X : GC l G L0 p s m args meth c cc nL own) {a index : Nat} (hk : w.K a = 2) (q : Cond.fieldLink own index "SusuRing$Person" "age" "I" ∈ wAll) (hd : decode cc pc = .ok (.getfield index, 3)) (kk : ∀ v : Int32, v = w.I 201 a → Gw l G L0 p e R s m args below meth c nL cells slots Q w (pc + 3) lv (.int v :: st)) : Gw l G L0 p e R s m args below meth c nL cells slots Q w pc lv (.ref a :: st) :=
  g_get X (C := RX1) (T := TX1) (N := 13) (ci := 4) (j := 1) in_X1 rfl (by decide) (by decide) hk (wE_2 G w a) rfl "SusuRing$Person" (fun _ h => h) q hd (kk _ rfl)
theorem gp_201 (X : GC l G L0 p s m args meth c cc nL own) {a index : Nat} {v : Int32} (hk : w.K a = 2) (hin2 : meth.name = "<init>") (hown : RX1 = own) (q : Cond.fieldLink own index "SusuRing$Person" "age" "I" ∈ wAll) (hd : decode cc pc = .ok (.putfield index, 3)) (kk : ∀ w1 : Wd, w1 = w.setI 201 a v → Gw l G L0 p e R s m args below meth c nL cells slots Q w1 (pc + 3) lv st) : Gw l G L0 p e R s m args below meth c nL cells slots Q w pc lv (.int v :: .ref a :: st) :=
  g_putF X (C := RX1) (T := TX1) (N := 13) (ci := 4) (j := 1) (w1 := w.setI 201 a v) tyX1 tyX1_ok nmX1 in_X1 rfl (by decide) (by decide) hk (wE_2 G w a) (show 1 < 13 by decide) hin2 hown rfl rfl rfl rfl "SusuRing$Person" (fun _ h => h) q hd rfl rfl (by show (Sum.inr (4, [.int (up2 w.I 201 a v 200 a), .int (up2 w.I 201 a v 201 a), .int (up2 w.I 201 a v 202 a), va_rf (w.R 203 a), .int (up2 w.I 201 a v 204 a), .int (up2 w.I 201 a v 205 a), .int (up2 w.I 201 a v 206 a), .int (up2 w.I 201 a v 207 a), va_rf (w.R 208 a), va_rf (w.R 209 a), .int (up2 w.I 201 a v 210 a), .int (up2 w.I 201 a v 211 a), .int (up2 w.I 201 a v 212 a)]) : va_E) = Sum.inr (4, (fs_2 w a).set 1 (.int v)); simp [fs_2, up2]) (fun b hb => wE_I hb) (kk _ rfl)
theorem gg_202 (X : GC l G L0 p s m args meth c cc nL own) {a index : Nat} (hk : w.K a = 2) (q : Cond.fieldLink own index "SusuRing$Person" "name" "I" ∈ wAll) (hd : decode cc pc = .ok (.getfield index, 3)) (kk : ∀ v : Int32, v = w.I 202 a → Gw l G L0 p e R s m args below meth c nL cells slots Q w (pc + 3) lv (.int v :: st)) : Gw l G L0 p e R s m args below meth c nL cells slots Q w pc lv (.ref a :: st) :=
  g_get X (C := RX1) (T := TX1) (N := 13) (ci := 4) (j := 2) in_X1 rfl (by decide) (by decide) hk (wE_2 G w a) rfl "SusuRing$Person" (fun _ h => h) q hd (kk _ rfl)
theorem gp_202 (X : GC l G L0 p s m args meth c cc nL own) {a index : Nat} {v : Int32} (hk : w.K a = 2) (hin2 : meth.name = "<init>") (hown : RX1 = own) (q : Cond.fieldLink own index "SusuRing$Person" "name" "I" ∈ wAll) (hd : decode cc pc = .ok (.putfield index, 3)) (kk : ∀ w1 : Wd, w1 = w.setI 202 a v → Gw l G L0 p e R s m args below meth c nL cells slots Q w1 (pc + 3) lv st) : Gw l G L0 p e R s m args below meth c nL cells slots Q w pc lv (.int v :: .ref a :: st) :=
  g_putF X (C := RX1) (T := TX1) (N := 13) (ci := 4) (j := 2) (w1 := w.setI 202 a v) tyX1 tyX1_ok nmX1 in_X1 rfl (by decide) (by decide) hk (wE_2 G w a) (show 2 < 13 by decide) hin2 hown rfl rfl rfl rfl "SusuRing$Person" (fun _ h => h) q hd rfl rfl (by show (Sum.inr (4, [.int (up2 w.I 202 a v 200 a), .int (up2 w.I 202 a v 201 a), .int (up2 w.I 202 a v 202 a), va_rf (w.R 203 a), .int (up2 w.I 202 a v 204 a), .int (up2 w.I 202 a v 205 a), .int (up2 w.I 202 a v 206 a), .int (up2 w.I 202 a v 207 a), va_rf (w.R 208 a), va_rf (w.R 209 a), .int (up2 w.I 202 a v 210 a), .int (up2 w.I 202 a v 211 a), .int (up2 w.I 202 a v 212 a)]) : va_E) = Sum.inr (4, (fs_2 w a).set 2 (.int v)); simp [fs_2, up2]) (fun b hb => wE_I hb) (kk _ rfl)
theorem gg_203 (X : GC l G L0 p s m args meth c cc nL own) {a index : Nat} (hk : w.K a = 2) (q : Cond.fieldLink own index "SusuRing$Person" "notes" "[I" ∈ wAll) (hd : decode cc pc = .ok (.getfield index, 3)) (kk : ∀ v : Option Nat, v = w.R 203 a → Gw l G L0 p e R s m args below meth c nL cells slots Q w (pc + 3) lv (va_rf v :: st)) : Gw l G L0 p e R s m args below meth c nL cells slots Q w pc lv (.ref a :: st) :=
  g_get X (C := RX1) (T := TX1) (N := 13) (ci := 4) (j := 3) in_X1 rfl (by decide) (by decide) hk (wE_2 G w a) rfl "SusuRing$Person" (fun _ h => h) q hd (kk _ rfl)
theorem gp_203 (X : GC l G L0 p s m args meth c cc nL own) {a index : Nat} {v : Option Nat} (hk : w.K a = 2) (hin2 : meth.name = "<init>") (hown : RX1 = own) (q : Cond.fieldLink own index "SusuRing$Person" "notes" "[I" ∈ wAll) (hd : decode cc pc = .ok (.putfield index, 3)) (kk : ∀ w1 : Wd, w1 = w.setR 203 a v → Gw l G L0 p e R s m args below meth c nL cells slots Q w1 (pc + 3) lv st) : Gw l G L0 p e R s m args below meth c nL cells slots Q w pc lv (va_rf v :: .ref a :: st) :=
  g_putF X (C := RX1) (T := TX1) (N := 13) (ci := 4) (j := 3) (w1 := w.setR 203 a v) tyX1 tyX1_ok nmX1 in_X1 rfl (by decide) (by decide) hk (wE_2 G w a) (show 3 < 13 by decide) hin2 hown rfl rfl (by cases v <;> rfl) (by cases v <;> rfl) "SusuRing$Person" (fun _ h => h) q hd rfl rfl (by show (Sum.inr (4, [.int (w.I 200 a), .int (w.I 201 a), .int (w.I 202 a), va_rf (up2 w.R 203 a v 203 a), .int (w.I 204 a), .int (w.I 205 a), .int (w.I 206 a), .int (w.I 207 a), va_rf (up2 w.R 203 a v 208 a), va_rf (up2 w.R 203 a v 209 a), .int (w.I 210 a), .int (w.I 211 a), .int (w.I 212 a)]) : va_E) = Sum.inr (4, (fs_2 w a).set 3 (va_rf v)); simp [fs_2, up2]) (fun b hb => wE_R hb) (kk _ rfl)
theorem gg_204 (X : GC l G L0 p s m args meth c cc nL own) {a index : Nat} (hk : w.K a = 2) (q : Cond.fieldLink own index "SusuRing$Person" "purse" "I" ∈ wAll) (hd : decode cc pc = .ok (.getfield index, 3)) (kk : ∀ v : Int32, v = w.I 204 a → Gw l G L0 p e R s m args below meth c nL cells slots Q w (pc + 3) lv (.int v :: st)) : Gw l G L0 p e R s m args below meth c nL cells slots Q w pc lv (.ref a :: st) :=
  g_get X (C := RX1) (T := TX1) (N := 13) (ci := 4) (j := 4) in_X1 rfl (by decide) (by decide) hk (wE_2 G w a) rfl "SusuRing$Person" (fun _ h => h) q hd (kk _ rfl)
theorem gp_204 (X : GC l G L0 p s m args meth c cc nL own) {a index : Nat} {v : Int32} (hk : w.K a = 2) (q : Cond.fieldLink own index "SusuRing$Person" "purse" "I" ∈ wAll) (hd : decode cc pc = .ok (.putfield index, 3)) (kk : ∀ w1 : Wd, w1 = w.setI 204 a v → Gw l G L0 p e R s m args below meth c nL cells slots Q w1 (pc + 3) lv st) : Gw l G L0 p e R s m args below meth c nL cells slots Q w pc lv (.int v :: .ref a :: st) :=
  g_put X (C := RX1) (T := TX1) (N := 13) (ci := 4) (j := 4) (w1 := w.setI 204 a v) tyX1 tyX1_ok nmX1 in_X1 rfl (by decide) (by decide) hk (wE_2 G w a) (show 4 < 13 by decide) rfl rfl rfl rfl "SusuRing$Person" (fun _ h => h) q hd rfl rfl (by show (Sum.inr (4, [.int (up2 w.I 204 a v 200 a), .int (up2 w.I 204 a v 201 a), .int (up2 w.I 204 a v 202 a), va_rf (w.R 203 a), .int (up2 w.I 204 a v 204 a), .int (up2 w.I 204 a v 205 a), .int (up2 w.I 204 a v 206 a), .int (up2 w.I 204 a v 207 a), va_rf (w.R 208 a), va_rf (w.R 209 a), .int (up2 w.I 204 a v 210 a), .int (up2 w.I 204 a v 211 a), .int (up2 w.I 204 a v 212 a)]) : va_E) = Sum.inr (4, (fs_2 w a).set 4 (.int v)); simp [fs_2, up2]) (fun b hb => wE_I hb) (kk _ rfl)
theorem gg_205 (X : GC l G L0 p s m args meth c cc nL own) {a index : Nat} (hk : w.K a = 2) (q : Cond.fieldLink own index "SusuRing$Person" "shares" "I" ∈ wAll) (hd : decode cc pc = .ok (.getfield index, 3)) (kk : ∀ v : Int32, v = w.I 205 a → Gw l G L0 p e R s m args below meth c nL cells slots Q w (pc + 3) lv (.int v :: st)) : Gw l G L0 p e R s m args below meth c nL cells slots Q w pc lv (.ref a :: st) :=
  g_get X (C := RX1) (T := TX1) (N := 13) (ci := 4) (j := 5) in_X1 rfl (by decide) (by decide) hk (wE_2 G w a) rfl "SusuRing$Person" (fun _ h => h) q hd (kk _ rfl)
theorem gp_205 (X : GC l G L0 p s m args meth c cc nL own) {a index : Nat} {v : Int32} (hk : w.K a = 2) (q : Cond.fieldLink own index "SusuRing$Person" "shares" "I" ∈ wAll) (hd : decode cc pc = .ok (.putfield index, 3)) (kk : ∀ w1 : Wd, w1 = w.setI 205 a v → Gw l G L0 p e R s m args below meth c nL cells slots Q w1 (pc + 3) lv st) : Gw l G L0 p e R s m args below meth c nL cells slots Q w pc lv (.int v :: .ref a :: st) :=
  g_put X (C := RX1) (T := TX1) (N := 13) (ci := 4) (j := 5) (w1 := w.setI 205 a v) tyX1 tyX1_ok nmX1 in_X1 rfl (by decide) (by decide) hk (wE_2 G w a) (show 5 < 13 by decide) rfl rfl rfl rfl "SusuRing$Person" (fun _ h => h) q hd rfl rfl (by show (Sum.inr (4, [.int (up2 w.I 205 a v 200 a), .int (up2 w.I 205 a v 201 a), .int (up2 w.I 205 a v 202 a), va_rf (w.R 203 a), .int (up2 w.I 205 a v 204 a), .int (up2 w.I 205 a v 205 a), .int (up2 w.I 205 a v 206 a), .int (up2 w.I 205 a v 207 a), va_rf (w.R 208 a), va_rf (w.R 209 a), .int (up2 w.I 205 a v 210 a), .int (up2 w.I 205 a v 211 a), .int (up2 w.I 205 a v 212 a)]) : va_E) = Sum.inr (4, (fs_2 w a).set 5 (.int v)); simp [fs_2, up2]) (fun b hb => wE_I hb) (kk _ rfl)
theorem gg_206 (X : GC l G L0 p s m args meth c cc nL own) {a index : Nat} (hk : w.K a = 2) (q : Cond.fieldLink own index "SusuRing$Person" "debt" "I" ∈ wAll) (hd : decode cc pc = .ok (.getfield index, 3)) (kk : ∀ v : Int32, v = w.I 206 a → Gw l G L0 p e R s m args below meth c nL cells slots Q w (pc + 3) lv (.int v :: st)) : Gw l G L0 p e R s m args below meth c nL cells slots Q w pc lv (.ref a :: st) :=
  g_get X (C := RX1) (T := TX1) (N := 13) (ci := 4) (j := 6) in_X1 rfl (by decide) (by decide) hk (wE_2 G w a) rfl "SusuRing$Person" (fun _ h => h) q hd (kk _ rfl)
theorem gp_206 (X : GC l G L0 p s m args meth c cc nL own) {a index : Nat} {v : Int32} (hk : w.K a = 2) (q : Cond.fieldLink own index "SusuRing$Person" "debt" "I" ∈ wAll) (hd : decode cc pc = .ok (.putfield index, 3)) (kk : ∀ w1 : Wd, w1 = w.setI 206 a v → Gw l G L0 p e R s m args below meth c nL cells slots Q w1 (pc + 3) lv st) : Gw l G L0 p e R s m args below meth c nL cells slots Q w pc lv (.int v :: .ref a :: st) :=
  g_put X (C := RX1) (T := TX1) (N := 13) (ci := 4) (j := 6) (w1 := w.setI 206 a v) tyX1 tyX1_ok nmX1 in_X1 rfl (by decide) (by decide) hk (wE_2 G w a) (show 6 < 13 by decide) rfl rfl rfl rfl "SusuRing$Person" (fun _ h => h) q hd rfl rfl (by show (Sum.inr (4, [.int (up2 w.I 206 a v 200 a), .int (up2 w.I 206 a v 201 a), .int (up2 w.I 206 a v 202 a), va_rf (w.R 203 a), .int (up2 w.I 206 a v 204 a), .int (up2 w.I 206 a v 205 a), .int (up2 w.I 206 a v 206 a), .int (up2 w.I 206 a v 207 a), va_rf (w.R 208 a), va_rf (w.R 209 a), .int (up2 w.I 206 a v 210 a), .int (up2 w.I 206 a v 211 a), .int (up2 w.I 206 a v 212 a)]) : va_E) = Sum.inr (4, (fs_2 w a).set 6 (.int v)); simp [fs_2, up2]) (fun b hb => wE_I hb) (kk _ rfl)
theorem gg_207 (X : GC l G L0 p s m args meth c cc nL own) {a index : Nat} (hk : w.K a = 2) (q : Cond.fieldLink own index "SusuRing$Person" "loanMonths" "I" ∈ wAll) (hd : decode cc pc = .ok (.getfield index, 3)) (kk : ∀ v : Int32, v = w.I 207 a → Gw l G L0 p e R s m args below meth c nL cells slots Q w (pc + 3) lv (.int v :: st)) : Gw l G L0 p e R s m args below meth c nL cells slots Q w pc lv (.ref a :: st) :=
  g_get X (C := RX1) (T := TX1) (N := 13) (ci := 4) (j := 7) in_X1 rfl (by decide) (by decide) hk (wE_2 G w a) rfl "SusuRing$Person" (fun _ h => h) q hd (kk _ rfl)
theorem gp_207 (X : GC l G L0 p s m args meth c cc nL own) {a index : Nat} {v : Int32} (hk : w.K a = 2) (q : Cond.fieldLink own index "SusuRing$Person" "loanMonths" "I" ∈ wAll) (hd : decode cc pc = .ok (.putfield index, 3)) (kk : ∀ w1 : Wd, w1 = w.setI 207 a v → Gw l G L0 p e R s m args below meth c nL cells slots Q w1 (pc + 3) lv st) : Gw l G L0 p e R s m args below meth c nL cells slots Q w pc lv (.int v :: .ref a :: st) :=
  g_put X (C := RX1) (T := TX1) (N := 13) (ci := 4) (j := 7) (w1 := w.setI 207 a v) tyX1 tyX1_ok nmX1 in_X1 rfl (by decide) (by decide) hk (wE_2 G w a) (show 7 < 13 by decide) rfl rfl rfl rfl "SusuRing$Person" (fun _ h => h) q hd rfl rfl (by show (Sum.inr (4, [.int (up2 w.I 207 a v 200 a), .int (up2 w.I 207 a v 201 a), .int (up2 w.I 207 a v 202 a), va_rf (w.R 203 a), .int (up2 w.I 207 a v 204 a), .int (up2 w.I 207 a v 205 a), .int (up2 w.I 207 a v 206 a), .int (up2 w.I 207 a v 207 a), va_rf (w.R 208 a), va_rf (w.R 209 a), .int (up2 w.I 207 a v 210 a), .int (up2 w.I 207 a v 211 a), .int (up2 w.I 207 a v 212 a)]) : va_E) = Sum.inr (4, (fs_2 w a).set 7 (.int v)); simp [fs_2, up2]) (fun b hb => wE_I hb) (kk _ rfl)
theorem gg_208 (X : GC l G L0 p s m args meth c cc nL own) {a index : Nat} (hk : w.K a = 2) (q : Cond.fieldLink own index "SusuRing$Person" "first" "LSusuRing$Person;" ∈ wAll) (hd : decode cc pc = .ok (.getfield index, 3)) (kk : ∀ v : Option Nat, v = w.R 208 a → Gw l G L0 p e R s m args below meth c nL cells slots Q w (pc + 3) lv (va_rf v :: st)) : Gw l G L0 p e R s m args below meth c nL cells slots Q w pc lv (.ref a :: st) :=
  g_get X (C := RX1) (T := TX1) (N := 13) (ci := 4) (j := 8) in_X1 rfl (by decide) (by decide) hk (wE_2 G w a) rfl "SusuRing$Person" (fun _ h => h) q hd (kk _ rfl)
theorem gp_208 (X : GC l G L0 p s m args meth c cc nL own) {a index : Nat} {v : Option Nat} (hk : w.K a = 2) (q : Cond.fieldLink own index "SusuRing$Person" "first" "LSusuRing$Person;" ∈ wAll) (hd : decode cc pc = .ok (.putfield index, 3)) (kk : ∀ w1 : Wd, w1 = w.setR 208 a v → Gw l G L0 p e R s m args below meth c nL cells slots Q w1 (pc + 3) lv st) : Gw l G L0 p e R s m args below meth c nL cells slots Q w pc lv (va_rf v :: .ref a :: st) :=
  g_put X (C := RX1) (T := TX1) (N := 13) (ci := 4) (j := 8) (w1 := w.setR 208 a v) tyX1 tyX1_ok nmX1 in_X1 rfl (by decide) (by decide) hk (wE_2 G w a) (show 8 < 13 by decide) rfl rfl (by cases v <;> rfl) (by cases v <;> rfl) "SusuRing$Person" (fun _ h => h) q hd rfl rfl (by show (Sum.inr (4, [.int (w.I 200 a), .int (w.I 201 a), .int (w.I 202 a), va_rf (up2 w.R 208 a v 203 a), .int (w.I 204 a), .int (w.I 205 a), .int (w.I 206 a), .int (w.I 207 a), va_rf (up2 w.R 208 a v 208 a), va_rf (up2 w.R 208 a v 209 a), .int (w.I 210 a), .int (w.I 211 a), .int (w.I 212 a)]) : va_E) = Sum.inr (4, (fs_2 w a).set 8 (va_rf v)); simp [fs_2, up2]) (fun b hb => wE_R hb) (kk _ rfl)
theorem gg_209 (X : GC l G L0 p s m args meth c cc nL own) {a index : Nat} (hk : w.K a = 2) (q : Cond.fieldLink own index "SusuRing$Person" "second" "LSusuRing$Person;" ∈ wAll) (hd : decode cc pc = .ok (.getfield index, 3)) (kk : ∀ v : Option Nat, v = w.R 209 a → Gw l G L0 p e R s m args below meth c nL cells slots Q w (pc + 3) lv (va_rf v :: st)) : Gw l G L0 p e R s m args below meth c nL cells slots Q w pc lv (.ref a :: st) :=
  g_get X (C := RX1) (T := TX1) (N := 13) (ci := 4) (j := 9) in_X1 rfl (by decide) (by decide) hk (wE_2 G w a) rfl "SusuRing$Person" (fun _ h => h) q hd (kk _ rfl)
theorem gp_209 (X : GC l G L0 p s m args meth c cc nL own) {a index : Nat} {v : Option Nat} (hk : w.K a = 2) (q : Cond.fieldLink own index "SusuRing$Person" "second" "LSusuRing$Person;" ∈ wAll) (hd : decode cc pc = .ok (.putfield index, 3)) (kk : ∀ w1 : Wd, w1 = w.setR 209 a v → Gw l G L0 p e R s m args below meth c nL cells slots Q w1 (pc + 3) lv st) : Gw l G L0 p e R s m args below meth c nL cells slots Q w pc lv (va_rf v :: .ref a :: st) :=
  g_put X (C := RX1) (T := TX1) (N := 13) (ci := 4) (j := 9) (w1 := w.setR 209 a v) tyX1 tyX1_ok nmX1 in_X1 rfl (by decide) (by decide) hk (wE_2 G w a) (show 9 < 13 by decide) rfl rfl (by cases v <;> rfl) (by cases v <;> rfl) "SusuRing$Person" (fun _ h => h) q hd rfl rfl (by show (Sum.inr (4, [.int (w.I 200 a), .int (w.I 201 a), .int (w.I 202 a), va_rf (up2 w.R 209 a v 203 a), .int (w.I 204 a), .int (w.I 205 a), .int (w.I 206 a), .int (w.I 207 a), va_rf (up2 w.R 209 a v 208 a), va_rf (up2 w.R 209 a v 209 a), .int (w.I 210 a), .int (w.I 211 a), .int (w.I 212 a)]) : va_E) = Sum.inr (4, (fs_2 w a).set 9 (va_rf v)); simp [fs_2, up2]) (fun b hb => wE_R hb) (kk _ rfl)
theorem gg_210 (X : GC l G L0 p s m args meth c cc nL own) {a index : Nat} (hk : w.K a = 2) (q : Cond.fieldLink own index "SusuRing$Person" "paidBack" "I" ∈ wAll) (hd : decode cc pc = .ok (.getfield index, 3)) (kk : ∀ v : Int32, v = w.I 210 a → Gw l G L0 p e R s m args below meth c nL cells slots Q w (pc + 3) lv (.int v :: st)) : Gw l G L0 p e R s m args below meth c nL cells slots Q w pc lv (.ref a :: st) :=
  g_get X (C := RX1) (T := TX1) (N := 13) (ci := 4) (j := 10) in_X1 rfl (by decide) (by decide) hk (wE_2 G w a) rfl "SusuRing$Person" (fun _ h => h) q hd (kk _ rfl)
theorem gp_210 (X : GC l G L0 p s m args meth c cc nL own) {a index : Nat} {v : Int32} (hk : w.K a = 2) (q : Cond.fieldLink own index "SusuRing$Person" "paidBack" "I" ∈ wAll) (hd : decode cc pc = .ok (.putfield index, 3)) (kk : ∀ w1 : Wd, w1 = w.setI 210 a v → Gw l G L0 p e R s m args below meth c nL cells slots Q w1 (pc + 3) lv st) : Gw l G L0 p e R s m args below meth c nL cells slots Q w pc lv (.int v :: .ref a :: st) :=
  g_put X (C := RX1) (T := TX1) (N := 13) (ci := 4) (j := 10) (w1 := w.setI 210 a v) tyX1 tyX1_ok nmX1 in_X1 rfl (by decide) (by decide) hk (wE_2 G w a) (show 10 < 13 by decide) rfl rfl rfl rfl "SusuRing$Person" (fun _ h => h) q hd rfl rfl (by show (Sum.inr (4, [.int (up2 w.I 210 a v 200 a), .int (up2 w.I 210 a v 201 a), .int (up2 w.I 210 a v 202 a), va_rf (w.R 203 a), .int (up2 w.I 210 a v 204 a), .int (up2 w.I 210 a v 205 a), .int (up2 w.I 210 a v 206 a), .int (up2 w.I 210 a v 207 a), va_rf (w.R 208 a), va_rf (w.R 209 a), .int (up2 w.I 210 a v 210 a), .int (up2 w.I 210 a v 211 a), .int (up2 w.I 210 a v 212 a)]) : va_E) = Sum.inr (4, (fs_2 w a).set 10 (.int v)); simp [fs_2, up2]) (fun b hb => wE_I hb) (kk _ rfl)
theorem gg_211 (X : GC l G L0 p s m args meth c cc nL own) {a index : Nat} (hk : w.K a = 2) (q : Cond.fieldLink own index "SusuRing$Person" "truth" "I" ∈ wAll) (hd : decode cc pc = .ok (.getfield index, 3)) (kk : ∀ v : Int32, v = w.I 211 a → Gw l G L0 p e R s m args below meth c nL cells slots Q w (pc + 3) lv (.int v :: st)) : Gw l G L0 p e R s m args below meth c nL cells slots Q w pc lv (.ref a :: st) :=
  g_get X (C := RX1) (T := TX1) (N := 13) (ci := 4) (j := 11) in_X1 rfl (by decide) (by decide) hk (wE_2 G w a) rfl "SusuRing$Person" (fun _ h => h) q hd (kk _ rfl)
theorem gp_211 (X : GC l G L0 p s m args meth c cc nL own) {a index : Nat} {v : Int32} (hk : w.K a = 2) (q : Cond.fieldLink own index "SusuRing$Person" "truth" "I" ∈ wAll) (hd : decode cc pc = .ok (.putfield index, 3)) (kk : ∀ w1 : Wd, w1 = w.setI 211 a v → Gw l G L0 p e R s m args below meth c nL cells slots Q w1 (pc + 3) lv st) : Gw l G L0 p e R s m args below meth c nL cells slots Q w pc lv (.int v :: .ref a :: st) :=
  g_put X (C := RX1) (T := TX1) (N := 13) (ci := 4) (j := 11) (w1 := w.setI 211 a v) tyX1 tyX1_ok nmX1 in_X1 rfl (by decide) (by decide) hk (wE_2 G w a) (show 11 < 13 by decide) rfl rfl rfl rfl "SusuRing$Person" (fun _ h => h) q hd rfl rfl (by show (Sum.inr (4, [.int (up2 w.I 211 a v 200 a), .int (up2 w.I 211 a v 201 a), .int (up2 w.I 211 a v 202 a), va_rf (w.R 203 a), .int (up2 w.I 211 a v 204 a), .int (up2 w.I 211 a v 205 a), .int (up2 w.I 211 a v 206 a), .int (up2 w.I 211 a v 207 a), va_rf (w.R 208 a), va_rf (w.R 209 a), .int (up2 w.I 211 a v 210 a), .int (up2 w.I 211 a v 211 a), .int (up2 w.I 211 a v 212 a)]) : va_E) = Sum.inr (4, (fs_2 w a).set 11 (.int v)); simp [fs_2, up2]) (fun b hb => wE_I hb) (kk _ rfl)
theorem gg_212 (X : GC l G L0 p s m args meth c cc nL own) {a index : Nat} (hk : w.K a = 2) (q : Cond.fieldLink own index "SusuRing$Person" "dead" "Z" ∈ wAll) (hd : decode cc pc = .ok (.getfield index, 3)) (kk : ∀ v : Int32, v = w.I 212 a → Gw l G L0 p e R s m args below meth c nL cells slots Q w (pc + 3) lv (.int v :: st)) : Gw l G L0 p e R s m args below meth c nL cells slots Q w pc lv (.ref a :: st) :=
  g_get X (C := RX1) (T := TX1) (N := 13) (ci := 4) (j := 12) in_X1 rfl (by decide) (by decide) hk (wE_2 G w a) rfl "SusuRing$Person" (fun _ h => h) q hd (kk _ rfl)
theorem gp_212 (X : GC l G L0 p s m args meth c cc nL own) {a index : Nat} {v : Int32} (hk : w.K a = 2) (hz : v = 0 ∨ v = 1) (q : Cond.fieldLink own index "SusuRing$Person" "dead" "Z" ∈ wAll) (hd : decode cc pc = .ok (.putfield index, 3)) (kk : ∀ w1 : Wd, w1 = w.setI 212 a v → Gw l G L0 p e R s m args below meth c nL cells slots Q w1 (pc + 3) lv st) : Gw l G L0 p e R s m args below meth c nL cells slots Q w pc lv (.int v :: .ref a :: st) :=
  g_put X (C := RX1) (T := TX1) (N := 13) (ci := 4) (j := 12) (w1 := w.setI 212 a v) tyX1 tyX1_ok nmX1 in_X1 rfl (by decide) (by decide) hk (wE_2 G w a) (show 12 < 13 by decide) rfl rfl (nar_z hz) (fit_z hz) "SusuRing$Person" (fun _ h => h) q hd rfl rfl (by show (Sum.inr (4, [.int (up2 w.I 212 a v 200 a), .int (up2 w.I 212 a v 201 a), .int (up2 w.I 212 a v 202 a), va_rf (w.R 203 a), .int (up2 w.I 212 a v 204 a), .int (up2 w.I 212 a v 205 a), .int (up2 w.I 212 a v 206 a), .int (up2 w.I 212 a v 207 a), va_rf (w.R 208 a), va_rf (w.R 209 a), .int (up2 w.I 212 a v 210 a), .int (up2 w.I 212 a v 211 a), .int (up2 w.I 212 a v 212 a)]) : va_E) = Sum.inr (4, (fs_2 w a).set 12 (.int v)); simp [fs_2, up2]) (fun b hb => wE_I hb) (kk _ rfl)
theorem in_X2 : ∀ x ∈ u_ws RX2 TX2 6, x ∈ wAll := by decide +kernel
def fs_3 (w : Wd) (a : Nat) : List Value := [va_rf (w.R 300 a), .int (w.I 301 a), .int (w.I 302 a), .int (w.I 303 a), .int (w.I 304 a), .int (w.I 305 a)]
theorem wE_3 (G : GT) (w : Wd) (a : Nat) : wE G w 3 a = .inr (5, fs_3 w a) := rfl
theorem gg_300 (X : GC l G L0 p s m args meth c cc nL own) {a index : Nat} (hk : w.K a = 3) (q : Cond.fieldLink own index "SusuRing$Place" "holder" "LSusuRing$Person;" ∈ wAll) (hd : decode cc pc = .ok (.getfield index, 3)) (kk : ∀ v : Option Nat, v = w.R 300 a → Gw l G L0 p e R s m args below meth c nL cells slots Q w (pc + 3) lv (va_rf v :: st)) : Gw l G L0 p e R s m args below meth c nL cells slots Q w pc lv (.ref a :: st) :=
  g_get X (C := RX2) (T := TX2) (N := 6) (ci := 5) (j := 0) in_X2 rfl (by decide) (by decide) hk (wE_3 G w a) rfl "SusuRing$Place" (fun _ h => h) q hd (kk _ rfl)
theorem gp_300 (X : GC l G L0 p s m args meth c cc nL own) {a index : Nat} {v : Option Nat} (hk : w.K a = 3) (q : Cond.fieldLink own index "SusuRing$Place" "holder" "LSusuRing$Person;" ∈ wAll) (hd : decode cc pc = .ok (.putfield index, 3)) (kk : ∀ w1 : Wd, w1 = w.setR 300 a v → Gw l G L0 p e R s m args below meth c nL cells slots Q w1 (pc + 3) lv st) : Gw l G L0 p e R s m args below meth c nL cells slots Q w pc lv (va_rf v :: .ref a :: st) :=
  g_put X (C := RX2) (T := TX2) (N := 6) (ci := 5) (j := 0) (w1 := w.setR 300 a v) tyX2 tyX2_ok nmX2 in_X2 rfl (by decide) (by decide) hk (wE_3 G w a) (show 0 < 6 by decide) rfl rfl (by cases v <;> rfl) (by cases v <;> rfl) "SusuRing$Place" (fun _ h => h) q hd rfl rfl (by show (Sum.inr (5, [va_rf (up2 w.R 300 a v 300 a), .int (w.I 301 a), .int (w.I 302 a), .int (w.I 303 a), .int (w.I 304 a), .int (w.I 305 a)]) : va_E) = Sum.inr (5, (fs_3 w a).set 0 (va_rf v)); simp [fs_3, up2]) (fun b hb => wE_R hb) (kk _ rfl)
theorem gg_301 (X : GC l G L0 p s m args meth c cc nL own) {a index : Nat} (hk : w.K a = 3) (q : Cond.fieldLink own index "SusuRing$Place" "arrears" "I" ∈ wAll) (hd : decode cc pc = .ok (.getfield index, 3)) (kk : ∀ v : Int32, v = w.I 301 a → Gw l G L0 p e R s m args below meth c nL cells slots Q w (pc + 3) lv (.int v :: st)) : Gw l G L0 p e R s m args below meth c nL cells slots Q w pc lv (.ref a :: st) :=
  g_get X (C := RX2) (T := TX2) (N := 6) (ci := 5) (j := 1) in_X2 rfl (by decide) (by decide) hk (wE_3 G w a) rfl "SusuRing$Place" (fun _ h => h) q hd (kk _ rfl)
theorem gp_301 (X : GC l G L0 p s m args meth c cc nL own) {a index : Nat} {v : Int32} (hk : w.K a = 3) (q : Cond.fieldLink own index "SusuRing$Place" "arrears" "I" ∈ wAll) (hd : decode cc pc = .ok (.putfield index, 3)) (kk : ∀ w1 : Wd, w1 = w.setI 301 a v → Gw l G L0 p e R s m args below meth c nL cells slots Q w1 (pc + 3) lv st) : Gw l G L0 p e R s m args below meth c nL cells slots Q w pc lv (.int v :: .ref a :: st) :=
  g_put X (C := RX2) (T := TX2) (N := 6) (ci := 5) (j := 1) (w1 := w.setI 301 a v) tyX2 tyX2_ok nmX2 in_X2 rfl (by decide) (by decide) hk (wE_3 G w a) (show 1 < 6 by decide) rfl rfl rfl rfl "SusuRing$Place" (fun _ h => h) q hd rfl rfl (by show (Sum.inr (5, [va_rf (w.R 300 a), .int (up2 w.I 301 a v 301 a), .int (up2 w.I 301 a v 302 a), .int (up2 w.I 301 a v 303 a), .int (up2 w.I 301 a v 304 a), .int (up2 w.I 301 a v 305 a)]) : va_E) = Sum.inr (5, (fs_3 w a).set 1 (.int v)); simp [fs_3, up2]) (fun b hb => wE_I hb) (kk _ rfl)
theorem gg_302 (X : GC l G L0 p s m args meth c cc nL own) {a index : Nat} (hk : w.K a = 3) (q : Cond.fieldLink own index "SusuRing$Place" "need" "I" ∈ wAll) (hd : decode cc pc = .ok (.getfield index, 3)) (kk : ∀ v : Int32, v = w.I 302 a → Gw l G L0 p e R s m args below meth c nL cells slots Q w (pc + 3) lv (.int v :: st)) : Gw l G L0 p e R s m args below meth c nL cells slots Q w pc lv (.ref a :: st) :=
  g_get X (C := RX2) (T := TX2) (N := 6) (ci := 5) (j := 2) in_X2 rfl (by decide) (by decide) hk (wE_3 G w a) rfl "SusuRing$Place" (fun _ h => h) q hd (kk _ rfl)
theorem gp_302 (X : GC l G L0 p s m args meth c cc nL own) {a index : Nat} {v : Int32} (hk : w.K a = 3) (q : Cond.fieldLink own index "SusuRing$Place" "need" "I" ∈ wAll) (hd : decode cc pc = .ok (.putfield index, 3)) (kk : ∀ w1 : Wd, w1 = w.setI 302 a v → Gw l G L0 p e R s m args below meth c nL cells slots Q w1 (pc + 3) lv st) : Gw l G L0 p e R s m args below meth c nL cells slots Q w pc lv (.int v :: .ref a :: st) :=
  g_put X (C := RX2) (T := TX2) (N := 6) (ci := 5) (j := 2) (w1 := w.setI 302 a v) tyX2 tyX2_ok nmX2 in_X2 rfl (by decide) (by decide) hk (wE_3 G w a) (show 2 < 6 by decide) rfl rfl rfl rfl "SusuRing$Place" (fun _ h => h) q hd rfl rfl (by show (Sum.inr (5, [va_rf (w.R 300 a), .int (up2 w.I 302 a v 301 a), .int (up2 w.I 302 a v 302 a), .int (up2 w.I 302 a v 303 a), .int (up2 w.I 302 a v 304 a), .int (up2 w.I 302 a v 305 a)]) : va_E) = Sum.inr (5, (fs_3 w a).set 2 (.int v)); simp [fs_3, up2]) (fun b hb => wE_I hb) (kk _ rfl)
theorem gg_303 (X : GC l G L0 p s m args meth c cc nL own) {a index : Nat} (hk : w.K a = 3) (q : Cond.fieldLink own index "SusuRing$Place" "bid" "I" ∈ wAll) (hd : decode cc pc = .ok (.getfield index, 3)) (kk : ∀ v : Int32, v = w.I 303 a → Gw l G L0 p e R s m args below meth c nL cells slots Q w (pc + 3) lv (.int v :: st)) : Gw l G L0 p e R s m args below meth c nL cells slots Q w pc lv (.ref a :: st) :=
  g_get X (C := RX2) (T := TX2) (N := 6) (ci := 5) (j := 3) in_X2 rfl (by decide) (by decide) hk (wE_3 G w a) rfl "SusuRing$Place" (fun _ h => h) q hd (kk _ rfl)
theorem gp_303 (X : GC l G L0 p s m args meth c cc nL own) {a index : Nat} {v : Int32} (hk : w.K a = 3) (q : Cond.fieldLink own index "SusuRing$Place" "bid" "I" ∈ wAll) (hd : decode cc pc = .ok (.putfield index, 3)) (kk : ∀ w1 : Wd, w1 = w.setI 303 a v → Gw l G L0 p e R s m args below meth c nL cells slots Q w1 (pc + 3) lv st) : Gw l G L0 p e R s m args below meth c nL cells slots Q w pc lv (.int v :: .ref a :: st) :=
  g_put X (C := RX2) (T := TX2) (N := 6) (ci := 5) (j := 3) (w1 := w.setI 303 a v) tyX2 tyX2_ok nmX2 in_X2 rfl (by decide) (by decide) hk (wE_3 G w a) (show 3 < 6 by decide) rfl rfl rfl rfl "SusuRing$Place" (fun _ h => h) q hd rfl rfl (by show (Sum.inr (5, [va_rf (w.R 300 a), .int (up2 w.I 303 a v 301 a), .int (up2 w.I 303 a v 302 a), .int (up2 w.I 303 a v 303 a), .int (up2 w.I 303 a v 304 a), .int (up2 w.I 303 a v 305 a)]) : va_E) = Sum.inr (5, (fs_3 w a).set 3 (.int v)); simp [fs_3, up2]) (fun b hb => wE_I hb) (kk _ rfl)
theorem gg_304 (X : GC l G L0 p s m args meth c cc nL own) {a index : Nat} (hk : w.K a = 3) (q : Cond.fieldLink own index "SusuRing$Place" "paidIn" "I" ∈ wAll) (hd : decode cc pc = .ok (.getfield index, 3)) (kk : ∀ v : Int32, v = w.I 304 a → Gw l G L0 p e R s m args below meth c nL cells slots Q w (pc + 3) lv (.int v :: st)) : Gw l G L0 p e R s m args below meth c nL cells slots Q w pc lv (.ref a :: st) :=
  g_get X (C := RX2) (T := TX2) (N := 6) (ci := 5) (j := 4) in_X2 rfl (by decide) (by decide) hk (wE_3 G w a) rfl "SusuRing$Place" (fun _ h => h) q hd (kk _ rfl)
theorem gp_304 (X : GC l G L0 p s m args meth c cc nL own) {a index : Nat} {v : Int32} (hk : w.K a = 3) (q : Cond.fieldLink own index "SusuRing$Place" "paidIn" "I" ∈ wAll) (hd : decode cc pc = .ok (.putfield index, 3)) (kk : ∀ w1 : Wd, w1 = w.setI 304 a v → Gw l G L0 p e R s m args below meth c nL cells slots Q w1 (pc + 3) lv st) : Gw l G L0 p e R s m args below meth c nL cells slots Q w pc lv (.int v :: .ref a :: st) :=
  g_put X (C := RX2) (T := TX2) (N := 6) (ci := 5) (j := 4) (w1 := w.setI 304 a v) tyX2 tyX2_ok nmX2 in_X2 rfl (by decide) (by decide) hk (wE_3 G w a) (show 4 < 6 by decide) rfl rfl rfl rfl "SusuRing$Place" (fun _ h => h) q hd rfl rfl (by show (Sum.inr (5, [va_rf (w.R 300 a), .int (up2 w.I 304 a v 301 a), .int (up2 w.I 304 a v 302 a), .int (up2 w.I 304 a v 303 a), .int (up2 w.I 304 a v 304 a), .int (up2 w.I 304 a v 305 a)]) : va_E) = Sum.inr (5, (fs_3 w a).set 4 (.int v)); simp [fs_3, up2]) (fun b hb => wE_I hb) (kk _ rfl)
theorem gg_305 (X : GC l G L0 p s m args meth c cc nL own) {a index : Nat} (hk : w.K a = 3) (q : Cond.fieldLink own index "SusuRing$Place" "hadTurn" "Z" ∈ wAll) (hd : decode cc pc = .ok (.getfield index, 3)) (kk : ∀ v : Int32, v = w.I 305 a → Gw l G L0 p e R s m args below meth c nL cells slots Q w (pc + 3) lv (.int v :: st)) : Gw l G L0 p e R s m args below meth c nL cells slots Q w pc lv (.ref a :: st) :=
  g_get X (C := RX2) (T := TX2) (N := 6) (ci := 5) (j := 5) in_X2 rfl (by decide) (by decide) hk (wE_3 G w a) rfl "SusuRing$Place" (fun _ h => h) q hd (kk _ rfl)
theorem gp_305 (X : GC l G L0 p s m args meth c cc nL own) {a index : Nat} {v : Int32} (hk : w.K a = 3) (hz : v = 0 ∨ v = 1) (q : Cond.fieldLink own index "SusuRing$Place" "hadTurn" "Z" ∈ wAll) (hd : decode cc pc = .ok (.putfield index, 3)) (kk : ∀ w1 : Wd, w1 = w.setI 305 a v → Gw l G L0 p e R s m args below meth c nL cells slots Q w1 (pc + 3) lv st) : Gw l G L0 p e R s m args below meth c nL cells slots Q w pc lv (.int v :: .ref a :: st) :=
  g_put X (C := RX2) (T := TX2) (N := 6) (ci := 5) (j := 5) (w1 := w.setI 305 a v) tyX2 tyX2_ok nmX2 in_X2 rfl (by decide) (by decide) hk (wE_3 G w a) (show 5 < 6 by decide) rfl rfl (nar_z hz) (fit_z hz) "SusuRing$Place" (fun _ h => h) q hd rfl rfl (by show (Sum.inr (5, [va_rf (w.R 300 a), .int (up2 w.I 305 a v 301 a), .int (up2 w.I 305 a v 302 a), .int (up2 w.I 305 a v 303 a), .int (up2 w.I 305 a v 304 a), .int (up2 w.I 305 a v 305 a)]) : va_E) = Sum.inr (5, (fs_3 w a).set 5 (.int v)); simp [fs_3, up2]) (fun b hb => wE_I hb) (kk _ rfl)
theorem in_X3 : ∀ x ∈ u_ws RX3 TX3 4, x ∈ wAll := by decide +kernel
def fs_4 (w : Wd) (a : Nat) : List Value := [va_rf (w.R 400 a), va_rf (w.R 401 a), .int (w.I 402 a), .int (w.I 403 a)]
theorem wE_4 (G : GT) (w : Wd) (a : Nat) : wE G w 4 a = .inr (6, fs_4 w a) := rfl
theorem gg_400 (X : GC l G L0 p s m args meth c cc nL own) {a index : Nat} (hk : w.K a = 4) (q : Cond.fieldLink own index "SusuRing" "people" "Ljava/util/ArrayList;" ∈ wAll) (hd : decode cc pc = .ok (.getfield index, 3)) (kk : ∀ v : Option Nat, v = w.R 400 a → Gw l G L0 p e R s m args below meth c nL cells slots Q w (pc + 3) lv (va_rf v :: st)) : Gw l G L0 p e R s m args below meth c nL cells slots Q w pc lv (.ref a :: st) :=
  g_get X (C := RX3) (T := TX3) (N := 4) (ci := 6) (j := 0) in_X3 rfl (by decide) (by decide) hk (wE_4 G w a) rfl "SusuRing" (fun _ h => h) q hd (kk _ rfl)
theorem gp_400 (X : GC l G L0 p s m args meth c cc nL own) {a index : Nat} {v : Option Nat} (hk : w.K a = 4) (hin2 : meth.name = "<init>") (hown : RX3 = own) (q : Cond.fieldLink own index "SusuRing" "people" "Ljava/util/ArrayList;" ∈ wAll) (hd : decode cc pc = .ok (.putfield index, 3)) (kk : ∀ w1 : Wd, w1 = w.setR 400 a v → Gw l G L0 p e R s m args below meth c nL cells slots Q w1 (pc + 3) lv st) : Gw l G L0 p e R s m args below meth c nL cells slots Q w pc lv (va_rf v :: .ref a :: st) :=
  g_putF X (C := RX3) (T := TX3) (N := 4) (ci := 6) (j := 0) (w1 := w.setR 400 a v) tyX3 tyX3_ok nmX3 in_X3 rfl (by decide) (by decide) hk (wE_4 G w a) (show 0 < 4 by decide) hin2 hown rfl rfl (by cases v <;> rfl) (by cases v <;> rfl) "SusuRing" (fun _ h => h) q hd rfl rfl (by show (Sum.inr (6, [va_rf (up2 w.R 400 a v 400 a), va_rf (up2 w.R 400 a v 401 a), .int (w.I 402 a), .int (w.I 403 a)]) : va_E) = Sum.inr (6, (fs_4 w a).set 0 (va_rf v)); simp [fs_4, up2]) (fun b hb => wE_R hb) (kk _ rfl)
theorem gg_401 (X : GC l G L0 p s m args meth c cc nL own) {a index : Nat} (hk : w.K a = 4) (q : Cond.fieldLink own index "SusuRing" "circles" "Ljava/util/ArrayList;" ∈ wAll) (hd : decode cc pc = .ok (.getfield index, 3)) (kk : ∀ v : Option Nat, v = w.R 401 a → Gw l G L0 p e R s m args below meth c nL cells slots Q w (pc + 3) lv (va_rf v :: st)) : Gw l G L0 p e R s m args below meth c nL cells slots Q w pc lv (.ref a :: st) :=
  g_get X (C := RX3) (T := TX3) (N := 4) (ci := 6) (j := 1) in_X3 rfl (by decide) (by decide) hk (wE_4 G w a) rfl "SusuRing" (fun _ h => h) q hd (kk _ rfl)
theorem gp_401 (X : GC l G L0 p s m args meth c cc nL own) {a index : Nat} {v : Option Nat} (hk : w.K a = 4) (hin2 : meth.name = "<init>") (hown : RX3 = own) (q : Cond.fieldLink own index "SusuRing" "circles" "Ljava/util/ArrayList;" ∈ wAll) (hd : decode cc pc = .ok (.putfield index, 3)) (kk : ∀ w1 : Wd, w1 = w.setR 401 a v → Gw l G L0 p e R s m args below meth c nL cells slots Q w1 (pc + 3) lv st) : Gw l G L0 p e R s m args below meth c nL cells slots Q w pc lv (va_rf v :: .ref a :: st) :=
  g_putF X (C := RX3) (T := TX3) (N := 4) (ci := 6) (j := 1) (w1 := w.setR 401 a v) tyX3 tyX3_ok nmX3 in_X3 rfl (by decide) (by decide) hk (wE_4 G w a) (show 1 < 4 by decide) hin2 hown rfl rfl (by cases v <;> rfl) (by cases v <;> rfl) "SusuRing" (fun _ h => h) q hd rfl rfl (by show (Sum.inr (6, [va_rf (up2 w.R 401 a v 400 a), va_rf (up2 w.R 401 a v 401 a), .int (w.I 402 a), .int (w.I 403 a)]) : va_E) = Sum.inr (6, (fs_4 w a).set 1 (va_rf v)); simp [fs_4, up2]) (fun b hb => wE_R hb) (kk _ rfl)
theorem gg_402 (X : GC l G L0 p s m args meth c cc nL own) {a index : Nat} (hk : w.K a = 4) (q : Cond.fieldLink own index "SusuRing" "fundCash" "I" ∈ wAll) (hd : decode cc pc = .ok (.getfield index, 3)) (kk : ∀ v : Int32, v = w.I 402 a → Gw l G L0 p e R s m args below meth c nL cells slots Q w (pc + 3) lv (.int v :: st)) : Gw l G L0 p e R s m args below meth c nL cells slots Q w pc lv (.ref a :: st) :=
  g_get X (C := RX3) (T := TX3) (N := 4) (ci := 6) (j := 2) in_X3 rfl (by decide) (by decide) hk (wE_4 G w a) rfl "SusuRing" (fun _ h => h) q hd (kk _ rfl)
theorem gp_402 (X : GC l G L0 p s m args meth c cc nL own) {a index : Nat} {v : Int32} (hk : w.K a = 4) (q : Cond.fieldLink own index "SusuRing" "fundCash" "I" ∈ wAll) (hd : decode cc pc = .ok (.putfield index, 3)) (kk : ∀ w1 : Wd, w1 = w.setI 402 a v → Gw l G L0 p e R s m args below meth c nL cells slots Q w1 (pc + 3) lv st) : Gw l G L0 p e R s m args below meth c nL cells slots Q w pc lv (.int v :: .ref a :: st) :=
  g_put X (C := RX3) (T := TX3) (N := 4) (ci := 6) (j := 2) (w1 := w.setI 402 a v) tyX3 tyX3_ok nmX3 in_X3 rfl (by decide) (by decide) hk (wE_4 G w a) (show 2 < 4 by decide) rfl rfl rfl rfl "SusuRing" (fun _ h => h) q hd rfl rfl (by show (Sum.inr (6, [va_rf (w.R 400 a), va_rf (w.R 401 a), .int (up2 w.I 402 a v 402 a), .int (up2 w.I 402 a v 403 a)]) : va_E) = Sum.inr (6, (fs_4 w a).set 2 (.int v)); simp [fs_4, up2]) (fun b hb => wE_I hb) (kk _ rfl)
theorem gg_403 (X : GC l G L0 p s m args meth c cc nL own) {a index : Nat} (hk : w.K a = 4) (q : Cond.fieldLink own index "SusuRing" "earned" "I" ∈ wAll) (hd : decode cc pc = .ok (.getfield index, 3)) (kk : ∀ v : Int32, v = w.I 403 a → Gw l G L0 p e R s m args below meth c nL cells slots Q w (pc + 3) lv (.int v :: st)) : Gw l G L0 p e R s m args below meth c nL cells slots Q w pc lv (.ref a :: st) :=
  g_get X (C := RX3) (T := TX3) (N := 4) (ci := 6) (j := 3) in_X3 rfl (by decide) (by decide) hk (wE_4 G w a) rfl "SusuRing" (fun _ h => h) q hd (kk _ rfl)
theorem gp_403 (X : GC l G L0 p s m args meth c cc nL own) {a index : Nat} {v : Int32} (hk : w.K a = 4) (q : Cond.fieldLink own index "SusuRing" "earned" "I" ∈ wAll) (hd : decode cc pc = .ok (.putfield index, 3)) (kk : ∀ w1 : Wd, w1 = w.setI 403 a v → Gw l G L0 p e R s m args below meth c nL cells slots Q w1 (pc + 3) lv st) : Gw l G L0 p e R s m args below meth c nL cells slots Q w pc lv (.int v :: .ref a :: st) :=
  g_put X (C := RX3) (T := TX3) (N := 4) (ci := 6) (j := 3) (w1 := w.setI 403 a v) tyX3 tyX3_ok nmX3 in_X3 rfl (by decide) (by decide) hk (wE_4 G w a) (show 3 < 4 by decide) rfl rfl rfl rfl "SusuRing" (fun _ h => h) q hd rfl rfl (by show (Sum.inr (6, [va_rf (w.R 400 a), va_rf (w.R 401 a), .int (up2 w.I 403 a v 402 a), .int (up2 w.I 403 a v 403 a)]) : va_E) = Sum.inr (6, (fs_4 w a).set 3 (.int v)); simp [fs_4, up2]) (fun b hb => wE_I hb) (kk _ rfl)
theorem in_X4 : ∀ x ∈ u_ws RX4 TX4 31, x ∈ wAll := by decide +kernel
def fs_5 (w : Wd) (a : Nat) : List Value := [.int (w.I 500 a), .int (w.I 501 a), va_rf (w.R 502 a), va_rf (w.R 503 a), va_rf (w.R 504 a), va_rf (w.R 505 a), va_rf (w.R 506 a), va_rf (w.R 507 a), va_rf (w.R 508 a), va_rf (w.R 509 a), va_rf (w.R 510 a), va_rf (w.R 511 a), va_rf (w.R 512 a), .int (w.I 513 a), va_rf (w.R 514 a), va_rf (w.R 515 a), va_rf (w.R 516 a), va_rf (w.R 517 a), va_rf (w.R 518 a), va_rf (w.R 519 a), va_rf (w.R 520 a), va_rf (w.R 521 a), va_rf (w.R 522 a), va_rf (w.R 523 a), va_rf (w.R 524 a), va_rf (w.R 525 a), va_rf (w.R 526 a), va_rf (w.R 527 a), .int (w.I 528 a), .int (w.I 529 a), va_rf (w.R 530 a)]
theorem wE_5 (G : GT) (w : Wd) (a : Nat) : wE G w 5 a = .inr (7, fs_5 w a) := rfl
theorem gg_500 (X : GC l G L0 p s m args meth c cc nL own) {a index : Nat} (hk : w.K a = 5) (q : Cond.fieldLink own index "SusuRingModel" "thrown" "I" ∈ wAll) (hd : decode cc pc = .ok (.getfield index, 3)) (kk : ∀ v : Int32, v = w.I 500 a → Gw l G L0 p e R s m args below meth c nL cells slots Q w (pc + 3) lv (.int v :: st)) : Gw l G L0 p e R s m args below meth c nL cells slots Q w pc lv (.ref a :: st) :=
  g_get X (C := RX4) (T := TX4) (N := 31) (ci := 7) (j := 0) in_X4 rfl (by decide) (by decide) hk (wE_5 G w a) rfl "SusuRingModel" (fun _ h => h) q hd (kk _ rfl)
theorem gp_500 (X : GC l G L0 p s m args meth c cc nL own) {a index : Nat} {v : Int32} (hk : w.K a = 5) (q : Cond.fieldLink own index "SusuRingModel" "thrown" "I" ∈ wAll) (hd : decode cc pc = .ok (.putfield index, 3)) (kk : ∀ w1 : Wd, w1 = w.setI 500 a v → Gw l G L0 p e R s m args below meth c nL cells slots Q w1 (pc + 3) lv st) : Gw l G L0 p e R s m args below meth c nL cells slots Q w pc lv (.int v :: .ref a :: st) :=
  g_put X (C := RX4) (T := TX4) (N := 31) (ci := 7) (j := 0) (w1 := w.setI 500 a v) tyX4 tyX4_ok nmX4 in_X4 rfl (by decide) (by decide) hk (wE_5 G w a) (show 0 < 31 by decide) rfl rfl rfl rfl "SusuRingModel" (fun _ h => h) q hd rfl rfl (by show (Sum.inr (7, [.int (up2 w.I 500 a v 500 a), .int (up2 w.I 500 a v 501 a), va_rf (w.R 502 a), va_rf (w.R 503 a), va_rf (w.R 504 a), va_rf (w.R 505 a), va_rf (w.R 506 a), va_rf (w.R 507 a), va_rf (w.R 508 a), va_rf (w.R 509 a), va_rf (w.R 510 a), va_rf (w.R 511 a), va_rf (w.R 512 a), .int (up2 w.I 500 a v 513 a), va_rf (w.R 514 a), va_rf (w.R 515 a), va_rf (w.R 516 a), va_rf (w.R 517 a), va_rf (w.R 518 a), va_rf (w.R 519 a), va_rf (w.R 520 a), va_rf (w.R 521 a), va_rf (w.R 522 a), va_rf (w.R 523 a), va_rf (w.R 524 a), va_rf (w.R 525 a), va_rf (w.R 526 a), va_rf (w.R 527 a), .int (up2 w.I 500 a v 528 a), .int (up2 w.I 500 a v 529 a), va_rf (w.R 530 a)]) : va_E) = Sum.inr (7, (fs_5 w a).set 0 (.int v)); simp [fs_5, up2]) (fun b hb => wE_I hb) (kk _ rfl)
theorem gg_501 (X : GC l G L0 p s m args meth c cc nL own) {a index : Nat} (hk : w.K a = 5) (q : Cond.fieldLink own index "SusuRingModel" "people" "I" ∈ wAll) (hd : decode cc pc = .ok (.getfield index, 3)) (kk : ∀ v : Int32, v = w.I 501 a → Gw l G L0 p e R s m args below meth c nL cells slots Q w (pc + 3) lv (.int v :: st)) : Gw l G L0 p e R s m args below meth c nL cells slots Q w pc lv (.ref a :: st) :=
  g_get X (C := RX4) (T := TX4) (N := 31) (ci := 7) (j := 1) in_X4 rfl (by decide) (by decide) hk (wE_5 G w a) rfl "SusuRingModel" (fun _ h => h) q hd (kk _ rfl)
theorem gp_501 (X : GC l G L0 p s m args meth c cc nL own) {a index : Nat} {v : Int32} (hk : w.K a = 5) (q : Cond.fieldLink own index "SusuRingModel" "people" "I" ∈ wAll) (hd : decode cc pc = .ok (.putfield index, 3)) (kk : ∀ w1 : Wd, w1 = w.setI 501 a v → Gw l G L0 p e R s m args below meth c nL cells slots Q w1 (pc + 3) lv st) : Gw l G L0 p e R s m args below meth c nL cells slots Q w pc lv (.int v :: .ref a :: st) :=
  g_put X (C := RX4) (T := TX4) (N := 31) (ci := 7) (j := 1) (w1 := w.setI 501 a v) tyX4 tyX4_ok nmX4 in_X4 rfl (by decide) (by decide) hk (wE_5 G w a) (show 1 < 31 by decide) rfl rfl rfl rfl "SusuRingModel" (fun _ h => h) q hd rfl rfl (by show (Sum.inr (7, [.int (up2 w.I 501 a v 500 a), .int (up2 w.I 501 a v 501 a), va_rf (w.R 502 a), va_rf (w.R 503 a), va_rf (w.R 504 a), va_rf (w.R 505 a), va_rf (w.R 506 a), va_rf (w.R 507 a), va_rf (w.R 508 a), va_rf (w.R 509 a), va_rf (w.R 510 a), va_rf (w.R 511 a), va_rf (w.R 512 a), .int (up2 w.I 501 a v 513 a), va_rf (w.R 514 a), va_rf (w.R 515 a), va_rf (w.R 516 a), va_rf (w.R 517 a), va_rf (w.R 518 a), va_rf (w.R 519 a), va_rf (w.R 520 a), va_rf (w.R 521 a), va_rf (w.R 522 a), va_rf (w.R 523 a), va_rf (w.R 524 a), va_rf (w.R 525 a), va_rf (w.R 526 a), va_rf (w.R 527 a), .int (up2 w.I 501 a v 528 a), .int (up2 w.I 501 a v 529 a), va_rf (w.R 530 a)]) : va_E) = Sum.inr (7, (fs_5 w a).set 1 (.int v)); simp [fs_5, up2]) (fun b hb => wE_I hb) (kk _ rfl)
theorem gg_502 (X : GC l G L0 p s m args meth c cc nL own) {a index : Nat} (hk : w.K a = 5) (q : Cond.fieldLink own index "SusuRingModel" "age" "[I" ∈ wAll) (hd : decode cc pc = .ok (.getfield index, 3)) (kk : ∀ v : Option Nat, v = w.R 502 a → Gw l G L0 p e R s m args below meth c nL cells slots Q w (pc + 3) lv (va_rf v :: st)) : Gw l G L0 p e R s m args below meth c nL cells slots Q w pc lv (.ref a :: st) :=
  g_get X (C := RX4) (T := TX4) (N := 31) (ci := 7) (j := 2) in_X4 rfl (by decide) (by decide) hk (wE_5 G w a) rfl "SusuRingModel" (fun _ h => h) q hd (kk _ rfl)
theorem gp_502 (X : GC l G L0 p s m args meth c cc nL own) {a index : Nat} {v : Option Nat} (hk : w.K a = 5) (hin2 : meth.name = "<init>") (hown : RX4 = own) (q : Cond.fieldLink own index "SusuRingModel" "age" "[I" ∈ wAll) (hd : decode cc pc = .ok (.putfield index, 3)) (kk : ∀ w1 : Wd, w1 = w.setR 502 a v → Gw l G L0 p e R s m args below meth c nL cells slots Q w1 (pc + 3) lv st) : Gw l G L0 p e R s m args below meth c nL cells slots Q w pc lv (va_rf v :: .ref a :: st) :=
  g_putF X (C := RX4) (T := TX4) (N := 31) (ci := 7) (j := 2) (w1 := w.setR 502 a v) tyX4 tyX4_ok nmX4 in_X4 rfl (by decide) (by decide) hk (wE_5 G w a) (show 2 < 31 by decide) hin2 hown rfl rfl (by cases v <;> rfl) (by cases v <;> rfl) "SusuRingModel" (fun _ h => h) q hd rfl rfl (by show (Sum.inr (7, [.int (w.I 500 a), .int (w.I 501 a), va_rf (up2 w.R 502 a v 502 a), va_rf (up2 w.R 502 a v 503 a), va_rf (up2 w.R 502 a v 504 a), va_rf (up2 w.R 502 a v 505 a), va_rf (up2 w.R 502 a v 506 a), va_rf (up2 w.R 502 a v 507 a), va_rf (up2 w.R 502 a v 508 a), va_rf (up2 w.R 502 a v 509 a), va_rf (up2 w.R 502 a v 510 a), va_rf (up2 w.R 502 a v 511 a), va_rf (up2 w.R 502 a v 512 a), .int (w.I 513 a), va_rf (up2 w.R 502 a v 514 a), va_rf (up2 w.R 502 a v 515 a), va_rf (up2 w.R 502 a v 516 a), va_rf (up2 w.R 502 a v 517 a), va_rf (up2 w.R 502 a v 518 a), va_rf (up2 w.R 502 a v 519 a), va_rf (up2 w.R 502 a v 520 a), va_rf (up2 w.R 502 a v 521 a), va_rf (up2 w.R 502 a v 522 a), va_rf (up2 w.R 502 a v 523 a), va_rf (up2 w.R 502 a v 524 a), va_rf (up2 w.R 502 a v 525 a), va_rf (up2 w.R 502 a v 526 a), va_rf (up2 w.R 502 a v 527 a), .int (w.I 528 a), .int (w.I 529 a), va_rf (up2 w.R 502 a v 530 a)]) : va_E) = Sum.inr (7, (fs_5 w a).set 2 (va_rf v)); simp [fs_5, up2]) (fun b hb => wE_R hb) (kk _ rfl)
theorem gg_503 (X : GC l G L0 p s m args meth c cc nL own) {a index : Nat} (hk : w.K a = 5) (q : Cond.fieldLink own index "SusuRingModel" "name" "[I" ∈ wAll) (hd : decode cc pc = .ok (.getfield index, 3)) (kk : ∀ v : Option Nat, v = w.R 503 a → Gw l G L0 p e R s m args below meth c nL cells slots Q w (pc + 3) lv (va_rf v :: st)) : Gw l G L0 p e R s m args below meth c nL cells slots Q w pc lv (.ref a :: st) :=
  g_get X (C := RX4) (T := TX4) (N := 31) (ci := 7) (j := 3) in_X4 rfl (by decide) (by decide) hk (wE_5 G w a) rfl "SusuRingModel" (fun _ h => h) q hd (kk _ rfl)
theorem gp_503 (X : GC l G L0 p s m args meth c cc nL own) {a index : Nat} {v : Option Nat} (hk : w.K a = 5) (hin2 : meth.name = "<init>") (hown : RX4 = own) (q : Cond.fieldLink own index "SusuRingModel" "name" "[I" ∈ wAll) (hd : decode cc pc = .ok (.putfield index, 3)) (kk : ∀ w1 : Wd, w1 = w.setR 503 a v → Gw l G L0 p e R s m args below meth c nL cells slots Q w1 (pc + 3) lv st) : Gw l G L0 p e R s m args below meth c nL cells slots Q w pc lv (va_rf v :: .ref a :: st) :=
  g_putF X (C := RX4) (T := TX4) (N := 31) (ci := 7) (j := 3) (w1 := w.setR 503 a v) tyX4 tyX4_ok nmX4 in_X4 rfl (by decide) (by decide) hk (wE_5 G w a) (show 3 < 31 by decide) hin2 hown rfl rfl (by cases v <;> rfl) (by cases v <;> rfl) "SusuRingModel" (fun _ h => h) q hd rfl rfl (by show (Sum.inr (7, [.int (w.I 500 a), .int (w.I 501 a), va_rf (up2 w.R 503 a v 502 a), va_rf (up2 w.R 503 a v 503 a), va_rf (up2 w.R 503 a v 504 a), va_rf (up2 w.R 503 a v 505 a), va_rf (up2 w.R 503 a v 506 a), va_rf (up2 w.R 503 a v 507 a), va_rf (up2 w.R 503 a v 508 a), va_rf (up2 w.R 503 a v 509 a), va_rf (up2 w.R 503 a v 510 a), va_rf (up2 w.R 503 a v 511 a), va_rf (up2 w.R 503 a v 512 a), .int (w.I 513 a), va_rf (up2 w.R 503 a v 514 a), va_rf (up2 w.R 503 a v 515 a), va_rf (up2 w.R 503 a v 516 a), va_rf (up2 w.R 503 a v 517 a), va_rf (up2 w.R 503 a v 518 a), va_rf (up2 w.R 503 a v 519 a), va_rf (up2 w.R 503 a v 520 a), va_rf (up2 w.R 503 a v 521 a), va_rf (up2 w.R 503 a v 522 a), va_rf (up2 w.R 503 a v 523 a), va_rf (up2 w.R 503 a v 524 a), va_rf (up2 w.R 503 a v 525 a), va_rf (up2 w.R 503 a v 526 a), va_rf (up2 w.R 503 a v 527 a), .int (w.I 528 a), .int (w.I 529 a), va_rf (up2 w.R 503 a v 530 a)]) : va_E) = Sum.inr (7, (fs_5 w a).set 3 (va_rf v)); simp [fs_5, up2]) (fun b hb => wE_R hb) (kk _ rfl)
theorem gg_504 (X : GC l G L0 p s m args meth c cc nL own) {a index : Nat} (hk : w.K a = 5) (q : Cond.fieldLink own index "SusuRingModel" "purse" "[I" ∈ wAll) (hd : decode cc pc = .ok (.getfield index, 3)) (kk : ∀ v : Option Nat, v = w.R 504 a → Gw l G L0 p e R s m args below meth c nL cells slots Q w (pc + 3) lv (va_rf v :: st)) : Gw l G L0 p e R s m args below meth c nL cells slots Q w pc lv (.ref a :: st) :=
  g_get X (C := RX4) (T := TX4) (N := 31) (ci := 7) (j := 4) in_X4 rfl (by decide) (by decide) hk (wE_5 G w a) rfl "SusuRingModel" (fun _ h => h) q hd (kk _ rfl)
theorem gp_504 (X : GC l G L0 p s m args meth c cc nL own) {a index : Nat} {v : Option Nat} (hk : w.K a = 5) (hin2 : meth.name = "<init>") (hown : RX4 = own) (q : Cond.fieldLink own index "SusuRingModel" "purse" "[I" ∈ wAll) (hd : decode cc pc = .ok (.putfield index, 3)) (kk : ∀ w1 : Wd, w1 = w.setR 504 a v → Gw l G L0 p e R s m args below meth c nL cells slots Q w1 (pc + 3) lv st) : Gw l G L0 p e R s m args below meth c nL cells slots Q w pc lv (va_rf v :: .ref a :: st) :=
  g_putF X (C := RX4) (T := TX4) (N := 31) (ci := 7) (j := 4) (w1 := w.setR 504 a v) tyX4 tyX4_ok nmX4 in_X4 rfl (by decide) (by decide) hk (wE_5 G w a) (show 4 < 31 by decide) hin2 hown rfl rfl (by cases v <;> rfl) (by cases v <;> rfl) "SusuRingModel" (fun _ h => h) q hd rfl rfl (by show (Sum.inr (7, [.int (w.I 500 a), .int (w.I 501 a), va_rf (up2 w.R 504 a v 502 a), va_rf (up2 w.R 504 a v 503 a), va_rf (up2 w.R 504 a v 504 a), va_rf (up2 w.R 504 a v 505 a), va_rf (up2 w.R 504 a v 506 a), va_rf (up2 w.R 504 a v 507 a), va_rf (up2 w.R 504 a v 508 a), va_rf (up2 w.R 504 a v 509 a), va_rf (up2 w.R 504 a v 510 a), va_rf (up2 w.R 504 a v 511 a), va_rf (up2 w.R 504 a v 512 a), .int (w.I 513 a), va_rf (up2 w.R 504 a v 514 a), va_rf (up2 w.R 504 a v 515 a), va_rf (up2 w.R 504 a v 516 a), va_rf (up2 w.R 504 a v 517 a), va_rf (up2 w.R 504 a v 518 a), va_rf (up2 w.R 504 a v 519 a), va_rf (up2 w.R 504 a v 520 a), va_rf (up2 w.R 504 a v 521 a), va_rf (up2 w.R 504 a v 522 a), va_rf (up2 w.R 504 a v 523 a), va_rf (up2 w.R 504 a v 524 a), va_rf (up2 w.R 504 a v 525 a), va_rf (up2 w.R 504 a v 526 a), va_rf (up2 w.R 504 a v 527 a), .int (w.I 528 a), .int (w.I 529 a), va_rf (up2 w.R 504 a v 530 a)]) : va_E) = Sum.inr (7, (fs_5 w a).set 4 (va_rf v)); simp [fs_5, up2]) (fun b hb => wE_R hb) (kk _ rfl)
theorem gg_505 (X : GC l G L0 p s m args meth c cc nL own) {a index : Nat} (hk : w.K a = 5) (q : Cond.fieldLink own index "SusuRingModel" "shares" "[I" ∈ wAll) (hd : decode cc pc = .ok (.getfield index, 3)) (kk : ∀ v : Option Nat, v = w.R 505 a → Gw l G L0 p e R s m args below meth c nL cells slots Q w (pc + 3) lv (va_rf v :: st)) : Gw l G L0 p e R s m args below meth c nL cells slots Q w pc lv (.ref a :: st) :=
  g_get X (C := RX4) (T := TX4) (N := 31) (ci := 7) (j := 5) in_X4 rfl (by decide) (by decide) hk (wE_5 G w a) rfl "SusuRingModel" (fun _ h => h) q hd (kk _ rfl)
theorem gp_505 (X : GC l G L0 p s m args meth c cc nL own) {a index : Nat} {v : Option Nat} (hk : w.K a = 5) (hin2 : meth.name = "<init>") (hown : RX4 = own) (q : Cond.fieldLink own index "SusuRingModel" "shares" "[I" ∈ wAll) (hd : decode cc pc = .ok (.putfield index, 3)) (kk : ∀ w1 : Wd, w1 = w.setR 505 a v → Gw l G L0 p e R s m args below meth c nL cells slots Q w1 (pc + 3) lv st) : Gw l G L0 p e R s m args below meth c nL cells slots Q w pc lv (va_rf v :: .ref a :: st) :=
  g_putF X (C := RX4) (T := TX4) (N := 31) (ci := 7) (j := 5) (w1 := w.setR 505 a v) tyX4 tyX4_ok nmX4 in_X4 rfl (by decide) (by decide) hk (wE_5 G w a) (show 5 < 31 by decide) hin2 hown rfl rfl (by cases v <;> rfl) (by cases v <;> rfl) "SusuRingModel" (fun _ h => h) q hd rfl rfl (by show (Sum.inr (7, [.int (w.I 500 a), .int (w.I 501 a), va_rf (up2 w.R 505 a v 502 a), va_rf (up2 w.R 505 a v 503 a), va_rf (up2 w.R 505 a v 504 a), va_rf (up2 w.R 505 a v 505 a), va_rf (up2 w.R 505 a v 506 a), va_rf (up2 w.R 505 a v 507 a), va_rf (up2 w.R 505 a v 508 a), va_rf (up2 w.R 505 a v 509 a), va_rf (up2 w.R 505 a v 510 a), va_rf (up2 w.R 505 a v 511 a), va_rf (up2 w.R 505 a v 512 a), .int (w.I 513 a), va_rf (up2 w.R 505 a v 514 a), va_rf (up2 w.R 505 a v 515 a), va_rf (up2 w.R 505 a v 516 a), va_rf (up2 w.R 505 a v 517 a), va_rf (up2 w.R 505 a v 518 a), va_rf (up2 w.R 505 a v 519 a), va_rf (up2 w.R 505 a v 520 a), va_rf (up2 w.R 505 a v 521 a), va_rf (up2 w.R 505 a v 522 a), va_rf (up2 w.R 505 a v 523 a), va_rf (up2 w.R 505 a v 524 a), va_rf (up2 w.R 505 a v 525 a), va_rf (up2 w.R 505 a v 526 a), va_rf (up2 w.R 505 a v 527 a), .int (w.I 528 a), .int (w.I 529 a), va_rf (up2 w.R 505 a v 530 a)]) : va_E) = Sum.inr (7, (fs_5 w a).set 5 (va_rf v)); simp [fs_5, up2]) (fun b hb => wE_R hb) (kk _ rfl)
theorem gg_506 (X : GC l G L0 p s m args meth c cc nL own) {a index : Nat} (hk : w.K a = 5) (q : Cond.fieldLink own index "SusuRingModel" "debt" "[I" ∈ wAll) (hd : decode cc pc = .ok (.getfield index, 3)) (kk : ∀ v : Option Nat, v = w.R 506 a → Gw l G L0 p e R s m args below meth c nL cells slots Q w (pc + 3) lv (va_rf v :: st)) : Gw l G L0 p e R s m args below meth c nL cells slots Q w pc lv (.ref a :: st) :=
  g_get X (C := RX4) (T := TX4) (N := 31) (ci := 7) (j := 6) in_X4 rfl (by decide) (by decide) hk (wE_5 G w a) rfl "SusuRingModel" (fun _ h => h) q hd (kk _ rfl)
theorem gp_506 (X : GC l G L0 p s m args meth c cc nL own) {a index : Nat} {v : Option Nat} (hk : w.K a = 5) (hin2 : meth.name = "<init>") (hown : RX4 = own) (q : Cond.fieldLink own index "SusuRingModel" "debt" "[I" ∈ wAll) (hd : decode cc pc = .ok (.putfield index, 3)) (kk : ∀ w1 : Wd, w1 = w.setR 506 a v → Gw l G L0 p e R s m args below meth c nL cells slots Q w1 (pc + 3) lv st) : Gw l G L0 p e R s m args below meth c nL cells slots Q w pc lv (va_rf v :: .ref a :: st) :=
  g_putF X (C := RX4) (T := TX4) (N := 31) (ci := 7) (j := 6) (w1 := w.setR 506 a v) tyX4 tyX4_ok nmX4 in_X4 rfl (by decide) (by decide) hk (wE_5 G w a) (show 6 < 31 by decide) hin2 hown rfl rfl (by cases v <;> rfl) (by cases v <;> rfl) "SusuRingModel" (fun _ h => h) q hd rfl rfl (by show (Sum.inr (7, [.int (w.I 500 a), .int (w.I 501 a), va_rf (up2 w.R 506 a v 502 a), va_rf (up2 w.R 506 a v 503 a), va_rf (up2 w.R 506 a v 504 a), va_rf (up2 w.R 506 a v 505 a), va_rf (up2 w.R 506 a v 506 a), va_rf (up2 w.R 506 a v 507 a), va_rf (up2 w.R 506 a v 508 a), va_rf (up2 w.R 506 a v 509 a), va_rf (up2 w.R 506 a v 510 a), va_rf (up2 w.R 506 a v 511 a), va_rf (up2 w.R 506 a v 512 a), .int (w.I 513 a), va_rf (up2 w.R 506 a v 514 a), va_rf (up2 w.R 506 a v 515 a), va_rf (up2 w.R 506 a v 516 a), va_rf (up2 w.R 506 a v 517 a), va_rf (up2 w.R 506 a v 518 a), va_rf (up2 w.R 506 a v 519 a), va_rf (up2 w.R 506 a v 520 a), va_rf (up2 w.R 506 a v 521 a), va_rf (up2 w.R 506 a v 522 a), va_rf (up2 w.R 506 a v 523 a), va_rf (up2 w.R 506 a v 524 a), va_rf (up2 w.R 506 a v 525 a), va_rf (up2 w.R 506 a v 526 a), va_rf (up2 w.R 506 a v 527 a), .int (w.I 528 a), .int (w.I 529 a), va_rf (up2 w.R 506 a v 530 a)]) : va_E) = Sum.inr (7, (fs_5 w a).set 6 (va_rf v)); simp [fs_5, up2]) (fun b hb => wE_R hb) (kk _ rfl)
theorem gg_507 (X : GC l G L0 p s m args meth c cc nL own) {a index : Nat} (hk : w.K a = 5) (q : Cond.fieldLink own index "SusuRingModel" "months" "[I" ∈ wAll) (hd : decode cc pc = .ok (.getfield index, 3)) (kk : ∀ v : Option Nat, v = w.R 507 a → Gw l G L0 p e R s m args below meth c nL cells slots Q w (pc + 3) lv (va_rf v :: st)) : Gw l G L0 p e R s m args below meth c nL cells slots Q w pc lv (.ref a :: st) :=
  g_get X (C := RX4) (T := TX4) (N := 31) (ci := 7) (j := 7) in_X4 rfl (by decide) (by decide) hk (wE_5 G w a) rfl "SusuRingModel" (fun _ h => h) q hd (kk _ rfl)
theorem gp_507 (X : GC l G L0 p s m args meth c cc nL own) {a index : Nat} {v : Option Nat} (hk : w.K a = 5) (hin2 : meth.name = "<init>") (hown : RX4 = own) (q : Cond.fieldLink own index "SusuRingModel" "months" "[I" ∈ wAll) (hd : decode cc pc = .ok (.putfield index, 3)) (kk : ∀ w1 : Wd, w1 = w.setR 507 a v → Gw l G L0 p e R s m args below meth c nL cells slots Q w1 (pc + 3) lv st) : Gw l G L0 p e R s m args below meth c nL cells slots Q w pc lv (va_rf v :: .ref a :: st) :=
  g_putF X (C := RX4) (T := TX4) (N := 31) (ci := 7) (j := 7) (w1 := w.setR 507 a v) tyX4 tyX4_ok nmX4 in_X4 rfl (by decide) (by decide) hk (wE_5 G w a) (show 7 < 31 by decide) hin2 hown rfl rfl (by cases v <;> rfl) (by cases v <;> rfl) "SusuRingModel" (fun _ h => h) q hd rfl rfl (by show (Sum.inr (7, [.int (w.I 500 a), .int (w.I 501 a), va_rf (up2 w.R 507 a v 502 a), va_rf (up2 w.R 507 a v 503 a), va_rf (up2 w.R 507 a v 504 a), va_rf (up2 w.R 507 a v 505 a), va_rf (up2 w.R 507 a v 506 a), va_rf (up2 w.R 507 a v 507 a), va_rf (up2 w.R 507 a v 508 a), va_rf (up2 w.R 507 a v 509 a), va_rf (up2 w.R 507 a v 510 a), va_rf (up2 w.R 507 a v 511 a), va_rf (up2 w.R 507 a v 512 a), .int (w.I 513 a), va_rf (up2 w.R 507 a v 514 a), va_rf (up2 w.R 507 a v 515 a), va_rf (up2 w.R 507 a v 516 a), va_rf (up2 w.R 507 a v 517 a), va_rf (up2 w.R 507 a v 518 a), va_rf (up2 w.R 507 a v 519 a), va_rf (up2 w.R 507 a v 520 a), va_rf (up2 w.R 507 a v 521 a), va_rf (up2 w.R 507 a v 522 a), va_rf (up2 w.R 507 a v 523 a), va_rf (up2 w.R 507 a v 524 a), va_rf (up2 w.R 507 a v 525 a), va_rf (up2 w.R 507 a v 526 a), va_rf (up2 w.R 507 a v 527 a), .int (w.I 528 a), .int (w.I 529 a), va_rf (up2 w.R 507 a v 530 a)]) : va_E) = Sum.inr (7, (fs_5 w a).set 7 (va_rf v)); simp [fs_5, up2]) (fun b hb => wE_R hb) (kk _ rfl)
theorem gg_508 (X : GC l G L0 p s m args meth c cc nL own) {a index : Nat} (hk : w.K a = 5) (q : Cond.fieldLink own index "SusuRingModel" "first" "[I" ∈ wAll) (hd : decode cc pc = .ok (.getfield index, 3)) (kk : ∀ v : Option Nat, v = w.R 508 a → Gw l G L0 p e R s m args below meth c nL cells slots Q w (pc + 3) lv (va_rf v :: st)) : Gw l G L0 p e R s m args below meth c nL cells slots Q w pc lv (.ref a :: st) :=
  g_get X (C := RX4) (T := TX4) (N := 31) (ci := 7) (j := 8) in_X4 rfl (by decide) (by decide) hk (wE_5 G w a) rfl "SusuRingModel" (fun _ h => h) q hd (kk _ rfl)
theorem gp_508 (X : GC l G L0 p s m args meth c cc nL own) {a index : Nat} {v : Option Nat} (hk : w.K a = 5) (hin2 : meth.name = "<init>") (hown : RX4 = own) (q : Cond.fieldLink own index "SusuRingModel" "first" "[I" ∈ wAll) (hd : decode cc pc = .ok (.putfield index, 3)) (kk : ∀ w1 : Wd, w1 = w.setR 508 a v → Gw l G L0 p e R s m args below meth c nL cells slots Q w1 (pc + 3) lv st) : Gw l G L0 p e R s m args below meth c nL cells slots Q w pc lv (va_rf v :: .ref a :: st) :=
  g_putF X (C := RX4) (T := TX4) (N := 31) (ci := 7) (j := 8) (w1 := w.setR 508 a v) tyX4 tyX4_ok nmX4 in_X4 rfl (by decide) (by decide) hk (wE_5 G w a) (show 8 < 31 by decide) hin2 hown rfl rfl (by cases v <;> rfl) (by cases v <;> rfl) "SusuRingModel" (fun _ h => h) q hd rfl rfl (by show (Sum.inr (7, [.int (w.I 500 a), .int (w.I 501 a), va_rf (up2 w.R 508 a v 502 a), va_rf (up2 w.R 508 a v 503 a), va_rf (up2 w.R 508 a v 504 a), va_rf (up2 w.R 508 a v 505 a), va_rf (up2 w.R 508 a v 506 a), va_rf (up2 w.R 508 a v 507 a), va_rf (up2 w.R 508 a v 508 a), va_rf (up2 w.R 508 a v 509 a), va_rf (up2 w.R 508 a v 510 a), va_rf (up2 w.R 508 a v 511 a), va_rf (up2 w.R 508 a v 512 a), .int (w.I 513 a), va_rf (up2 w.R 508 a v 514 a), va_rf (up2 w.R 508 a v 515 a), va_rf (up2 w.R 508 a v 516 a), va_rf (up2 w.R 508 a v 517 a), va_rf (up2 w.R 508 a v 518 a), va_rf (up2 w.R 508 a v 519 a), va_rf (up2 w.R 508 a v 520 a), va_rf (up2 w.R 508 a v 521 a), va_rf (up2 w.R 508 a v 522 a), va_rf (up2 w.R 508 a v 523 a), va_rf (up2 w.R 508 a v 524 a), va_rf (up2 w.R 508 a v 525 a), va_rf (up2 w.R 508 a v 526 a), va_rf (up2 w.R 508 a v 527 a), .int (w.I 528 a), .int (w.I 529 a), va_rf (up2 w.R 508 a v 530 a)]) : va_E) = Sum.inr (7, (fs_5 w a).set 8 (va_rf v)); simp [fs_5, up2]) (fun b hb => wE_R hb) (kk _ rfl)
theorem gg_509 (X : GC l G L0 p s m args meth c cc nL own) {a index : Nat} (hk : w.K a = 5) (q : Cond.fieldLink own index "SusuRingModel" "second" "[I" ∈ wAll) (hd : decode cc pc = .ok (.getfield index, 3)) (kk : ∀ v : Option Nat, v = w.R 509 a → Gw l G L0 p e R s m args below meth c nL cells slots Q w (pc + 3) lv (va_rf v :: st)) : Gw l G L0 p e R s m args below meth c nL cells slots Q w pc lv (.ref a :: st) :=
  g_get X (C := RX4) (T := TX4) (N := 31) (ci := 7) (j := 9) in_X4 rfl (by decide) (by decide) hk (wE_5 G w a) rfl "SusuRingModel" (fun _ h => h) q hd (kk _ rfl)
theorem gp_509 (X : GC l G L0 p s m args meth c cc nL own) {a index : Nat} {v : Option Nat} (hk : w.K a = 5) (hin2 : meth.name = "<init>") (hown : RX4 = own) (q : Cond.fieldLink own index "SusuRingModel" "second" "[I" ∈ wAll) (hd : decode cc pc = .ok (.putfield index, 3)) (kk : ∀ w1 : Wd, w1 = w.setR 509 a v → Gw l G L0 p e R s m args below meth c nL cells slots Q w1 (pc + 3) lv st) : Gw l G L0 p e R s m args below meth c nL cells slots Q w pc lv (va_rf v :: .ref a :: st) :=
  g_putF X (C := RX4) (T := TX4) (N := 31) (ci := 7) (j := 9) (w1 := w.setR 509 a v) tyX4 tyX4_ok nmX4 in_X4 rfl (by decide) (by decide) hk (wE_5 G w a) (show 9 < 31 by decide) hin2 hown rfl rfl (by cases v <;> rfl) (by cases v <;> rfl) "SusuRingModel" (fun _ h => h) q hd rfl rfl (by show (Sum.inr (7, [.int (w.I 500 a), .int (w.I 501 a), va_rf (up2 w.R 509 a v 502 a), va_rf (up2 w.R 509 a v 503 a), va_rf (up2 w.R 509 a v 504 a), va_rf (up2 w.R 509 a v 505 a), va_rf (up2 w.R 509 a v 506 a), va_rf (up2 w.R 509 a v 507 a), va_rf (up2 w.R 509 a v 508 a), va_rf (up2 w.R 509 a v 509 a), va_rf (up2 w.R 509 a v 510 a), va_rf (up2 w.R 509 a v 511 a), va_rf (up2 w.R 509 a v 512 a), .int (w.I 513 a), va_rf (up2 w.R 509 a v 514 a), va_rf (up2 w.R 509 a v 515 a), va_rf (up2 w.R 509 a v 516 a), va_rf (up2 w.R 509 a v 517 a), va_rf (up2 w.R 509 a v 518 a), va_rf (up2 w.R 509 a v 519 a), va_rf (up2 w.R 509 a v 520 a), va_rf (up2 w.R 509 a v 521 a), va_rf (up2 w.R 509 a v 522 a), va_rf (up2 w.R 509 a v 523 a), va_rf (up2 w.R 509 a v 524 a), va_rf (up2 w.R 509 a v 525 a), va_rf (up2 w.R 509 a v 526 a), va_rf (up2 w.R 509 a v 527 a), .int (w.I 528 a), .int (w.I 529 a), va_rf (up2 w.R 509 a v 530 a)]) : va_E) = Sum.inr (7, (fs_5 w a).set 9 (va_rf v)); simp [fs_5, up2]) (fun b hb => wE_R hb) (kk _ rfl)
theorem gg_510 (X : GC l G L0 p s m args meth c cc nL own) {a index : Nat} (hk : w.K a = 5) (q : Cond.fieldLink own index "SusuRingModel" "back" "[I" ∈ wAll) (hd : decode cc pc = .ok (.getfield index, 3)) (kk : ∀ v : Option Nat, v = w.R 510 a → Gw l G L0 p e R s m args below meth c nL cells slots Q w (pc + 3) lv (va_rf v :: st)) : Gw l G L0 p e R s m args below meth c nL cells slots Q w pc lv (.ref a :: st) :=
  g_get X (C := RX4) (T := TX4) (N := 31) (ci := 7) (j := 10) in_X4 rfl (by decide) (by decide) hk (wE_5 G w a) rfl "SusuRingModel" (fun _ h => h) q hd (kk _ rfl)
theorem gp_510 (X : GC l G L0 p s m args meth c cc nL own) {a index : Nat} {v : Option Nat} (hk : w.K a = 5) (hin2 : meth.name = "<init>") (hown : RX4 = own) (q : Cond.fieldLink own index "SusuRingModel" "back" "[I" ∈ wAll) (hd : decode cc pc = .ok (.putfield index, 3)) (kk : ∀ w1 : Wd, w1 = w.setR 510 a v → Gw l G L0 p e R s m args below meth c nL cells slots Q w1 (pc + 3) lv st) : Gw l G L0 p e R s m args below meth c nL cells slots Q w pc lv (va_rf v :: .ref a :: st) :=
  g_putF X (C := RX4) (T := TX4) (N := 31) (ci := 7) (j := 10) (w1 := w.setR 510 a v) tyX4 tyX4_ok nmX4 in_X4 rfl (by decide) (by decide) hk (wE_5 G w a) (show 10 < 31 by decide) hin2 hown rfl rfl (by cases v <;> rfl) (by cases v <;> rfl) "SusuRingModel" (fun _ h => h) q hd rfl rfl (by show (Sum.inr (7, [.int (w.I 500 a), .int (w.I 501 a), va_rf (up2 w.R 510 a v 502 a), va_rf (up2 w.R 510 a v 503 a), va_rf (up2 w.R 510 a v 504 a), va_rf (up2 w.R 510 a v 505 a), va_rf (up2 w.R 510 a v 506 a), va_rf (up2 w.R 510 a v 507 a), va_rf (up2 w.R 510 a v 508 a), va_rf (up2 w.R 510 a v 509 a), va_rf (up2 w.R 510 a v 510 a), va_rf (up2 w.R 510 a v 511 a), va_rf (up2 w.R 510 a v 512 a), .int (w.I 513 a), va_rf (up2 w.R 510 a v 514 a), va_rf (up2 w.R 510 a v 515 a), va_rf (up2 w.R 510 a v 516 a), va_rf (up2 w.R 510 a v 517 a), va_rf (up2 w.R 510 a v 518 a), va_rf (up2 w.R 510 a v 519 a), va_rf (up2 w.R 510 a v 520 a), va_rf (up2 w.R 510 a v 521 a), va_rf (up2 w.R 510 a v 522 a), va_rf (up2 w.R 510 a v 523 a), va_rf (up2 w.R 510 a v 524 a), va_rf (up2 w.R 510 a v 525 a), va_rf (up2 w.R 510 a v 526 a), va_rf (up2 w.R 510 a v 527 a), .int (w.I 528 a), .int (w.I 529 a), va_rf (up2 w.R 510 a v 530 a)]) : va_E) = Sum.inr (7, (fs_5 w a).set 10 (va_rf v)); simp [fs_5, up2]) (fun b hb => wE_R hb) (kk _ rfl)
theorem gg_511 (X : GC l G L0 p s m args meth c cc nL own) {a index : Nat} (hk : w.K a = 5) (q : Cond.fieldLink own index "SusuRingModel" "truth" "[I" ∈ wAll) (hd : decode cc pc = .ok (.getfield index, 3)) (kk : ∀ v : Option Nat, v = w.R 511 a → Gw l G L0 p e R s m args below meth c nL cells slots Q w (pc + 3) lv (va_rf v :: st)) : Gw l G L0 p e R s m args below meth c nL cells slots Q w pc lv (.ref a :: st) :=
  g_get X (C := RX4) (T := TX4) (N := 31) (ci := 7) (j := 11) in_X4 rfl (by decide) (by decide) hk (wE_5 G w a) rfl "SusuRingModel" (fun _ h => h) q hd (kk _ rfl)
theorem gp_511 (X : GC l G L0 p s m args meth c cc nL own) {a index : Nat} {v : Option Nat} (hk : w.K a = 5) (hin2 : meth.name = "<init>") (hown : RX4 = own) (q : Cond.fieldLink own index "SusuRingModel" "truth" "[I" ∈ wAll) (hd : decode cc pc = .ok (.putfield index, 3)) (kk : ∀ w1 : Wd, w1 = w.setR 511 a v → Gw l G L0 p e R s m args below meth c nL cells slots Q w1 (pc + 3) lv st) : Gw l G L0 p e R s m args below meth c nL cells slots Q w pc lv (va_rf v :: .ref a :: st) :=
  g_putF X (C := RX4) (T := TX4) (N := 31) (ci := 7) (j := 11) (w1 := w.setR 511 a v) tyX4 tyX4_ok nmX4 in_X4 rfl (by decide) (by decide) hk (wE_5 G w a) (show 11 < 31 by decide) hin2 hown rfl rfl (by cases v <;> rfl) (by cases v <;> rfl) "SusuRingModel" (fun _ h => h) q hd rfl rfl (by show (Sum.inr (7, [.int (w.I 500 a), .int (w.I 501 a), va_rf (up2 w.R 511 a v 502 a), va_rf (up2 w.R 511 a v 503 a), va_rf (up2 w.R 511 a v 504 a), va_rf (up2 w.R 511 a v 505 a), va_rf (up2 w.R 511 a v 506 a), va_rf (up2 w.R 511 a v 507 a), va_rf (up2 w.R 511 a v 508 a), va_rf (up2 w.R 511 a v 509 a), va_rf (up2 w.R 511 a v 510 a), va_rf (up2 w.R 511 a v 511 a), va_rf (up2 w.R 511 a v 512 a), .int (w.I 513 a), va_rf (up2 w.R 511 a v 514 a), va_rf (up2 w.R 511 a v 515 a), va_rf (up2 w.R 511 a v 516 a), va_rf (up2 w.R 511 a v 517 a), va_rf (up2 w.R 511 a v 518 a), va_rf (up2 w.R 511 a v 519 a), va_rf (up2 w.R 511 a v 520 a), va_rf (up2 w.R 511 a v 521 a), va_rf (up2 w.R 511 a v 522 a), va_rf (up2 w.R 511 a v 523 a), va_rf (up2 w.R 511 a v 524 a), va_rf (up2 w.R 511 a v 525 a), va_rf (up2 w.R 511 a v 526 a), va_rf (up2 w.R 511 a v 527 a), .int (w.I 528 a), .int (w.I 529 a), va_rf (up2 w.R 511 a v 530 a)]) : va_E) = Sum.inr (7, (fs_5 w a).set 11 (va_rf v)); simp [fs_5, up2]) (fun b hb => wE_R hb) (kk _ rfl)
theorem gg_512 (X : GC l G L0 p s m args meth c cc nL own) {a index : Nat} (hk : w.K a = 5) (q : Cond.fieldLink own index "SusuRingModel" "isDead" "[Z" ∈ wAll) (hd : decode cc pc = .ok (.getfield index, 3)) (kk : ∀ v : Option Nat, v = w.R 512 a → Gw l G L0 p e R s m args below meth c nL cells slots Q w (pc + 3) lv (va_rf v :: st)) : Gw l G L0 p e R s m args below meth c nL cells slots Q w pc lv (.ref a :: st) :=
  g_get X (C := RX4) (T := TX4) (N := 31) (ci := 7) (j := 12) in_X4 rfl (by decide) (by decide) hk (wE_5 G w a) rfl "SusuRingModel" (fun _ h => h) q hd (kk _ rfl)
theorem gp_512 (X : GC l G L0 p s m args meth c cc nL own) {a index : Nat} {v : Option Nat} (hk : w.K a = 5) (hin2 : meth.name = "<init>") (hown : RX4 = own) (q : Cond.fieldLink own index "SusuRingModel" "isDead" "[Z" ∈ wAll) (hd : decode cc pc = .ok (.putfield index, 3)) (kk : ∀ w1 : Wd, w1 = w.setR 512 a v → Gw l G L0 p e R s m args below meth c nL cells slots Q w1 (pc + 3) lv st) : Gw l G L0 p e R s m args below meth c nL cells slots Q w pc lv (va_rf v :: .ref a :: st) :=
  g_putF X (C := RX4) (T := TX4) (N := 31) (ci := 7) (j := 12) (w1 := w.setR 512 a v) tyX4 tyX4_ok nmX4 in_X4 rfl (by decide) (by decide) hk (wE_5 G w a) (show 12 < 31 by decide) hin2 hown rfl rfl (by cases v <;> rfl) (by cases v <;> rfl) "SusuRingModel" (fun _ h => h) q hd rfl rfl (by show (Sum.inr (7, [.int (w.I 500 a), .int (w.I 501 a), va_rf (up2 w.R 512 a v 502 a), va_rf (up2 w.R 512 a v 503 a), va_rf (up2 w.R 512 a v 504 a), va_rf (up2 w.R 512 a v 505 a), va_rf (up2 w.R 512 a v 506 a), va_rf (up2 w.R 512 a v 507 a), va_rf (up2 w.R 512 a v 508 a), va_rf (up2 w.R 512 a v 509 a), va_rf (up2 w.R 512 a v 510 a), va_rf (up2 w.R 512 a v 511 a), va_rf (up2 w.R 512 a v 512 a), .int (w.I 513 a), va_rf (up2 w.R 512 a v 514 a), va_rf (up2 w.R 512 a v 515 a), va_rf (up2 w.R 512 a v 516 a), va_rf (up2 w.R 512 a v 517 a), va_rf (up2 w.R 512 a v 518 a), va_rf (up2 w.R 512 a v 519 a), va_rf (up2 w.R 512 a v 520 a), va_rf (up2 w.R 512 a v 521 a), va_rf (up2 w.R 512 a v 522 a), va_rf (up2 w.R 512 a v 523 a), va_rf (up2 w.R 512 a v 524 a), va_rf (up2 w.R 512 a v 525 a), va_rf (up2 w.R 512 a v 526 a), va_rf (up2 w.R 512 a v 527 a), .int (w.I 528 a), .int (w.I 529 a), va_rf (up2 w.R 512 a v 530 a)]) : va_E) = Sum.inr (7, (fs_5 w a).set 12 (va_rf v)); simp [fs_5, up2]) (fun b hb => wE_R hb) (kk _ rfl)
theorem gg_513 (X : GC l G L0 p s m args meth c cc nL own) {a index : Nat} (hk : w.K a = 5) (q : Cond.fieldLink own index "SusuRingModel" "circles" "I" ∈ wAll) (hd : decode cc pc = .ok (.getfield index, 3)) (kk : ∀ v : Int32, v = w.I 513 a → Gw l G L0 p e R s m args below meth c nL cells slots Q w (pc + 3) lv (.int v :: st)) : Gw l G L0 p e R s m args below meth c nL cells slots Q w pc lv (.ref a :: st) :=
  g_get X (C := RX4) (T := TX4) (N := 31) (ci := 7) (j := 13) in_X4 rfl (by decide) (by decide) hk (wE_5 G w a) rfl "SusuRingModel" (fun _ h => h) q hd (kk _ rfl)
theorem gp_513 (X : GC l G L0 p s m args meth c cc nL own) {a index : Nat} {v : Int32} (hk : w.K a = 5) (q : Cond.fieldLink own index "SusuRingModel" "circles" "I" ∈ wAll) (hd : decode cc pc = .ok (.putfield index, 3)) (kk : ∀ w1 : Wd, w1 = w.setI 513 a v → Gw l G L0 p e R s m args below meth c nL cells slots Q w1 (pc + 3) lv st) : Gw l G L0 p e R s m args below meth c nL cells slots Q w pc lv (.int v :: .ref a :: st) :=
  g_put X (C := RX4) (T := TX4) (N := 31) (ci := 7) (j := 13) (w1 := w.setI 513 a v) tyX4 tyX4_ok nmX4 in_X4 rfl (by decide) (by decide) hk (wE_5 G w a) (show 13 < 31 by decide) rfl rfl rfl rfl "SusuRingModel" (fun _ h => h) q hd rfl rfl (by show (Sum.inr (7, [.int (up2 w.I 513 a v 500 a), .int (up2 w.I 513 a v 501 a), va_rf (w.R 502 a), va_rf (w.R 503 a), va_rf (w.R 504 a), va_rf (w.R 505 a), va_rf (w.R 506 a), va_rf (w.R 507 a), va_rf (w.R 508 a), va_rf (w.R 509 a), va_rf (w.R 510 a), va_rf (w.R 511 a), va_rf (w.R 512 a), .int (up2 w.I 513 a v 513 a), va_rf (w.R 514 a), va_rf (w.R 515 a), va_rf (w.R 516 a), va_rf (w.R 517 a), va_rf (w.R 518 a), va_rf (w.R 519 a), va_rf (w.R 520 a), va_rf (w.R 521 a), va_rf (w.R 522 a), va_rf (w.R 523 a), va_rf (w.R 524 a), va_rf (w.R 525 a), va_rf (w.R 526 a), va_rf (w.R 527 a), .int (up2 w.I 513 a v 528 a), .int (up2 w.I 513 a v 529 a), va_rf (w.R 530 a)]) : va_E) = Sum.inr (7, (fs_5 w a).set 13 (.int v)); simp [fs_5, up2]) (fun b hb => wE_I hb) (kk _ rfl)
theorem gg_514 (X : GC l G L0 p s m args meth c cc nL own) {a index : Nat} (hk : w.K a = 5) (q : Cond.fieldLink own index "SusuRingModel" "sum" "[I" ∈ wAll) (hd : decode cc pc = .ok (.getfield index, 3)) (kk : ∀ v : Option Nat, v = w.R 514 a → Gw l G L0 p e R s m args below meth c nL cells slots Q w (pc + 3) lv (va_rf v :: st)) : Gw l G L0 p e R s m args below meth c nL cells slots Q w pc lv (.ref a :: st) :=
  g_get X (C := RX4) (T := TX4) (N := 31) (ci := 7) (j := 14) in_X4 rfl (by decide) (by decide) hk (wE_5 G w a) rfl "SusuRingModel" (fun _ h => h) q hd (kk _ rfl)
theorem gp_514 (X : GC l G L0 p s m args meth c cc nL own) {a index : Nat} {v : Option Nat} (hk : w.K a = 5) (hin2 : meth.name = "<init>") (hown : RX4 = own) (q : Cond.fieldLink own index "SusuRingModel" "sum" "[I" ∈ wAll) (hd : decode cc pc = .ok (.putfield index, 3)) (kk : ∀ w1 : Wd, w1 = w.setR 514 a v → Gw l G L0 p e R s m args below meth c nL cells slots Q w1 (pc + 3) lv st) : Gw l G L0 p e R s m args below meth c nL cells slots Q w pc lv (va_rf v :: .ref a :: st) :=
  g_putF X (C := RX4) (T := TX4) (N := 31) (ci := 7) (j := 14) (w1 := w.setR 514 a v) tyX4 tyX4_ok nmX4 in_X4 rfl (by decide) (by decide) hk (wE_5 G w a) (show 14 < 31 by decide) hin2 hown rfl rfl (by cases v <;> rfl) (by cases v <;> rfl) "SusuRingModel" (fun _ h => h) q hd rfl rfl (by show (Sum.inr (7, [.int (w.I 500 a), .int (w.I 501 a), va_rf (up2 w.R 514 a v 502 a), va_rf (up2 w.R 514 a v 503 a), va_rf (up2 w.R 514 a v 504 a), va_rf (up2 w.R 514 a v 505 a), va_rf (up2 w.R 514 a v 506 a), va_rf (up2 w.R 514 a v 507 a), va_rf (up2 w.R 514 a v 508 a), va_rf (up2 w.R 514 a v 509 a), va_rf (up2 w.R 514 a v 510 a), va_rf (up2 w.R 514 a v 511 a), va_rf (up2 w.R 514 a v 512 a), .int (w.I 513 a), va_rf (up2 w.R 514 a v 514 a), va_rf (up2 w.R 514 a v 515 a), va_rf (up2 w.R 514 a v 516 a), va_rf (up2 w.R 514 a v 517 a), va_rf (up2 w.R 514 a v 518 a), va_rf (up2 w.R 514 a v 519 a), va_rf (up2 w.R 514 a v 520 a), va_rf (up2 w.R 514 a v 521 a), va_rf (up2 w.R 514 a v 522 a), va_rf (up2 w.R 514 a v 523 a), va_rf (up2 w.R 514 a v 524 a), va_rf (up2 w.R 514 a v 525 a), va_rf (up2 w.R 514 a v 526 a), va_rf (up2 w.R 514 a v 527 a), .int (w.I 528 a), .int (w.I 529 a), va_rf (up2 w.R 514 a v 530 a)]) : va_E) = Sum.inr (7, (fs_5 w a).set 14 (va_rf v)); simp [fs_5, up2]) (fun b hb => wE_R hb) (kk _ rfl)
theorem gg_515 (X : GC l G L0 p s m args meth c cc nL own) {a index : Nat} (hk : w.K a = 5) (q : Cond.fieldLink own index "SusuRingModel" "way" "[I" ∈ wAll) (hd : decode cc pc = .ok (.getfield index, 3)) (kk : ∀ v : Option Nat, v = w.R 515 a → Gw l G L0 p e R s m args below meth c nL cells slots Q w (pc + 3) lv (va_rf v :: st)) : Gw l G L0 p e R s m args below meth c nL cells slots Q w pc lv (.ref a :: st) :=
  g_get X (C := RX4) (T := TX4) (N := 31) (ci := 7) (j := 15) in_X4 rfl (by decide) (by decide) hk (wE_5 G w a) rfl "SusuRingModel" (fun _ h => h) q hd (kk _ rfl)
theorem gp_515 (X : GC l G L0 p s m args meth c cc nL own) {a index : Nat} {v : Option Nat} (hk : w.K a = 5) (hin2 : meth.name = "<init>") (hown : RX4 = own) (q : Cond.fieldLink own index "SusuRingModel" "way" "[I" ∈ wAll) (hd : decode cc pc = .ok (.putfield index, 3)) (kk : ∀ w1 : Wd, w1 = w.setR 515 a v → Gw l G L0 p e R s m args below meth c nL cells slots Q w1 (pc + 3) lv st) : Gw l G L0 p e R s m args below meth c nL cells slots Q w pc lv (va_rf v :: .ref a :: st) :=
  g_putF X (C := RX4) (T := TX4) (N := 31) (ci := 7) (j := 15) (w1 := w.setR 515 a v) tyX4 tyX4_ok nmX4 in_X4 rfl (by decide) (by decide) hk (wE_5 G w a) (show 15 < 31 by decide) hin2 hown rfl rfl (by cases v <;> rfl) (by cases v <;> rfl) "SusuRingModel" (fun _ h => h) q hd rfl rfl (by show (Sum.inr (7, [.int (w.I 500 a), .int (w.I 501 a), va_rf (up2 w.R 515 a v 502 a), va_rf (up2 w.R 515 a v 503 a), va_rf (up2 w.R 515 a v 504 a), va_rf (up2 w.R 515 a v 505 a), va_rf (up2 w.R 515 a v 506 a), va_rf (up2 w.R 515 a v 507 a), va_rf (up2 w.R 515 a v 508 a), va_rf (up2 w.R 515 a v 509 a), va_rf (up2 w.R 515 a v 510 a), va_rf (up2 w.R 515 a v 511 a), va_rf (up2 w.R 515 a v 512 a), .int (w.I 513 a), va_rf (up2 w.R 515 a v 514 a), va_rf (up2 w.R 515 a v 515 a), va_rf (up2 w.R 515 a v 516 a), va_rf (up2 w.R 515 a v 517 a), va_rf (up2 w.R 515 a v 518 a), va_rf (up2 w.R 515 a v 519 a), va_rf (up2 w.R 515 a v 520 a), va_rf (up2 w.R 515 a v 521 a), va_rf (up2 w.R 515 a v 522 a), va_rf (up2 w.R 515 a v 523 a), va_rf (up2 w.R 515 a v 524 a), va_rf (up2 w.R 515 a v 525 a), va_rf (up2 w.R 515 a v 526 a), va_rf (up2 w.R 515 a v 527 a), .int (w.I 528 a), .int (w.I 529 a), va_rf (up2 w.R 515 a v 530 a)]) : va_E) = Sum.inr (7, (fs_5 w a).set 15 (va_rf v)); simp [fs_5, up2]) (fun b hb => wE_R hb) (kk _ rfl)
theorem gg_516 (X : GC l G L0 p s m args meth c cc nL own) {a index : Nat} (hk : w.K a = 5) (q : Cond.fieldLink own index "SusuRingModel" "box" "[I" ∈ wAll) (hd : decode cc pc = .ok (.getfield index, 3)) (kk : ∀ v : Option Nat, v = w.R 516 a → Gw l G L0 p e R s m args below meth c nL cells slots Q w (pc + 3) lv (va_rf v :: st)) : Gw l G L0 p e R s m args below meth c nL cells slots Q w pc lv (.ref a :: st) :=
  g_get X (C := RX4) (T := TX4) (N := 31) (ci := 7) (j := 16) in_X4 rfl (by decide) (by decide) hk (wE_5 G w a) rfl "SusuRingModel" (fun _ h => h) q hd (kk _ rfl)
theorem gp_516 (X : GC l G L0 p s m args meth c cc nL own) {a index : Nat} {v : Option Nat} (hk : w.K a = 5) (hin2 : meth.name = "<init>") (hown : RX4 = own) (q : Cond.fieldLink own index "SusuRingModel" "box" "[I" ∈ wAll) (hd : decode cc pc = .ok (.putfield index, 3)) (kk : ∀ w1 : Wd, w1 = w.setR 516 a v → Gw l G L0 p e R s m args below meth c nL cells slots Q w1 (pc + 3) lv st) : Gw l G L0 p e R s m args below meth c nL cells slots Q w pc lv (va_rf v :: .ref a :: st) :=
  g_putF X (C := RX4) (T := TX4) (N := 31) (ci := 7) (j := 16) (w1 := w.setR 516 a v) tyX4 tyX4_ok nmX4 in_X4 rfl (by decide) (by decide) hk (wE_5 G w a) (show 16 < 31 by decide) hin2 hown rfl rfl (by cases v <;> rfl) (by cases v <;> rfl) "SusuRingModel" (fun _ h => h) q hd rfl rfl (by show (Sum.inr (7, [.int (w.I 500 a), .int (w.I 501 a), va_rf (up2 w.R 516 a v 502 a), va_rf (up2 w.R 516 a v 503 a), va_rf (up2 w.R 516 a v 504 a), va_rf (up2 w.R 516 a v 505 a), va_rf (up2 w.R 516 a v 506 a), va_rf (up2 w.R 516 a v 507 a), va_rf (up2 w.R 516 a v 508 a), va_rf (up2 w.R 516 a v 509 a), va_rf (up2 w.R 516 a v 510 a), va_rf (up2 w.R 516 a v 511 a), va_rf (up2 w.R 516 a v 512 a), .int (w.I 513 a), va_rf (up2 w.R 516 a v 514 a), va_rf (up2 w.R 516 a v 515 a), va_rf (up2 w.R 516 a v 516 a), va_rf (up2 w.R 516 a v 517 a), va_rf (up2 w.R 516 a v 518 a), va_rf (up2 w.R 516 a v 519 a), va_rf (up2 w.R 516 a v 520 a), va_rf (up2 w.R 516 a v 521 a), va_rf (up2 w.R 516 a v 522 a), va_rf (up2 w.R 516 a v 523 a), va_rf (up2 w.R 516 a v 524 a), va_rf (up2 w.R 516 a v 525 a), va_rf (up2 w.R 516 a v 526 a), va_rf (up2 w.R 516 a v 527 a), .int (w.I 528 a), .int (w.I 529 a), va_rf (up2 w.R 516 a v 530 a)]) : va_E) = Sum.inr (7, (fs_5 w a).set 16 (va_rf v)); simp [fs_5, up2]) (fun b hb => wE_R hb) (kk _ rfl)
theorem gg_517 (X : GC l G L0 p s m args meth c cc nL own) {a index : Nat} (hk : w.K a = 5) (q : Cond.fieldLink own index "SusuRingModel" "many" "[I" ∈ wAll) (hd : decode cc pc = .ok (.getfield index, 3)) (kk : ∀ v : Option Nat, v = w.R 517 a → Gw l G L0 p e R s m args below meth c nL cells slots Q w (pc + 3) lv (va_rf v :: st)) : Gw l G L0 p e R s m args below meth c nL cells slots Q w pc lv (.ref a :: st) :=
  g_get X (C := RX4) (T := TX4) (N := 31) (ci := 7) (j := 17) in_X4 rfl (by decide) (by decide) hk (wE_5 G w a) rfl "SusuRingModel" (fun _ h => h) q hd (kk _ rfl)
theorem gp_517 (X : GC l G L0 p s m args meth c cc nL own) {a index : Nat} {v : Option Nat} (hk : w.K a = 5) (hin2 : meth.name = "<init>") (hown : RX4 = own) (q : Cond.fieldLink own index "SusuRingModel" "many" "[I" ∈ wAll) (hd : decode cc pc = .ok (.putfield index, 3)) (kk : ∀ w1 : Wd, w1 = w.setR 517 a v → Gw l G L0 p e R s m args below meth c nL cells slots Q w1 (pc + 3) lv st) : Gw l G L0 p e R s m args below meth c nL cells slots Q w pc lv (va_rf v :: .ref a :: st) :=
  g_putF X (C := RX4) (T := TX4) (N := 31) (ci := 7) (j := 17) (w1 := w.setR 517 a v) tyX4 tyX4_ok nmX4 in_X4 rfl (by decide) (by decide) hk (wE_5 G w a) (show 17 < 31 by decide) hin2 hown rfl rfl (by cases v <;> rfl) (by cases v <;> rfl) "SusuRingModel" (fun _ h => h) q hd rfl rfl (by show (Sum.inr (7, [.int (w.I 500 a), .int (w.I 501 a), va_rf (up2 w.R 517 a v 502 a), va_rf (up2 w.R 517 a v 503 a), va_rf (up2 w.R 517 a v 504 a), va_rf (up2 w.R 517 a v 505 a), va_rf (up2 w.R 517 a v 506 a), va_rf (up2 w.R 517 a v 507 a), va_rf (up2 w.R 517 a v 508 a), va_rf (up2 w.R 517 a v 509 a), va_rf (up2 w.R 517 a v 510 a), va_rf (up2 w.R 517 a v 511 a), va_rf (up2 w.R 517 a v 512 a), .int (w.I 513 a), va_rf (up2 w.R 517 a v 514 a), va_rf (up2 w.R 517 a v 515 a), va_rf (up2 w.R 517 a v 516 a), va_rf (up2 w.R 517 a v 517 a), va_rf (up2 w.R 517 a v 518 a), va_rf (up2 w.R 517 a v 519 a), va_rf (up2 w.R 517 a v 520 a), va_rf (up2 w.R 517 a v 521 a), va_rf (up2 w.R 517 a v 522 a), va_rf (up2 w.R 517 a v 523 a), va_rf (up2 w.R 517 a v 524 a), va_rf (up2 w.R 517 a v 525 a), va_rf (up2 w.R 517 a v 526 a), va_rf (up2 w.R 517 a v 527 a), .int (w.I 528 a), .int (w.I 529 a), va_rf (up2 w.R 517 a v 530 a)]) : va_E) = Sum.inr (7, (fs_5 w a).set 17 (va_rf v)); simp [fs_5, up2]) (fun b hb => wE_R hb) (kk _ rfl)
theorem gg_518 (X : GC l G L0 p s m args meth c cc nL own) {a index : Nat} (hk : w.K a = 5) (q : Cond.fieldLink own index "SusuRingModel" "meetings" "[I" ∈ wAll) (hd : decode cc pc = .ok (.getfield index, 3)) (kk : ∀ v : Option Nat, v = w.R 518 a → Gw l G L0 p e R s m args below meth c nL cells slots Q w (pc + 3) lv (va_rf v :: st)) : Gw l G L0 p e R s m args below meth c nL cells slots Q w pc lv (.ref a :: st) :=
  g_get X (C := RX4) (T := TX4) (N := 31) (ci := 7) (j := 18) in_X4 rfl (by decide) (by decide) hk (wE_5 G w a) rfl "SusuRingModel" (fun _ h => h) q hd (kk _ rfl)
theorem gp_518 (X : GC l G L0 p s m args meth c cc nL own) {a index : Nat} {v : Option Nat} (hk : w.K a = 5) (hin2 : meth.name = "<init>") (hown : RX4 = own) (q : Cond.fieldLink own index "SusuRingModel" "meetings" "[I" ∈ wAll) (hd : decode cc pc = .ok (.putfield index, 3)) (kk : ∀ w1 : Wd, w1 = w.setR 518 a v → Gw l G L0 p e R s m args below meth c nL cells slots Q w1 (pc + 3) lv st) : Gw l G L0 p e R s m args below meth c nL cells slots Q w pc lv (va_rf v :: .ref a :: st) :=
  g_putF X (C := RX4) (T := TX4) (N := 31) (ci := 7) (j := 18) (w1 := w.setR 518 a v) tyX4 tyX4_ok nmX4 in_X4 rfl (by decide) (by decide) hk (wE_5 G w a) (show 18 < 31 by decide) hin2 hown rfl rfl (by cases v <;> rfl) (by cases v <;> rfl) "SusuRingModel" (fun _ h => h) q hd rfl rfl (by show (Sum.inr (7, [.int (w.I 500 a), .int (w.I 501 a), va_rf (up2 w.R 518 a v 502 a), va_rf (up2 w.R 518 a v 503 a), va_rf (up2 w.R 518 a v 504 a), va_rf (up2 w.R 518 a v 505 a), va_rf (up2 w.R 518 a v 506 a), va_rf (up2 w.R 518 a v 507 a), va_rf (up2 w.R 518 a v 508 a), va_rf (up2 w.R 518 a v 509 a), va_rf (up2 w.R 518 a v 510 a), va_rf (up2 w.R 518 a v 511 a), va_rf (up2 w.R 518 a v 512 a), .int (w.I 513 a), va_rf (up2 w.R 518 a v 514 a), va_rf (up2 w.R 518 a v 515 a), va_rf (up2 w.R 518 a v 516 a), va_rf (up2 w.R 518 a v 517 a), va_rf (up2 w.R 518 a v 518 a), va_rf (up2 w.R 518 a v 519 a), va_rf (up2 w.R 518 a v 520 a), va_rf (up2 w.R 518 a v 521 a), va_rf (up2 w.R 518 a v 522 a), va_rf (up2 w.R 518 a v 523 a), va_rf (up2 w.R 518 a v 524 a), va_rf (up2 w.R 518 a v 525 a), va_rf (up2 w.R 518 a v 526 a), va_rf (up2 w.R 518 a v 527 a), .int (w.I 528 a), .int (w.I 529 a), va_rf (up2 w.R 518 a v 530 a)]) : va_E) = Sum.inr (7, (fs_5 w a).set 18 (va_rf v)); simp [fs_5, up2]) (fun b hb => wE_R hb) (kk _ rfl)
theorem gg_519 (X : GC l G L0 p s m args meth c cc nL own) {a index : Nat} (hk : w.K a = 5) (q : Cond.fieldLink own index "SusuRingModel" "rounds" "[I" ∈ wAll) (hd : decode cc pc = .ok (.getfield index, 3)) (kk : ∀ v : Option Nat, v = w.R 519 a → Gw l G L0 p e R s m args below meth c nL cells slots Q w (pc + 3) lv (va_rf v :: st)) : Gw l G L0 p e R s m args below meth c nL cells slots Q w pc lv (.ref a :: st) :=
  g_get X (C := RX4) (T := TX4) (N := 31) (ci := 7) (j := 19) in_X4 rfl (by decide) (by decide) hk (wE_5 G w a) rfl "SusuRingModel" (fun _ h => h) q hd (kk _ rfl)
theorem gp_519 (X : GC l G L0 p s m args meth c cc nL own) {a index : Nat} {v : Option Nat} (hk : w.K a = 5) (hin2 : meth.name = "<init>") (hown : RX4 = own) (q : Cond.fieldLink own index "SusuRingModel" "rounds" "[I" ∈ wAll) (hd : decode cc pc = .ok (.putfield index, 3)) (kk : ∀ w1 : Wd, w1 = w.setR 519 a v → Gw l G L0 p e R s m args below meth c nL cells slots Q w1 (pc + 3) lv st) : Gw l G L0 p e R s m args below meth c nL cells slots Q w pc lv (va_rf v :: .ref a :: st) :=
  g_putF X (C := RX4) (T := TX4) (N := 31) (ci := 7) (j := 19) (w1 := w.setR 519 a v) tyX4 tyX4_ok nmX4 in_X4 rfl (by decide) (by decide) hk (wE_5 G w a) (show 19 < 31 by decide) hin2 hown rfl rfl (by cases v <;> rfl) (by cases v <;> rfl) "SusuRingModel" (fun _ h => h) q hd rfl rfl (by show (Sum.inr (7, [.int (w.I 500 a), .int (w.I 501 a), va_rf (up2 w.R 519 a v 502 a), va_rf (up2 w.R 519 a v 503 a), va_rf (up2 w.R 519 a v 504 a), va_rf (up2 w.R 519 a v 505 a), va_rf (up2 w.R 519 a v 506 a), va_rf (up2 w.R 519 a v 507 a), va_rf (up2 w.R 519 a v 508 a), va_rf (up2 w.R 519 a v 509 a), va_rf (up2 w.R 519 a v 510 a), va_rf (up2 w.R 519 a v 511 a), va_rf (up2 w.R 519 a v 512 a), .int (w.I 513 a), va_rf (up2 w.R 519 a v 514 a), va_rf (up2 w.R 519 a v 515 a), va_rf (up2 w.R 519 a v 516 a), va_rf (up2 w.R 519 a v 517 a), va_rf (up2 w.R 519 a v 518 a), va_rf (up2 w.R 519 a v 519 a), va_rf (up2 w.R 519 a v 520 a), va_rf (up2 w.R 519 a v 521 a), va_rf (up2 w.R 519 a v 522 a), va_rf (up2 w.R 519 a v 523 a), va_rf (up2 w.R 519 a v 524 a), va_rf (up2 w.R 519 a v 525 a), va_rf (up2 w.R 519 a v 526 a), va_rf (up2 w.R 519 a v 527 a), .int (w.I 528 a), .int (w.I 529 a), va_rf (up2 w.R 519 a v 530 a)]) : va_E) = Sum.inr (7, (fs_5 w a).set 19 (va_rf v)); simp [fs_5, up2]) (fun b hb => wE_R hb) (kk _ rfl)
theorem gg_520 (X : GC l G L0 p s m args meth c cc nL own) {a index : Nat} (hk : w.K a = 5) (q : Cond.fieldLink own index "SusuRingModel" "isStarted" "[Z" ∈ wAll) (hd : decode cc pc = .ok (.getfield index, 3)) (kk : ∀ v : Option Nat, v = w.R 520 a → Gw l G L0 p e R s m args below meth c nL cells slots Q w (pc + 3) lv (va_rf v :: st)) : Gw l G L0 p e R s m args below meth c nL cells slots Q w pc lv (.ref a :: st) :=
  g_get X (C := RX4) (T := TX4) (N := 31) (ci := 7) (j := 20) in_X4 rfl (by decide) (by decide) hk (wE_5 G w a) rfl "SusuRingModel" (fun _ h => h) q hd (kk _ rfl)
theorem gp_520 (X : GC l G L0 p s m args meth c cc nL own) {a index : Nat} {v : Option Nat} (hk : w.K a = 5) (hin2 : meth.name = "<init>") (hown : RX4 = own) (q : Cond.fieldLink own index "SusuRingModel" "isStarted" "[Z" ∈ wAll) (hd : decode cc pc = .ok (.putfield index, 3)) (kk : ∀ w1 : Wd, w1 = w.setR 520 a v → Gw l G L0 p e R s m args below meth c nL cells slots Q w1 (pc + 3) lv st) : Gw l G L0 p e R s m args below meth c nL cells slots Q w pc lv (va_rf v :: .ref a :: st) :=
  g_putF X (C := RX4) (T := TX4) (N := 31) (ci := 7) (j := 20) (w1 := w.setR 520 a v) tyX4 tyX4_ok nmX4 in_X4 rfl (by decide) (by decide) hk (wE_5 G w a) (show 20 < 31 by decide) hin2 hown rfl rfl (by cases v <;> rfl) (by cases v <;> rfl) "SusuRingModel" (fun _ h => h) q hd rfl rfl (by show (Sum.inr (7, [.int (w.I 500 a), .int (w.I 501 a), va_rf (up2 w.R 520 a v 502 a), va_rf (up2 w.R 520 a v 503 a), va_rf (up2 w.R 520 a v 504 a), va_rf (up2 w.R 520 a v 505 a), va_rf (up2 w.R 520 a v 506 a), va_rf (up2 w.R 520 a v 507 a), va_rf (up2 w.R 520 a v 508 a), va_rf (up2 w.R 520 a v 509 a), va_rf (up2 w.R 520 a v 510 a), va_rf (up2 w.R 520 a v 511 a), va_rf (up2 w.R 520 a v 512 a), .int (w.I 513 a), va_rf (up2 w.R 520 a v 514 a), va_rf (up2 w.R 520 a v 515 a), va_rf (up2 w.R 520 a v 516 a), va_rf (up2 w.R 520 a v 517 a), va_rf (up2 w.R 520 a v 518 a), va_rf (up2 w.R 520 a v 519 a), va_rf (up2 w.R 520 a v 520 a), va_rf (up2 w.R 520 a v 521 a), va_rf (up2 w.R 520 a v 522 a), va_rf (up2 w.R 520 a v 523 a), va_rf (up2 w.R 520 a v 524 a), va_rf (up2 w.R 520 a v 525 a), va_rf (up2 w.R 520 a v 526 a), va_rf (up2 w.R 520 a v 527 a), .int (w.I 528 a), .int (w.I 529 a), va_rf (up2 w.R 520 a v 530 a)]) : va_E) = Sum.inr (7, (fs_5 w a).set 20 (va_rf v)); simp [fs_5, up2]) (fun b hb => wE_R hb) (kk _ rfl)
theorem gg_521 (X : GC l G L0 p s m args meth c cc nL own) {a index : Nat} (hk : w.K a = 5) (q : Cond.fieldLink own index "SusuRingModel" "who" "[I" ∈ wAll) (hd : decode cc pc = .ok (.getfield index, 3)) (kk : ∀ v : Option Nat, v = w.R 521 a → Gw l G L0 p e R s m args below meth c nL cells slots Q w (pc + 3) lv (va_rf v :: st)) : Gw l G L0 p e R s m args below meth c nL cells slots Q w pc lv (.ref a :: st) :=
  g_get X (C := RX4) (T := TX4) (N := 31) (ci := 7) (j := 21) in_X4 rfl (by decide) (by decide) hk (wE_5 G w a) rfl "SusuRingModel" (fun _ h => h) q hd (kk _ rfl)
theorem gp_521 (X : GC l G L0 p s m args meth c cc nL own) {a index : Nat} {v : Option Nat} (hk : w.K a = 5) (hin2 : meth.name = "<init>") (hown : RX4 = own) (q : Cond.fieldLink own index "SusuRingModel" "who" "[I" ∈ wAll) (hd : decode cc pc = .ok (.putfield index, 3)) (kk : ∀ w1 : Wd, w1 = w.setR 521 a v → Gw l G L0 p e R s m args below meth c nL cells slots Q w1 (pc + 3) lv st) : Gw l G L0 p e R s m args below meth c nL cells slots Q w pc lv (va_rf v :: .ref a :: st) :=
  g_putF X (C := RX4) (T := TX4) (N := 31) (ci := 7) (j := 21) (w1 := w.setR 521 a v) tyX4 tyX4_ok nmX4 in_X4 rfl (by decide) (by decide) hk (wE_5 G w a) (show 21 < 31 by decide) hin2 hown rfl rfl (by cases v <;> rfl) (by cases v <;> rfl) "SusuRingModel" (fun _ h => h) q hd rfl rfl (by show (Sum.inr (7, [.int (w.I 500 a), .int (w.I 501 a), va_rf (up2 w.R 521 a v 502 a), va_rf (up2 w.R 521 a v 503 a), va_rf (up2 w.R 521 a v 504 a), va_rf (up2 w.R 521 a v 505 a), va_rf (up2 w.R 521 a v 506 a), va_rf (up2 w.R 521 a v 507 a), va_rf (up2 w.R 521 a v 508 a), va_rf (up2 w.R 521 a v 509 a), va_rf (up2 w.R 521 a v 510 a), va_rf (up2 w.R 521 a v 511 a), va_rf (up2 w.R 521 a v 512 a), .int (w.I 513 a), va_rf (up2 w.R 521 a v 514 a), va_rf (up2 w.R 521 a v 515 a), va_rf (up2 w.R 521 a v 516 a), va_rf (up2 w.R 521 a v 517 a), va_rf (up2 w.R 521 a v 518 a), va_rf (up2 w.R 521 a v 519 a), va_rf (up2 w.R 521 a v 520 a), va_rf (up2 w.R 521 a v 521 a), va_rf (up2 w.R 521 a v 522 a), va_rf (up2 w.R 521 a v 523 a), va_rf (up2 w.R 521 a v 524 a), va_rf (up2 w.R 521 a v 525 a), va_rf (up2 w.R 521 a v 526 a), va_rf (up2 w.R 521 a v 527 a), .int (w.I 528 a), .int (w.I 529 a), va_rf (up2 w.R 521 a v 530 a)]) : va_E) = Sum.inr (7, (fs_5 w a).set 21 (va_rf v)); simp [fs_5, up2]) (fun b hb => wE_R hb) (kk _ rfl)
theorem gg_522 (X : GC l G L0 p s m args meth c cc nL own) {a index : Nat} (hk : w.K a = 5) (q : Cond.fieldLink own index "SusuRingModel" "arrears" "[I" ∈ wAll) (hd : decode cc pc = .ok (.getfield index, 3)) (kk : ∀ v : Option Nat, v = w.R 522 a → Gw l G L0 p e R s m args below meth c nL cells slots Q w (pc + 3) lv (va_rf v :: st)) : Gw l G L0 p e R s m args below meth c nL cells slots Q w pc lv (.ref a :: st) :=
  g_get X (C := RX4) (T := TX4) (N := 31) (ci := 7) (j := 22) in_X4 rfl (by decide) (by decide) hk (wE_5 G w a) rfl "SusuRingModel" (fun _ h => h) q hd (kk _ rfl)
theorem gp_522 (X : GC l G L0 p s m args meth c cc nL own) {a index : Nat} {v : Option Nat} (hk : w.K a = 5) (hin2 : meth.name = "<init>") (hown : RX4 = own) (q : Cond.fieldLink own index "SusuRingModel" "arrears" "[I" ∈ wAll) (hd : decode cc pc = .ok (.putfield index, 3)) (kk : ∀ w1 : Wd, w1 = w.setR 522 a v → Gw l G L0 p e R s m args below meth c nL cells slots Q w1 (pc + 3) lv st) : Gw l G L0 p e R s m args below meth c nL cells slots Q w pc lv (va_rf v :: .ref a :: st) :=
  g_putF X (C := RX4) (T := TX4) (N := 31) (ci := 7) (j := 22) (w1 := w.setR 522 a v) tyX4 tyX4_ok nmX4 in_X4 rfl (by decide) (by decide) hk (wE_5 G w a) (show 22 < 31 by decide) hin2 hown rfl rfl (by cases v <;> rfl) (by cases v <;> rfl) "SusuRingModel" (fun _ h => h) q hd rfl rfl (by show (Sum.inr (7, [.int (w.I 500 a), .int (w.I 501 a), va_rf (up2 w.R 522 a v 502 a), va_rf (up2 w.R 522 a v 503 a), va_rf (up2 w.R 522 a v 504 a), va_rf (up2 w.R 522 a v 505 a), va_rf (up2 w.R 522 a v 506 a), va_rf (up2 w.R 522 a v 507 a), va_rf (up2 w.R 522 a v 508 a), va_rf (up2 w.R 522 a v 509 a), va_rf (up2 w.R 522 a v 510 a), va_rf (up2 w.R 522 a v 511 a), va_rf (up2 w.R 522 a v 512 a), .int (w.I 513 a), va_rf (up2 w.R 522 a v 514 a), va_rf (up2 w.R 522 a v 515 a), va_rf (up2 w.R 522 a v 516 a), va_rf (up2 w.R 522 a v 517 a), va_rf (up2 w.R 522 a v 518 a), va_rf (up2 w.R 522 a v 519 a), va_rf (up2 w.R 522 a v 520 a), va_rf (up2 w.R 522 a v 521 a), va_rf (up2 w.R 522 a v 522 a), va_rf (up2 w.R 522 a v 523 a), va_rf (up2 w.R 522 a v 524 a), va_rf (up2 w.R 522 a v 525 a), va_rf (up2 w.R 522 a v 526 a), va_rf (up2 w.R 522 a v 527 a), .int (w.I 528 a), .int (w.I 529 a), va_rf (up2 w.R 522 a v 530 a)]) : va_E) = Sum.inr (7, (fs_5 w a).set 22 (va_rf v)); simp [fs_5, up2]) (fun b hb => wE_R hb) (kk _ rfl)
theorem gg_523 (X : GC l G L0 p s m args meth c cc nL own) {a index : Nat} (hk : w.K a = 5) (q : Cond.fieldLink own index "SusuRingModel" "need" "[I" ∈ wAll) (hd : decode cc pc = .ok (.getfield index, 3)) (kk : ∀ v : Option Nat, v = w.R 523 a → Gw l G L0 p e R s m args below meth c nL cells slots Q w (pc + 3) lv (va_rf v :: st)) : Gw l G L0 p e R s m args below meth c nL cells slots Q w pc lv (.ref a :: st) :=
  g_get X (C := RX4) (T := TX4) (N := 31) (ci := 7) (j := 23) in_X4 rfl (by decide) (by decide) hk (wE_5 G w a) rfl "SusuRingModel" (fun _ h => h) q hd (kk _ rfl)
theorem gp_523 (X : GC l G L0 p s m args meth c cc nL own) {a index : Nat} {v : Option Nat} (hk : w.K a = 5) (hin2 : meth.name = "<init>") (hown : RX4 = own) (q : Cond.fieldLink own index "SusuRingModel" "need" "[I" ∈ wAll) (hd : decode cc pc = .ok (.putfield index, 3)) (kk : ∀ w1 : Wd, w1 = w.setR 523 a v → Gw l G L0 p e R s m args below meth c nL cells slots Q w1 (pc + 3) lv st) : Gw l G L0 p e R s m args below meth c nL cells slots Q w pc lv (va_rf v :: .ref a :: st) :=
  g_putF X (C := RX4) (T := TX4) (N := 31) (ci := 7) (j := 23) (w1 := w.setR 523 a v) tyX4 tyX4_ok nmX4 in_X4 rfl (by decide) (by decide) hk (wE_5 G w a) (show 23 < 31 by decide) hin2 hown rfl rfl (by cases v <;> rfl) (by cases v <;> rfl) "SusuRingModel" (fun _ h => h) q hd rfl rfl (by show (Sum.inr (7, [.int (w.I 500 a), .int (w.I 501 a), va_rf (up2 w.R 523 a v 502 a), va_rf (up2 w.R 523 a v 503 a), va_rf (up2 w.R 523 a v 504 a), va_rf (up2 w.R 523 a v 505 a), va_rf (up2 w.R 523 a v 506 a), va_rf (up2 w.R 523 a v 507 a), va_rf (up2 w.R 523 a v 508 a), va_rf (up2 w.R 523 a v 509 a), va_rf (up2 w.R 523 a v 510 a), va_rf (up2 w.R 523 a v 511 a), va_rf (up2 w.R 523 a v 512 a), .int (w.I 513 a), va_rf (up2 w.R 523 a v 514 a), va_rf (up2 w.R 523 a v 515 a), va_rf (up2 w.R 523 a v 516 a), va_rf (up2 w.R 523 a v 517 a), va_rf (up2 w.R 523 a v 518 a), va_rf (up2 w.R 523 a v 519 a), va_rf (up2 w.R 523 a v 520 a), va_rf (up2 w.R 523 a v 521 a), va_rf (up2 w.R 523 a v 522 a), va_rf (up2 w.R 523 a v 523 a), va_rf (up2 w.R 523 a v 524 a), va_rf (up2 w.R 523 a v 525 a), va_rf (up2 w.R 523 a v 526 a), va_rf (up2 w.R 523 a v 527 a), .int (w.I 528 a), .int (w.I 529 a), va_rf (up2 w.R 523 a v 530 a)]) : va_E) = Sum.inr (7, (fs_5 w a).set 23 (va_rf v)); simp [fs_5, up2]) (fun b hb => wE_R hb) (kk _ rfl)
theorem gg_524 (X : GC l G L0 p s m args meth c cc nL own) {a index : Nat} (hk : w.K a = 5) (q : Cond.fieldLink own index "SusuRingModel" "bid" "[I" ∈ wAll) (hd : decode cc pc = .ok (.getfield index, 3)) (kk : ∀ v : Option Nat, v = w.R 524 a → Gw l G L0 p e R s m args below meth c nL cells slots Q w (pc + 3) lv (va_rf v :: st)) : Gw l G L0 p e R s m args below meth c nL cells slots Q w pc lv (.ref a :: st) :=
  g_get X (C := RX4) (T := TX4) (N := 31) (ci := 7) (j := 24) in_X4 rfl (by decide) (by decide) hk (wE_5 G w a) rfl "SusuRingModel" (fun _ h => h) q hd (kk _ rfl)
theorem gp_524 (X : GC l G L0 p s m args meth c cc nL own) {a index : Nat} {v : Option Nat} (hk : w.K a = 5) (hin2 : meth.name = "<init>") (hown : RX4 = own) (q : Cond.fieldLink own index "SusuRingModel" "bid" "[I" ∈ wAll) (hd : decode cc pc = .ok (.putfield index, 3)) (kk : ∀ w1 : Wd, w1 = w.setR 524 a v → Gw l G L0 p e R s m args below meth c nL cells slots Q w1 (pc + 3) lv st) : Gw l G L0 p e R s m args below meth c nL cells slots Q w pc lv (va_rf v :: .ref a :: st) :=
  g_putF X (C := RX4) (T := TX4) (N := 31) (ci := 7) (j := 24) (w1 := w.setR 524 a v) tyX4 tyX4_ok nmX4 in_X4 rfl (by decide) (by decide) hk (wE_5 G w a) (show 24 < 31 by decide) hin2 hown rfl rfl (by cases v <;> rfl) (by cases v <;> rfl) "SusuRingModel" (fun _ h => h) q hd rfl rfl (by show (Sum.inr (7, [.int (w.I 500 a), .int (w.I 501 a), va_rf (up2 w.R 524 a v 502 a), va_rf (up2 w.R 524 a v 503 a), va_rf (up2 w.R 524 a v 504 a), va_rf (up2 w.R 524 a v 505 a), va_rf (up2 w.R 524 a v 506 a), va_rf (up2 w.R 524 a v 507 a), va_rf (up2 w.R 524 a v 508 a), va_rf (up2 w.R 524 a v 509 a), va_rf (up2 w.R 524 a v 510 a), va_rf (up2 w.R 524 a v 511 a), va_rf (up2 w.R 524 a v 512 a), .int (w.I 513 a), va_rf (up2 w.R 524 a v 514 a), va_rf (up2 w.R 524 a v 515 a), va_rf (up2 w.R 524 a v 516 a), va_rf (up2 w.R 524 a v 517 a), va_rf (up2 w.R 524 a v 518 a), va_rf (up2 w.R 524 a v 519 a), va_rf (up2 w.R 524 a v 520 a), va_rf (up2 w.R 524 a v 521 a), va_rf (up2 w.R 524 a v 522 a), va_rf (up2 w.R 524 a v 523 a), va_rf (up2 w.R 524 a v 524 a), va_rf (up2 w.R 524 a v 525 a), va_rf (up2 w.R 524 a v 526 a), va_rf (up2 w.R 524 a v 527 a), .int (w.I 528 a), .int (w.I 529 a), va_rf (up2 w.R 524 a v 530 a)]) : va_E) = Sum.inr (7, (fs_5 w a).set 24 (va_rf v)); simp [fs_5, up2]) (fun b hb => wE_R hb) (kk _ rfl)
theorem gg_525 (X : GC l G L0 p s m args meth c cc nL own) {a index : Nat} (hk : w.K a = 5) (q : Cond.fieldLink own index "SusuRingModel" "paid" "[I" ∈ wAll) (hd : decode cc pc = .ok (.getfield index, 3)) (kk : ∀ v : Option Nat, v = w.R 525 a → Gw l G L0 p e R s m args below meth c nL cells slots Q w (pc + 3) lv (va_rf v :: st)) : Gw l G L0 p e R s m args below meth c nL cells slots Q w pc lv (.ref a :: st) :=
  g_get X (C := RX4) (T := TX4) (N := 31) (ci := 7) (j := 25) in_X4 rfl (by decide) (by decide) hk (wE_5 G w a) rfl "SusuRingModel" (fun _ h => h) q hd (kk _ rfl)
theorem gp_525 (X : GC l G L0 p s m args meth c cc nL own) {a index : Nat} {v : Option Nat} (hk : w.K a = 5) (hin2 : meth.name = "<init>") (hown : RX4 = own) (q : Cond.fieldLink own index "SusuRingModel" "paid" "[I" ∈ wAll) (hd : decode cc pc = .ok (.putfield index, 3)) (kk : ∀ w1 : Wd, w1 = w.setR 525 a v → Gw l G L0 p e R s m args below meth c nL cells slots Q w1 (pc + 3) lv st) : Gw l G L0 p e R s m args below meth c nL cells slots Q w pc lv (va_rf v :: .ref a :: st) :=
  g_putF X (C := RX4) (T := TX4) (N := 31) (ci := 7) (j := 25) (w1 := w.setR 525 a v) tyX4 tyX4_ok nmX4 in_X4 rfl (by decide) (by decide) hk (wE_5 G w a) (show 25 < 31 by decide) hin2 hown rfl rfl (by cases v <;> rfl) (by cases v <;> rfl) "SusuRingModel" (fun _ h => h) q hd rfl rfl (by show (Sum.inr (7, [.int (w.I 500 a), .int (w.I 501 a), va_rf (up2 w.R 525 a v 502 a), va_rf (up2 w.R 525 a v 503 a), va_rf (up2 w.R 525 a v 504 a), va_rf (up2 w.R 525 a v 505 a), va_rf (up2 w.R 525 a v 506 a), va_rf (up2 w.R 525 a v 507 a), va_rf (up2 w.R 525 a v 508 a), va_rf (up2 w.R 525 a v 509 a), va_rf (up2 w.R 525 a v 510 a), va_rf (up2 w.R 525 a v 511 a), va_rf (up2 w.R 525 a v 512 a), .int (w.I 513 a), va_rf (up2 w.R 525 a v 514 a), va_rf (up2 w.R 525 a v 515 a), va_rf (up2 w.R 525 a v 516 a), va_rf (up2 w.R 525 a v 517 a), va_rf (up2 w.R 525 a v 518 a), va_rf (up2 w.R 525 a v 519 a), va_rf (up2 w.R 525 a v 520 a), va_rf (up2 w.R 525 a v 521 a), va_rf (up2 w.R 525 a v 522 a), va_rf (up2 w.R 525 a v 523 a), va_rf (up2 w.R 525 a v 524 a), va_rf (up2 w.R 525 a v 525 a), va_rf (up2 w.R 525 a v 526 a), va_rf (up2 w.R 525 a v 527 a), .int (w.I 528 a), .int (w.I 529 a), va_rf (up2 w.R 525 a v 530 a)]) : va_E) = Sum.inr (7, (fs_5 w a).set 25 (va_rf v)); simp [fs_5, up2]) (fun b hb => wE_R hb) (kk _ rfl)
theorem gg_526 (X : GC l G L0 p s m args meth c cc nL own) {a index : Nat} (hk : w.K a = 5) (q : Cond.fieldLink own index "SusuRingModel" "turn" "[I" ∈ wAll) (hd : decode cc pc = .ok (.getfield index, 3)) (kk : ∀ v : Option Nat, v = w.R 526 a → Gw l G L0 p e R s m args below meth c nL cells slots Q w (pc + 3) lv (va_rf v :: st)) : Gw l G L0 p e R s m args below meth c nL cells slots Q w pc lv (.ref a :: st) :=
  g_get X (C := RX4) (T := TX4) (N := 31) (ci := 7) (j := 26) in_X4 rfl (by decide) (by decide) hk (wE_5 G w a) rfl "SusuRingModel" (fun _ h => h) q hd (kk _ rfl)
theorem gp_526 (X : GC l G L0 p s m args meth c cc nL own) {a index : Nat} {v : Option Nat} (hk : w.K a = 5) (hin2 : meth.name = "<init>") (hown : RX4 = own) (q : Cond.fieldLink own index "SusuRingModel" "turn" "[I" ∈ wAll) (hd : decode cc pc = .ok (.putfield index, 3)) (kk : ∀ w1 : Wd, w1 = w.setR 526 a v → Gw l G L0 p e R s m args below meth c nL cells slots Q w1 (pc + 3) lv st) : Gw l G L0 p e R s m args below meth c nL cells slots Q w pc lv (va_rf v :: .ref a :: st) :=
  g_putF X (C := RX4) (T := TX4) (N := 31) (ci := 7) (j := 26) (w1 := w.setR 526 a v) tyX4 tyX4_ok nmX4 in_X4 rfl (by decide) (by decide) hk (wE_5 G w a) (show 26 < 31 by decide) hin2 hown rfl rfl (by cases v <;> rfl) (by cases v <;> rfl) "SusuRingModel" (fun _ h => h) q hd rfl rfl (by show (Sum.inr (7, [.int (w.I 500 a), .int (w.I 501 a), va_rf (up2 w.R 526 a v 502 a), va_rf (up2 w.R 526 a v 503 a), va_rf (up2 w.R 526 a v 504 a), va_rf (up2 w.R 526 a v 505 a), va_rf (up2 w.R 526 a v 506 a), va_rf (up2 w.R 526 a v 507 a), va_rf (up2 w.R 526 a v 508 a), va_rf (up2 w.R 526 a v 509 a), va_rf (up2 w.R 526 a v 510 a), va_rf (up2 w.R 526 a v 511 a), va_rf (up2 w.R 526 a v 512 a), .int (w.I 513 a), va_rf (up2 w.R 526 a v 514 a), va_rf (up2 w.R 526 a v 515 a), va_rf (up2 w.R 526 a v 516 a), va_rf (up2 w.R 526 a v 517 a), va_rf (up2 w.R 526 a v 518 a), va_rf (up2 w.R 526 a v 519 a), va_rf (up2 w.R 526 a v 520 a), va_rf (up2 w.R 526 a v 521 a), va_rf (up2 w.R 526 a v 522 a), va_rf (up2 w.R 526 a v 523 a), va_rf (up2 w.R 526 a v 524 a), va_rf (up2 w.R 526 a v 525 a), va_rf (up2 w.R 526 a v 526 a), va_rf (up2 w.R 526 a v 527 a), .int (w.I 528 a), .int (w.I 529 a), va_rf (up2 w.R 526 a v 530 a)]) : va_E) = Sum.inr (7, (fs_5 w a).set 26 (va_rf v)); simp [fs_5, up2]) (fun b hb => wE_R hb) (kk _ rfl)
theorem gg_527 (X : GC l G L0 p s m args meth c cc nL own) {a index : Nat} (hk : w.K a = 5) (q : Cond.fieldLink own index "SusuRingModel" "had" "[Z" ∈ wAll) (hd : decode cc pc = .ok (.getfield index, 3)) (kk : ∀ v : Option Nat, v = w.R 527 a → Gw l G L0 p e R s m args below meth c nL cells slots Q w (pc + 3) lv (va_rf v :: st)) : Gw l G L0 p e R s m args below meth c nL cells slots Q w pc lv (.ref a :: st) :=
  g_get X (C := RX4) (T := TX4) (N := 31) (ci := 7) (j := 27) in_X4 rfl (by decide) (by decide) hk (wE_5 G w a) rfl "SusuRingModel" (fun _ h => h) q hd (kk _ rfl)
theorem gp_527 (X : GC l G L0 p s m args meth c cc nL own) {a index : Nat} {v : Option Nat} (hk : w.K a = 5) (hin2 : meth.name = "<init>") (hown : RX4 = own) (q : Cond.fieldLink own index "SusuRingModel" "had" "[Z" ∈ wAll) (hd : decode cc pc = .ok (.putfield index, 3)) (kk : ∀ w1 : Wd, w1 = w.setR 527 a v → Gw l G L0 p e R s m args below meth c nL cells slots Q w1 (pc + 3) lv st) : Gw l G L0 p e R s m args below meth c nL cells slots Q w pc lv (va_rf v :: .ref a :: st) :=
  g_putF X (C := RX4) (T := TX4) (N := 31) (ci := 7) (j := 27) (w1 := w.setR 527 a v) tyX4 tyX4_ok nmX4 in_X4 rfl (by decide) (by decide) hk (wE_5 G w a) (show 27 < 31 by decide) hin2 hown rfl rfl (by cases v <;> rfl) (by cases v <;> rfl) "SusuRingModel" (fun _ h => h) q hd rfl rfl (by show (Sum.inr (7, [.int (w.I 500 a), .int (w.I 501 a), va_rf (up2 w.R 527 a v 502 a), va_rf (up2 w.R 527 a v 503 a), va_rf (up2 w.R 527 a v 504 a), va_rf (up2 w.R 527 a v 505 a), va_rf (up2 w.R 527 a v 506 a), va_rf (up2 w.R 527 a v 507 a), va_rf (up2 w.R 527 a v 508 a), va_rf (up2 w.R 527 a v 509 a), va_rf (up2 w.R 527 a v 510 a), va_rf (up2 w.R 527 a v 511 a), va_rf (up2 w.R 527 a v 512 a), .int (w.I 513 a), va_rf (up2 w.R 527 a v 514 a), va_rf (up2 w.R 527 a v 515 a), va_rf (up2 w.R 527 a v 516 a), va_rf (up2 w.R 527 a v 517 a), va_rf (up2 w.R 527 a v 518 a), va_rf (up2 w.R 527 a v 519 a), va_rf (up2 w.R 527 a v 520 a), va_rf (up2 w.R 527 a v 521 a), va_rf (up2 w.R 527 a v 522 a), va_rf (up2 w.R 527 a v 523 a), va_rf (up2 w.R 527 a v 524 a), va_rf (up2 w.R 527 a v 525 a), va_rf (up2 w.R 527 a v 526 a), va_rf (up2 w.R 527 a v 527 a), .int (w.I 528 a), .int (w.I 529 a), va_rf (up2 w.R 527 a v 530 a)]) : va_E) = Sum.inr (7, (fs_5 w a).set 27 (va_rf v)); simp [fs_5, up2]) (fun b hb => wE_R hb) (kk _ rfl)
theorem gg_528 (X : GC l G L0 p s m args meth c cc nL own) {a index : Nat} (hk : w.K a = 5) (q : Cond.fieldLink own index "SusuRingModel" "fund" "I" ∈ wAll) (hd : decode cc pc = .ok (.getfield index, 3)) (kk : ∀ v : Int32, v = w.I 528 a → Gw l G L0 p e R s m args below meth c nL cells slots Q w (pc + 3) lv (.int v :: st)) : Gw l G L0 p e R s m args below meth c nL cells slots Q w pc lv (.ref a :: st) :=
  g_get X (C := RX4) (T := TX4) (N := 31) (ci := 7) (j := 28) in_X4 rfl (by decide) (by decide) hk (wE_5 G w a) rfl "SusuRingModel" (fun _ h => h) q hd (kk _ rfl)
theorem gp_528 (X : GC l G L0 p s m args meth c cc nL own) {a index : Nat} {v : Int32} (hk : w.K a = 5) (q : Cond.fieldLink own index "SusuRingModel" "fund" "I" ∈ wAll) (hd : decode cc pc = .ok (.putfield index, 3)) (kk : ∀ w1 : Wd, w1 = w.setI 528 a v → Gw l G L0 p e R s m args below meth c nL cells slots Q w1 (pc + 3) lv st) : Gw l G L0 p e R s m args below meth c nL cells slots Q w pc lv (.int v :: .ref a :: st) :=
  g_put X (C := RX4) (T := TX4) (N := 31) (ci := 7) (j := 28) (w1 := w.setI 528 a v) tyX4 tyX4_ok nmX4 in_X4 rfl (by decide) (by decide) hk (wE_5 G w a) (show 28 < 31 by decide) rfl rfl rfl rfl "SusuRingModel" (fun _ h => h) q hd rfl rfl (by show (Sum.inr (7, [.int (up2 w.I 528 a v 500 a), .int (up2 w.I 528 a v 501 a), va_rf (w.R 502 a), va_rf (w.R 503 a), va_rf (w.R 504 a), va_rf (w.R 505 a), va_rf (w.R 506 a), va_rf (w.R 507 a), va_rf (w.R 508 a), va_rf (w.R 509 a), va_rf (w.R 510 a), va_rf (w.R 511 a), va_rf (w.R 512 a), .int (up2 w.I 528 a v 513 a), va_rf (w.R 514 a), va_rf (w.R 515 a), va_rf (w.R 516 a), va_rf (w.R 517 a), va_rf (w.R 518 a), va_rf (w.R 519 a), va_rf (w.R 520 a), va_rf (w.R 521 a), va_rf (w.R 522 a), va_rf (w.R 523 a), va_rf (w.R 524 a), va_rf (w.R 525 a), va_rf (w.R 526 a), va_rf (w.R 527 a), .int (up2 w.I 528 a v 528 a), .int (up2 w.I 528 a v 529 a), va_rf (w.R 530 a)]) : va_E) = Sum.inr (7, (fs_5 w a).set 28 (.int v)); simp [fs_5, up2]) (fun b hb => wE_I hb) (kk _ rfl)
theorem gg_529 (X : GC l G L0 p s m args meth c cc nL own) {a index : Nat} (hk : w.K a = 5) (q : Cond.fieldLink own index "SusuRingModel" "earned" "I" ∈ wAll) (hd : decode cc pc = .ok (.getfield index, 3)) (kk : ∀ v : Int32, v = w.I 529 a → Gw l G L0 p e R s m args below meth c nL cells slots Q w (pc + 3) lv (.int v :: st)) : Gw l G L0 p e R s m args below meth c nL cells slots Q w pc lv (.ref a :: st) :=
  g_get X (C := RX4) (T := TX4) (N := 31) (ci := 7) (j := 29) in_X4 rfl (by decide) (by decide) hk (wE_5 G w a) rfl "SusuRingModel" (fun _ h => h) q hd (kk _ rfl)
theorem gp_529 (X : GC l G L0 p s m args meth c cc nL own) {a index : Nat} {v : Int32} (hk : w.K a = 5) (q : Cond.fieldLink own index "SusuRingModel" "earned" "I" ∈ wAll) (hd : decode cc pc = .ok (.putfield index, 3)) (kk : ∀ w1 : Wd, w1 = w.setI 529 a v → Gw l G L0 p e R s m args below meth c nL cells slots Q w1 (pc + 3) lv st) : Gw l G L0 p e R s m args below meth c nL cells slots Q w pc lv (.int v :: .ref a :: st) :=
  g_put X (C := RX4) (T := TX4) (N := 31) (ci := 7) (j := 29) (w1 := w.setI 529 a v) tyX4 tyX4_ok nmX4 in_X4 rfl (by decide) (by decide) hk (wE_5 G w a) (show 29 < 31 by decide) rfl rfl rfl rfl "SusuRingModel" (fun _ h => h) q hd rfl rfl (by show (Sum.inr (7, [.int (up2 w.I 529 a v 500 a), .int (up2 w.I 529 a v 501 a), va_rf (w.R 502 a), va_rf (w.R 503 a), va_rf (w.R 504 a), va_rf (w.R 505 a), va_rf (w.R 506 a), va_rf (w.R 507 a), va_rf (w.R 508 a), va_rf (w.R 509 a), va_rf (w.R 510 a), va_rf (w.R 511 a), va_rf (w.R 512 a), .int (up2 w.I 529 a v 513 a), va_rf (w.R 514 a), va_rf (w.R 515 a), va_rf (w.R 516 a), va_rf (w.R 517 a), va_rf (w.R 518 a), va_rf (w.R 519 a), va_rf (w.R 520 a), va_rf (w.R 521 a), va_rf (w.R 522 a), va_rf (w.R 523 a), va_rf (w.R 524 a), va_rf (w.R 525 a), va_rf (w.R 526 a), va_rf (w.R 527 a), .int (up2 w.I 529 a v 528 a), .int (up2 w.I 529 a v 529 a), va_rf (w.R 530 a)]) : va_E) = Sum.inr (7, (fs_5 w a).set 29 (.int v)); simp [fs_5, up2]) (fun b hb => wE_I hb) (kk _ rfl)
theorem gg_530 (X : GC l G L0 p s m args meth c cc nL own) {a index : Nat} (hk : w.K a = 5) (q : Cond.fieldLink own index "SusuRingModel" "noted" "[I" ∈ wAll) (hd : decode cc pc = .ok (.getfield index, 3)) (kk : ∀ v : Option Nat, v = w.R 530 a → Gw l G L0 p e R s m args below meth c nL cells slots Q w (pc + 3) lv (va_rf v :: st)) : Gw l G L0 p e R s m args below meth c nL cells slots Q w pc lv (.ref a :: st) :=
  g_get X (C := RX4) (T := TX4) (N := 31) (ci := 7) (j := 30) in_X4 rfl (by decide) (by decide) hk (wE_5 G w a) rfl "SusuRingModel" (fun _ h => h) q hd (kk _ rfl)
theorem gp_530 (X : GC l G L0 p s m args meth c cc nL own) {a index : Nat} {v : Option Nat} (hk : w.K a = 5) (hin2 : meth.name = "<init>") (hown : RX4 = own) (q : Cond.fieldLink own index "SusuRingModel" "noted" "[I" ∈ wAll) (hd : decode cc pc = .ok (.putfield index, 3)) (kk : ∀ w1 : Wd, w1 = w.setR 530 a v → Gw l G L0 p e R s m args below meth c nL cells slots Q w1 (pc + 3) lv st) : Gw l G L0 p e R s m args below meth c nL cells slots Q w pc lv (va_rf v :: .ref a :: st) :=
  g_putF X (C := RX4) (T := TX4) (N := 31) (ci := 7) (j := 30) (w1 := w.setR 530 a v) tyX4 tyX4_ok nmX4 in_X4 rfl (by decide) (by decide) hk (wE_5 G w a) (show 30 < 31 by decide) hin2 hown rfl rfl (by cases v <;> rfl) (by cases v <;> rfl) "SusuRingModel" (fun _ h => h) q hd rfl rfl (by show (Sum.inr (7, [.int (w.I 500 a), .int (w.I 501 a), va_rf (up2 w.R 530 a v 502 a), va_rf (up2 w.R 530 a v 503 a), va_rf (up2 w.R 530 a v 504 a), va_rf (up2 w.R 530 a v 505 a), va_rf (up2 w.R 530 a v 506 a), va_rf (up2 w.R 530 a v 507 a), va_rf (up2 w.R 530 a v 508 a), va_rf (up2 w.R 530 a v 509 a), va_rf (up2 w.R 530 a v 510 a), va_rf (up2 w.R 530 a v 511 a), va_rf (up2 w.R 530 a v 512 a), .int (w.I 513 a), va_rf (up2 w.R 530 a v 514 a), va_rf (up2 w.R 530 a v 515 a), va_rf (up2 w.R 530 a v 516 a), va_rf (up2 w.R 530 a v 517 a), va_rf (up2 w.R 530 a v 518 a), va_rf (up2 w.R 530 a v 519 a), va_rf (up2 w.R 530 a v 520 a), va_rf (up2 w.R 530 a v 521 a), va_rf (up2 w.R 530 a v 522 a), va_rf (up2 w.R 530 a v 523 a), va_rf (up2 w.R 530 a v 524 a), va_rf (up2 w.R 530 a v 525 a), va_rf (up2 w.R 530 a v 526 a), va_rf (up2 w.R 530 a v 527 a), .int (w.I 528 a), .int (w.I 529 a), va_rf (up2 w.R 530 a v 530 a)]) : va_E) = Sum.inr (7, (fs_5 w a).set 30 (va_rf v)); simp [fs_5, up2]) (fun b hb => wE_R hb) (kk _ rfl)
theorem in_Jx4a65c : ∀ x ∈ u_ws RJx4a65c TJx4a65c 3, x ∈ wAll := by decide +kernel
def fs_6 (w : Wd) (a : Nat) : List Value := [.int (w.I 600 a), va_rf (w.R 601 a), .int (w.I 602 a)]
theorem wE_6 (G : GT) (w : Wd) (a : Nat) : wE G w 6 a = .inr (2, fs_6 w a) := rfl
theorem gg_600 (X : GC l G L0 p s m args meth c cc nL own) {a index : Nat} (hk : w.K a = 6) (ref : String) (hsame : ∀ x, s.fieldFound? "java/util/AbstractList" "modCount" "I" = some x → s.fieldFound? ref "modCount" "I" = some x) (q : Cond.fieldLink own index ref "modCount" "I" ∈ wAll) (hd : decode cc pc = .ok (.getfield index, 3)) (kk : ∀ v : Int32, v = w.I 600 a → Gw l G L0 p e R s m args below meth c nL cells slots Q w (pc + 3) lv (.int v :: st)) : Gw l G L0 p e R s m args below meth c nL cells slots Q w pc lv (.ref a :: st) :=
  g_get X (C := RJx4a65c) (T := TJx4a65c) (N := 3) (ci := 2) (j := 0) in_Jx4a65c rfl (by decide) (by decide) hk (wE_6 G w a) rfl ref hsame q hd (kk _ rfl)
theorem gp_600 (X : GC l G L0 p s m args meth c cc nL own) {a index : Nat} {v : Int32} (hk : w.K a = 6) (ref : String) (hsame : ∀ x, s.fieldFound? "java/util/AbstractList" "modCount" "I" = some x → s.fieldFound? ref "modCount" "I" = some x) (q : Cond.fieldLink own index ref "modCount" "I" ∈ wAll) (hd : decode cc pc = .ok (.putfield index, 3)) (kk : ∀ w1 : Wd, w1 = w.setI 600 a v → Gw l G L0 p e R s m args below meth c nL cells slots Q w1 (pc + 3) lv st) : Gw l G L0 p e R s m args below meth c nL cells slots Q w pc lv (.int v :: .ref a :: st) :=
  g_put X (C := RJx4a65c) (T := TJx4a65c) (N := 3) (ci := 2) (j := 0) (w1 := w.setI 600 a v) tyJx4a65c tyJx4a65c_ok nmJx4a65c in_Jx4a65c rfl (by decide) (by decide) hk (wE_6 G w a) (show 0 < 3 by decide) rfl rfl rfl rfl ref hsame q hd rfl rfl (by show (Sum.inr (2, [.int (up2 w.I 600 a v 600 a), va_rf (w.R 601 a), .int (up2 w.I 600 a v 602 a)]) : va_E) = Sum.inr (2, (fs_6 w a).set 0 (.int v)); simp [fs_6, up2]) (fun b hb => wE_I hb) (kk _ rfl)
theorem gg_601 (X : GC l G L0 p s m args meth c cc nL own) {a index : Nat} (hk : w.K a = 6) (q : Cond.fieldLink own index "java/util/ArrayList" "elementData" "[Ljava/lang/Object;" ∈ wAll) (hd : decode cc pc = .ok (.getfield index, 3)) (kk : ∀ v : Option Nat, v = w.R 601 a → Gw l G L0 p e R s m args below meth c nL cells slots Q w (pc + 3) lv (va_rf v :: st)) : Gw l G L0 p e R s m args below meth c nL cells slots Q w pc lv (.ref a :: st) :=
  g_get X (C := RJx4a65c) (T := TJx4a65c) (N := 3) (ci := 2) (j := 1) in_Jx4a65c rfl (by decide) (by decide) hk (wE_6 G w a) rfl "java/util/ArrayList" (fun _ h => h) q hd (kk _ rfl)
theorem gp_601 (X : GC l G L0 p s m args meth c cc nL own) {a index : Nat} {v : Option Nat} (hk : w.K a = 6) (q : Cond.fieldLink own index "java/util/ArrayList" "elementData" "[Ljava/lang/Object;" ∈ wAll) (hd : decode cc pc = .ok (.putfield index, 3)) (kk : ∀ w1 : Wd, w1 = w.setR 601 a v → Gw l G L0 p e R s m args below meth c nL cells slots Q w1 (pc + 3) lv st) : Gw l G L0 p e R s m args below meth c nL cells slots Q w pc lv (va_rf v :: .ref a :: st) :=
  g_put X (C := RJx4a65c) (T := TJx4a65c) (N := 3) (ci := 2) (j := 1) (w1 := w.setR 601 a v) tyJx4a65c tyJx4a65c_ok nmJx4a65c in_Jx4a65c rfl (by decide) (by decide) hk (wE_6 G w a) (show 1 < 3 by decide) rfl rfl (by cases v <;> rfl) (by cases v <;> rfl) "java/util/ArrayList" (fun _ h => h) q hd rfl rfl (by show (Sum.inr (2, [.int (w.I 600 a), va_rf (up2 w.R 601 a v 601 a), .int (w.I 602 a)]) : va_E) = Sum.inr (2, (fs_6 w a).set 1 (va_rf v)); simp [fs_6, up2]) (fun b hb => wE_R hb) (kk _ rfl)
theorem gg_602 (X : GC l G L0 p s m args meth c cc nL own) {a index : Nat} (hk : w.K a = 6) (q : Cond.fieldLink own index "java/util/ArrayList" "size" "I" ∈ wAll) (hd : decode cc pc = .ok (.getfield index, 3)) (kk : ∀ v : Int32, v = w.I 602 a → Gw l G L0 p e R s m args below meth c nL cells slots Q w (pc + 3) lv (.int v :: st)) : Gw l G L0 p e R s m args below meth c nL cells slots Q w pc lv (.ref a :: st) :=
  g_get X (C := RJx4a65c) (T := TJx4a65c) (N := 3) (ci := 2) (j := 2) in_Jx4a65c rfl (by decide) (by decide) hk (wE_6 G w a) rfl "java/util/ArrayList" (fun _ h => h) q hd (kk _ rfl)
theorem gp_602 (X : GC l G L0 p s m args meth c cc nL own) {a index : Nat} {v : Int32} (hk : w.K a = 6) (q : Cond.fieldLink own index "java/util/ArrayList" "size" "I" ∈ wAll) (hd : decode cc pc = .ok (.putfield index, 3)) (kk : ∀ w1 : Wd, w1 = w.setI 602 a v → Gw l G L0 p e R s m args below meth c nL cells slots Q w1 (pc + 3) lv st) : Gw l G L0 p e R s m args below meth c nL cells slots Q w pc lv (.int v :: .ref a :: st) :=
  g_put X (C := RJx4a65c) (T := TJx4a65c) (N := 3) (ci := 2) (j := 2) (w1 := w.setI 602 a v) tyJx4a65c tyJx4a65c_ok nmJx4a65c in_Jx4a65c rfl (by decide) (by decide) hk (wE_6 G w a) (show 2 < 3 by decide) rfl rfl rfl rfl "java/util/ArrayList" (fun _ h => h) q hd rfl rfl (by show (Sum.inr (2, [.int (up2 w.I 602 a v 600 a), va_rf (w.R 601 a), .int (up2 w.I 602 a v 602 a)]) : va_E) = Sum.inr (2, (fs_6 w a).set 2 (.int v)); simp [fs_6, up2]) (fun b hb => wE_I hb) (kk _ rfl)
end FLD
end
