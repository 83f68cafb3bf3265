-- ===== the law's own methods: with a table of handlers; its script
def GHi (l : Launch) (G : GT) (L0 : Nat) (y : MethodName) (cc : ByteArray) (nL : Nat) (ret : Option FieldType) (hh : List (Nat × Nat × Nat × Nat)) (rm : Room) (As : List Value) (w : Wd) (Q : Int32 → Wd → Prop) : Prop := vx_Met l y (.codeWith y cc nL ret hh :: wAll) rm (gPc G L0 As w) (gQi G L0 Q) (gXC G L0 (fun _ _ => False)) rm.cells rm.slots (GA L0)
theorem g_enterH {l : Launch} {G : GT} {L0 : Nat} {y : MethodName} {cc : ByteArray} {nL : Nat} {ret : Option FieldType} {hh : List (Nat × Nat × Nat × Nat)} {rm : Room} {As : List Value} {w : Wd} {Qc : Array Value → State → Outcome → State → Prop} {XC : String → State → State → Prop} (hst : l.stackTraces = false) (hy : plainName y.cls = true) (q : List (Int32 ⊕ Option Nat)) (hq : As = q.map lcV) (hn : q.length ≤ nL)
    (body : ∀ (p : Program) (e : Env) (s : State) (m : MethodId) (args : Array Value) (below : List Frame) (meth : Method) (c : Code), GC l G L0 p s m args meth c cc nL y.cls → meth.sig.returnType = ret → c.exceptionTable.toList = tableOf hh → Gw l G L0 p e rm s m args below meth c nL 0 0 (vx_MQ below Qc XC args s rm.cells rm.slots (GA L0)) w 0 (lcEnum 0 q) []) : vx_Met l y (.codeWith y cc nL ret hh :: wAll) rm (gPc G L0 As w) Qc XC rm.cells rm.slots (GA L0) := by
  refine vx_ofWH (cc := cc) (maxL := nL) (ret := ret) (hh := hh) hy rfl ?_
  intro p e s m args below meth c s₁ B hml hv
  obtain ⟨rfl, hGS, hG⟩ := hv
  have hts := atoms_spec (ws := .codeWith y cc nL ret hh :: wAll) B.pre
  have hX : GC l G L0 p s m As.toArray meth c cc nL y.cls := ⟨⟨B.exec, B.bytes, hml, findClass_of_methodNamed B.named, fun x hx => hts x (List.mem_cons_of_mem _ hx)⟩, B.notSynchronized, hst, hGS⟩
  have h := body p e s m As.toArray below meth c hX B.returns (vx_table (x := y) B (hts _ List.mem_cons_self)) s.heap [] _ hG va_S.rf (by rw [← lc_args, ← hq]; exact lv_entry As (by rw [hq, lc_len]; exact hn))
  rw [lg_entry_eq]
  exact h
section LWR
variable {l : Launch} {G : GT} {L0 : Nat} {p : Program} {e : Env} {R : Room} {s : State} {m : MethodId} {args : Array Value} {below : List Frame} {meth : Method} {c : Code} {cc : ByteArray} {nL : Nat} {own : String} {cells slots mc ms : Nat} {Q : State → Prop} {w : Wd} {pc : Nat} {lv : Lc} {st : List Value}
theorem g_catch (X : GC l G L0 p s m args meth c cc nL own) {E : String} {H : Heap} {locs : List Loc} {ls : Array Slot} {ce : Cell} {q9 : Addr} (pre : List ExceptionTableEntry) (x : ExceptionTableEntry) (suf : List ExceptionTableEntry) (hsplit : c.exceptionTable.toList = pre ++ x :: suf) (hpass : ∀ z ∈ pre, z.catchType ≠ 0 ∧ ∃ nm : String, Cond.classLink own z.catchType nm ∈ wAll ∧ (E, nm) ∈ gNot) (hx : covers x pc = true) (h0 : x.catchType ≠ 0) (q1 : Cond.classLink own x.catchType E ∈ wAll) (hc : (E, E) ∈ gCast)
    (hG : GWd G L0 w H) (hS : va_S (GA L0) s.heap H locs) (hl : lv_has ls nL (lvV lv)) (hq : H[q9]? = some ce) (hv : ce.vm = .none) (hcl : s.vm.findClass E = some ce.cls) (kk : Gw l G L0 p e R s m args below meth c nL cells slots Q w x.handlerPc lv [va_rf (some q9)]) : vx_W p l e R s m args below meth c H locs cells slots Q (F0 m pc ls st) q9 :=
  vx_catch X.1.2.2.2.1 pre x suf hsplit (fun z hz => Or.inr ⟨(hpass z hz).1, by obtain ⟨nm, h1, h2⟩ := (hpass z hz).2; exact ⟨nm, X.1.2.2.2.2 _ h1, X.2.2.2.2.2.2.2.1 _ h2⟩⟩) hx h0 (X.1.2.2.2.2 _ q1) (va_Nw.use rfl (X.2.2.2.2.2.2.1 _ hc)) hq hv hcl (kk H locs ls hG hS hl)
theorem g_callH_i (X : GC l G L0 p s m args meth c cc nL own) {y : MethodName} {bytes : ByteArray} {maxL n index : Nat} {ret : Option FieldType} {hh : List (Nat × Nat × Nat × Nat)} {rm : Room} {As stk : List Value} {Q1 : Int32 → Wd → Prop} (hM : GHi l G L0 y bytes maxL ret hh rm As w Q1)
    (q1 : Cond.methodLink own index y ∈ wAll) (q3 : Cond.static y ∈ wAll) (q4 : Cond.initialized y.cls ∈ wAll) (q5 : Cond.codeWith y bytes maxL ret hh ∈ wAll) (hd0 : y.cls ≠ "java/lang/invoke/MethodHandle" ∧ y.cls ≠ "java/lang/invoke/VarHandle") (hd1 : (parseMethodDescriptor y.desc).map (fun d => d.parameters.length) = some n) (hR : rm.frames + 1 ≤ R.frames ∧ 8 + (maxL + 11) + rm.locals ≤ R.locals)
    (hn : As.length = n) (hst : stk = As.reverse ++ st) (hW : (st.map fun v => v.category).sum ≤ 8) (hf : cells + rm.cells ≤ R.cells ∧ slots + rm.slots ≤ R.slots) (hd : decode cc pc = .ok (.invokestatic index, 3))
    (kk : ∀ (r : Int32) (w1 : Wd), Q1 r w1 → Gw l G L0 p e R s m args below meth c nL (cells + rm.cells) (slots + rm.slots) Q w1 (pc + 3) lv (.int r :: st)) : Gw l G L0 p e R s m args below meth c nL cells slots Q w pc lv stk := by
  intro H locs ls hG hS hl
  subst hst
  refine vx_calli (vx_runSX X.1 hM ⟨⟨rfl, rfl, hR.1, hR.2, pay_in X.1.2.2.2.2 (wA_good q5), List.mem_cons_self⟩, X.1.2.2.2.2 _ q5, X.1.2.2.2.2 _ q4, hd0, fun sig h => ?_, X.1.2.2.2.2 _ q1, X.1.2.2.2.2 _ q3⟩ ⟨gPc_blind, fun U hU hW => ⟨rfl, GS.call X.2.2.2 hS hU hW, by rw [hU]; exact hG⟩⟩ rfl hn hl.1 rfl (lv_room hW) hd hf) hS (fun q _ h => h) (fun q h => h) (fun q _ h => h)
    (fun E ce q9 u t H1 locs1 ht hvm _ hB hz hk1 hS1 hce hcv hcl => hB.1.elim)
    (fun r u t H1 locs1 ht hvm hq hB hz hk1 hS1 => kk r u hq H1 locs1 ls (by rw [← ht]; exact hB) hS1 hl)
  have h2 := hd1
  rw [h] at h2
  exact (Option.some.inj h2).symm
theorem g_sld (X : GC l G L0 p s m args meth c cc nL own) {b L j : Nat} {xs : Nat → Int32} {i : Int32} (hX : va_X b L xs s s.heap) (hb : b < s.heap.size) (hbA : ¬ GA L0 b) (hi : i = nI j) (hj : j < L) (hL : L < 2 ^ 31) (hd : decode cc pc = .ok (.iaload, 1))
    (kk : ∀ v : Int32, v = xs j → Gw l G L0 p e R s m args below meth c nL cells slots Q w (pc + 1) lv (.int v :: st)) : Gw l G L0 p e R s m args below meth c nL cells slots Q w pc lv (.int i :: .ref b :: st) := by
  intro H locs ls hG hS hl
  subst hi
  refine va_sld X.1.1 X.1.2.1 hX hb hbA hS (vp_in_nI hj hL) hd ?_
  rw [nI_clamp (by omega)]
  exact kk _ rfl H locs ls hG hS hl
theorem g_slen (X : GC l G L0 p s m args meth c cc nL own) {b L : Nat} {xs : Nat → Int32} (hX : va_X b L xs s s.heap) (hb : b < s.heap.size) (hbA : ¬ GA L0 b) (hd : decode cc pc = .ok (.arraylength, 1))
    (kk : ∀ v : Int32, v = nI L → Gw l G L0 p e R s m args below meth c nL cells slots Q w (pc + 1) lv (.int v :: st)) : Gw l G L0 p e R s m args below meth c nL cells slots Q w pc lv (.ref b :: st) :=
  fun H locs ls hG hS hl => va_slen X.1.1 X.1.2.1 hX hb hbA hS hd (kk _ rfl H locs ls hG hS hl)
end LWR
/-! THE CLAIM OUT OF ONE WALK OF THE LAW'S BODY. Your part is whole_start (and what it stands on); all else here is the same for every law, but numbers. -/
def R_law : String := "SusuRingLaw"
def lw_P (b : Addr) (xs : List Int32) (args : Array Value) (s : State) : Prop := args = #[.ref b] ∧ s.IntsAt b xs ∧ xs.length ≤ 2560 ∧ (Jvm.Cond.and given_1 narrow_1).before args s = true
def lw_Q (_ : Array Value) (s : State) (o : Outcome) (t : State) : Prop := o = .returned (some (.int 1)) ∧ Framed s o t [] 601024 7293034
def lw_Z (below : List Frame) (a : Array Value) (s : State) : State → Prop := fun t => ∃ o, t.status = .running ∧ Ended t below o ∧ lw_Q a s o t
/-- the law's own end, with 1 on the stack, nothing written that was there before, its room as the claim has it -/
theorem lw_ret {p : Program} {l : Launch} {e : Env} {s : State} {m : MethodId} {below : List Frame} {meth : Method} {c : Code} {b : Nat} (hx : p.tables.exec = Jvm.exec) (hb : c.code = code) (hr : meth.sig.returnType = ret) (hlocks : meth.locks = false) {pc : Nat} {H : Heap} {ls : Array Slot} (hdg : decode code pc = .ok (.ireturn, 1)) : W p l e room_1 s m #[Value.ref b] below meth c H [] 601024 7293034 (lw_Z below #[Value.ref b] s) (F0 m pc ls [.int 1]) := by
  intro T hT X
  obtain ⟨fs, hret, hrun, hended, hW, hframe⟩ := X.leave (v := some (.int 1)) (hlocks := hlocks) (fun h => by rw [hr] at h; cases h)
  have hmeth' : T.vm.method? m = some meth := X.method'
  refine ⟨T.setFrames fs, ?_, .returned (some (.int 1)), hrun, hended, rfl, ⟨_, rfl⟩, hW, hframe⟩
  jvm_step X.here [X.here.top, hx, hb, hdg, hmeth', hr, ret, narrow_b1]
  (try refine ⟨rfl, ?_⟩); (try refine ⟨rfl, ?_⟩)
  first | (intro acts; rw [hret _ acts rfl rfl rfl]) | rw [hret _ _ rfl rfl rfl]
  exact Steps.refl _
/-- what holds at the law's entry: the machine, the code, the tables' words (any of lw_tbl by 'hts w (by decide +kernel)'), the script of L ints xs at the cell b, what the Statement gives of the start (any of its parts by flat_of_before) -/
def lw_At (p : Program) (s : State) (m : MethodId) (meth : Method) (c : Code) (b L : Nat) (xs : Nat → Int32) : Prop :=
  p.tables.exec = Jvm.exec ∧ c.code = code ∧ meth.sig.returnType = ret ∧ c.maxLocals = 7 ∧ s.vm.findClass R_law = some m.cls ∧ (∀ w ∈ lw_tbl, w.before #[Value.ref b] s = true) ∧ va_X b L xs s s.heap ∧ b < s.heap.size ∧ meth.locks = false ∧ (Jvm.Cond.and given_1 narrow_1).before #[Value.ref b] s = true
theorem g_lawret {p : Program} {e : Env} {s : State} {m : MethodId} {below : List Frame} {meth : Method} {c : Code} {l : Launch} {G : GT} {L0 b cells slots pc : Nat} {w : Wd} {lv : Lc} (X : GC l G L0 p s m #[Value.ref b] meth c code 7 "SusuRingLaw") (hL0 : L0 = s.heap.size) (hr : meth.sig.returnType = ret) (h1 : cells ≤ 601024) (h2 : slots ≤ 7293034) (hd : decode code pc = .ok (.ireturn, 1)) : Gw l G L0 p e { frames := 2048, cells := 601024, slots := 7293034, locals := 84000 } s m #[Value.ref b] below meth c 7 cells slots (lw_Z below #[Value.ref b] s) w pc lv [.int (1 : Int32)] :=
  fun H locs ls hG hS hl => va_forget (fun q hq => by have h := hS.2.2 q hq; rw [hL0] at h; exact h) (W.widen h1 h2 (lw_ret X.1.1 X.1.2.1 hr X.2.1 hd))
abbrev rm_L_person : Room := { frames := 13, cells := 7, slots := 223, locals := 281 }
def wp_L_person (r0 : Option Nat) (x1 : Int32) (x2 : Int32) (r3 : Option Nat) (w : Wd) (Q : Int32 → Wd → Prop) : Prop :=
  ∃ a1, r0 = some a1 ∧ w.K a1 = 4 ∧
  wp_X3_person a1 x1 x2 w (fun v3 w2 => 
  ∃ a5, r3 = some a5 ∧ w2.K a5 = 14 ∧
  ∃ j6 : Nat, (0 : Int32) = nI j6 ∧ j6 < w2.N a5 ∧ w2.N a5 < 2 ^ 31 ∧
  ∀ w7 : Wd, w7 = w2.setJ a5 j6 v3.toInt64 →
  Q (0 : Int32) w7) (fun E w4 => (E = "java/lang/IllegalArgumentException" ∧ Q (1 : Int32) w4) ∨ (E = "java/lang/IllegalStateException" ∧ Q (2 : Int32) w4))
set_option maxHeartbeats 4000000 in
set_option maxRecDepth 100000 in
theorem c_L_person {l : Launch} {G : GT} {L0 : Nat} (hst : l.stackTraces = false) {r0 : Option Nat} {x1 : Int32} {x2 : Int32} {r3 : Option Nat} {w : Wd} {Q : Int32 → Wd → Prop} (h : wp_L_person r0 x1 x2 r3 w Q) : GHi l G L0 yL_person cL_person 5 (some .int) [(0, 10, 13, 13), (0, 10, 17, 15)] rm_L_person [va_rf r0, .int x1, .int x2, va_rf r3] w Q := by
  refine g_enterH hst (by decide +kernel) [.inr r0, .inl x1, .inl x2, .inr r3] rfl (show 4 ≤ 5 by decide) ?_
  intro p e s m args below meth c X hr htab
  replace X : GC l G L0 p s m args meth c cL_person 5 "SusuRingLaw" := X
  refine g_aload_n X dL_person_0 rfl 3 rfl ?_
  refine g_iconst X (v := (0 : Int32)) dL_person_1 (by decide) ?_
  refine g_aload_n X dL_person_2 rfl 0 rfl ?_
  refine g_iload_n X dL_person_3 rfl 1 rfl ?_
  refine g_iload_n X dL_person_4 rfl 2 rfl ?_
  obtain ⟨a1, rfl, hk, h⟩ := h
  refine g_callYV_i X (As := [.int x1, .int x2]) (st := [.int (0 : Int32), va_rf r3]) (n := 2) (c_X3_person hst h) rfl (by decide) hk (wE_4 G w a1) m_168 m_169 m_170 m_30 m_171 (by decide +kernel) (by decide +kernel) rfl rfl (by simp [cat_int, rf_cat]) ⟨(by decide +kernel), (by decide +kernel)⟩ dL_person_5 (fun E w4 hE H locs ls ce q9 hG hS hl hq hv hcl => ?_) (fun v3 w2 h => ?_)
  · clear h hk
    rcases hE with ⟨rfl, h⟩ | ⟨rfl, h⟩
    · refine g_catch X (E := "java/lang/IllegalArgumentException") [] ⟨0, 10, 13, 13⟩ [⟨0, 10, 17, 15⟩] (htab.trans rfl) (fun z hz => by simp at hz) (by decide) (by decide) m_166 (by decide +kernel) hG hS hl hq hv hcl ?_
      refine g_widen (c2 := (7)) (s2 := (223)) (by decide) (by decide) ?_
      refine g_astore X [(4, .inr (some q9)), (0, .inr (some a1)), (1, .inl x1), (2, .inl x2), (3, .inr r3)] dL_person_13 (by decide) rfl ?_
      refine g_iconst X (v := (1 : Int32)) dL_person_15 (by decide) ?_
      exact g_iretX X hr (by decide +kernel) (by decide +kernel) dL_person_16 h
    · refine g_catch X (E := "java/lang/IllegalStateException") [⟨0, 10, 13, 13⟩] ⟨0, 10, 17, 15⟩ [] (htab.trans rfl) (fun z hz => by simp only [List.mem_cons, List.not_mem_nil, or_false] at hz; rcases hz with rfl <;> first | exact ⟨by decide, "java/lang/IllegalArgumentException", m_166, by decide +kernel⟩) (by decide) (by decide) m_167 (by decide +kernel) hG hS hl hq hv hcl ?_
      refine g_widen (c2 := (7)) (s2 := (223)) (by decide) (by decide) ?_
      refine g_astore X [(4, .inr (some q9)), (0, .inr (some a1)), (1, .inl x1), (2, .inl x2), (3, .inr r3)] dL_person_17 (by decide) rfl ?_
      refine g_iconst X (v := (2 : Int32)) dL_person_19 (by decide) ?_
      exact g_iretX X hr (by decide +kernel) (by decide +kernel) dL_person_20 h
  clear hk
  refine g_widen (c2 := (7)) (s2 := (223)) (by decide) (by decide) ?_
  refine g_i2l X dL_person_8 ?_
  obtain ⟨a5, rfl, hk, h⟩ := h
  obtain ⟨j6, hi, hj, hN, h⟩ := h
  refine g_last X hk hi hj hN dL_person_9 (fun w7 hv => ?_)
  replace h := h w7 hv; clear hv hk hi hj hN
  refine g_goto X (tgt := 21) dL_person_10 (by decide) ?_
  refine g_iconst X (v := (0 : Int32)) dL_person_21 (by decide) ?_
  exact g_iretX X hr (by decide +kernel) (by decide +kernel) dL_person_22 h

abbrev rm_L_earn : Room := { frames := 11, cells := 3, slots := 18, locals := 209 }
def wp_L_earn (r0 : Option Nat) (x1 : Int32) (x2 : Int32) (r3 : Option Nat) (w : Wd) (Q : Int32 → Wd → Prop) : Prop :=
  ∃ a1, r0 = some a1 ∧ w.K a1 = 4 ∧
  wp_X3_earn a1 x1 x2 w (fun v3 w2 => 
  ∃ a5, r3 = some a5 ∧ w2.K a5 = 14 ∧
  ∃ j6 : Nat, (0 : Int32) = nI j6 ∧ j6 < w2.N a5 ∧ w2.N a5 < 2 ^ 31 ∧
  ∀ w7 : Wd, w7 = w2.setJ a5 j6 v3.toInt64 →
  Q (0 : Int32) w7) (fun E w4 => (E = "java/lang/IndexOutOfBoundsException" ∧ Q (1 : Int32) w4) ∨ (E = "java/lang/IllegalArgumentException" ∧ Q (2 : Int32) w4) ∨ (E = "java/lang/IllegalStateException" ∧ Q (3 : Int32) w4))
set_option maxHeartbeats 4000000 in
set_option maxRecDepth 100000 in
theorem c_L_earn {l : Launch} {G : GT} {L0 : Nat} (hst : l.stackTraces = false) {r0 : Option Nat} {x1 : Int32} {x2 : Int32} {r3 : Option Nat} {w : Wd} {Q : Int32 → Wd → Prop} (h : wp_L_earn r0 x1 x2 r3 w Q) : GHi l G L0 yL_earn cL_earn 5 (some .int) [(0, 10, 13, 20), (0, 10, 17, 13), (0, 10, 21, 15)] rm_L_earn [va_rf r0, .int x1, .int x2, va_rf r3] w Q := by
  refine g_enterH hst (by decide +kernel) [.inr r0, .inl x1, .inl x2, .inr r3] rfl (show 4 ≤ 5 by decide) ?_
  intro p e s m args below meth c X hr htab
  replace X : GC l G L0 p s m args meth c cL_earn 5 "SusuRingLaw" := X
  refine g_aload_n X dL_earn_0 rfl 3 rfl ?_
  refine g_iconst X (v := (0 : Int32)) dL_earn_1 (by decide) ?_
  refine g_aload_n X dL_earn_2 rfl 0 rfl ?_
  refine g_iload_n X dL_earn_3 rfl 1 rfl ?_
  refine g_iload_n X dL_earn_4 rfl 2 rfl ?_
  obtain ⟨a1, rfl, hk, h⟩ := h
  refine g_callYV_i X (As := [.int x1, .int x2]) (st := [.int (0 : Int32), va_rf r3]) (n := 2) (c_X3_earn hst h) rfl (by decide) hk (wE_4 G w a1) m_378 m_379 m_380 m_30 m_381 (by decide +kernel) (by decide +kernel) rfl rfl (by simp [cat_int, rf_cat]) ⟨(by decide +kernel), (by decide +kernel)⟩ dL_earn_5 (fun E w4 hE H locs ls ce q9 hG hS hl hq hv hcl => ?_) (fun v3 w2 h => ?_)
  · clear h hk
    rcases hE with ⟨rfl, h⟩ | ⟨rfl, h⟩ | ⟨rfl, h⟩
    · refine g_catch X (E := "java/lang/IndexOutOfBoundsException") [] ⟨0, 10, 13, 20⟩ [⟨0, 10, 17, 13⟩, ⟨0, 10, 21, 15⟩] (htab.trans rfl) (fun z hz => by simp at hz) (by decide) (by decide) m_377 (by decide +kernel) hG hS hl hq hv hcl ?_
      refine g_widen (c2 := (3)) (s2 := (18)) (by decide) (by decide) ?_
      refine g_astore X [(4, .inr (some q9)), (0, .inr (some a1)), (1, .inl x1), (2, .inl x2), (3, .inr r3)] dL_earn_13 (by decide) rfl ?_
      refine g_iconst X (v := (1 : Int32)) dL_earn_15 (by decide) ?_
      exact g_iretX X hr (by decide +kernel) (by decide +kernel) dL_earn_16 h
    · refine g_catch X (E := "java/lang/IllegalArgumentException") [⟨0, 10, 13, 20⟩] ⟨0, 10, 17, 13⟩ [⟨0, 10, 21, 15⟩] (htab.trans rfl) (fun z hz => by simp only [List.mem_cons, List.not_mem_nil, or_false] at hz; rcases hz with rfl <;> first | exact ⟨by decide, "java/lang/IndexOutOfBoundsException", m_377, by decide +kernel⟩) (by decide) (by decide) m_166 (by decide +kernel) hG hS hl hq hv hcl ?_
      refine g_widen (c2 := (3)) (s2 := (18)) (by decide) (by decide) ?_
      refine g_astore X [(4, .inr (some q9)), (0, .inr (some a1)), (1, .inl x1), (2, .inl x2), (3, .inr r3)] dL_earn_17 (by decide) rfl ?_
      refine g_iconst X (v := (2 : Int32)) dL_earn_19 (by decide) ?_
      exact g_iretX X hr (by decide +kernel) (by decide +kernel) dL_earn_20 h
    · refine g_catch X (E := "java/lang/IllegalStateException") [⟨0, 10, 13, 20⟩, ⟨0, 10, 17, 13⟩] ⟨0, 10, 21, 15⟩ [] (htab.trans rfl) (fun z hz => by simp only [List.mem_cons, List.not_mem_nil, or_false] at hz; rcases hz with rfl | rfl <;> first | exact ⟨by decide, "java/lang/IndexOutOfBoundsException", m_377, by decide +kernel⟩ | exact ⟨by decide, "java/lang/IllegalArgumentException", m_166, by decide +kernel⟩) (by decide) (by decide) m_167 (by decide +kernel) hG hS hl hq hv hcl ?_
      refine g_widen (c2 := (3)) (s2 := (18)) (by decide) (by decide) ?_
      refine g_astore X [(4, .inr (some q9)), (0, .inr (some a1)), (1, .inl x1), (2, .inl x2), (3, .inr r3)] dL_earn_21 (by decide) rfl ?_
      refine g_iconst X (v := (3 : Int32)) dL_earn_23 (by decide) ?_
      exact g_iretX X hr (by decide +kernel) (by decide +kernel) dL_earn_24 h
  clear hk
  refine g_widen (c2 := (3)) (s2 := (18)) (by decide) (by decide) ?_
  refine g_i2l X dL_earn_8 ?_
  obtain ⟨a5, rfl, hk, h⟩ := h
  obtain ⟨j6, hi, hj, hN, h⟩ := h
  refine g_last X hk hi hj hN dL_earn_9 (fun w7 hv => ?_)
  replace h := h w7 hv; clear hv hk hi hj hN
  refine g_goto X (tgt := 25) dL_earn_10 (by decide) ?_
  refine g_iconst X (v := (0 : Int32)) dL_earn_25 (by decide) ?_
  exact g_iretX X hr (by decide +kernel) (by decide +kernel) dL_earn_26 h

abbrev rm_L_die : Room := { frames := 13, cells := 4, slots := 24, locals := 259 }
def wp_L_die (r0 : Option Nat) (x1 : Int32) (x2 : Int32) (r3 : Option Nat) (w : Wd) (Q : Int32 → Wd → Prop) : Prop :=
  ∃ a1, r0 = some a1 ∧ w.K a1 = 4 ∧
  wp_X3_die a1 x1 x2 w (fun v3 w2 => 
  ∃ a5, r3 = some a5 ∧ w2.K a5 = 14 ∧
  ∃ j6 : Nat, (0 : Int32) = nI j6 ∧ j6 < w2.N a5 ∧ w2.N a5 < 2 ^ 31 ∧
  ∀ w7 : Wd, w7 = w2.setJ a5 j6 v3.toInt64 →
  Q (0 : Int32) w7) (fun E w4 => (E = "java/lang/IndexOutOfBoundsException" ∧ Q (1 : Int32) w4) ∨ (E = "java/lang/IllegalArgumentException" ∧ Q (2 : Int32) w4) ∨ (E = "java/lang/IllegalStateException" ∧ Q (3 : Int32) w4))
set_option maxHeartbeats 4000000 in
set_option maxRecDepth 100000 in
theorem c_L_die {l : Launch} {G : GT} {L0 : Nat} (hst : l.stackTraces = false) {r0 : Option Nat} {x1 : Int32} {x2 : Int32} {r3 : Option Nat} {w : Wd} {Q : Int32 → Wd → Prop} (h : wp_L_die r0 x1 x2 r3 w Q) : GHi l G L0 yL_die cL_die 5 (some .int) [(0, 10, 13, 20), (0, 10, 17, 13), (0, 10, 21, 15)] rm_L_die [va_rf r0, .int x1, .int x2, va_rf r3] w Q := by
  refine g_enterH hst (by decide +kernel) [.inr r0, .inl x1, .inl x2, .inr r3] rfl (show 4 ≤ 5 by decide) ?_
  intro p e s m args below meth c X hr htab
  replace X : GC l G L0 p s m args meth c cL_die 5 "SusuRingLaw" := X
  refine g_aload_n X dL_die_0 rfl 3 rfl ?_
  refine g_iconst X (v := (0 : Int32)) dL_die_1 (by decide) ?_
  refine g_aload_n X dL_die_2 rfl 0 rfl ?_
  refine g_iload_n X dL_die_3 rfl 1 rfl ?_
  refine g_iload_n X dL_die_4 rfl 2 rfl ?_
  obtain ⟨a1, rfl, hk, h⟩ := h
  refine g_callYV_i X (As := [.int x1, .int x2]) (st := [.int (0 : Int32), va_rf r3]) (n := 2) (c_X3_die hst h) rfl (by decide) hk (wE_4 G w a1) m_407 m_408 m_409 m_30 m_410 (by decide +kernel) (by decide +kernel) rfl rfl (by simp [cat_int, rf_cat]) ⟨(by decide +kernel), (by decide +kernel)⟩ dL_die_5 (fun E w4 hE H locs ls ce q9 hG hS hl hq hv hcl => ?_) (fun v3 w2 h => ?_)
  · clear h hk
    rcases hE with ⟨rfl, h⟩ | ⟨rfl, h⟩ | ⟨rfl, h⟩
    · refine g_catch X (E := "java/lang/IndexOutOfBoundsException") [] ⟨0, 10, 13, 20⟩ [⟨0, 10, 17, 13⟩, ⟨0, 10, 21, 15⟩] (htab.trans rfl) (fun z hz => by simp at hz) (by decide) (by decide) m_377 (by decide +kernel) hG hS hl hq hv hcl ?_
      refine g_widen (c2 := (4)) (s2 := (24)) (by decide) (by decide) ?_
      refine g_astore X [(4, .inr (some q9)), (0, .inr (some a1)), (1, .inl x1), (2, .inl x2), (3, .inr r3)] dL_die_13 (by decide) rfl ?_
      refine g_iconst X (v := (1 : Int32)) dL_die_15 (by decide) ?_
      exact g_iretX X hr (by decide +kernel) (by decide +kernel) dL_die_16 h
    · refine g_catch X (E := "java/lang/IllegalArgumentException") [⟨0, 10, 13, 20⟩] ⟨0, 10, 17, 13⟩ [⟨0, 10, 21, 15⟩] (htab.trans rfl) (fun z hz => by simp only [List.mem_cons, List.not_mem_nil, or_false] at hz; rcases hz with rfl <;> first | exact ⟨by decide, "java/lang/IndexOutOfBoundsException", m_377, by decide +kernel⟩) (by decide) (by decide) m_166 (by decide +kernel) hG hS hl hq hv hcl ?_
      refine g_widen (c2 := (4)) (s2 := (24)) (by decide) (by decide) ?_
      refine g_astore X [(4, .inr (some q9)), (0, .inr (some a1)), (1, .inl x1), (2, .inl x2), (3, .inr r3)] dL_die_17 (by decide) rfl ?_
      refine g_iconst X (v := (2 : Int32)) dL_die_19 (by decide) ?_
      exact g_iretX X hr (by decide +kernel) (by decide +kernel) dL_die_20 h
    · refine g_catch X (E := "java/lang/IllegalStateException") [⟨0, 10, 13, 20⟩, ⟨0, 10, 17, 13⟩] ⟨0, 10, 21, 15⟩ [] (htab.trans rfl) (fun z hz => by simp only [List.mem_cons, List.not_mem_nil, or_false] at hz; rcases hz with rfl | rfl <;> first | exact ⟨by decide, "java/lang/IndexOutOfBoundsException", m_377, by decide +kernel⟩ | exact ⟨by decide, "java/lang/IllegalArgumentException", m_166, by decide +kernel⟩) (by decide) (by decide) m_167 (by decide +kernel) hG hS hl hq hv hcl ?_
      refine g_widen (c2 := (4)) (s2 := (24)) (by decide) (by decide) ?_
      refine g_astore X [(4, .inr (some q9)), (0, .inr (some a1)), (1, .inl x1), (2, .inl x2), (3, .inr r3)] dL_die_21 (by decide) rfl ?_
      refine g_iconst X (v := (3 : Int32)) dL_die_23 (by decide) ?_
      exact g_iretX X hr (by decide +kernel) (by decide +kernel) dL_die_24 h
  clear hk
  refine g_widen (c2 := (4)) (s2 := (24)) (by decide) (by decide) ?_
  refine g_i2l X dL_die_8 ?_
  obtain ⟨a5, rfl, hk, h⟩ := h
  obtain ⟨j6, hi, hj, hN, h⟩ := h
  refine g_last X hk hi hj hN dL_die_9 (fun w7 hv => ?_)
  replace h := h w7 hv; clear hv hk hi hj hN
  refine g_goto X (tgt := 25) dL_die_10 (by decide) ?_
  refine g_iconst X (v := (0 : Int32)) dL_die_25 (by decide) ?_
  exact g_iretX X hr (by decide +kernel) (by decide +kernel) dL_die_26 h

abbrev rm_L_circle : Room := { frames := 13, cells := 8, slots := 160, locals := 280 }
def wp_L_circle (r0 : Option Nat) (x1 : Int32) (x2 : Int32) (r3 : Option Nat) (w : Wd) (Q : Int32 → Wd → Prop) : Prop :=
  ∃ a1, r0 = some a1 ∧ w.K a1 = 4 ∧
  wp_X3_circle a1 x1 x2 w (fun v3 w2 => 
  ∃ a5, r3 = some a5 ∧ w2.K a5 = 14 ∧
  ∃ j6 : Nat, (0 : Int32) = nI j6 ∧ j6 < w2.N a5 ∧ w2.N a5 < 2 ^ 31 ∧
  ∀ w7 : Wd, w7 = w2.setJ a5 j6 v3.toInt64 →
  Q (0 : Int32) w7) (fun E w4 => (E = "java/lang/IllegalArgumentException" ∧ Q (1 : Int32) w4) ∨ (E = "java/lang/IllegalStateException" ∧ Q (2 : Int32) w4))
set_option maxHeartbeats 4000000 in
set_option maxRecDepth 100000 in
theorem c_L_circle {l : Launch} {G : GT} {L0 : Nat} (hst : l.stackTraces = false) {r0 : Option Nat} {x1 : Int32} {x2 : Int32} {r3 : Option Nat} {w : Wd} {Q : Int32 → Wd → Prop} (h : wp_L_circle r0 x1 x2 r3 w Q) : GHi l G L0 yL_circle cL_circle 5 (some .int) [(0, 10, 13, 13), (0, 10, 17, 15)] rm_L_circle [va_rf r0, .int x1, .int x2, va_rf r3] w Q := by
  refine g_enterH hst (by decide +kernel) [.inr r0, .inl x1, .inl x2, .inr r3] rfl (show 4 ≤ 5 by decide) ?_
  intro p e s m args below meth c X hr htab
  replace X : GC l G L0 p s m args meth c cL_circle 5 "SusuRingLaw" := X
  refine g_aload_n X dL_circle_0 rfl 3 rfl ?_
  refine g_iconst X (v := (0 : Int32)) dL_circle_1 (by decide) ?_
  refine g_aload_n X dL_circle_2 rfl 0 rfl ?_
  refine g_iload_n X dL_circle_3 rfl 1 rfl ?_
  refine g_iload_n X dL_circle_4 rfl 2 rfl ?_
  obtain ⟨a1, rfl, hk, h⟩ := h
  refine g_callYV_i X (As := [.int x1, .int x2]) (st := [.int (0 : Int32), va_rf r3]) (n := 2) (c_X3_circle hst h) rfl (by decide) hk (wE_4 G w a1) m_460 m_461 m_462 m_30 m_463 (by decide +kernel) (by decide +kernel) rfl rfl (by simp [cat_int, rf_cat]) ⟨(by decide +kernel), (by decide +kernel)⟩ dL_circle_5 (fun E w4 hE H locs ls ce q9 hG hS hl hq hv hcl => ?_) (fun v3 w2 h => ?_)
  · clear h hk
    rcases hE with ⟨rfl, h⟩ | ⟨rfl, h⟩
    · refine g_catch X (E := "java/lang/IllegalArgumentException") [] ⟨0, 10, 13, 13⟩ [⟨0, 10, 17, 15⟩] (htab.trans rfl) (fun z hz => by simp at hz) (by decide) (by decide) m_166 (by decide +kernel) hG hS hl hq hv hcl ?_
      refine g_widen (c2 := (8)) (s2 := (160)) (by decide) (by decide) ?_
      refine g_astore X [(4, .inr (some q9)), (0, .inr (some a1)), (1, .inl x1), (2, .inl x2), (3, .inr r3)] dL_circle_13 (by decide) rfl ?_
      refine g_iconst X (v := (1 : Int32)) dL_circle_15 (by decide) ?_
      exact g_iretX X hr (by decide +kernel) (by decide +kernel) dL_circle_16 h
    · refine g_catch X (E := "java/lang/IllegalStateException") [⟨0, 10, 13, 13⟩] ⟨0, 10, 17, 15⟩ [] (htab.trans rfl) (fun z hz => by simp only [List.mem_cons, List.not_mem_nil, or_false] at hz; rcases hz with rfl <;> first | exact ⟨by decide, "java/lang/IllegalArgumentException", m_166, by decide +kernel⟩) (by decide) (by decide) m_167 (by decide +kernel) hG hS hl hq hv hcl ?_
      refine g_widen (c2 := (8)) (s2 := (160)) (by decide) (by decide) ?_
      refine g_astore X [(4, .inr (some q9)), (0, .inr (some a1)), (1, .inl x1), (2, .inl x2), (3, .inr r3)] dL_circle_17 (by decide) rfl ?_
      refine g_iconst X (v := (2 : Int32)) dL_circle_19 (by decide) ?_
      exact g_iretX X hr (by decide +kernel) (by decide +kernel) dL_circle_20 h
  clear hk
  refine g_widen (c2 := (8)) (s2 := (160)) (by decide) (by decide) ?_
  refine g_i2l X dL_circle_8 ?_
  obtain ⟨a5, rfl, hk, h⟩ := h
  obtain ⟨j6, hi, hj, hN, h⟩ := h
  refine g_last X hk hi hj hN dL_circle_9 (fun w7 hv => ?_)
  replace h := h w7 hv; clear hv hk hi hj hN
  refine g_goto X (tgt := 21) dL_circle_10 (by decide) ?_
  refine g_iconst X (v := (0 : Int32)) dL_circle_21 (by decide) ?_
  exact g_iretX X hr (by decide +kernel) (by decide +kernel) dL_circle_22 h

abbrev rm_L_enter : Room := { frames := 13, cells := 7, slots := 158, locals := 282 }
def wp_L_enter (r0 : Option Nat) (x1 : Int32) (x2 : Int32) (r3 : Option Nat) (w : Wd) (Q : Int32 → Wd → Prop) : Prop :=
  ∃ a1, r0 = some a1 ∧ w.K a1 = 4 ∧
  wp_X3_enter a1 x1 x2 w (fun v3 w2 => 
  ∃ a5, r3 = some a5 ∧ w2.K a5 = 14 ∧
  ∃ j6 : Nat, (0 : Int32) = nI j6 ∧ j6 < w2.N a5 ∧ w2.N a5 < 2 ^ 31 ∧
  ∀ w7 : Wd, w7 = w2.setJ a5 j6 v3.toInt64 →
  Q (0 : Int32) w7) (fun E w4 => (E = "java/lang/IndexOutOfBoundsException" ∧ Q (1 : Int32) w4) ∨ (E = "java/lang/IllegalStateException" ∧ Q (2 : Int32) w4))
set_option maxHeartbeats 4000000 in
set_option maxRecDepth 100000 in
theorem c_L_enter {l : Launch} {G : GT} {L0 : Nat} (hst : l.stackTraces = false) {r0 : Option Nat} {x1 : Int32} {x2 : Int32} {r3 : Option Nat} {w : Wd} {Q : Int32 → Wd → Prop} (h : wp_L_enter r0 x1 x2 r3 w Q) : GHi l G L0 yL_enter cL_enter 5 (some .int) [(0, 10, 13, 20), (0, 10, 17, 15)] rm_L_enter [va_rf r0, .int x1, .int x2, va_rf r3] w Q := by
  refine g_enterH hst (by decide +kernel) [.inr r0, .inl x1, .inl x2, .inr r3] rfl (show 4 ≤ 5 by decide) ?_
  intro p e s m args below meth c X hr htab
  replace X : GC l G L0 p s m args meth c cL_enter 5 "SusuRingLaw" := X
  refine g_aload_n X dL_enter_0 rfl 3 rfl ?_
  refine g_iconst X (v := (0 : Int32)) dL_enter_1 (by decide) ?_
  refine g_aload_n X dL_enter_2 rfl 0 rfl ?_
  refine g_iload_n X dL_enter_3 rfl 1 rfl ?_
  refine g_iload_n X dL_enter_4 rfl 2 rfl ?_
  obtain ⟨a1, rfl, hk, h⟩ := h
  refine g_callYV_i X (As := [.int x1, .int x2]) (st := [.int (0 : Int32), va_rf r3]) (n := 2) (c_X3_enter hst h) rfl (by decide) hk (wE_4 G w a1) m_503 m_504 m_505 m_30 m_506 (by decide +kernel) (by decide +kernel) rfl rfl (by simp [cat_int, rf_cat]) ⟨(by decide +kernel), (by decide +kernel)⟩ dL_enter_5 (fun E w4 hE H locs ls ce q9 hG hS hl hq hv hcl => ?_) (fun v3 w2 h => ?_)
  · clear h hk
    rcases hE with ⟨rfl, h⟩ | ⟨rfl, h⟩
    · refine g_catch X (E := "java/lang/IndexOutOfBoundsException") [] ⟨0, 10, 13, 20⟩ [⟨0, 10, 17, 15⟩] (htab.trans rfl) (fun z hz => by simp at hz) (by decide) (by decide) m_377 (by decide +kernel) hG hS hl hq hv hcl ?_
      refine g_widen (c2 := (7)) (s2 := (158)) (by decide) (by decide) ?_
      refine g_astore X [(4, .inr (some q9)), (0, .inr (some a1)), (1, .inl x1), (2, .inl x2), (3, .inr r3)] dL_enter_13 (by decide) rfl ?_
      refine g_iconst X (v := (1 : Int32)) dL_enter_15 (by decide) ?_
      exact g_iretX X hr (by decide +kernel) (by decide +kernel) dL_enter_16 h
    · refine g_catch X (E := "java/lang/IllegalStateException") [⟨0, 10, 13, 20⟩] ⟨0, 10, 17, 15⟩ [] (htab.trans rfl) (fun z hz => by simp only [List.mem_cons, List.not_mem_nil, or_false] at hz; rcases hz with rfl <;> first | exact ⟨by decide, "java/lang/IndexOutOfBoundsException", m_377, by decide +kernel⟩) (by decide) (by decide) m_167 (by decide +kernel) hG hS hl hq hv hcl ?_
      refine g_widen (c2 := (7)) (s2 := (158)) (by decide) (by decide) ?_
      refine g_astore X [(4, .inr (some q9)), (0, .inr (some a1)), (1, .inl x1), (2, .inl x2), (3, .inr r3)] dL_enter_17 (by decide) rfl ?_
      refine g_iconst X (v := (2 : Int32)) dL_enter_19 (by decide) ?_
      exact g_iretX X hr (by decide +kernel) (by decide +kernel) dL_enter_20 h
  clear hk
  refine g_widen (c2 := (7)) (s2 := (158)) (by decide) (by decide) ?_
  refine g_i2l X dL_enter_8 ?_
  obtain ⟨a5, rfl, hk, h⟩ := h
  obtain ⟨j6, hi, hj, hN, h⟩ := h
  refine g_last X hk hi hj hN dL_enter_9 (fun w7 hv => ?_)
  replace h := h w7 hv; clear hv hk hi hj hN
  refine g_goto X (tgt := 21) dL_enter_10 (by decide) ?_
  refine g_iconst X (v := (0 : Int32)) dL_enter_21 (by decide) ?_
  exact g_iretX X hr (by decide +kernel) (by decide +kernel) dL_enter_22 h

abbrev rm_L_start : Room := { frames := 14, cells := 71, slots := 4370, locals := 306 }
def wp_L_start (r0 : Option Nat) (x1 : Int32) (x2 : Int32) (r3 : Option Nat) (w : Wd) (Q : Int32 → Wd → Prop) : Prop :=
  ∃ a1, r0 = some a1 ∧ w.K a1 = 4 ∧
  wp_X3_start a1 x1 x2 w (fun v3 w2 => 
  ∃ a5, r3 = some a5 ∧ w2.K a5 = 14 ∧
  ∃ j6 : Nat, (0 : Int32) = nI j6 ∧ j6 < w2.N a5 ∧ w2.N a5 < 2 ^ 31 ∧
  ∀ w7 : Wd, w7 = w2.setJ a5 j6 v3.toInt64 →
  Q (0 : Int32) w7) (fun E w4 => (E = "java/lang/IndexOutOfBoundsException" ∧ Q (1 : Int32) w4) ∨ (E = "java/lang/IllegalArgumentException" ∧ Q (2 : Int32) w4) ∨ (E = "java/lang/IllegalStateException" ∧ Q (3 : Int32) w4))
set_option maxHeartbeats 4000000 in
set_option maxRecDepth 100000 in
theorem c_L_start {l : Launch} {G : GT} {L0 : Nat} (hst : l.stackTraces = false) {r0 : Option Nat} {x1 : Int32} {x2 : Int32} {r3 : Option Nat} {w : Wd} {Q : Int32 → Wd → Prop} (h : wp_L_start r0 x1 x2 r3 w Q) : GHi l G L0 yL_start cL_start 5 (some .int) [(0, 10, 13, 20), (0, 10, 17, 13), (0, 10, 21, 15)] rm_L_start [va_rf r0, .int x1, .int x2, va_rf r3] w Q := by
  refine g_enterH hst (by decide +kernel) [.inr r0, .inl x1, .inl x2, .inr r3] rfl (show 4 ≤ 5 by decide) ?_
  intro p e s m args below meth c X hr htab
  replace X : GC l G L0 p s m args meth c cL_start 5 "SusuRingLaw" := X
  refine g_aload_n X dL_start_0 rfl 3 rfl ?_
  refine g_iconst X (v := (0 : Int32)) dL_start_1 (by decide) ?_
  refine g_aload_n X dL_start_2 rfl 0 rfl ?_
  refine g_iload_n X dL_start_3 rfl 1 rfl ?_
  refine g_iload_n X dL_start_4 rfl 2 rfl ?_
  obtain ⟨a1, rfl, hk, h⟩ := h
  refine g_callYV_i X (As := [.int x1, .int x2]) (st := [.int (0 : Int32), va_rf r3]) (n := 2) (c_X3_start hst h) rfl (by decide) hk (wE_4 G w a1) m_549 m_550 m_551 m_30 m_552 (by decide +kernel) (by decide +kernel) rfl rfl (by simp [cat_int, rf_cat]) ⟨(by decide +kernel), (by decide +kernel)⟩ dL_start_5 (fun E w4 hE H locs ls ce q9 hG hS hl hq hv hcl => ?_) (fun v3 w2 h => ?_)
  · clear h hk
    rcases hE with ⟨rfl, h⟩ | ⟨rfl, h⟩ | ⟨rfl, h⟩
    · refine g_catch X (E := "java/lang/IndexOutOfBoundsException") [] ⟨0, 10, 13, 20⟩ [⟨0, 10, 17, 13⟩, ⟨0, 10, 21, 15⟩] (htab.trans rfl) (fun z hz => by simp at hz) (by decide) (by decide) m_377 (by decide +kernel) hG hS hl hq hv hcl ?_
      refine g_widen (c2 := (71)) (s2 := (4370)) (by decide) (by decide) ?_
      refine g_astore X [(4, .inr (some q9)), (0, .inr (some a1)), (1, .inl x1), (2, .inl x2), (3, .inr r3)] dL_start_13 (by decide) rfl ?_
      refine g_iconst X (v := (1 : Int32)) dL_start_15 (by decide) ?_
      exact g_iretX X hr (by decide +kernel) (by decide +kernel) dL_start_16 h
    · refine g_catch X (E := "java/lang/IllegalArgumentException") [⟨0, 10, 13, 20⟩] ⟨0, 10, 17, 13⟩ [⟨0, 10, 21, 15⟩] (htab.trans rfl) (fun z hz => by simp only [List.mem_cons, List.not_mem_nil, or_false] at hz; rcases hz with rfl <;> first | exact ⟨by decide, "java/lang/IndexOutOfBoundsException", m_377, by decide +kernel⟩) (by decide) (by decide) m_166 (by decide +kernel) hG hS hl hq hv hcl ?_
      refine g_widen (c2 := (71)) (s2 := (4370)) (by decide) (by decide) ?_
      refine g_astore X [(4, .inr (some q9)), (0, .inr (some a1)), (1, .inl x1), (2, .inl x2), (3, .inr r3)] dL_start_17 (by decide) rfl ?_
      refine g_iconst X (v := (2 : Int32)) dL_start_19 (by decide) ?_
      exact g_iretX X hr (by decide +kernel) (by decide +kernel) dL_start_20 h
    · refine g_catch X (E := "java/lang/IllegalStateException") [⟨0, 10, 13, 20⟩, ⟨0, 10, 17, 13⟩] ⟨0, 10, 21, 15⟩ [] (htab.trans rfl) (fun z hz => by simp only [List.mem_cons, List.not_mem_nil, or_false] at hz; rcases hz with rfl | rfl <;> first | exact ⟨by decide, "java/lang/IndexOutOfBoundsException", m_377, by decide +kernel⟩ | exact ⟨by decide, "java/lang/IllegalArgumentException", m_166, by decide +kernel⟩) (by decide) (by decide) m_167 (by decide +kernel) hG hS hl hq hv hcl ?_
      refine g_widen (c2 := (71)) (s2 := (4370)) (by decide) (by decide) ?_
      refine g_astore X [(4, .inr (some q9)), (0, .inr (some a1)), (1, .inl x1), (2, .inl x2), (3, .inr r3)] dL_start_21 (by decide) rfl ?_
      refine g_iconst X (v := (3 : Int32)) dL_start_23 (by decide) ?_
      exact g_iretX X hr (by decide +kernel) (by decide +kernel) dL_start_24 h
  clear hk
  refine g_widen (c2 := (71)) (s2 := (4370)) (by decide) (by decide) ?_
  refine g_i2l X dL_start_8 ?_
  obtain ⟨a5, rfl, hk, h⟩ := h
  obtain ⟨j6, hi, hj, hN, h⟩ := h
  refine g_last X hk hi hj hN dL_start_9 (fun w7 hv => ?_)
  replace h := h w7 hv; clear hv hk hi hj hN
  refine g_goto X (tgt := 25) dL_start_10 (by decide) ?_
  refine g_iconst X (v := (0 : Int32)) dL_start_25 (by decide) ?_
  exact g_iretX X hr (by decide +kernel) (by decide +kernel) dL_start_26 h

abbrev rm_L_want : Room := { frames := 12, cells := 4, slots := 24, locals := 235 }
def wp_L_want (r0 : Option Nat) (x1 : Int32) (x2 : Int32) (x3 : Int32) (x4 : Int32) (r5 : Option Nat) (w : Wd) (Q : Int32 → Wd → Prop) : Prop :=
  ∃ a1, r0 = some a1 ∧ w.K a1 = 4 ∧
  wp_X3_want a1 x1 x2 x3 x4 w (fun v3 w2 => 
  ∃ a5, r5 = some a5 ∧ w2.K a5 = 14 ∧
  ∃ j6 : Nat, (0 : Int32) = nI j6 ∧ j6 < w2.N a5 ∧ w2.N a5 < 2 ^ 31 ∧
  ∀ w7 : Wd, w7 = w2.setJ a5 j6 v3.toInt64 →
  Q (0 : Int32) w7) (fun E w4 => (E = "java/lang/IndexOutOfBoundsException" ∧ Q (1 : Int32) w4) ∨ (E = "java/lang/IllegalArgumentException" ∧ Q (2 : Int32) w4) ∨ (E = "java/lang/IllegalStateException" ∧ Q (3 : Int32) w4))
set_option maxHeartbeats 4000000 in
set_option maxRecDepth 100000 in
theorem c_L_want {l : Launch} {G : GT} {L0 : Nat} (hst : l.stackTraces = false) {r0 : Option Nat} {x1 : Int32} {x2 : Int32} {x3 : Int32} {x4 : Int32} {r5 : Option Nat} {w : Wd} {Q : Int32 → Wd → Prop} (h : wp_L_want r0 x1 x2 x3 x4 r5 w Q) : GHi l G L0 yL_want cL_want 7 (some .int) [(0, 14, 17, 20), (0, 14, 21, 13), (0, 14, 25, 15)] rm_L_want [va_rf r0, .int x1, .int x2, .int x3, .int x4, va_rf r5] w Q := by
  refine g_enterH hst (by decide +kernel) [.inr r0, .inl x1, .inl x2, .inl x3, .inl x4, .inr r5] rfl (show 6 ≤ 7 by decide) ?_
  intro p e s m args below meth c X hr htab
  replace X : GC l G L0 p s m args meth c cL_want 7 "SusuRingLaw" := X
  refine g_aload X dL_want_0 5 rfl ?_
  refine g_iconst X (v := (0 : Int32)) dL_want_2 (by decide) ?_
  refine g_aload_n X dL_want_3 rfl 0 rfl ?_
  refine g_iload_n X dL_want_4 rfl 1 rfl ?_
  refine g_iload_n X dL_want_5 rfl 2 rfl ?_
  refine g_iload_n X dL_want_6 rfl 3 rfl ?_
  refine g_iload X dL_want_7 4 rfl ?_
  obtain ⟨a1, rfl, hk, h⟩ := h
  refine g_callYV_i X (As := [.int x1, .int x2, .int x3, .int x4]) (st := [.int (0 : Int32), va_rf r5]) (n := 4) (c_X3_want hst h) rfl (by decide) hk (wE_4 G w a1) m_839 m_840 m_841 m_30 m_842 (by decide +kernel) (by decide +kernel) rfl rfl (by simp [cat_int, rf_cat]) ⟨(by decide +kernel), (by decide +kernel)⟩ dL_want_9 (fun E w4 hE H locs ls ce q9 hG hS hl hq hv hcl => ?_) (fun v3 w2 h => ?_)
  · clear h hk
    rcases hE with ⟨rfl, h⟩ | ⟨rfl, h⟩ | ⟨rfl, h⟩
    · refine g_catch X (E := "java/lang/IndexOutOfBoundsException") [] ⟨0, 14, 17, 20⟩ [⟨0, 14, 21, 13⟩, ⟨0, 14, 25, 15⟩] (htab.trans rfl) (fun z hz => by simp at hz) (by decide) (by decide) m_377 (by decide +kernel) hG hS hl hq hv hcl ?_
      refine g_widen (c2 := (4)) (s2 := (24)) (by decide) (by decide) ?_
      refine g_astore X [(6, .inr (some q9)), (0, .inr (some a1)), (1, .inl x1), (2, .inl x2), (3, .inl x3), (4, .inl x4), (5, .inr r5)] dL_want_17 (by decide) rfl ?_
      refine g_iconst X (v := (1 : Int32)) dL_want_19 (by decide) ?_
      exact g_iretX X hr (by decide +kernel) (by decide +kernel) dL_want_20 h
    · refine g_catch X (E := "java/lang/IllegalArgumentException") [⟨0, 14, 17, 20⟩] ⟨0, 14, 21, 13⟩ [⟨0, 14, 25, 15⟩] (htab.trans rfl) (fun z hz => by simp only [List.mem_cons, List.not_mem_nil, or_false] at hz; rcases hz with rfl <;> first | exact ⟨by decide, "java/lang/IndexOutOfBoundsException", m_377, by decide +kernel⟩) (by decide) (by decide) m_166 (by decide +kernel) hG hS hl hq hv hcl ?_
      refine g_widen (c2 := (4)) (s2 := (24)) (by decide) (by decide) ?_
      refine g_astore X [(6, .inr (some q9)), (0, .inr (some a1)), (1, .inl x1), (2, .inl x2), (3, .inl x3), (4, .inl x4), (5, .inr r5)] dL_want_21 (by decide) rfl ?_
      refine g_iconst X (v := (2 : Int32)) dL_want_23 (by decide) ?_
      exact g_iretX X hr (by decide +kernel) (by decide +kernel) dL_want_24 h
    · refine g_catch X (E := "java/lang/IllegalStateException") [⟨0, 14, 17, 20⟩, ⟨0, 14, 21, 13⟩] ⟨0, 14, 25, 15⟩ [] (htab.trans rfl) (fun z hz => by simp only [List.mem_cons, List.not_mem_nil, or_false] at hz; rcases hz with rfl | rfl <;> first | exact ⟨by decide, "java/lang/IndexOutOfBoundsException", m_377, by decide +kernel⟩ | exact ⟨by decide, "java/lang/IllegalArgumentException", m_166, by decide +kernel⟩) (by decide) (by decide) m_167 (by decide +kernel) hG hS hl hq hv hcl ?_
      refine g_widen (c2 := (4)) (s2 := (24)) (by decide) (by decide) ?_
      refine g_astore X [(6, .inr (some q9)), (0, .inr (some a1)), (1, .inl x1), (2, .inl x2), (3, .inl x3), (4, .inl x4), (5, .inr r5)] dL_want_25 (by decide) rfl ?_
      refine g_iconst X (v := (3 : Int32)) dL_want_27 (by decide) ?_
      exact g_iretX X hr (by decide +kernel) (by decide +kernel) dL_want_28 h
  clear hk
  refine g_widen (c2 := (4)) (s2 := (24)) (by decide) (by decide) ?_
  refine g_i2l X dL_want_12 ?_
  obtain ⟨a5, rfl, hk, h⟩ := h
  obtain ⟨j6, hi, hj, hN, h⟩ := h
  refine g_last X hk hi hj hN dL_want_13 (fun w7 hv => ?_)
  replace h := h w7 hv; clear hv hk hi hj hN
  refine g_goto X (tgt := 29) dL_want_14 (by decide) ?_
  refine g_iconst X (v := (0 : Int32)) dL_want_29 (by decide) ?_
  exact g_iretX X hr (by decide +kernel) (by decide +kernel) dL_want_30 h

abbrev rm_L_meet : Room := { frames := 12, cells := 2, slots := 12, locals := 231 }
def wp_L_meet (r0 : Option Nat) (x1 : Int32) (x2 : Int32) (r3 : Option Nat) (w : Wd) (Q : Int32 → Wd → Prop) : Prop :=
  ∃ a1, r0 = some a1 ∧ w.K a1 = 4 ∧
  wp_X3_meet a1 x1 x2 w (fun v3 w2 => 
  ∃ a5, r3 = some a5 ∧ w2.K a5 = 14 ∧
  ∃ j6 : Nat, (0 : Int32) = nI j6 ∧ j6 < w2.N a5 ∧ w2.N a5 < 2 ^ 31 ∧
  ∀ w7 : Wd, w7 = w2.setJ a5 j6 v3.toInt64 →
  Q (0 : Int32) w7) (fun E w4 => (E = "java/lang/IndexOutOfBoundsException" ∧ Q (1 : Int32) w4) ∨ (E = "java/lang/IllegalStateException" ∧ Q (2 : Int32) w4))
set_option maxHeartbeats 4000000 in
set_option maxRecDepth 100000 in
theorem c_L_meet {l : Launch} {G : GT} {L0 : Nat} (hst : l.stackTraces = false) {r0 : Option Nat} {x1 : Int32} {x2 : Int32} {r3 : Option Nat} {w : Wd} {Q : Int32 → Wd → Prop} (h : wp_L_meet r0 x1 x2 r3 w Q) : GHi l G L0 yL_meet cL_meet 5 (some .int) [(0, 10, 13, 20), (0, 10, 17, 15)] rm_L_meet [va_rf r0, .int x1, .int x2, va_rf r3] w Q := by
  refine g_enterH hst (by decide +kernel) [.inr r0, .inl x1, .inl x2, .inr r3] rfl (show 4 ≤ 5 by decide) ?_
  intro p e s m args below meth c X hr htab
  replace X : GC l G L0 p s m args meth c cL_meet 5 "SusuRingLaw" := X
  refine g_aload_n X dL_meet_0 rfl 3 rfl ?_
  refine g_iconst X (v := (0 : Int32)) dL_meet_1 (by decide) ?_
  refine g_aload_n X dL_meet_2 rfl 0 rfl ?_
  refine g_iload_n X dL_meet_3 rfl 1 rfl ?_
  refine g_iload_n X dL_meet_4 rfl 2 rfl ?_
  obtain ⟨a1, rfl, hk, h⟩ := h
  refine g_callYV_i X (As := [.int x1, .int x2]) (st := [.int (0 : Int32), va_rf r3]) (n := 2) (c_X3_meet hst h) rfl (by decide) hk (wE_4 G w a1) m_855 m_856 m_857 m_30 m_858 (by decide +kernel) (by decide +kernel) rfl rfl (by simp [cat_int, rf_cat]) ⟨(by decide +kernel), (by decide +kernel)⟩ dL_meet_5 (fun E w4 hE H locs ls ce q9 hG hS hl hq hv hcl => ?_) (fun v3 w2 h => ?_)
  · clear h hk
    rcases hE with ⟨rfl, h⟩ | ⟨rfl, h⟩
    · refine g_catch X (E := "java/lang/IndexOutOfBoundsException") [] ⟨0, 10, 13, 20⟩ [⟨0, 10, 17, 15⟩] (htab.trans rfl) (fun z hz => by simp at hz) (by decide) (by decide) m_377 (by decide +kernel) hG hS hl hq hv hcl ?_
      refine g_widen (c2 := (2)) (s2 := (12)) (by decide) (by decide) ?_
      refine g_astore X [(4, .inr (some q9)), (0, .inr (some a1)), (1, .inl x1), (2, .inl x2), (3, .inr r3)] dL_meet_13 (by decide) rfl ?_
      refine g_iconst X (v := (1 : Int32)) dL_meet_15 (by decide) ?_
      exact g_iretX X hr (by decide +kernel) (by decide +kernel) dL_meet_16 h
    · refine g_catch X (E := "java/lang/IllegalStateException") [⟨0, 10, 13, 20⟩] ⟨0, 10, 17, 15⟩ [] (htab.trans rfl) (fun z hz => by simp only [List.mem_cons, List.not_mem_nil, or_false] at hz; rcases hz with rfl <;> first | exact ⟨by decide, "java/lang/IndexOutOfBoundsException", m_377, by decide +kernel⟩) (by decide) (by decide) m_167 (by decide +kernel) hG hS hl hq hv hcl ?_
      refine g_widen (c2 := (2)) (s2 := (12)) (by decide) (by decide) ?_
      refine g_astore X [(4, .inr (some q9)), (0, .inr (some a1)), (1, .inl x1), (2, .inl x2), (3, .inr r3)] dL_meet_17 (by decide) rfl ?_
      refine g_iconst X (v := (2 : Int32)) dL_meet_19 (by decide) ?_
      exact g_iretX X hr (by decide +kernel) (by decide +kernel) dL_meet_20 h
  clear hk
  refine g_widen (c2 := (2)) (s2 := (12)) (by decide) (by decide) ?_
  refine g_i2l X dL_meet_8 ?_
  obtain ⟨a5, rfl, hk, h⟩ := h
  obtain ⟨j6, hi, hj, hN, h⟩ := h
  refine g_last X hk hi hj hN dL_meet_9 (fun w7 hv => ?_)
  replace h := h w7 hv; clear hv hk hi hj hN
  refine g_goto X (tgt := 21) dL_meet_10 (by decide) ?_
  refine g_iconst X (v := (0 : Int32)) dL_meet_21 (by decide) ?_
  exact g_iretX X hr (by decide +kernel) (by decide +kernel) dL_meet_22 h

abbrev rm_L_leave : Room := { frames := 12, cells := 3, slots := 18, locals := 235 }
def wp_L_leave (r0 : Option Nat) (x1 : Int32) (x2 : Int32) (r3 : Option Nat) (w : Wd) (Q : Int32 → Wd → Prop) : Prop :=
  ∃ a1, r0 = some a1 ∧ w.K a1 = 4 ∧
  wp_X3_leave a1 x1 x2 w (fun v3 w2 => 
  ∃ a5, r3 = some a5 ∧ w2.K a5 = 14 ∧
  ∃ j6 : Nat, (0 : Int32) = nI j6 ∧ j6 < w2.N a5 ∧ w2.N a5 < 2 ^ 31 ∧
  ∀ w7 : Wd, w7 = w2.setJ a5 j6 v3.toInt64 →
  Q (0 : Int32) w7) (fun E w4 => (E = "java/lang/IndexOutOfBoundsException" ∧ Q (1 : Int32) w4) ∨ (E = "java/lang/IllegalStateException" ∧ Q (2 : Int32) w4))
set_option maxHeartbeats 4000000 in
set_option maxRecDepth 100000 in
theorem c_L_leave {l : Launch} {G : GT} {L0 : Nat} (hst : l.stackTraces = false) {r0 : Option Nat} {x1 : Int32} {x2 : Int32} {r3 : Option Nat} {w : Wd} {Q : Int32 → Wd → Prop} (h : wp_L_leave r0 x1 x2 r3 w Q) : GHi l G L0 yL_leave cL_leave 5 (some .int) [(0, 10, 13, 20), (0, 10, 17, 15)] rm_L_leave [va_rf r0, .int x1, .int x2, va_rf r3] w Q := by
  refine g_enterH hst (by decide +kernel) [.inr r0, .inl x1, .inl x2, .inr r3] rfl (show 4 ≤ 5 by decide) ?_
  intro p e s m args below meth c X hr htab
  replace X : GC l G L0 p s m args meth c cL_leave 5 "SusuRingLaw" := X
  refine g_aload_n X dL_leave_0 rfl 3 rfl ?_
  refine g_iconst X (v := (0 : Int32)) dL_leave_1 (by decide) ?_
  refine g_aload_n X dL_leave_2 rfl 0 rfl ?_
  refine g_iload_n X dL_leave_3 rfl 1 rfl ?_
  refine g_iload_n X dL_leave_4 rfl 2 rfl ?_
  obtain ⟨a1, rfl, hk, h⟩ := h
  refine g_callYV_i X (As := [.int x1, .int x2]) (st := [.int (0 : Int32), va_rf r3]) (n := 2) (c_X3_leave hst h) rfl (by decide) hk (wE_4 G w a1) m_886 m_887 m_888 m_30 m_889 (by decide +kernel) (by decide +kernel) rfl rfl (by simp [cat_int, rf_cat]) ⟨(by decide +kernel), (by decide +kernel)⟩ dL_leave_5 (fun E w4 hE H locs ls ce q9 hG hS hl hq hv hcl => ?_) (fun v3 w2 h => ?_)
  · clear h hk
    rcases hE with ⟨rfl, h⟩ | ⟨rfl, h⟩
    · refine g_catch X (E := "java/lang/IndexOutOfBoundsException") [] ⟨0, 10, 13, 20⟩ [⟨0, 10, 17, 15⟩] (htab.trans rfl) (fun z hz => by simp at hz) (by decide) (by decide) m_377 (by decide +kernel) hG hS hl hq hv hcl ?_
      refine g_widen (c2 := (3)) (s2 := (18)) (by decide) (by decide) ?_
      refine g_astore X [(4, .inr (some q9)), (0, .inr (some a1)), (1, .inl x1), (2, .inl x2), (3, .inr r3)] dL_leave_13 (by decide) rfl ?_
      refine g_iconst X (v := (1 : Int32)) dL_leave_15 (by decide) ?_
      exact g_iretX X hr (by decide +kernel) (by decide +kernel) dL_leave_16 h
    · refine g_catch X (E := "java/lang/IllegalStateException") [⟨0, 10, 13, 20⟩] ⟨0, 10, 17, 15⟩ [] (htab.trans rfl) (fun z hz => by simp only [List.mem_cons, List.not_mem_nil, or_false] at hz; rcases hz with rfl <;> first | exact ⟨by decide, "java/lang/IndexOutOfBoundsException", m_377, by decide +kernel⟩) (by decide) (by decide) m_167 (by decide +kernel) hG hS hl hq hv hcl ?_
      refine g_widen (c2 := (3)) (s2 := (18)) (by decide) (by decide) ?_
      refine g_astore X [(4, .inr (some q9)), (0, .inr (some a1)), (1, .inl x1), (2, .inl x2), (3, .inr r3)] dL_leave_17 (by decide) rfl ?_
      refine g_iconst X (v := (2 : Int32)) dL_leave_19 (by decide) ?_
      exact g_iretX X hr (by decide +kernel) (by decide +kernel) dL_leave_20 h
  clear hk
  refine g_widen (c2 := (3)) (s2 := (18)) (by decide) (by decide) ?_
  refine g_i2l X dL_leave_8 ?_
  obtain ⟨a5, rfl, hk, h⟩ := h
  obtain ⟨j6, hi, hj, hN, h⟩ := h
  refine g_last X hk hi hj hN dL_leave_9 (fun w7 hv => ?_)
  replace h := h w7 hv; clear hv hk hi hj hN
  refine g_goto X (tgt := 21) dL_leave_10 (by decide) ?_
  refine g_iconst X (v := (0 : Int32)) dL_leave_21 (by decide) ?_
  exact g_iretX X hr (by decide +kernel) (by decide +kernel) dL_leave_22 h

abbrev rm_L_buy : Room := { frames := 11, cells := 3, slots := 18, locals := 209 }
def wp_L_buy (r0 : Option Nat) (x1 : Int32) (x2 : Int32) (r3 : Option Nat) (w : Wd) (Q : Int32 → Wd → Prop) : Prop :=
  ∃ a1, r0 = some a1 ∧ w.K a1 = 4 ∧
  wp_X3_buy a1 x1 x2 w (fun v3 w2 => 
  ∃ a5, r3 = some a5 ∧ w2.K a5 = 14 ∧
  ∃ j6 : Nat, (0 : Int32) = nI j6 ∧ j6 < w2.N a5 ∧ w2.N a5 < 2 ^ 31 ∧
  ∀ w7 : Wd, w7 = w2.setJ a5 j6 v3.toInt64 →
  Q (0 : Int32) w7) (fun E w4 => (E = "java/lang/IndexOutOfBoundsException" ∧ Q (1 : Int32) w4) ∨ (E = "java/lang/IllegalArgumentException" ∧ Q (2 : Int32) w4) ∨ (E = "java/lang/IllegalStateException" ∧ Q (3 : Int32) w4))
set_option maxHeartbeats 4000000 in
set_option maxRecDepth 100000 in
theorem c_L_buy {l : Launch} {G : GT} {L0 : Nat} (hst : l.stackTraces = false) {r0 : Option Nat} {x1 : Int32} {x2 : Int32} {r3 : Option Nat} {w : Wd} {Q : Int32 → Wd → Prop} (h : wp_L_buy r0 x1 x2 r3 w Q) : GHi l G L0 yL_buy cL_buy 5 (some .int) [(0, 10, 13, 20), (0, 10, 17, 13), (0, 10, 21, 15)] rm_L_buy [va_rf r0, .int x1, .int x2, va_rf r3] w Q := by
  refine g_enterH hst (by decide +kernel) [.inr r0, .inl x1, .inl x2, .inr r3] rfl (show 4 ≤ 5 by decide) ?_
  intro p e s m args below meth c X hr htab
  replace X : GC l G L0 p s m args meth c cL_buy 5 "SusuRingLaw" := X
  refine g_aload_n X dL_buy_0 rfl 3 rfl ?_
  refine g_iconst X (v := (0 : Int32)) dL_buy_1 (by decide) ?_
  refine g_aload_n X dL_buy_2 rfl 0 rfl ?_
  refine g_iload_n X dL_buy_3 rfl 1 rfl ?_
  refine g_iload_n X dL_buy_4 rfl 2 rfl ?_
  obtain ⟨a1, rfl, hk, h⟩ := h
  refine g_callYV_i X (As := [.int x1, .int x2]) (st := [.int (0 : Int32), va_rf r3]) (n := 2) (c_X3_buy hst h) rfl (by decide) hk (wE_4 G w a1) m_896 m_897 m_898 m_30 m_899 (by decide +kernel) (by decide +kernel) rfl rfl (by simp [cat_int, rf_cat]) ⟨(by decide +kernel), (by decide +kernel)⟩ dL_buy_5 (fun E w4 hE H locs ls ce q9 hG hS hl hq hv hcl => ?_) (fun v3 w2 h => ?_)
  · clear h hk
    rcases hE with ⟨rfl, h⟩ | ⟨rfl, h⟩ | ⟨rfl, h⟩
    · refine g_catch X (E := "java/lang/IndexOutOfBoundsException") [] ⟨0, 10, 13, 20⟩ [⟨0, 10, 17, 13⟩, ⟨0, 10, 21, 15⟩] (htab.trans rfl) (fun z hz => by simp at hz) (by decide) (by decide) m_377 (by decide +kernel) hG hS hl hq hv hcl ?_
      refine g_widen (c2 := (3)) (s2 := (18)) (by decide) (by decide) ?_
      refine g_astore X [(4, .inr (some q9)), (0, .inr (some a1)), (1, .inl x1), (2, .inl x2), (3, .inr r3)] dL_buy_13 (by decide) rfl ?_
      refine g_iconst X (v := (1 : Int32)) dL_buy_15 (by decide) ?_
      exact g_iretX X hr (by decide +kernel) (by decide +kernel) dL_buy_16 h
    · refine g_catch X (E := "java/lang/IllegalArgumentException") [⟨0, 10, 13, 20⟩] ⟨0, 10, 17, 13⟩ [⟨0, 10, 21, 15⟩] (htab.trans rfl) (fun z hz => by simp only [List.mem_cons, List.not_mem_nil, or_false] at hz; rcases hz with rfl <;> first | exact ⟨by decide, "java/lang/IndexOutOfBoundsException", m_377, by decide +kernel⟩) (by decide) (by decide) m_166 (by decide +kernel) hG hS hl hq hv hcl ?_
      refine g_widen (c2 := (3)) (s2 := (18)) (by decide) (by decide) ?_
      refine g_astore X [(4, .inr (some q9)), (0, .inr (some a1)), (1, .inl x1), (2, .inl x2), (3, .inr r3)] dL_buy_17 (by decide) rfl ?_
      refine g_iconst X (v := (2 : Int32)) dL_buy_19 (by decide) ?_
      exact g_iretX X hr (by decide +kernel) (by decide +kernel) dL_buy_20 h
    · refine g_catch X (E := "java/lang/IllegalStateException") [⟨0, 10, 13, 20⟩, ⟨0, 10, 17, 13⟩] ⟨0, 10, 21, 15⟩ [] (htab.trans rfl) (fun z hz => by simp only [List.mem_cons, List.not_mem_nil, or_false] at hz; rcases hz with rfl | rfl <;> first | exact ⟨by decide, "java/lang/IndexOutOfBoundsException", m_377, by decide +kernel⟩ | exact ⟨by decide, "java/lang/IllegalArgumentException", m_166, by decide +kernel⟩) (by decide) (by decide) m_167 (by decide +kernel) hG hS hl hq hv hcl ?_
      refine g_widen (c2 := (3)) (s2 := (18)) (by decide) (by decide) ?_
      refine g_astore X [(4, .inr (some q9)), (0, .inr (some a1)), (1, .inl x1), (2, .inl x2), (3, .inr r3)] dL_buy_21 (by decide) rfl ?_
      refine g_iconst X (v := (3 : Int32)) dL_buy_23 (by decide) ?_
      exact g_iretX X hr (by decide +kernel) (by decide +kernel) dL_buy_24 h
  clear hk
  refine g_widen (c2 := (3)) (s2 := (18)) (by decide) (by decide) ?_
  refine g_i2l X dL_buy_8 ?_
  obtain ⟨a5, rfl, hk, h⟩ := h
  obtain ⟨j6, hi, hj, hN, h⟩ := h
  refine g_last X hk hi hj hN dL_buy_9 (fun w7 hv => ?_)
  replace h := h w7 hv; clear hv hk hi hj hN
  refine g_goto X (tgt := 25) dL_buy_10 (by decide) ?_
  refine g_iconst X (v := (0 : Int32)) dL_buy_25 (by decide) ?_
  exact g_iretX X hr (by decide +kernel) (by decide +kernel) dL_buy_26 h

abbrev rm_L_borrow : Room := { frames := 12, cells := 7, slots := 42, locals := 236 }
def wp_L_borrow (r0 : Option Nat) (x1 : Int32) (x2 : Int32) (x3 : Int32) (x4 : Int32) (r5 : Option Nat) (w : Wd) (Q : Int32 → Wd → Prop) : Prop :=
  ∃ a1, r0 = some a1 ∧ w.K a1 = 4 ∧
  wp_X3_borrow a1 x1 x2 x3 x4 w (fun v3 w2 => 
  ∃ a5, r5 = some a5 ∧ w2.K a5 = 14 ∧
  ∃ j6 : Nat, (0 : Int32) = nI j6 ∧ j6 < w2.N a5 ∧ w2.N a5 < 2 ^ 31 ∧
  ∀ w7 : Wd, w7 = w2.setJ a5 j6 v3.toInt64 →
  Q (0 : Int32) w7) (fun E w4 => (E = "java/lang/IndexOutOfBoundsException" ∧ Q (1 : Int32) w4) ∨ (E = "java/lang/IllegalArgumentException" ∧ Q (2 : Int32) w4) ∨ (E = "java/lang/IllegalStateException" ∧ Q (3 : Int32) w4))
set_option maxHeartbeats 4000000 in
set_option maxRecDepth 100000 in
theorem c_L_borrow {l : Launch} {G : GT} {L0 : Nat} (hst : l.stackTraces = false) {r0 : Option Nat} {x1 : Int32} {x2 : Int32} {x3 : Int32} {x4 : Int32} {r5 : Option Nat} {w : Wd} {Q : Int32 → Wd → Prop} (h : wp_L_borrow r0 x1 x2 x3 x4 r5 w Q) : GHi l G L0 yL_borrow cL_borrow 7 (some .int) [(0, 14, 17, 20), (0, 14, 21, 13), (0, 14, 25, 15)] rm_L_borrow [va_rf r0, .int x1, .int x2, .int x3, .int x4, va_rf r5] w Q := by
  refine g_enterH hst (by decide +kernel) [.inr r0, .inl x1, .inl x2, .inl x3, .inl x4, .inr r5] rfl (show 6 ≤ 7 by decide) ?_
  intro p e s m args below meth c X hr htab
  replace X : GC l G L0 p s m args meth c cL_borrow 7 "SusuRingLaw" := X
  refine g_aload X dL_borrow_0 5 rfl ?_
  refine g_iconst X (v := (0 : Int32)) dL_borrow_2 (by decide) ?_
  refine g_aload_n X dL_borrow_3 rfl 0 rfl ?_
  refine g_iload_n X dL_borrow_4 rfl 1 rfl ?_
  refine g_iload_n X dL_borrow_5 rfl 2 rfl ?_
  refine g_iload_n X dL_borrow_6 rfl 3 rfl ?_
  refine g_iload X dL_borrow_7 4 rfl ?_
  obtain ⟨a1, rfl, hk, h⟩ := h
  refine g_callYV_i X (As := [.int x1, .int x2, .int x3, .int x4]) (st := [.int (0 : Int32), va_rf r5]) (n := 4) (c_X3_borrow hst h) rfl (by decide) hk (wE_4 G w a1) m_904 m_905 m_906 m_30 m_907 (by decide +kernel) (by decide +kernel) rfl rfl (by simp [cat_int, rf_cat]) ⟨(by decide +kernel), (by decide +kernel)⟩ dL_borrow_9 (fun E w4 hE H locs ls ce q9 hG hS hl hq hv hcl => ?_) (fun v3 w2 h => ?_)
  · clear h hk
    rcases hE with ⟨rfl, h⟩ | ⟨rfl, h⟩ | ⟨rfl, h⟩
    · refine g_catch X (E := "java/lang/IndexOutOfBoundsException") [] ⟨0, 14, 17, 20⟩ [⟨0, 14, 21, 13⟩, ⟨0, 14, 25, 15⟩] (htab.trans rfl) (fun z hz => by simp at hz) (by decide) (by decide) m_377 (by decide +kernel) hG hS hl hq hv hcl ?_
      refine g_widen (c2 := (7)) (s2 := (42)) (by decide) (by decide) ?_
      refine g_astore X [(6, .inr (some q9)), (0, .inr (some a1)), (1, .inl x1), (2, .inl x2), (3, .inl x3), (4, .inl x4), (5, .inr r5)] dL_borrow_17 (by decide) rfl ?_
      refine g_iconst X (v := (1 : Int32)) dL_borrow_19 (by decide) ?_
      exact g_iretX X hr (by decide +kernel) (by decide +kernel) dL_borrow_20 h
    · refine g_catch X (E := "java/lang/IllegalArgumentException") [⟨0, 14, 17, 20⟩] ⟨0, 14, 21, 13⟩ [⟨0, 14, 25, 15⟩] (htab.trans rfl) (fun z hz => by simp only [List.mem_cons, List.not_mem_nil, or_false] at hz; rcases hz with rfl <;> first | exact ⟨by decide, "java/lang/IndexOutOfBoundsException", m_377, by decide +kernel⟩) (by decide) (by decide) m_166 (by decide +kernel) hG hS hl hq hv hcl ?_
      refine g_widen (c2 := (7)) (s2 := (42)) (by decide) (by decide) ?_
      refine g_astore X [(6, .inr (some q9)), (0, .inr (some a1)), (1, .inl x1), (2, .inl x2), (3, .inl x3), (4, .inl x4), (5, .inr r5)] dL_borrow_21 (by decide) rfl ?_
      refine g_iconst X (v := (2 : Int32)) dL_borrow_23 (by decide) ?_
      exact g_iretX X hr (by decide +kernel) (by decide +kernel) dL_borrow_24 h
    · refine g_catch X (E := "java/lang/IllegalStateException") [⟨0, 14, 17, 20⟩, ⟨0, 14, 21, 13⟩] ⟨0, 14, 25, 15⟩ [] (htab.trans rfl) (fun z hz => by simp only [List.mem_cons, List.not_mem_nil, or_false] at hz; rcases hz with rfl | rfl <;> first | exact ⟨by decide, "java/lang/IndexOutOfBoundsException", m_377, by decide +kernel⟩ | exact ⟨by decide, "java/lang/IllegalArgumentException", m_166, by decide +kernel⟩) (by decide) (by decide) m_167 (by decide +kernel) hG hS hl hq hv hcl ?_
      refine g_widen (c2 := (7)) (s2 := (42)) (by decide) (by decide) ?_
      refine g_astore X [(6, .inr (some q9)), (0, .inr (some a1)), (1, .inl x1), (2, .inl x2), (3, .inl x3), (4, .inl x4), (5, .inr r5)] dL_borrow_25 (by decide) rfl ?_
      refine g_iconst X (v := (3 : Int32)) dL_borrow_27 (by decide) ?_
      exact g_iretX X hr (by decide +kernel) (by decide +kernel) dL_borrow_28 h
  clear hk
  refine g_widen (c2 := (7)) (s2 := (42)) (by decide) (by decide) ?_
  refine g_i2l X dL_borrow_12 ?_
  obtain ⟨a5, rfl, hk, h⟩ := h
  obtain ⟨j6, hi, hj, hN, h⟩ := h
  refine g_last X hk hi hj hN dL_borrow_13 (fun w7 hv => ?_)
  replace h := h w7 hv; clear hv hk hi hj hN
  refine g_goto X (tgt := 29) dL_borrow_14 (by decide) ?_
  refine g_iconst X (v := (0 : Int32)) dL_borrow_29 (by decide) ?_
  exact g_iretX X hr (by decide +kernel) (by decide +kernel) dL_borrow_30 h

abbrev rm_L_repay : Room := { frames := 11, cells := 3, slots := 18, locals := 209 }
def wp_L_repay (r0 : Option Nat) (x1 : Int32) (x2 : Int32) (r3 : Option Nat) (w : Wd) (Q : Int32 → Wd → Prop) : Prop :=
  ∃ a1, r0 = some a1 ∧ w.K a1 = 4 ∧
  wp_X3_repay a1 x1 x2 w (fun v3 w2 => 
  ∃ a5, r3 = some a5 ∧ w2.K a5 = 14 ∧
  ∃ j6 : Nat, (0 : Int32) = nI j6 ∧ j6 < w2.N a5 ∧ w2.N a5 < 2 ^ 31 ∧
  ∀ w7 : Wd, w7 = w2.setJ a5 j6 v3.toInt64 →
  Q (0 : Int32) w7) (fun E w4 => (E = "java/lang/IndexOutOfBoundsException" ∧ Q (1 : Int32) w4) ∨ (E = "java/lang/IllegalArgumentException" ∧ Q (2 : Int32) w4) ∨ (E = "java/lang/IllegalStateException" ∧ Q (3 : Int32) w4))
set_option maxHeartbeats 4000000 in
set_option maxRecDepth 100000 in
theorem c_L_repay {l : Launch} {G : GT} {L0 : Nat} (hst : l.stackTraces = false) {r0 : Option Nat} {x1 : Int32} {x2 : Int32} {r3 : Option Nat} {w : Wd} {Q : Int32 → Wd → Prop} (h : wp_L_repay r0 x1 x2 r3 w Q) : GHi l G L0 yL_repay cL_repay 5 (some .int) [(0, 10, 13, 20), (0, 10, 17, 13), (0, 10, 21, 15)] rm_L_repay [va_rf r0, .int x1, .int x2, va_rf r3] w Q := by
  refine g_enterH hst (by decide +kernel) [.inr r0, .inl x1, .inl x2, .inr r3] rfl (show 4 ≤ 5 by decide) ?_
  intro p e s m args below meth c X hr htab
  replace X : GC l G L0 p s m args meth c cL_repay 5 "SusuRingLaw" := X
  refine g_aload_n X dL_repay_0 rfl 3 rfl ?_
  refine g_iconst X (v := (0 : Int32)) dL_repay_1 (by decide) ?_
  refine g_aload_n X dL_repay_2 rfl 0 rfl ?_
  refine g_iload_n X dL_repay_3 rfl 1 rfl ?_
  refine g_iload_n X dL_repay_4 rfl 2 rfl ?_
  obtain ⟨a1, rfl, hk, h⟩ := h
  refine g_callYV_i X (As := [.int x1, .int x2]) (st := [.int (0 : Int32), va_rf r3]) (n := 2) (c_X3_repay hst h) rfl (by decide) hk (wE_4 G w a1) m_935 m_936 m_937 m_30 m_938 (by decide +kernel) (by decide +kernel) rfl rfl (by simp [cat_int, rf_cat]) ⟨(by decide +kernel), (by decide +kernel)⟩ dL_repay_5 (fun E w4 hE H locs ls ce q9 hG hS hl hq hv hcl => ?_) (fun v3 w2 h => ?_)
  · clear h hk
    rcases hE with ⟨rfl, h⟩ | ⟨rfl, h⟩ | ⟨rfl, h⟩
    · refine g_catch X (E := "java/lang/IndexOutOfBoundsException") [] ⟨0, 10, 13, 20⟩ [⟨0, 10, 17, 13⟩, ⟨0, 10, 21, 15⟩] (htab.trans rfl) (fun z hz => by simp at hz) (by decide) (by decide) m_377 (by decide +kernel) hG hS hl hq hv hcl ?_
      refine g_widen (c2 := (3)) (s2 := (18)) (by decide) (by decide) ?_
      refine g_astore X [(4, .inr (some q9)), (0, .inr (some a1)), (1, .inl x1), (2, .inl x2), (3, .inr r3)] dL_repay_13 (by decide) rfl ?_
      refine g_iconst X (v := (1 : Int32)) dL_repay_15 (by decide) ?_
      exact g_iretX X hr (by decide +kernel) (by decide +kernel) dL_repay_16 h
    · refine g_catch X (E := "java/lang/IllegalArgumentException") [⟨0, 10, 13, 20⟩] ⟨0, 10, 17, 13⟩ [⟨0, 10, 21, 15⟩] (htab.trans rfl) (fun z hz => by simp only [List.mem_cons, List.not_mem_nil, or_false] at hz; rcases hz with rfl <;> first | exact ⟨by decide, "java/lang/IndexOutOfBoundsException", m_377, by decide +kernel⟩) (by decide) (by decide) m_166 (by decide +kernel) hG hS hl hq hv hcl ?_
      refine g_widen (c2 := (3)) (s2 := (18)) (by decide) (by decide) ?_
      refine g_astore X [(4, .inr (some q9)), (0, .inr (some a1)), (1, .inl x1), (2, .inl x2), (3, .inr r3)] dL_repay_17 (by decide) rfl ?_
      refine g_iconst X (v := (2 : Int32)) dL_repay_19 (by decide) ?_
      exact g_iretX X hr (by decide +kernel) (by decide +kernel) dL_repay_20 h
    · refine g_catch X (E := "java/lang/IllegalStateException") [⟨0, 10, 13, 20⟩, ⟨0, 10, 17, 13⟩] ⟨0, 10, 21, 15⟩ [] (htab.trans rfl) (fun z hz => by simp only [List.mem_cons, List.not_mem_nil, or_false] at hz; rcases hz with rfl | rfl <;> first | exact ⟨by decide, "java/lang/IndexOutOfBoundsException", m_377, by decide +kernel⟩ | exact ⟨by decide, "java/lang/IllegalArgumentException", m_166, by decide +kernel⟩) (by decide) (by decide) m_167 (by decide +kernel) hG hS hl hq hv hcl ?_
      refine g_widen (c2 := (3)) (s2 := (18)) (by decide) (by decide) ?_
      refine g_astore X [(4, .inr (some q9)), (0, .inr (some a1)), (1, .inl x1), (2, .inl x2), (3, .inr r3)] dL_repay_21 (by decide) rfl ?_
      refine g_iconst X (v := (3 : Int32)) dL_repay_23 (by decide) ?_
      exact g_iretX X hr (by decide +kernel) (by decide +kernel) dL_repay_24 h
  clear hk
  refine g_widen (c2 := (3)) (s2 := (18)) (by decide) (by decide) ?_
  refine g_i2l X dL_repay_8 ?_
  obtain ⟨a5, rfl, hk, h⟩ := h
  obtain ⟨j6, hi, hj, hN, h⟩ := h
  refine g_last X hk hi hj hN dL_repay_9 (fun w7 hv => ?_)
  replace h := h w7 hv; clear hv hk hi hj hN
  refine g_goto X (tgt := 25) dL_repay_10 (by decide) ?_
  refine g_iconst X (v := (0 : Int32)) dL_repay_25 (by decide) ?_
  exact g_iretX X hr (by decide +kernel) (by decide +kernel) dL_repay_26 h

abbrev rm_L_feast : Room := { frames := 10, cells := 1, slots := 6, locals := 189 }
def wp_L_feast (r0 : Option Nat) (r1 : Option Nat) (w : Wd) (Q : Int32 → Wd → Prop) : Prop :=
  ∃ a1, r0 = some a1 ∧ w.K a1 = 4 ∧
  wp_X3_feast a1 w (fun v3 w2 => 
  ∃ a5, r1 = some a5 ∧ w2.K a5 = 14 ∧
  ∃ j6 : Nat, (0 : Int32) = nI j6 ∧ j6 < w2.N a5 ∧ w2.N a5 < 2 ^ 31 ∧
  ∀ w7 : Wd, w7 = w2.setJ a5 j6 v3.toInt64 →
  Q (0 : Int32) w7) (fun E w4 => (E = "java/lang/IllegalStateException" ∧ Q (1 : Int32) w4))
set_option maxHeartbeats 4000000 in
set_option maxRecDepth 100000 in
theorem c_L_feast {l : Launch} {G : GT} {L0 : Nat} (hst : l.stackTraces = false) {r0 : Option Nat} {r1 : Option Nat} {w : Wd} {Q : Int32 → Wd → Prop} (h : wp_L_feast r0 r1 w Q) : GHi l G L0 yL_feast cL_feast 3 (some .int) [(0, 8, 11, 15)] rm_L_feast [va_rf r0, va_rf r1] w Q := by
  refine g_enterH hst (by decide +kernel) [.inr r0, .inr r1] rfl (show 2 ≤ 3 by decide) ?_
  intro p e s m args below meth c X hr htab
  replace X : GC l G L0 p s m args meth c cL_feast 3 "SusuRingLaw" := X
  refine g_aload_n X dL_feast_0 rfl 1 rfl ?_
  refine g_iconst X (v := (0 : Int32)) dL_feast_1 (by decide) ?_
  refine g_aload_n X dL_feast_2 rfl 0 rfl ?_
  obtain ⟨a1, rfl, hk, h⟩ := h
  refine g_callYV_i X (As := []) (st := [.int (0 : Int32), va_rf r1]) (n := 0) (c_X3_feast hst h) rfl (by decide) hk (wE_4 G w a1) m_943 m_944 m_945 m_30 m_946 (by decide +kernel) (by decide +kernel) rfl rfl (by simp [cat_int, rf_cat]) ⟨(by decide +kernel), (by decide +kernel)⟩ dL_feast_3 (fun E w4 hE H locs ls ce q9 hG hS hl hq hv hcl => ?_) (fun v3 w2 h => ?_)
  · clear h hk
    rcases hE with ⟨rfl, h⟩
    · refine g_catch X (E := "java/lang/IllegalStateException") [] ⟨0, 8, 11, 15⟩ [] (htab.trans rfl) (fun z hz => by simp at hz) (by decide) (by decide) m_167 (by decide +kernel) hG hS hl hq hv hcl ?_
      refine g_widen (c2 := (1)) (s2 := (6)) (by decide) (by decide) ?_
      refine g_astore_n X [(2, .inr (some q9)), (0, .inr (some a1)), (1, .inr r1)] dL_feast_11 rfl (by decide) rfl ?_
      refine g_iconst X (v := (1 : Int32)) dL_feast_12 (by decide) ?_
      exact g_iretX X hr (by decide +kernel) (by decide +kernel) dL_feast_13 h
  clear hk
  refine g_widen (c2 := (1)) (s2 := (6)) (by decide) (by decide) ?_
  refine g_i2l X dL_feast_6 ?_
  obtain ⟨a5, rfl, hk, h⟩ := h
  obtain ⟨j6, hi, hj, hN, h⟩ := h
  refine g_last X hk hi hj hN dL_feast_7 (fun w7 hv => ?_)
  replace h := h w7 hv; clear hv hk hi hj hN
  refine g_goto X (tgt := 14) dL_feast_8 (by decide) ?_
  refine g_iconst X (v := (0 : Int32)) dL_feast_14 (by decide) ?_
  exact g_iretX X hr (by decide +kernel) (by decide +kernel) dL_feast_15 h

abbrev rm_L_note : Room := { frames := 11, cells := 3, slots := 18, locals := 209 }
def wp_L_note (r0 : Option Nat) (x1 : Int32) (x2 : Int32) (x3 : Int32) (r4 : Option Nat) (w : Wd) (Q : Int32 → Wd → Prop) : Prop :=
  ∃ a1, r0 = some a1 ∧ w.K a1 = 4 ∧
  wp_X3_note a1 x1 x2 x3 w (fun v3 w2 => 
  ∃ a5, r4 = some a5 ∧ w2.K a5 = 14 ∧
  ∃ j6 : Nat, (0 : Int32) = nI j6 ∧ j6 < w2.N a5 ∧ w2.N a5 < 2 ^ 31 ∧
  ∀ w7 : Wd, w7 = w2.setJ a5 j6 v3.toInt64 →
  Q (0 : Int32) w7) (fun E w4 => (E = "java/lang/IndexOutOfBoundsException" ∧ Q (1 : Int32) w4) ∨ (E = "java/lang/IllegalArgumentException" ∧ Q (2 : Int32) w4))
set_option maxHeartbeats 4000000 in
set_option maxRecDepth 100000 in
theorem c_L_note {l : Launch} {G : GT} {L0 : Nat} (hst : l.stackTraces = false) {r0 : Option Nat} {x1 : Int32} {x2 : Int32} {x3 : Int32} {r4 : Option Nat} {w : Wd} {Q : Int32 → Wd → Prop} (h : wp_L_note r0 x1 x2 x3 r4 w Q) : GHi l G L0 yL_note cL_note 6 (some .int) [(0, 12, 15, 20), (0, 12, 19, 13)] rm_L_note [va_rf r0, .int x1, .int x2, .int x3, va_rf r4] w Q := by
  refine g_enterH hst (by decide +kernel) [.inr r0, .inl x1, .inl x2, .inl x3, .inr r4] rfl (show 5 ≤ 6 by decide) ?_
  intro p e s m args below meth c X hr htab
  replace X : GC l G L0 p s m args meth c cL_note 6 "SusuRingLaw" := X
  refine g_aload X dL_note_0 4 rfl ?_
  refine g_iconst X (v := (0 : Int32)) dL_note_2 (by decide) ?_
  refine g_aload_n X dL_note_3 rfl 0 rfl ?_
  refine g_iload_n X dL_note_4 rfl 1 rfl ?_
  refine g_iload_n X dL_note_5 rfl 2 rfl ?_
  refine g_iload_n X dL_note_6 rfl 3 rfl ?_
  obtain ⟨a1, rfl, hk, h⟩ := h
  refine g_callYV_i X (As := [.int x1, .int x2, .int x3]) (st := [.int (0 : Int32), va_rf r4]) (n := 3) (c_X3_note hst h) rfl (by decide) hk (wE_4 G w a1) m_952 m_953 m_954 m_30 m_955 (by decide +kernel) (by decide +kernel) rfl rfl (by simp [cat_int, rf_cat]) ⟨(by decide +kernel), (by decide +kernel)⟩ dL_note_7 (fun E w4 hE H locs ls ce q9 hG hS hl hq hv hcl => ?_) (fun v3 w2 h => ?_)
  · clear h hk
    rcases hE with ⟨rfl, h⟩ | ⟨rfl, h⟩
    · refine g_catch X (E := "java/lang/IndexOutOfBoundsException") [] ⟨0, 12, 15, 20⟩ [⟨0, 12, 19, 13⟩] (htab.trans rfl) (fun z hz => by simp at hz) (by decide) (by decide) m_377 (by decide +kernel) hG hS hl hq hv hcl ?_
      refine g_widen (c2 := (3)) (s2 := (18)) (by decide) (by decide) ?_
      refine g_astore X [(5, .inr (some q9)), (0, .inr (some a1)), (1, .inl x1), (2, .inl x2), (3, .inl x3), (4, .inr r4)] dL_note_15 (by decide) rfl ?_
      refine g_iconst X (v := (1 : Int32)) dL_note_17 (by decide) ?_
      exact g_iretX X hr (by decide +kernel) (by decide +kernel) dL_note_18 h
    · refine g_catch X (E := "java/lang/IllegalArgumentException") [⟨0, 12, 15, 20⟩] ⟨0, 12, 19, 13⟩ [] (htab.trans rfl) (fun z hz => by simp only [List.mem_cons, List.not_mem_nil, or_false] at hz; rcases hz with rfl <;> first | exact ⟨by decide, "java/lang/IndexOutOfBoundsException", m_377, by decide +kernel⟩) (by decide) (by decide) m_166 (by decide +kernel) hG hS hl hq hv hcl ?_
      refine g_widen (c2 := (3)) (s2 := (18)) (by decide) (by decide) ?_
      refine g_astore X [(5, .inr (some q9)), (0, .inr (some a1)), (1, .inl x1), (2, .inl x2), (3, .inl x3), (4, .inr r4)] dL_note_19 (by decide) rfl ?_
      refine g_iconst X (v := (2 : Int32)) dL_note_21 (by decide) ?_
      exact g_iretX X hr (by decide +kernel) (by decide +kernel) dL_note_22 h
  clear hk
  refine g_widen (c2 := (3)) (s2 := (18)) (by decide) (by decide) ?_
  refine g_i2l X dL_note_10 ?_
  obtain ⟨a5, rfl, hk, h⟩ := h
  obtain ⟨j6, hi, hj, hN, h⟩ := h
  refine g_last X hk hi hj hN dL_note_11 (fun w7 hv => ?_)
  replace h := h w7 hv; clear hv hk hi hj hN
  refine g_goto X (tgt := 23) dL_note_12 (by decide) ?_
  refine g_iconst X (v := (0 : Int32)) dL_note_23 (by decide) ?_
  exact g_iretX X hr (by decide +kernel) (by decide +kernel) dL_note_24 h

abbrev rm_L_audit : Room := { frames := 10, cells := 1, slots := 6, locals := 187 }
def wp_L_audit (r0 : Option Nat) (x1 : Int32) (r2 : Option Nat) (w : Wd) (Q : Int32 → Wd → Prop) : Prop :=
  ∃ a1, r0 = some a1 ∧ w.K a1 = 4 ∧
  wp_X3_audit a1 x1 w (fun v3 w2 => 
  ∃ a5, r2 = some a5 ∧ w2.K a5 = 14 ∧
  ∃ j6 : Nat, (0 : Int32) = nI j6 ∧ j6 < w2.N a5 ∧ w2.N a5 < 2 ^ 31 ∧
  ∀ w7 : Wd, w7 = w2.setJ a5 j6 v3.toInt64 →
  Q (0 : Int32) w7) (fun E w4 => (E = "java/lang/IndexOutOfBoundsException" ∧ Q (1 : Int32) w4))
set_option maxHeartbeats 4000000 in
set_option maxRecDepth 100000 in
theorem c_L_audit {l : Launch} {G : GT} {L0 : Nat} (hst : l.stackTraces = false) {r0 : Option Nat} {x1 : Int32} {r2 : Option Nat} {w : Wd} {Q : Int32 → Wd → Prop} (h : wp_L_audit r0 x1 r2 w Q) : GHi l G L0 yL_audit cL_audit 4 (some .int) [(0, 9, 12, 20)] rm_L_audit [va_rf r0, .int x1, va_rf r2] w Q := by
  refine g_enterH hst (by decide +kernel) [.inr r0, .inl x1, .inr r2] rfl (show 3 ≤ 4 by decide) ?_
  intro p e s m args below meth c X hr htab
  replace X : GC l G L0 p s m args meth c cL_audit 4 "SusuRingLaw" := X
  refine g_aload_n X dL_audit_0 rfl 2 rfl ?_
  refine g_iconst X (v := (0 : Int32)) dL_audit_1 (by decide) ?_
  refine g_aload_n X dL_audit_2 rfl 0 rfl ?_
  refine g_iload_n X dL_audit_3 rfl 1 rfl ?_
  obtain ⟨a1, rfl, hk, h⟩ := h
  refine g_callYV_i X (As := [.int x1]) (st := [.int (0 : Int32), va_rf r2]) (n := 1) (c_X3_audit hst h) rfl (by decide) hk (wE_4 G w a1) m_960 m_961 m_962 m_30 m_963 (by decide +kernel) (by decide +kernel) rfl rfl (by simp [cat_int, rf_cat]) ⟨(by decide +kernel), (by decide +kernel)⟩ dL_audit_4 (fun E w4 hE H locs ls ce q9 hG hS hl hq hv hcl => ?_) (fun v3 w2 h => ?_)
  · clear h hk
    rcases hE with ⟨rfl, h⟩
    · refine g_catch X (E := "java/lang/IndexOutOfBoundsException") [] ⟨0, 9, 12, 20⟩ [] (htab.trans rfl) (fun z hz => by simp at hz) (by decide) (by decide) m_377 (by decide +kernel) hG hS hl hq hv hcl ?_
      refine g_widen (c2 := (1)) (s2 := (6)) (by decide) (by decide) ?_
      refine g_astore_n X [(3, .inr (some q9)), (0, .inr (some a1)), (1, .inl x1), (2, .inr r2)] dL_audit_12 rfl (by decide) rfl ?_
      refine g_iconst X (v := (1 : Int32)) dL_audit_13 (by decide) ?_
      exact g_iretX X hr (by decide +kernel) (by decide +kernel) dL_audit_14 h
  clear hk
  refine g_widen (c2 := (1)) (s2 := (6)) (by decide) (by decide) ?_
  refine g_i2l X dL_audit_7 ?_
  obtain ⟨a5, rfl, hk, h⟩ := h
  obtain ⟨j6, hi, hj, hN, h⟩ := h
  refine g_last X hk hi hj hN dL_audit_8 (fun w7 hv => ?_)
  replace h := h w7 hv; clear hv hk hi hj hN
  refine g_goto X (tgt := 15) dL_audit_9 (by decide) ?_
  refine g_iconst X (v := (0 : Int32)) dL_audit_15 (by decide) ?_
  exact g_iretX X hr (by decide +kernel) (by decide +kernel) dL_audit_16 h

abbrev rm_L_of : Room := { frames := 11, cells := 2, slots := 12, locals := 211 }
def wp_L_of (r0 : Option Nat) (x1 : Int32) (x2 : Int32) (r3 : Option Nat) (w : Wd) (Q : Int32 → Wd → Prop) : Prop :=
  ∃ a1, r0 = some a1 ∧ w.K a1 = 4 ∧
  wp_X3_of a1 x1 x2 w (fun v3 w2 => 
  ∃ a5, r3 = some a5 ∧ w2.K a5 = 14 ∧
  ∃ j6 : Nat, (0 : Int32) = nI j6 ∧ j6 < w2.N a5 ∧ w2.N a5 < 2 ^ 31 ∧
  ∀ w7 : Wd, w7 = w2.setJ a5 j6 v3.toInt64 →
  Q (0 : Int32) w7) (fun E w4 => (E = "java/lang/IndexOutOfBoundsException" ∧ Q (1 : Int32) w4) ∨ (E = "java/lang/IllegalArgumentException" ∧ Q (2 : Int32) w4))
set_option maxHeartbeats 4000000 in
set_option maxRecDepth 100000 in
theorem c_L_of {l : Launch} {G : GT} {L0 : Nat} (hst : l.stackTraces = false) {r0 : Option Nat} {x1 : Int32} {x2 : Int32} {r3 : Option Nat} {w : Wd} {Q : Int32 → Wd → Prop} (h : wp_L_of r0 x1 x2 r3 w Q) : GHi l G L0 yL_of cL_of 5 (some .int) [(0, 10, 13, 20), (0, 10, 17, 13)] rm_L_of [va_rf r0, .int x1, .int x2, va_rf r3] w Q := by
  refine g_enterH hst (by decide +kernel) [.inr r0, .inl x1, .inl x2, .inr r3] rfl (show 4 ≤ 5 by decide) ?_
  intro p e s m args below meth c X hr htab
  replace X : GC l G L0 p s m args meth c cL_of 5 "SusuRingLaw" := X
  refine g_aload_n X dL_of_0 rfl 3 rfl ?_
  refine g_iconst X (v := (0 : Int32)) dL_of_1 (by decide) ?_
  refine g_aload_n X dL_of_2 rfl 0 rfl ?_
  refine g_iload_n X dL_of_3 rfl 1 rfl ?_
  refine g_iload_n X dL_of_4 rfl 2 rfl ?_
  obtain ⟨a1, rfl, hk, h⟩ := h
  refine g_callYV_i X (As := [.int x1, .int x2]) (st := [.int (0 : Int32), va_rf r3]) (n := 2) (c_X3_of hst h) rfl (by decide) hk (wE_4 G w a1) m_967 m_968 m_969 m_30 m_970 (by decide +kernel) (by decide +kernel) rfl rfl (by simp [cat_int, rf_cat]) ⟨(by decide +kernel), (by decide +kernel)⟩ dL_of_5 (fun E w4 hE H locs ls ce q9 hG hS hl hq hv hcl => ?_) (fun v3 w2 h => ?_)
  · clear h hk
    rcases hE with ⟨rfl, h⟩ | ⟨rfl, h⟩
    · refine g_catch X (E := "java/lang/IndexOutOfBoundsException") [] ⟨0, 10, 13, 20⟩ [⟨0, 10, 17, 13⟩] (htab.trans rfl) (fun z hz => by simp at hz) (by decide) (by decide) m_377 (by decide +kernel) hG hS hl hq hv hcl ?_
      refine g_widen (c2 := (2)) (s2 := (12)) (by decide) (by decide) ?_
      refine g_astore X [(4, .inr (some q9)), (0, .inr (some a1)), (1, .inl x1), (2, .inl x2), (3, .inr r3)] dL_of_13 (by decide) rfl ?_
      refine g_iconst X (v := (1 : Int32)) dL_of_15 (by decide) ?_
      exact g_iretX X hr (by decide +kernel) (by decide +kernel) dL_of_16 h
    · refine g_catch X (E := "java/lang/IllegalArgumentException") [⟨0, 10, 13, 20⟩] ⟨0, 10, 17, 13⟩ [] (htab.trans rfl) (fun z hz => by simp only [List.mem_cons, List.not_mem_nil, or_false] at hz; rcases hz with rfl <;> first | exact ⟨by decide, "java/lang/IndexOutOfBoundsException", m_377, by decide +kernel⟩) (by decide) (by decide) m_166 (by decide +kernel) hG hS hl hq hv hcl ?_
      refine g_widen (c2 := (2)) (s2 := (12)) (by decide) (by decide) ?_
      refine g_astore X [(4, .inr (some q9)), (0, .inr (some a1)), (1, .inl x1), (2, .inl x2), (3, .inr r3)] dL_of_17 (by decide) rfl ?_
      refine g_iconst X (v := (2 : Int32)) dL_of_19 (by decide) ?_
      exact g_iretX X hr (by decide +kernel) (by decide +kernel) dL_of_20 h
  clear hk
  refine g_widen (c2 := (2)) (s2 := (12)) (by decide) (by decide) ?_
  refine g_i2l X dL_of_8 ?_
  obtain ⟨a5, rfl, hk, h⟩ := h
  obtain ⟨j6, hi, hj, hN, h⟩ := h
  refine g_last X hk hi hj hN dL_of_9 (fun w7 hv => ?_)
  replace h := h w7 hv; clear hv hk hi hj hN
  refine g_goto X (tgt := 21) dL_of_10 (by decide) ?_
  refine g_iconst X (v := (0 : Int32)) dL_of_21 (by decide) ?_
  exact g_iretX X hr (by decide +kernel) (by decide +kernel) dL_of_22 h

abbrev rm_L_member : Room := { frames := 12, cells := 3, slots := 18, locals := 234 }
def wp_L_member (r0 : Option Nat) (x1 : Int32) (x2 : Int32) (x3 : Int32) (r4 : Option Nat) (w : Wd) (Q : Int32 → Wd → Prop) : Prop :=
  ∃ a1, r0 = some a1 ∧ w.K a1 = 4 ∧
  wp_X3_member a1 x1 x2 x3 w (fun v3 w2 => 
  ∃ a5, r4 = some a5 ∧ w2.K a5 = 14 ∧
  ∃ j6 : Nat, (0 : Int32) = nI j6 ∧ j6 < w2.N a5 ∧ w2.N a5 < 2 ^ 31 ∧
  ∀ w7 : Wd, w7 = w2.setJ a5 j6 v3.toInt64 →
  Q (0 : Int32) w7) (fun E w4 => (E = "java/lang/IndexOutOfBoundsException" ∧ Q (1 : Int32) w4) ∨ (E = "java/lang/IllegalArgumentException" ∧ Q (2 : Int32) w4))
set_option maxHeartbeats 4000000 in
set_option maxRecDepth 100000 in
theorem c_L_member {l : Launch} {G : GT} {L0 : Nat} (hst : l.stackTraces = false) {r0 : Option Nat} {x1 : Int32} {x2 : Int32} {x3 : Int32} {r4 : Option Nat} {w : Wd} {Q : Int32 → Wd → Prop} (h : wp_L_member r0 x1 x2 x3 r4 w Q) : GHi l G L0 yL_member cL_member 6 (some .int) [(0, 12, 15, 20), (0, 12, 19, 13)] rm_L_member [va_rf r0, .int x1, .int x2, .int x3, va_rf r4] w Q := by
  refine g_enterH hst (by decide +kernel) [.inr r0, .inl x1, .inl x2, .inl x3, .inr r4] rfl (show 5 ≤ 6 by decide) ?_
  intro p e s m args below meth c X hr htab
  replace X : GC l G L0 p s m args meth c cL_member 6 "SusuRingLaw" := X
  refine g_aload X dL_member_0 4 rfl ?_
  refine g_iconst X (v := (0 : Int32)) dL_member_2 (by decide) ?_
  refine g_aload_n X dL_member_3 rfl 0 rfl ?_
  refine g_iload_n X dL_member_4 rfl 1 rfl ?_
  refine g_iload_n X dL_member_5 rfl 2 rfl ?_
  refine g_iload_n X dL_member_6 rfl 3 rfl ?_
  obtain ⟨a1, rfl, hk, h⟩ := h
  refine g_callYV_i X (As := [.int x1, .int x2, .int x3]) (st := [.int (0 : Int32), va_rf r4]) (n := 3) (c_X3_member hst h) rfl (by decide) hk (wE_4 G w a1) m_978 m_979 m_980 m_30 m_981 (by decide +kernel) (by decide +kernel) rfl rfl (by simp [cat_int, rf_cat]) ⟨(by decide +kernel), (by decide +kernel)⟩ dL_member_7 (fun E w4 hE H locs ls ce q9 hG hS hl hq hv hcl => ?_) (fun v3 w2 h => ?_)
  · clear h hk
    rcases hE with ⟨rfl, h⟩ | ⟨rfl, h⟩
    · refine g_catch X (E := "java/lang/IndexOutOfBoundsException") [] ⟨0, 12, 15, 20⟩ [⟨0, 12, 19, 13⟩] (htab.trans rfl) (fun z hz => by simp at hz) (by decide) (by decide) m_377 (by decide +kernel) hG hS hl hq hv hcl ?_
      refine g_widen (c2 := (3)) (s2 := (18)) (by decide) (by decide) ?_
      refine g_astore X [(5, .inr (some q9)), (0, .inr (some a1)), (1, .inl x1), (2, .inl x2), (3, .inl x3), (4, .inr r4)] dL_member_15 (by decide) rfl ?_
      refine g_iconst X (v := (1 : Int32)) dL_member_17 (by decide) ?_
      exact g_iretX X hr (by decide +kernel) (by decide +kernel) dL_member_18 h
    · refine g_catch X (E := "java/lang/IllegalArgumentException") [⟨0, 12, 15, 20⟩] ⟨0, 12, 19, 13⟩ [] (htab.trans rfl) (fun z hz => by simp only [List.mem_cons, List.not_mem_nil, or_false] at hz; rcases hz with rfl <;> first | exact ⟨by decide, "java/lang/IndexOutOfBoundsException", m_377, by decide +kernel⟩) (by decide) (by decide) m_166 (by decide +kernel) hG hS hl hq hv hcl ?_
      refine g_widen (c2 := (3)) (s2 := (18)) (by decide) (by decide) ?_
      refine g_astore X [(5, .inr (some q9)), (0, .inr (some a1)), (1, .inl x1), (2, .inl x2), (3, .inl x3), (4, .inr r4)] dL_member_19 (by decide) rfl ?_
      refine g_iconst X (v := (2 : Int32)) dL_member_21 (by decide) ?_
      exact g_iretX X hr (by decide +kernel) (by decide +kernel) dL_member_22 h
  clear hk
  refine g_widen (c2 := (3)) (s2 := (18)) (by decide) (by decide) ?_
  refine g_i2l X dL_member_10 ?_
  obtain ⟨a5, rfl, hk, h⟩ := h
  obtain ⟨j6, hi, hj, hN, h⟩ := h
  refine g_last X hk hi hj hN dL_member_11 (fun w7 hv => ?_)
  replace h := h w7 hv; clear hv hk hi hj hN
  refine g_goto X (tgt := 23) dL_member_12 (by decide) ?_
  refine g_iconst X (v := (0 : Int32)) dL_member_23 (by decide) ?_
  exact g_iretX X hr (by decide +kernel) (by decide +kernel) dL_member_24 h

abbrev rm_L_ofCircle : Room := { frames := 12, cells := 2, slots := 12, locals := 230 }
def wp_L_ofCircle (r0 : Option Nat) (x1 : Int32) (x2 : Int32) (r3 : Option Nat) (w : Wd) (Q : Int32 → Wd → Prop) : Prop :=
  ∃ a1, r0 = some a1 ∧ w.K a1 = 4 ∧
  wp_X3_ofCircle a1 x1 x2 w (fun v3 w2 => 
  ∃ a5, r3 = some a5 ∧ w2.K a5 = 14 ∧
  ∃ j6 : Nat, (0 : Int32) = nI j6 ∧ j6 < w2.N a5 ∧ w2.N a5 < 2 ^ 31 ∧
  ∀ w7 : Wd, w7 = w2.setJ a5 j6 v3.toInt64 →
  Q (0 : Int32) w7) (fun E w4 => (E = "java/lang/IndexOutOfBoundsException" ∧ Q (1 : Int32) w4) ∨ (E = "java/lang/IllegalArgumentException" ∧ Q (2 : Int32) w4))
set_option maxHeartbeats 4000000 in
set_option maxRecDepth 100000 in
theorem c_L_ofCircle {l : Launch} {G : GT} {L0 : Nat} (hst : l.stackTraces = false) {r0 : Option Nat} {x1 : Int32} {x2 : Int32} {r3 : Option Nat} {w : Wd} {Q : Int32 → Wd → Prop} (h : wp_L_ofCircle r0 x1 x2 r3 w Q) : GHi l G L0 yL_ofCircle cL_ofCircle 5 (some .int) [(0, 10, 13, 20), (0, 10, 17, 13)] rm_L_ofCircle [va_rf r0, .int x1, .int x2, va_rf r3] w Q := by
  refine g_enterH hst (by decide +kernel) [.inr r0, .inl x1, .inl x2, .inr r3] rfl (show 4 ≤ 5 by decide) ?_
  intro p e s m args below meth c X hr htab
  replace X : GC l G L0 p s m args meth c cL_ofCircle 5 "SusuRingLaw" := X
  refine g_aload_n X dL_ofCircle_0 rfl 3 rfl ?_
  refine g_iconst X (v := (0 : Int32)) dL_ofCircle_1 (by decide) ?_
  refine g_aload_n X dL_ofCircle_2 rfl 0 rfl ?_
  refine g_iload_n X dL_ofCircle_3 rfl 1 rfl ?_
  refine g_iload_n X dL_ofCircle_4 rfl 2 rfl ?_
  obtain ⟨a1, rfl, hk, h⟩ := h
  refine g_callYV_i X (As := [.int x1, .int x2]) (st := [.int (0 : Int32), va_rf r3]) (n := 2) (c_X3_ofCircle hst h) rfl (by decide) hk (wE_4 G w a1) m_986 m_987 m_988 m_30 m_989 (by decide +kernel) (by decide +kernel) rfl rfl (by simp [cat_int, rf_cat]) ⟨(by decide +kernel), (by decide +kernel)⟩ dL_ofCircle_5 (fun E w4 hE H locs ls ce q9 hG hS hl hq hv hcl => ?_) (fun v3 w2 h => ?_)
  · clear h hk
    rcases hE with ⟨rfl, h⟩ | ⟨rfl, h⟩
    · refine g_catch X (E := "java/lang/IndexOutOfBoundsException") [] ⟨0, 10, 13, 20⟩ [⟨0, 10, 17, 13⟩] (htab.trans rfl) (fun z hz => by simp at hz) (by decide) (by decide) m_377 (by decide +kernel) hG hS hl hq hv hcl ?_
      refine g_widen (c2 := (2)) (s2 := (12)) (by decide) (by decide) ?_
      refine g_astore X [(4, .inr (some q9)), (0, .inr (some a1)), (1, .inl x1), (2, .inl x2), (3, .inr r3)] dL_ofCircle_13 (by decide) rfl ?_
      refine g_iconst X (v := (1 : Int32)) dL_ofCircle_15 (by decide) ?_
      exact g_iretX X hr (by decide +kernel) (by decide +kernel) dL_ofCircle_16 h
    · refine g_catch X (E := "java/lang/IllegalArgumentException") [⟨0, 10, 13, 20⟩] ⟨0, 10, 17, 13⟩ [] (htab.trans rfl) (fun z hz => by simp only [List.mem_cons, List.not_mem_nil, or_false] at hz; rcases hz with rfl <;> first | exact ⟨by decide, "java/lang/IndexOutOfBoundsException", m_377, by decide +kernel⟩) (by decide) (by decide) m_166 (by decide +kernel) hG hS hl hq hv hcl ?_
      refine g_widen (c2 := (2)) (s2 := (12)) (by decide) (by decide) ?_
      refine g_astore X [(4, .inr (some q9)), (0, .inr (some a1)), (1, .inl x1), (2, .inl x2), (3, .inr r3)] dL_ofCircle_17 (by decide) rfl ?_
      refine g_iconst X (v := (2 : Int32)) dL_ofCircle_19 (by decide) ?_
      exact g_iretX X hr (by decide +kernel) (by decide +kernel) dL_ofCircle_20 h
  clear hk
  refine g_widen (c2 := (2)) (s2 := (12)) (by decide) (by decide) ?_
  refine g_i2l X dL_ofCircle_8 ?_
  obtain ⟨a5, rfl, hk, h⟩ := h
  obtain ⟨j6, hi, hj, hN, h⟩ := h
  refine g_last X hk hi hj hN dL_ofCircle_9 (fun w7 hv => ?_)
  replace h := h w7 hv; clear hv hk hi hj hN
  refine g_goto X (tgt := 21) dL_ofCircle_10 (by decide) ?_
  refine g_iconst X (v := (0 : Int32)) dL_ofCircle_21 (by decide) ?_
  exact g_iretX X hr (by decide +kernel) (by decide +kernel) dL_ofCircle_22 h

abbrev rm_L_law : Room := { frames := 2048, cells := 601024, slots := 7293034, locals := 84000 }
def wp_L_law (L : Nat) (xs : Nat → Int32) (w : Wd) : Prop :=
  ∀ q1 : Nat, w.K q1 = 0 → ∀ w2 : Wd, w2 = w.new 4 q1 →
  wp_X3_init q1 w2 (fun w3 => 
  ∀ q4 : Nat, w3.K q4 = 0 → ∀ w5 : Wd, w5 = w3.new 5 q4 →
  wp_X4_init q4 w5 (fun w6 => 
  ∀ q7 : Nat, w6.K q7 = 0 → ∀ w8 : Wd, w8 = w6.newA 14 q7 1 →
  ∃ Inv10 : Nat → Int32 → Wd → Prop, (∃ n : Nat, n ≤ 513 ∧ Inv10 n (0 : Int32) w8) ∧ ∀ (n9 : Nat) (y11 : Int32) (w12 : Wd), Inv10 n9 y11 w12 →
  ∀ v13 : Int32, v13 = nI L →
  ∀ v14 : Int32, v14 = v13 - (5 : Int32) →
  (v14 < y11 → True) ∧ (¬ v14 < y11 → ∃ j15 : Nat, y11 = nI j15 ∧ j15 < L ∧ ∀ v16 : Int32, v16 = xs j15 →
  ∀ v17 : Int32, v17 = v16 &&& (31 : Int32) →
  ∃ J18 : Wd → Prop, (∀  (w19 : Wd), J18 w19 →
  ∀ v20 : Int32, v20 = y11 + (5 : Int32) →
  ∃ n : Nat, n < n9 ∧ Inv10 n v20 w19) ∧
  (v17 = (0 : Int32) → ∀ v21 : Int32, v21 = y11 + (1 : Int32) →
  ∃ j22 : Nat, v21 = nI j22 ∧ j22 < L ∧ ∀ v23 : Int32, v23 = xs j22 →
  ∀ v24 : Int32, v24 = y11 + (2 : Int32) →
  ∃ j25 : Nat, v24 = nI j25 ∧ j25 < L ∧ ∀ v26 : Int32, v26 = xs j25 →
  wp_L_person (some q1) v23 v26 (some q7) w12 (fun v28 w27 => 
  ∀ v29 : Int32, v29 = y11 + (1 : Int32) →
  ∃ j30 : Nat, v29 = nI j30 ∧ j30 < L ∧ ∀ v31 : Int32, v31 = xs j30 →
  ∀ v32 : Int32, v32 = y11 + (2 : Int32) →
  ∃ j33 : Nat, v32 = nI j33 ∧ j33 < L ∧ ∀ v34 : Int32, v34 = xs j33 →
  w27.K q4 = 5 ∧
  wp_X4_person q4 v31 v34 w27 (fun v36 w35 => 
  w35.K q4 = 5 ∧
  wp_X4_thrown q4 w35 (fun v38 w37 => 
  (v38 = v28 → ∃ J39 : Prop, (J39 →
  J18 w37) ∧
  (¬ v28 = 0 → J39) ∧ (v28 = 0 → w37.K q7 = 14 ∧
  ∃ j40 : Nat, (0 : Int32) = nI j40 ∧ j40 < w37.N q7 ∧ w37.N q7 < 2 ^ 31 ∧
  ∀ u41 : Int64, u41 = w37.J q7 j40 →
  ((lg_cmp u41 v36.toInt64) = 0 → J39) ∧ (¬ (lg_cmp u41 v36.toInt64) = 0 → False))) ∧ (¬ v38 = v28 → False))))) ∧ (v17 = (1 : Int32) → ∀ v42 : Int32, v42 = y11 + (1 : Int32) →
  ∃ j43 : Nat, v42 = nI j43 ∧ j43 < L ∧ ∀ v44 : Int32, v44 = xs j43 →
  ∀ v45 : Int32, v45 = y11 + (2 : Int32) →
  ∃ j46 : Nat, v45 = nI j46 ∧ j46 < L ∧ ∀ v47 : Int32, v47 = xs j46 →
  wp_L_earn (some q1) v44 v47 (some q7) w12 (fun v49 w48 => 
  ∀ v50 : Int32, v50 = y11 + (1 : Int32) →
  ∃ j51 : Nat, v50 = nI j51 ∧ j51 < L ∧ ∀ v52 : Int32, v52 = xs j51 →
  ∀ v53 : Int32, v53 = y11 + (2 : Int32) →
  ∃ j54 : Nat, v53 = nI j54 ∧ j54 < L ∧ ∀ v55 : Int32, v55 = xs j54 →
  w48.K q4 = 5 ∧
  wp_X4_earn q4 v52 v55 w48 (fun v57 w56 => 
  w56.K q4 = 5 ∧
  wp_X4_thrown q4 w56 (fun v59 w58 => 
  (v59 = v49 → ∃ J60 : Prop, (J60 →
  J18 w58) ∧
  (¬ v49 = 0 → J60) ∧ (v49 = 0 → w58.K q7 = 14 ∧
  ∃ j61 : Nat, (0 : Int32) = nI j61 ∧ j61 < w58.N q7 ∧ w58.N q7 < 2 ^ 31 ∧
  ∀ u62 : Int64, u62 = w58.J q7 j61 →
  ((lg_cmp u62 v57.toInt64) = 0 → J60) ∧ (¬ (lg_cmp u62 v57.toInt64) = 0 → False))) ∧ (¬ v59 = v49 → False))))) ∧ (v17 = (2 : Int32) → ∀ v63 : Int32, v63 = y11 + (1 : Int32) →
  ∃ j64 : Nat, v63 = nI j64 ∧ j64 < L ∧ ∀ v65 : Int32, v65 = xs j64 →
  ∀ v66 : Int32, v66 = y11 + (2 : Int32) →
  ∃ j67 : Nat, v66 = nI j67 ∧ j67 < L ∧ ∀ v68 : Int32, v68 = xs j67 →
  wp_L_die (some q1) v65 v68 (some q7) w12 (fun v70 w69 => 
  ∀ v71 : Int32, v71 = y11 + (1 : Int32) →
  ∃ j72 : Nat, v71 = nI j72 ∧ j72 < L ∧ ∀ v73 : Int32, v73 = xs j72 →
  ∀ v74 : Int32, v74 = y11 + (2 : Int32) →
  ∃ j75 : Nat, v74 = nI j75 ∧ j75 < L ∧ ∀ v76 : Int32, v76 = xs j75 →
  w69.K q4 = 5 ∧
  wp_X4_die q4 v73 v76 w69 (fun v78 w77 => 
  w77.K q4 = 5 ∧
  wp_X4_thrown q4 w77 (fun v80 w79 => 
  (v80 = v70 → ∃ J81 : Prop, (J81 →
  J18 w79) ∧
  (¬ v70 = 0 → J81) ∧ (v70 = 0 → w79.K q7 = 14 ∧
  ∃ j82 : Nat, (0 : Int32) = nI j82 ∧ j82 < w79.N q7 ∧ w79.N q7 < 2 ^ 31 ∧
  ∀ u83 : Int64, u83 = w79.J q7 j82 →
  ((lg_cmp u83 v78.toInt64) = 0 → J81) ∧ (¬ (lg_cmp u83 v78.toInt64) = 0 → False))) ∧ (¬ v80 = v70 → False))))) ∧ (v17 = (3 : Int32) → ∀ v84 : Int32, v84 = y11 + (1 : Int32) →
  ∃ j85 : Nat, v84 = nI j85 ∧ j85 < L ∧ ∀ v86 : Int32, v86 = xs j85 →
  ∀ v87 : Int32, v87 = y11 + (2 : Int32) →
  ∃ j88 : Nat, v87 = nI j88 ∧ j88 < L ∧ ∀ v89 : Int32, v89 = xs j88 →
  wp_L_circle (some q1) v86 v89 (some q7) w12 (fun v91 w90 => 
  ∀ v92 : Int32, v92 = y11 + (1 : Int32) →
  ∃ j93 : Nat, v92 = nI j93 ∧ j93 < L ∧ ∀ v94 : Int32, v94 = xs j93 →
  ∀ v95 : Int32, v95 = y11 + (2 : Int32) →
  ∃ j96 : Nat, v95 = nI j96 ∧ j96 < L ∧ ∀ v97 : Int32, v97 = xs j96 →
  w90.K q4 = 5 ∧
  wp_X4_circle q4 v94 v97 w90 (fun v99 w98 => 
  w98.K q4 = 5 ∧
  wp_X4_thrown q4 w98 (fun v101 w100 => 
  (v101 = v91 → ∃ J102 : Prop, (J102 →
  J18 w100) ∧
  (¬ v91 = 0 → J102) ∧ (v91 = 0 → w100.K q7 = 14 ∧
  ∃ j103 : Nat, (0 : Int32) = nI j103 ∧ j103 < w100.N q7 ∧ w100.N q7 < 2 ^ 31 ∧
  ∀ u104 : Int64, u104 = w100.J q7 j103 →
  ((lg_cmp u104 v99.toInt64) = 0 → J102) ∧ (¬ (lg_cmp u104 v99.toInt64) = 0 → False))) ∧ (¬ v101 = v91 → False))))) ∧ (v17 = (4 : Int32) → ∀ v105 : Int32, v105 = y11 + (1 : Int32) →
  ∃ j106 : Nat, v105 = nI j106 ∧ j106 < L ∧ ∀ v107 : Int32, v107 = xs j106 →
  ∀ v108 : Int32, v108 = y11 + (2 : Int32) →
  ∃ j109 : Nat, v108 = nI j109 ∧ j109 < L ∧ ∀ v110 : Int32, v110 = xs j109 →
  wp_L_enter (some q1) v107 v110 (some q7) w12 (fun v112 w111 => 
  ∀ v113 : Int32, v113 = y11 + (1 : Int32) →
  ∃ j114 : Nat, v113 = nI j114 ∧ j114 < L ∧ ∀ v115 : Int32, v115 = xs j114 →
  ∀ v116 : Int32, v116 = y11 + (2 : Int32) →
  ∃ j117 : Nat, v116 = nI j117 ∧ j117 < L ∧ ∀ v118 : Int32, v118 = xs j117 →
  w111.K q4 = 5 ∧
  wp_X4_enter q4 v115 v118 w111 (fun v120 w119 => 
  w119.K q4 = 5 ∧
  wp_X4_thrown q4 w119 (fun v122 w121 => 
  (v122 = v112 → ∃ J123 : Prop, (J123 →
  J18 w121) ∧
  (¬ v112 = 0 → J123) ∧ (v112 = 0 → w121.K q7 = 14 ∧
  ∃ j124 : Nat, (0 : Int32) = nI j124 ∧ j124 < w121.N q7 ∧ w121.N q7 < 2 ^ 31 ∧
  ∀ u125 : Int64, u125 = w121.J q7 j124 →
  ((lg_cmp u125 v120.toInt64) = 0 → J123) ∧ (¬ (lg_cmp u125 v120.toInt64) = 0 → False))) ∧ (¬ v122 = v112 → False))))) ∧ (v17 = (5 : Int32) → ∀ v126 : Int32, v126 = y11 + (1 : Int32) →
  ∃ j127 : Nat, v126 = nI j127 ∧ j127 < L ∧ ∀ v128 : Int32, v128 = xs j127 →
  ∀ v129 : Int32, v129 = y11 + (2 : Int32) →
  ∃ j130 : Nat, v129 = nI j130 ∧ j130 < L ∧ ∀ v131 : Int32, v131 = xs j130 →
  wp_L_start (some q1) v128 v131 (some q7) w12 (fun v133 w132 => 
  ∀ v134 : Int32, v134 = y11 + (1 : Int32) →
  ∃ j135 : Nat, v134 = nI j135 ∧ j135 < L ∧ ∀ v136 : Int32, v136 = xs j135 →
  ∀ v137 : Int32, v137 = y11 + (2 : Int32) →
  ∃ j138 : Nat, v137 = nI j138 ∧ j138 < L ∧ ∀ v139 : Int32, v139 = xs j138 →
  w132.K q4 = 5 ∧
  wp_X4_start q4 v136 v139 w132 (fun v141 w140 => 
  w140.K q4 = 5 ∧
  wp_X4_thrown q4 w140 (fun v143 w142 => 
  (v143 = v133 → ∃ J144 : Prop, (J144 →
  J18 w142) ∧
  (¬ v133 = 0 → J144) ∧ (v133 = 0 → w142.K q7 = 14 ∧
  ∃ j145 : Nat, (0 : Int32) = nI j145 ∧ j145 < w142.N q7 ∧ w142.N q7 < 2 ^ 31 ∧
  ∀ u146 : Int64, u146 = w142.J q7 j145 →
  ((lg_cmp u146 v141.toInt64) = 0 → J144) ∧ (¬ (lg_cmp u146 v141.toInt64) = 0 → False))) ∧ (¬ v143 = v133 → False))))) ∧ (v17 = (6 : Int32) → ∀ v147 : Int32, v147 = y11 + (1 : Int32) →
  ∃ j148 : Nat, v147 = nI j148 ∧ j148 < L ∧ ∀ v149 : Int32, v149 = xs j148 →
  ∀ v150 : Int32, v150 = y11 + (2 : Int32) →
  ∃ j151 : Nat, v150 = nI j151 ∧ j151 < L ∧ ∀ v152 : Int32, v152 = xs j151 →
  ∀ v153 : Int32, v153 = y11 + (3 : Int32) →
  ∃ j154 : Nat, v153 = nI j154 ∧ j154 < L ∧ ∀ v155 : Int32, v155 = xs j154 →
  ∀ v156 : Int32, v156 = y11 + (4 : Int32) →
  ∃ j157 : Nat, v156 = nI j157 ∧ j157 < L ∧ ∀ v158 : Int32, v158 = xs j157 →
  ∃ J159 : Option Nat → Int32 → Int32 → Int32 → Int32 → Prop, (∀ (q160 : Option Nat) (y161 : Int32) (y162 : Int32) (y163 : Int32) (y164 : Int32), J159 q160 y161 y162 y163 y164 →
  wp_L_want q160 y161 y162 y163 y164 (some q7) w12 (fun v166 w165 => 
  ∀ v167 : Int32, v167 = y11 + (1 : Int32) →
  ∃ j168 : Nat, v167 = nI j168 ∧ j168 < L ∧ ∀ v169 : Int32, v169 = xs j168 →
  ∀ v170 : Int32, v170 = y11 + (2 : Int32) →
  ∃ j171 : Nat, v170 = nI j171 ∧ j171 < L ∧ ∀ v172 : Int32, v172 = xs j171 →
  ∀ v173 : Int32, v173 = y11 + (3 : Int32) →
  ∃ j174 : Nat, v173 = nI j174 ∧ j174 < L ∧ ∀ v175 : Int32, v175 = xs j174 →
  ∀ v176 : Int32, v176 = y11 + (4 : Int32) →
  ∃ j177 : Nat, v176 = nI j177 ∧ j177 < L ∧ ∀ v178 : Int32, v178 = xs j177 →
  ∃ J179 : Option Nat → Int32 → Int32 → Int32 → Int32 → Prop, (∀ (q180 : Option Nat) (y181 : Int32) (y182 : Int32) (y183 : Int32) (y184 : Int32), J179 q180 y181 y182 y183 y184 →
  ∃ a185, q180 = some a185 ∧ w165.K a185 = 5 ∧
  wp_X4_want a185 y181 y182 y183 y184 w165 (fun v187 w186 => 
  w186.K q4 = 5 ∧
  wp_X4_thrown q4 w186 (fun v189 w188 => 
  (v189 = v166 → ∃ J190 : Prop, (J190 →
  J18 w188) ∧
  (¬ v166 = 0 → J190) ∧ (v166 = 0 → w188.K q7 = 14 ∧
  ∃ j191 : Nat, (0 : Int32) = nI j191 ∧ j191 < w188.N q7 ∧ w188.N q7 < 2 ^ 31 ∧
  ∀ u192 : Int64, u192 = w188.J q7 j191 →
  ((lg_cmp u192 v187.toInt64) = 0 → J190) ∧ (¬ (lg_cmp u192 v187.toInt64) = 0 → False))) ∧ (¬ v189 = v166 → False)))) ∧
  (v178 = 0 → J179 (some q4) v169 v172 v175 (0 : Int32)) ∧ (¬ v178 = 0 → J179 (some q4) v169 v172 v175 (1 : Int32)))) ∧
  (v158 = 0 → J159 (some q1) v149 v152 v155 (0 : Int32)) ∧ (¬ v158 = 0 → J159 (some q1) v149 v152 v155 (1 : Int32))) ∧ (v17 = (7 : Int32) → ∀ v193 : Int32, v193 = y11 + (1 : Int32) →
  ∃ j194 : Nat, v193 = nI j194 ∧ j194 < L ∧ ∀ v195 : Int32, v195 = xs j194 →
  ∀ v196 : Int32, v196 = y11 + (2 : Int32) →
  ∃ j197 : Nat, v196 = nI j197 ∧ j197 < L ∧ ∀ v198 : Int32, v198 = xs j197 →
  ∃ J199 : Option Nat → Int32 → Int32 → Prop, (∀ (q200 : Option Nat) (y201 : Int32) (y202 : Int32), J199 q200 y201 y202 →
  wp_L_meet q200 y201 y202 (some q7) w12 (fun v204 w203 => 
  ∀ v205 : Int32, v205 = y11 + (1 : Int32) →
  ∃ j206 : Nat, v205 = nI j206 ∧ j206 < L ∧ ∀ v207 : Int32, v207 = xs j206 →
  ∀ v208 : Int32, v208 = y11 + (2 : Int32) →
  ∃ j209 : Nat, v208 = nI j209 ∧ j209 < L ∧ ∀ v210 : Int32, v210 = xs j209 →
  ∃ J211 : Option Nat → Int32 → Int32 → Prop, (∀ (q212 : Option Nat) (y213 : Int32) (y214 : Int32), J211 q212 y213 y214 →
  ∃ a215, q212 = some a215 ∧ w203.K a215 = 5 ∧
  wp_X4_meet a215 y213 y214 w203 (fun v217 w216 => 
  w216.K q4 = 5 ∧
  wp_X4_thrown q4 w216 (fun v219 w218 => 
  (v219 = v204 → ∃ J220 : Prop, (J220 →
  J18 w218) ∧
  (¬ v204 = 0 → J220) ∧ (v204 = 0 → w218.K q7 = 14 ∧
  ∃ j221 : Nat, (0 : Int32) = nI j221 ∧ j221 < w218.N q7 ∧ w218.N q7 < 2 ^ 31 ∧
  ∀ u222 : Int64, u222 = w218.J q7 j221 →
  ((lg_cmp u222 v217.toInt64) = 0 → J220) ∧ (¬ (lg_cmp u222 v217.toInt64) = 0 → False))) ∧ (¬ v219 = v204 → False)))) ∧
  (v210 = 0 → J211 (some q4) v207 (0 : Int32)) ∧ (¬ v210 = 0 → J211 (some q4) v207 (1 : Int32)))) ∧
  (v198 = 0 → J199 (some q1) v195 (0 : Int32)) ∧ (¬ v198 = 0 → J199 (some q1) v195 (1 : Int32))) ∧ (v17 = (8 : Int32) → ∀ v223 : Int32, v223 = y11 + (1 : Int32) →
  ∃ j224 : Nat, v223 = nI j224 ∧ j224 < L ∧ ∀ v225 : Int32, v225 = xs j224 →
  ∀ v226 : Int32, v226 = y11 + (2 : Int32) →
  ∃ j227 : Nat, v226 = nI j227 ∧ j227 < L ∧ ∀ v228 : Int32, v228 = xs j227 →
  wp_L_leave (some q1) v225 v228 (some q7) w12 (fun v230 w229 => 
  ∀ v231 : Int32, v231 = y11 + (1 : Int32) →
  ∃ j232 : Nat, v231 = nI j232 ∧ j232 < L ∧ ∀ v233 : Int32, v233 = xs j232 →
  ∀ v234 : Int32, v234 = y11 + (2 : Int32) →
  ∃ j235 : Nat, v234 = nI j235 ∧ j235 < L ∧ ∀ v236 : Int32, v236 = xs j235 →
  w229.K q4 = 5 ∧
  wp_X4_leave q4 v233 v236 w229 (fun v238 w237 => 
  w237.K q4 = 5 ∧
  wp_X4_thrown q4 w237 (fun v240 w239 => 
  (v240 = v230 → ∃ J241 : Prop, (J241 →
  J18 w239) ∧
  (¬ v230 = 0 → J241) ∧ (v230 = 0 → w239.K q7 = 14 ∧
  ∃ j242 : Nat, (0 : Int32) = nI j242 ∧ j242 < w239.N q7 ∧ w239.N q7 < 2 ^ 31 ∧
  ∀ u243 : Int64, u243 = w239.J q7 j242 →
  ((lg_cmp u243 v238.toInt64) = 0 → J241) ∧ (¬ (lg_cmp u243 v238.toInt64) = 0 → False))) ∧ (¬ v240 = v230 → False))))) ∧ (v17 = (9 : Int32) → ∀ v244 : Int32, v244 = y11 + (1 : Int32) →
  ∃ j245 : Nat, v244 = nI j245 ∧ j245 < L ∧ ∀ v246 : Int32, v246 = xs j245 →
  ∀ v247 : Int32, v247 = y11 + (2 : Int32) →
  ∃ j248 : Nat, v247 = nI j248 ∧ j248 < L ∧ ∀ v249 : Int32, v249 = xs j248 →
  wp_L_buy (some q1) v246 v249 (some q7) w12 (fun v251 w250 => 
  ∀ v252 : Int32, v252 = y11 + (1 : Int32) →
  ∃ j253 : Nat, v252 = nI j253 ∧ j253 < L ∧ ∀ v254 : Int32, v254 = xs j253 →
  ∀ v255 : Int32, v255 = y11 + (2 : Int32) →
  ∃ j256 : Nat, v255 = nI j256 ∧ j256 < L ∧ ∀ v257 : Int32, v257 = xs j256 →
  w250.K q4 = 5 ∧
  wp_X4_buy q4 v254 v257 w250 (fun v259 w258 => 
  w258.K q4 = 5 ∧
  wp_X4_thrown q4 w258 (fun v261 w260 => 
  (v261 = v251 → ∃ J262 : Prop, (J262 →
  J18 w260) ∧
  (¬ v251 = 0 → J262) ∧ (v251 = 0 → w260.K q7 = 14 ∧
  ∃ j263 : Nat, (0 : Int32) = nI j263 ∧ j263 < w260.N q7 ∧ w260.N q7 < 2 ^ 31 ∧
  ∀ u264 : Int64, u264 = w260.J q7 j263 →
  ((lg_cmp u264 v259.toInt64) = 0 → J262) ∧ (¬ (lg_cmp u264 v259.toInt64) = 0 → False))) ∧ (¬ v261 = v251 → False))))) ∧ (v17 = (10 : Int32) → ∀ v265 : Int32, v265 = y11 + (1 : Int32) →
  ∃ j266 : Nat, v265 = nI j266 ∧ j266 < L ∧ ∀ v267 : Int32, v267 = xs j266 →
  ∀ v268 : Int32, v268 = y11 + (2 : Int32) →
  ∃ j269 : Nat, v268 = nI j269 ∧ j269 < L ∧ ∀ v270 : Int32, v270 = xs j269 →
  ∀ v271 : Int32, v271 = y11 + (3 : Int32) →
  ∃ j272 : Nat, v271 = nI j272 ∧ j272 < L ∧ ∀ v273 : Int32, v273 = xs j272 →
  ∀ v274 : Int32, v274 = y11 + (4 : Int32) →
  ∃ j275 : Nat, v274 = nI j275 ∧ j275 < L ∧ ∀ v276 : Int32, v276 = xs j275 →
  wp_L_borrow (some q1) v267 v270 v273 v276 (some q7) w12 (fun v278 w277 => 
  ∀ v279 : Int32, v279 = y11 + (1 : Int32) →
  ∃ j280 : Nat, v279 = nI j280 ∧ j280 < L ∧ ∀ v281 : Int32, v281 = xs j280 →
  ∀ v282 : Int32, v282 = y11 + (2 : Int32) →
  ∃ j283 : Nat, v282 = nI j283 ∧ j283 < L ∧ ∀ v284 : Int32, v284 = xs j283 →
  ∀ v285 : Int32, v285 = y11 + (3 : Int32) →
  ∃ j286 : Nat, v285 = nI j286 ∧ j286 < L ∧ ∀ v287 : Int32, v287 = xs j286 →
  ∀ v288 : Int32, v288 = y11 + (4 : Int32) →
  ∃ j289 : Nat, v288 = nI j289 ∧ j289 < L ∧ ∀ v290 : Int32, v290 = xs j289 →
  w277.K q4 = 5 ∧
  wp_X4_borrow q4 v281 v284 v287 v290 w277 (fun v292 w291 => 
  w291.K q4 = 5 ∧
  wp_X4_thrown q4 w291 (fun v294 w293 => 
  (v294 = v278 → ∃ J295 : Prop, (J295 →
  J18 w293) ∧
  (¬ v278 = 0 → J295) ∧ (v278 = 0 → w293.K q7 = 14 ∧
  ∃ j296 : Nat, (0 : Int32) = nI j296 ∧ j296 < w293.N q7 ∧ w293.N q7 < 2 ^ 31 ∧
  ∀ u297 : Int64, u297 = w293.J q7 j296 →
  ((lg_cmp u297 v292.toInt64) = 0 → J295) ∧ (¬ (lg_cmp u297 v292.toInt64) = 0 → False))) ∧ (¬ v294 = v278 → False))))) ∧ (v17 = (11 : Int32) → ∀ v298 : Int32, v298 = y11 + (1 : Int32) →
  ∃ j299 : Nat, v298 = nI j299 ∧ j299 < L ∧ ∀ v300 : Int32, v300 = xs j299 →
  ∀ v301 : Int32, v301 = y11 + (2 : Int32) →
  ∃ j302 : Nat, v301 = nI j302 ∧ j302 < L ∧ ∀ v303 : Int32, v303 = xs j302 →
  wp_L_repay (some q1) v300 v303 (some q7) w12 (fun v305 w304 => 
  ∀ v306 : Int32, v306 = y11 + (1 : Int32) →
  ∃ j307 : Nat, v306 = nI j307 ∧ j307 < L ∧ ∀ v308 : Int32, v308 = xs j307 →
  ∀ v309 : Int32, v309 = y11 + (2 : Int32) →
  ∃ j310 : Nat, v309 = nI j310 ∧ j310 < L ∧ ∀ v311 : Int32, v311 = xs j310 →
  w304.K q4 = 5 ∧
  wp_X4_repay q4 v308 v311 w304 (fun v313 w312 => 
  w312.K q4 = 5 ∧
  wp_X4_thrown q4 w312 (fun v315 w314 => 
  (v315 = v305 → ∃ J316 : Prop, (J316 →
  J18 w314) ∧
  (¬ v305 = 0 → J316) ∧ (v305 = 0 → w314.K q7 = 14 ∧
  ∃ j317 : Nat, (0 : Int32) = nI j317 ∧ j317 < w314.N q7 ∧ w314.N q7 < 2 ^ 31 ∧
  ∀ u318 : Int64, u318 = w314.J q7 j317 →
  ((lg_cmp u318 v313.toInt64) = 0 → J316) ∧ (¬ (lg_cmp u318 v313.toInt64) = 0 → False))) ∧ (¬ v315 = v305 → False))))) ∧ (v17 = (12 : Int32) → ∀ v319 : Int32, v319 = y11 + (1 : Int32) →
  ∃ j320 : Nat, v319 = nI j320 ∧ j320 < L ∧ ∀ v321 : Int32, v321 = xs j320 →
  ∃ J322 : Option Nat → Int32 → Prop, (∀ (q323 : Option Nat) (y324 : Int32), J322 q323 y324 →
  ∃ a325, q323 = some a325 ∧ w12.K a325 = 4 ∧
  wp_X3_month a325 y324 w12 (fun v327 w326 => 
  ∀ v328 : Int32, v328 = y11 + (1 : Int32) →
  ∃ j329 : Nat, v328 = nI j329 ∧ j329 < L ∧ ∀ v330 : Int32, v330 = xs j329 →
  ∃ J331 : Int32 → Option Nat → Int32 → Prop, (∀ (y332 : Int32) (q333 : Option Nat) (y334 : Int32), J331 y332 q333 y334 →
  ∃ a335, q333 = some a335 ∧ w326.K a335 = 5 ∧
  wp_X4_month a335 y334 w326 (fun v337 w336 => 
  (y332 = v337 → J18 w336) ∧ (¬ y332 = v337 → False))) ∧
  (v330 = 0 → J331 v327 (some q4) (0 : Int32)) ∧ (¬ v330 = 0 → J331 v327 (some q4) (1 : Int32)))) ∧
  (v321 = 0 → J322 (some q1) (0 : Int32)) ∧ (¬ v321 = 0 → J322 (some q1) (1 : Int32))) ∧ (v17 = (13 : Int32) → wp_L_feast (some q1) (some q7) w12 (fun v339 w338 => 
  w338.K q4 = 5 ∧
  wp_X4_feast q4 w338 (fun v341 w340 => 
  w340.K q4 = 5 ∧
  wp_X4_thrown q4 w340 (fun v343 w342 => 
  (v343 = v339 → ∃ J344 : Prop, (J344 →
  J18 w342) ∧
  (¬ v339 = 0 → J344) ∧ (v339 = 0 → w342.K q7 = 14 ∧
  ∃ j345 : Nat, (0 : Int32) = nI j345 ∧ j345 < w342.N q7 ∧ w342.N q7 < 2 ^ 31 ∧
  ∀ u346 : Int64, u346 = w342.J q7 j345 →
  ((lg_cmp u346 v341.toInt64) = 0 → J344) ∧ (¬ (lg_cmp u346 v341.toInt64) = 0 → False))) ∧ (¬ v343 = v339 → False))))) ∧ (v17 = (14 : Int32) → ∀ v347 : Int32, v347 = y11 + (1 : Int32) →
  ∃ j348 : Nat, v347 = nI j348 ∧ j348 < L ∧ ∀ v349 : Int32, v349 = xs j348 →
  ∀ v350 : Int32, v350 = y11 + (2 : Int32) →
  ∃ j351 : Nat, v350 = nI j351 ∧ j351 < L ∧ ∀ v352 : Int32, v352 = xs j351 →
  ∀ v353 : Int32, v353 = y11 + (3 : Int32) →
  ∃ j354 : Nat, v353 = nI j354 ∧ j354 < L ∧ ∀ v355 : Int32, v355 = xs j354 →
  wp_L_note (some q1) v349 v352 v355 (some q7) w12 (fun v357 w356 => 
  ∀ v358 : Int32, v358 = y11 + (1 : Int32) →
  ∃ j359 : Nat, v358 = nI j359 ∧ j359 < L ∧ ∀ v360 : Int32, v360 = xs j359 →
  ∀ v361 : Int32, v361 = y11 + (2 : Int32) →
  ∃ j362 : Nat, v361 = nI j362 ∧ j362 < L ∧ ∀ v363 : Int32, v363 = xs j362 →
  ∀ v364 : Int32, v364 = y11 + (3 : Int32) →
  ∃ j365 : Nat, v364 = nI j365 ∧ j365 < L ∧ ∀ v366 : Int32, v366 = xs j365 →
  w356.K q4 = 5 ∧
  wp_X4_note q4 v360 v363 v366 w356 (fun v368 w367 => 
  w367.K q4 = 5 ∧
  wp_X4_thrown q4 w367 (fun v370 w369 => 
  (v370 = v357 → ∃ J371 : Prop, (J371 →
  J18 w369) ∧
  (¬ v357 = 0 → J371) ∧ (v357 = 0 → w369.K q7 = 14 ∧
  ∃ j372 : Nat, (0 : Int32) = nI j372 ∧ j372 < w369.N q7 ∧ w369.N q7 < 2 ^ 31 ∧
  ∀ u373 : Int64, u373 = w369.J q7 j372 →
  ((lg_cmp u373 v368.toInt64) = 0 → J371) ∧ (¬ (lg_cmp u373 v368.toInt64) = 0 → False))) ∧ (¬ v370 = v357 → False))))) ∧ (v17 = (15 : Int32) → ∀ v374 : Int32, v374 = y11 + (1 : Int32) →
  ∃ j375 : Nat, v374 = nI j375 ∧ j375 < L ∧ ∀ v376 : Int32, v376 = xs j375 →
  wp_L_audit (some q1) v376 (some q7) w12 (fun v378 w377 => 
  ∀ v379 : Int32, v379 = y11 + (1 : Int32) →
  ∃ j380 : Nat, v379 = nI j380 ∧ j380 < L ∧ ∀ v381 : Int32, v381 = xs j380 →
  w377.K q4 = 5 ∧
  wp_X4_audit q4 v381 w377 (fun v383 w382 => 
  w382.K q4 = 5 ∧
  wp_X4_thrown q4 w382 (fun v385 w384 => 
  (v385 = v378 → ∃ J386 : Prop, (J386 →
  J18 w384) ∧
  (¬ v378 = 0 → J386) ∧ (v378 = 0 → w384.K q7 = 14 ∧
  ∃ j387 : Nat, (0 : Int32) = nI j387 ∧ j387 < w384.N q7 ∧ w384.N q7 < 2 ^ 31 ∧
  ∀ u388 : Int64, u388 = w384.J q7 j387 →
  ((lg_cmp u388 v383.toInt64) = 0 → J386) ∧ (¬ (lg_cmp u388 v383.toInt64) = 0 → False))) ∧ (¬ v385 = v378 → False))))) ∧ (v17 = (16 : Int32) → ∀ v389 : Int32, v389 = y11 + (1 : Int32) →
  ∃ j390 : Nat, v389 = nI j390 ∧ j390 < L ∧ ∀ v391 : Int32, v391 = xs j390 →
  ∀ v392 : Int32, v392 = y11 + (2 : Int32) →
  ∃ j393 : Nat, v392 = nI j393 ∧ j393 < L ∧ ∀ v394 : Int32, v394 = xs j393 →
  wp_L_of (some q1) v391 v394 (some q7) w12 (fun v396 w395 => 
  ∀ v397 : Int32, v397 = y11 + (1 : Int32) →
  ∃ j398 : Nat, v397 = nI j398 ∧ j398 < L ∧ ∀ v399 : Int32, v399 = xs j398 →
  ∀ v400 : Int32, v400 = y11 + (2 : Int32) →
  ∃ j401 : Nat, v400 = nI j401 ∧ j401 < L ∧ ∀ v402 : Int32, v402 = xs j401 →
  w395.K q4 = 5 ∧
  wp_X4_of q4 v399 v402 w395 (fun v404 w403 => 
  w403.K q4 = 5 ∧
  wp_X4_thrown q4 w403 (fun v406 w405 => 
  (v406 = v396 → ∃ J407 : Prop, (J407 →
  J18 w405) ∧
  (¬ v396 = 0 → J407) ∧ (v396 = 0 → w405.K q7 = 14 ∧
  ∃ j408 : Nat, (0 : Int32) = nI j408 ∧ j408 < w405.N q7 ∧ w405.N q7 < 2 ^ 31 ∧
  ∀ u409 : Int64, u409 = w405.J q7 j408 →
  ((lg_cmp u409 v404.toInt64) = 0 → J407) ∧ (¬ (lg_cmp u409 v404.toInt64) = 0 → False))) ∧ (¬ v406 = v396 → False))))) ∧ (v17 = (17 : Int32) → ∀ v410 : Int32, v410 = y11 + (1 : Int32) →
  ∃ j411 : Nat, v410 = nI j411 ∧ j411 < L ∧ ∀ v412 : Int32, v412 = xs j411 →
  ∀ v413 : Int32, v413 = y11 + (2 : Int32) →
  ∃ j414 : Nat, v413 = nI j414 ∧ j414 < L ∧ ∀ v415 : Int32, v415 = xs j414 →
  ∀ v416 : Int32, v416 = y11 + (3 : Int32) →
  ∃ j417 : Nat, v416 = nI j417 ∧ j417 < L ∧ ∀ v418 : Int32, v418 = xs j417 →
  wp_L_member (some q1) v412 v415 v418 (some q7) w12 (fun v420 w419 => 
  ∀ v421 : Int32, v421 = y11 + (1 : Int32) →
  ∃ j422 : Nat, v421 = nI j422 ∧ j422 < L ∧ ∀ v423 : Int32, v423 = xs j422 →
  ∀ v424 : Int32, v424 = y11 + (2 : Int32) →
  ∃ j425 : Nat, v424 = nI j425 ∧ j425 < L ∧ ∀ v426 : Int32, v426 = xs j425 →
  ∀ v427 : Int32, v427 = y11 + (3 : Int32) →
  ∃ j428 : Nat, v427 = nI j428 ∧ j428 < L ∧ ∀ v429 : Int32, v429 = xs j428 →
  w419.K q4 = 5 ∧
  wp_X4_member q4 v423 v426 v429 w419 (fun v431 w430 => 
  w430.K q4 = 5 ∧
  wp_X4_thrown q4 w430 (fun v433 w432 => 
  (v433 = v420 → ∃ J434 : Prop, (J434 →
  J18 w432) ∧
  (¬ v420 = 0 → J434) ∧ (v420 = 0 → w432.K q7 = 14 ∧
  ∃ j435 : Nat, (0 : Int32) = nI j435 ∧ j435 < w432.N q7 ∧ w432.N q7 < 2 ^ 31 ∧
  ∀ u436 : Int64, u436 = w432.J q7 j435 →
  ((lg_cmp u436 v431.toInt64) = 0 → J434) ∧ (¬ (lg_cmp u436 v431.toInt64) = 0 → False))) ∧ (¬ v433 = v420 → False))))) ∧ (v17 = (18 : Int32) → ∀ v437 : Int32, v437 = y11 + (1 : Int32) →
  ∃ j438 : Nat, v437 = nI j438 ∧ j438 < L ∧ ∀ v439 : Int32, v439 = xs j438 →
  ∀ v440 : Int32, v440 = y11 + (2 : Int32) →
  ∃ j441 : Nat, v440 = nI j441 ∧ j441 < L ∧ ∀ v442 : Int32, v442 = xs j441 →
  wp_L_ofCircle (some q1) v439 v442 (some q7) w12 (fun v444 w443 => 
  ∀ v445 : Int32, v445 = y11 + (1 : Int32) →
  ∃ j446 : Nat, v445 = nI j446 ∧ j446 < L ∧ ∀ v447 : Int32, v447 = xs j446 →
  ∀ v448 : Int32, v448 = y11 + (2 : Int32) →
  ∃ j449 : Nat, v448 = nI j449 ∧ j449 < L ∧ ∀ v450 : Int32, v450 = xs j449 →
  w443.K q4 = 5 ∧
  wp_X4_ofCircle q4 v447 v450 w443 (fun v452 w451 => 
  w451.K q4 = 5 ∧
  wp_X4_thrown q4 w451 (fun v454 w453 => 
  (v454 = v444 → ∃ J455 : Prop, (J455 →
  J18 w453) ∧
  (¬ v444 = 0 → J455) ∧ (v444 = 0 → w453.K q7 = 14 ∧
  ∃ j456 : Nat, (0 : Int32) = nI j456 ∧ j456 < w453.N q7 ∧ w453.N q7 < 2 ^ 31 ∧
  ∀ u457 : Int64, u457 = w453.J q7 j456 →
  ((lg_cmp u457 v452.toInt64) = 0 → J455) ∧ (¬ (lg_cmp u457 v452.toInt64) = 0 → False))) ∧ (¬ v454 = v444 → False))))) ∧ (v17 = (19 : Int32) → w12.K q1 = 4 ∧
  wp_X3_cash q1 w12 (fun v459 w458 => 
  w458.K q4 = 5 ∧
  wp_X4_cash q4 w458 (fun v461 w460 => 
  (v459 = v461 → J18 w460) ∧ (¬ v459 = v461 → False)))) ∧ (v17 = (20 : Int32) → w12.K q1 = 4 ∧
  wp_X3_coins q1 w12 (fun v463 w462 => 
  w462.K q4 = 5 ∧
  wp_X4_coins q4 w462 (fun v465 w464 => 
  (v463 = v465 → J18 w464) ∧ (¬ v463 = v465 → False)))) ∧ (v17.toInt < 0 ∨ 20 < v17.toInt → J18 w12))))
set_option maxHeartbeats 8000000 in
set_option maxRecDepth 100000 in
theorem c_L_law {p : Program} {e : Env} {s : State} {m : MethodId} {below : List Frame} {meth : Method} {c : Code} {l : Launch} (hst : l.stackTraces = false) {G : GT} {L0 b L : Nat} {xs : Nat → Int32} (hL0 : L0 = s.heap.size) (X : GC l G L0 p s m #[Value.ref b] meth c code 7 "SusuRingLaw") (hr : meth.sig.returnType = ret) (hX : va_X b L xs s s.heap) (hb : b < s.heap.size) (hLL : L < 2 ^ 31) {w : Wd} (h : wp_L_law L xs w) : Gw l G L0 p e rm_L_law s m #[Value.ref b] below meth c 7 0 0 (lw_Z below #[Value.ref b] s) w 0 [(0, .inr (some b))] [] := by
  have hbA : ¬ GA L0 b := by rw [hL0]; exact Nat.not_le.mpr hb
  refine gnew_4 X m_57 m_58 m_30 (by decide +kernel) (by decide +kernel) dL_law_0 (fun q1 h1 w2 hv => ?_)
  replace h := h q1 h1 w2 hv; clear hv h1
  refine g_widen (c2 := (1)) (s2 := (4)) (by decide) (by decide) ?_
  refine g_dup X dL_law_3 rf_cat ?_
  refine g_callI_v X (As := []) (st := [va_rf (some q1)]) (n := 0) (c_X3_init hst h) m_59 m_60 rfl m_30 m_61 (by decide +kernel) (by decide +kernel) rfl rfl (by simp [cat_int, rf_cat]) ⟨(by decide +kernel), (by decide +kernel)⟩ dL_law_4 (fun w3 h => ?_)
  refine g_widen (c2 := (3)) (s2 := (10)) (by decide +kernel) (by decide +kernel) ?_
  refine g_astore_n X [(1, .inr (some q1)), (0, .inr (some b))] dL_law_7 rfl (by decide) rfl ?_
  refine gnew_5 X m_990 m_991 m_34 (by decide +kernel) (by decide +kernel) dL_law_8 (fun q4 h1 w5 hv => ?_)
  replace h := h q4 h1 w5 hv; clear hv h1
  refine g_widen (c2 := (4)) (s2 := (41)) (by decide) (by decide) ?_
  refine g_dup X dL_law_11 rf_cat ?_
  refine g_callI_v X (As := []) (st := [va_rf (some q4)]) (n := 0) (c_X4_init hst h) m_992 m_993 rfl m_34 m_994 (by decide +kernel) (by decide +kernel) rfl rfl (by simp [cat_int, rf_cat]) ⟨(by decide +kernel), (by decide +kernel)⟩ dL_law_12 (fun w6 h => ?_)
  refine g_widen (c2 := (30)) (s2 := (1705)) (by decide +kernel) (by decide +kernel) ?_
  refine g_astore_n X [(2, .inr (some q4)), (1, .inr (some q1)), (0, .inr (some b))] dL_law_15 rfl (by decide) rfl ?_
  refine g_iconst X (v := (1 : Int32)) dL_law_16 (by decide) ?_
  have hi : (1 : Int32) = nI 1 := by decide
  have hn : 1 ≤ 64 := by decide
  refine gnewA_14 X m_1243 hi (by omega) (by have e1 : rm_L_law.cells = 601024 := rfl; omega) (by have e2 : rm_L_law.slots = 7293034 := rfl; omega) dL_law_17 (fun q7 h1 w8 hv => ?_)
  replace h := h q7 h1 w8 hv; clear hv h1 hi
  refine g_widen (c2 := (31)) (s2 := (1769)) (by omega) (by omega) ?_
  clear hn
  refine g_astore_n X [(3, .inr (some q7)), (2, .inr (some q4)), (1, .inr (some q1)), (0, .inr (some b))] dL_law_19 rfl (by decide) rfl ?_
  refine g_iconst X (v := (0 : Int32)) dL_law_20 (by decide) ?_
  refine g_istore X [(4, .inl (0 : Int32)), (3, .inr (some q7)), (2, .inr (some q4)), (1, .inr (some q1)), (0, .inr (some b))] dL_law_21 (by decide) rfl ?_
  obtain ⟨Inv10, ⟨n0, hn0, hi⟩, hsn9⟩ := h
  have lp10 : ∀ (n9 : Nat), n9 ≤ 513 → ∀ (y11 : Int32) (w12 : Wd), Inv10 n9 y11 w12 → Gw l G L0 p e rm_L_law s m #[Value.ref b] below meth c 7 (31 + (513 - n9) * 134 + 0) (1769 + (513 - n9) * 5157 + 0) (lw_Z below #[Value.ref b] s) w12 23 [(0, .inr (some b)), (1, .inr (some q1)), (2, .inr (some q4)), (3, .inr (some q7)), (4, .inl y11)] [] := by
    intro n9
    induction n9 using Nat.strongRecOn with
    | ind n9 ihn9 =>
      intro hnb y11 w12 hI
      have h := hsn9 n9 y11 w12 hI
      clear hI
      refine g_iload X dL_law_23 4 rfl ?_
      refine g_aload_n X dL_law_25 rfl 0 rfl ?_
      refine g_slen X hX hb hbA dL_law_26 (fun v13 hv => ?_)
      replace h := h v13 hv; clear hv
      refine g_iconst X (v := (5 : Int32)) dL_law_27 (by decide) ?_
      refine g_isub X dL_law_28 (fun v14 hv => ?_)
      replace h := h v14 hv; clear hv
      refine g_icmp_gt X (tgt := 1501) dL_law_29 (by decide) (fun hc => ?_) (fun hc => ?_)
      · replace h := h.1 hc; clear hc
        refine g_iconst X (v := (1 : Int32)) dL_law_1501 (by decide) ?_
        exact g_lawret X hL0 hr (by have e1 : rm_L_law.cells = 601024 := rfl; have e2 : rm_L_law.slots = 7293034 := rfl; omega) (by have e1 : rm_L_law.cells = 601024 := rfl; have e2 : rm_L_law.slots = 7293034 := rfl; omega) dL_law_1502
      · replace h := h.2 hc; clear hc
        refine g_aload_n X dL_law_32 rfl 0 rfl ?_
        refine g_iload X dL_law_33 4 rfl ?_
        obtain ⟨j15, hi, hj, h⟩ := h
        refine g_sld X hX hb hbA hi hj hLL dL_law_35 (fun v16 hv => ?_)
        replace h := h v16 hv; clear hv hi hj
        refine g_bipush X (v := (31 : Int32)) dL_law_36 (by decide) ?_
        refine g_iand X dL_law_38 (fun v17 hv => ?_)
        replace h := h v17 hv; clear hv
        obtain ⟨J18, hjJ18, h⟩ := h
        have jp18 : ∀  (w19 : Wd), J18 w19 → Gw l G L0 p e rm_L_law s m #[Value.ref b] below meth c 7 (31 + (513 - n9) * 134 + 134) (1769 + (513 - n9) * 5157 + 5157) (lw_Z below #[Value.ref b] s) w19 1495 [(0, .inr (some b)), (1, .inr (some q1)), (2, .inr (some q4)), (3, .inr (some q7)), (4, .inl y11)] [] := by
          intro w19 hJ
          have h := hjJ18 w19 hJ
          clear hJ
          refine g_iinc X dL_law_1495 4 rfl (d := (5 : Int32)) (by decide) (by decide) (fun v20 hv => ?_)
          replace h := h v20 hv; clear hv
          refine g_sub [0, 1, 2, 3, 4] [(4, .inl v20), (0, .inr (some b)), (1, .inr (some q1)), (2, .inr (some q4)), (3, .inr (some q7))] rfl ?_
          refine g_goto X (tgt := 23) dL_law_1498 (by decide) ?_
          obtain ⟨n, hn, hI⟩ := h
          refine g_widen (c2 := (31 + (513 - n) * 134 + 0)) (s2 := (1769 + (513 - n) * 5157 + 0)) (by omega) (by omega) ?_
          exact g_sub [1, 2, 3, 4, 0] [(0, .inr (some b)), (1, .inr (some q1)), (2, .inr (some q4)), (3, .inr (some q7)), (4, .inl v20)] rfl (ihn9 n hn (by omega) v20 w19 hI)
        rcases sw_20 v17 with hc | hc | hc | hc | hc | hc | hc | hc | hc | hc | hc | hc | hc | hc | hc | hc | hc | hc | hc | hc | hc | hc
        · replace h := h.1 hc
          refine g_tableEq X (tgt := 136) hc dL_law_39 (by decide) (by decide) rfl (by decide) ?_
          clear hc
          refine g_aload_n X dL_law_136 rfl 1 rfl ?_
          refine g_aload_n X dL_law_137 rfl 0 rfl ?_
          refine g_iload X dL_law_138 4 rfl ?_
          refine g_iconst X (v := (1 : Int32)) dL_law_140 (by decide) ?_
          refine g_iadd X dL_law_141 (fun v21 hv => ?_)
          replace h := h v21 hv; clear hv
          obtain ⟨j22, hi, hj, h⟩ := h
          refine g_sld X hX hb hbA hi hj hLL dL_law_142 (fun v23 hv => ?_)
          replace h := h v23 hv; clear hv hi hj
          refine g_aload_n X dL_law_143 rfl 0 rfl ?_
          refine g_iload X dL_law_144 4 rfl ?_
          refine g_iconst X (v := (2 : Int32)) dL_law_146 (by decide) ?_
          refine g_iadd X dL_law_147 (fun v24 hv => ?_)
          replace h := h v24 hv; clear hv
          obtain ⟨j25, hi, hj, h⟩ := h
          refine g_sld X hX hb hbA hi hj hLL dL_law_148 (fun v26 hv => ?_)
          replace h := h v26 hv; clear hv hi hj
          refine g_aload_n X dL_law_149 rfl 3 rfl ?_
          refine g_callH_i X (As := [va_rf (some q1), .int v23, .int v26, va_rf (some q7)]) (st := []) (n := 4) (c_L_person hst h) m_163 m_164 m_29 m_165 (by decide +kernel) (by decide +kernel) (by decide +kernel) rfl rfl (Nat.zero_le _) ⟨(by have e1 : rm_L_law.cells = 601024 := rfl; have e2 : rm_L_law.slots = 7293034 := rfl; have e3 : rm_L_person.cells = 7 := rfl; have e4 : rm_L_person.slots = 223 := rfl; omega), (by have e1 : rm_L_law.cells = 601024 := rfl; have e2 : rm_L_law.slots = 7293034 := rfl; have e3 : rm_L_person.cells = 7 := rfl; have e4 : rm_L_person.slots = 223 := rfl; omega)⟩ dL_law_150 (fun v28 w27 h => ?_)
          refine g_widen (c2 := (31 + (513 - n9) * 134 + 7)) (s2 := (1769 + (513 - n9) * 5157 + 223)) (by have e1 : rm_L_person.cells = 7 := rfl; omega) (by have e1 : rm_L_person.slots = 223 := rfl; omega) ?_
          refine g_istore X [(5, .inl v28), (0, .inr (some b)), (1, .inr (some q1)), (2, .inr (some q4)), (3, .inr (some q7)), (4, .inl y11)] dL_law_153 (by decide) rfl ?_
          refine g_aload_n X dL_law_155 rfl 3 rfl ?_
          refine g_aload_n X dL_law_156 rfl 1 rfl ?_
          refine g_iload X dL_law_157 5 rfl ?_
          refine g_iconst X (v := (1 : Int32)) dL_law_159 (by decide) ?_
          refine g_iadd X dL_law_160 (fun v29 hv => ?_)
          replace h := h v29 hv; clear hv
          obtain ⟨j30, hi, hj, h⟩ := h
          refine g_sld X hX hb hbA hi hj hLL dL_law_161 (fun v31 hv => ?_)
          replace h := h v31 hv; clear hv hi hj
          refine g_aload_n X dL_law_162 rfl 1 rfl ?_
          refine g_iload X dL_law_163 5 rfl ?_
          refine g_iconst X (v := (2 : Int32)) dL_law_165 (by decide) ?_
          refine g_iadd X dL_law_166 (fun v32 hv => ?_)
          replace h := h v32 hv; clear hv
          obtain ⟨j33, hi, hj, h⟩ := h
          refine g_sld X hX hb hbA hi hj hLL dL_law_167 (fun v34 hv => ?_)
          replace h := h v34 hv; clear hv hi hj
          have hk := h.1
          replace h := h.2
          refine g_callV_i X (As := [.int v31, .int v34]) (st := []) (n := 2) (c_X4_person hst h) rfl (by decide) hk (wE_5 G w27 q4) m_1095 m_1096 m_1097 m_34 m_1098 (by decide +kernel) (by decide +kernel) rfl rfl (Nat.zero_le _) ⟨(by have e1 : rm_L_law.cells = 601024 := rfl; have e2 : rm_L_law.slots = 7293034 := rfl; have e3 : rm_X4_person.cells = 0 := rfl; have e4 : rm_X4_person.slots = 0 := rfl; omega), (by have e1 : rm_L_law.cells = 601024 := rfl; have e2 : rm_L_law.slots = 7293034 := rfl; have e3 : rm_X4_person.cells = 0 := rfl; have e4 : rm_X4_person.slots = 0 := rfl; omega)⟩ dL_law_168 (fun v36 w35 h => ?_)
          clear hk
          refine g_widen (c2 := (31 + (513 - n9) * 134 + 7)) (s2 := (1769 + (513 - n9) * 5157 + 223)) (by have e1 : rm_X4_person.cells = 0 := rfl; omega) (by have e1 : rm_X4_person.slots = 0 := rfl; omega) ?_
          refine g_istore X [(6, .inl v36), (5, .inl v28), (0, .inr (some b)), (1, .inr (some q1)), (2, .inr (some q4)), (3, .inr (some q7)), (4, .inl y11)] dL_law_171 (by decide) rfl ?_
          refine g_aload_n X dL_law_173 rfl 4 rfl ?_
          have hk := h.1
          replace h := h.2
          refine g_callV_i X (As := []) (st := []) (n := 0) (c_X4_thrown hst h) rfl (by decide) hk (wE_5 G w35 q4) m_1091 m_1092 m_1093 m_34 m_1094 (by decide +kernel) (by decide +kernel) rfl rfl (Nat.zero_le _) ⟨(by have e1 : rm_L_law.cells = 601024 := rfl; have e2 : rm_L_law.slots = 7293034 := rfl; have e3 : rm_X4_thrown.cells = 0 := rfl; have e4 : rm_X4_thrown.slots = 0 := rfl; omega), (by have e1 : rm_L_law.cells = 601024 := rfl; have e2 : rm_L_law.slots = 7293034 := rfl; have e3 : rm_X4_thrown.cells = 0 := rfl; have e4 : rm_X4_thrown.slots = 0 := rfl; omega)⟩ dL_law_174 (fun v38 w37 h => ?_)
          clear hk
          refine g_widen (c2 := (31 + (513 - n9) * 134 + 7)) (s2 := (1769 + (513 - n9) * 5157 + 223)) (by have e1 : rm_X4_thrown.cells = 0 := rfl; omega) (by have e1 : rm_X4_thrown.slots = 0 := rfl; omega) ?_
          refine g_iload X dL_law_177 1 rfl ?_
          refine g_icmp_eq X (tgt := 184) dL_law_179 (by decide) (fun hc => ?_) (fun hc => ?_)
          · replace h := h.1 hc; clear hc
            refine g_iload X dL_law_184 1 rfl ?_
            obtain ⟨J39, hjJ39, h⟩ := h
            have jp39 : J39 → Gw l G L0 p e rm_L_law s m #[Value.ref b] below meth c 7 (31 + (513 - n9) * 134 + 7) (1769 + (513 - n9) * 5157 + 223) (lw_Z below #[Value.ref b] s) w37 201 [(0, .inr (some b)), (1, .inr (some q1)), (2, .inr (some q4)), (3, .inr (some q7)), (4, .inl y11)] [] := by
              intro hJ
              have h := hjJ39 hJ
              clear hJ
              refine g_goto X (tgt := 1495) dL_law_201 (by decide) ?_
              refine g_widen (c2 := (31 + (513 - n9) * 134 + 134)) (s2 := (1769 + (513 - n9) * 5157 + 5157)) (by omega) (by omega) ?_
              exact g_sub [0, 1, 2, 3, 4] [(0, .inr (some b)), (1, .inr (some q1)), (2, .inr (some q4)), (3, .inr (some q7)), (4, .inl y11)] rfl (jp18 w37 h)
            refine g_if_ne X (tgt := 201) dL_law_186 (by decide) (fun hc => ?_) (fun hc => ?_)
            · replace h := h.1 hc; clear hc
              exact g_sub [2, 3, 4, 5, 6] [(0, .inr (some b)), (1, .inr (some q1)), (2, .inr (some q4)), (3, .inr (some q7)), (4, .inl y11)] rfl (jp39  h)
            · replace h := h.2 hc; clear hc
              refine g_aload_n X dL_law_189 rfl 5 rfl ?_
              refine g_iconst X (v := (0 : Int32)) dL_law_190 (by decide) ?_
              have hk := h.1
              replace h := h.2
              obtain ⟨j40, hi, hj, hN, h⟩ := h
              refine g_lald X hk hi hj hN dL_law_191 (fun u41 hv => ?_)
              replace h := h u41 hv; clear hv hk hi hj hN
              refine g_iload X dL_law_192 0 rfl ?_
              refine g_i2l X dL_law_194 ?_
              refine g_lcmp X dL_law_195 ?_
              refine g_if_eq X (tgt := 201) dL_law_196 (by decide) (fun hc => ?_) (fun hc => ?_)
              · replace h := h.1 hc; clear hc
                exact g_sub [2, 3, 4, 5, 6] [(0, .inr (some b)), (1, .inr (some q1)), (2, .inr (some q4)), (3, .inr (some q7)), (4, .inl y11)] rfl (jp39  h)
              · replace h := h.2 hc; clear hc
                refine g_iconst X (v := (0 : Int32)) dL_law_199 (by decide) ?_
                exact h.elim
          · replace h := h.2 hc; clear hc
            refine g_iconst X (v := (0 : Int32)) dL_law_182 (by decide) ?_
            exact h.elim
        · replace h := h.2.1 hc
          refine g_tableEq X (tgt := 204) hc dL_law_39 (by decide) (by decide) rfl (by decide) ?_
          clear hc
          refine g_aload_n X dL_law_204 rfl 1 rfl ?_
          refine g_aload_n X dL_law_205 rfl 0 rfl ?_
          refine g_iload X dL_law_206 4 rfl ?_
          refine g_iconst X (v := (1 : Int32)) dL_law_208 (by decide) ?_
          refine g_iadd X dL_law_209 (fun v42 hv => ?_)
          replace h := h v42 hv; clear hv
          obtain ⟨j43, hi, hj, h⟩ := h
          refine g_sld X hX hb hbA hi hj hLL dL_law_210 (fun v44 hv => ?_)
          replace h := h v44 hv; clear hv hi hj
          refine g_aload_n X dL_law_211 rfl 0 rfl ?_
          refine g_iload X dL_law_212 4 rfl ?_
          refine g_iconst X (v := (2 : Int32)) dL_law_214 (by decide) ?_
          refine g_iadd X dL_law_215 (fun v45 hv => ?_)
          replace h := h v45 hv; clear hv
          obtain ⟨j46, hi, hj, h⟩ := h
          refine g_sld X hX hb hbA hi hj hLL dL_law_216 (fun v47 hv => ?_)
          replace h := h v47 hv; clear hv hi hj
          refine g_aload_n X dL_law_217 rfl 3 rfl ?_
          refine g_callH_i X (As := [va_rf (some q1), .int v44, .int v47, va_rf (some q7)]) (st := []) (n := 4) (c_L_earn hst h) m_374 m_375 m_29 m_376 (by decide +kernel) (by decide +kernel) (by decide +kernel) rfl rfl (Nat.zero_le _) ⟨(by have e1 : rm_L_law.cells = 601024 := rfl; have e2 : rm_L_law.slots = 7293034 := rfl; have e3 : rm_L_earn.cells = 3 := rfl; have e4 : rm_L_earn.slots = 18 := rfl; omega), (by have e1 : rm_L_law.cells = 601024 := rfl; have e2 : rm_L_law.slots = 7293034 := rfl; have e3 : rm_L_earn.cells = 3 := rfl; have e4 : rm_L_earn.slots = 18 := rfl; omega)⟩ dL_law_218 (fun v49 w48 h => ?_)
          refine g_widen (c2 := (31 + (513 - n9) * 134 + 3)) (s2 := (1769 + (513 - n9) * 5157 + 18)) (by have e1 : rm_L_earn.cells = 3 := rfl; omega) (by have e1 : rm_L_earn.slots = 18 := rfl; omega) ?_
          refine g_istore X [(5, .inl v49), (0, .inr (some b)), (1, .inr (some q1)), (2, .inr (some q4)), (3, .inr (some q7)), (4, .inl y11)] dL_law_221 (by decide) rfl ?_
          refine g_aload_n X dL_law_223 rfl 3 rfl ?_
          refine g_aload_n X dL_law_224 rfl 1 rfl ?_
          refine g_iload X dL_law_225 5 rfl ?_
          refine g_iconst X (v := (1 : Int32)) dL_law_227 (by decide) ?_
          refine g_iadd X dL_law_228 (fun v50 hv => ?_)
          replace h := h v50 hv; clear hv
          obtain ⟨j51, hi, hj, h⟩ := h
          refine g_sld X hX hb hbA hi hj hLL dL_law_229 (fun v52 hv => ?_)
          replace h := h v52 hv; clear hv hi hj
          refine g_aload_n X dL_law_230 rfl 1 rfl ?_
          refine g_iload X dL_law_231 5 rfl ?_
          refine g_iconst X (v := (2 : Int32)) dL_law_233 (by decide) ?_
          refine g_iadd X dL_law_234 (fun v53 hv => ?_)
          replace h := h v53 hv; clear hv
          obtain ⟨j54, hi, hj, h⟩ := h
          refine g_sld X hX hb hbA hi hj hLL dL_law_235 (fun v55 hv => ?_)
          replace h := h v55 hv; clear hv hi hj
          have hk := h.1
          replace h := h.2
          refine g_callV_i X (As := [.int v52, .int v55]) (st := []) (n := 2) (c_X4_earn hst h) rfl (by decide) hk (wE_5 G w48 q4) m_1103 m_1104 m_1105 m_34 m_1106 (by decide +kernel) (by decide +kernel) rfl rfl (Nat.zero_le _) ⟨(by have e1 : rm_L_law.cells = 601024 := rfl; have e2 : rm_L_law.slots = 7293034 := rfl; have e3 : rm_X4_earn.cells = 0 := rfl; have e4 : rm_X4_earn.slots = 0 := rfl; omega), (by have e1 : rm_L_law.cells = 601024 := rfl; have e2 : rm_L_law.slots = 7293034 := rfl; have e3 : rm_X4_earn.cells = 0 := rfl; have e4 : rm_X4_earn.slots = 0 := rfl; omega)⟩ dL_law_236 (fun v57 w56 h => ?_)
          clear hk
          refine g_widen (c2 := (31 + (513 - n9) * 134 + 3)) (s2 := (1769 + (513 - n9) * 5157 + 18)) (by have e1 : rm_X4_earn.cells = 0 := rfl; omega) (by have e1 : rm_X4_earn.slots = 0 := rfl; omega) ?_
          refine g_istore X [(6, .inl v57), (5, .inl v49), (0, .inr (some b)), (1, .inr (some q1)), (2, .inr (some q4)), (3, .inr (some q7)), (4, .inl y11)] dL_law_239 (by decide) rfl ?_
          refine g_aload_n X dL_law_241 rfl 4 rfl ?_
          have hk := h.1
          replace h := h.2
          refine g_callV_i X (As := []) (st := []) (n := 0) (c_X4_thrown hst h) rfl (by decide) hk (wE_5 G w56 q4) m_1091 m_1092 m_1093 m_34 m_1094 (by decide +kernel) (by decide +kernel) rfl rfl (Nat.zero_le _) ⟨(by have e1 : rm_L_law.cells = 601024 := rfl; have e2 : rm_L_law.slots = 7293034 := rfl; have e3 : rm_X4_thrown.cells = 0 := rfl; have e4 : rm_X4_thrown.slots = 0 := rfl; omega), (by have e1 : rm_L_law.cells = 601024 := rfl; have e2 : rm_L_law.slots = 7293034 := rfl; have e3 : rm_X4_thrown.cells = 0 := rfl; have e4 : rm_X4_thrown.slots = 0 := rfl; omega)⟩ dL_law_242 (fun v59 w58 h => ?_)
          clear hk
          refine g_widen (c2 := (31 + (513 - n9) * 134 + 3)) (s2 := (1769 + (513 - n9) * 5157 + 18)) (by have e1 : rm_X4_thrown.cells = 0 := rfl; omega) (by have e1 : rm_X4_thrown.slots = 0 := rfl; omega) ?_
          refine g_iload X dL_law_245 1 rfl ?_
          refine g_icmp_eq X (tgt := 252) dL_law_247 (by decide) (fun hc => ?_) (fun hc => ?_)
          · replace h := h.1 hc; clear hc
            refine g_iload X dL_law_252 1 rfl ?_
            obtain ⟨J60, hjJ60, h⟩ := h
            have jp60 : J60 → Gw l G L0 p e rm_L_law s m #[Value.ref b] below meth c 7 (31 + (513 - n9) * 134 + 3) (1769 + (513 - n9) * 5157 + 18) (lw_Z below #[Value.ref b] s) w58 269 [(0, .inr (some b)), (1, .inr (some q1)), (2, .inr (some q4)), (3, .inr (some q7)), (4, .inl y11)] [] := by
              intro hJ
              have h := hjJ60 hJ
              clear hJ
              refine g_goto X (tgt := 1495) dL_law_269 (by decide) ?_
              refine g_widen (c2 := (31 + (513 - n9) * 134 + 134)) (s2 := (1769 + (513 - n9) * 5157 + 5157)) (by omega) (by omega) ?_
              exact g_sub [0, 1, 2, 3, 4] [(0, .inr (some b)), (1, .inr (some q1)), (2, .inr (some q4)), (3, .inr (some q7)), (4, .inl y11)] rfl (jp18 w58 h)
            refine g_if_ne X (tgt := 269) dL_law_254 (by decide) (fun hc => ?_) (fun hc => ?_)
            · replace h := h.1 hc; clear hc
              exact g_sub [2, 3, 4, 5, 6] [(0, .inr (some b)), (1, .inr (some q1)), (2, .inr (some q4)), (3, .inr (some q7)), (4, .inl y11)] rfl (jp60  h)
            · replace h := h.2 hc; clear hc
              refine g_aload_n X dL_law_257 rfl 5 rfl ?_
              refine g_iconst X (v := (0 : Int32)) dL_law_258 (by decide) ?_
              have hk := h.1
              replace h := h.2
              obtain ⟨j61, hi, hj, hN, h⟩ := h
              refine g_lald X hk hi hj hN dL_law_259 (fun u62 hv => ?_)
              replace h := h u62 hv; clear hv hk hi hj hN
              refine g_iload X dL_law_260 0 rfl ?_
              refine g_i2l X dL_law_262 ?_
              refine g_lcmp X dL_law_263 ?_
              refine g_if_eq X (tgt := 269) dL_law_264 (by decide) (fun hc => ?_) (fun hc => ?_)
              · replace h := h.1 hc; clear hc
                exact g_sub [2, 3, 4, 5, 6] [(0, .inr (some b)), (1, .inr (some q1)), (2, .inr (some q4)), (3, .inr (some q7)), (4, .inl y11)] rfl (jp60  h)
              · replace h := h.2 hc; clear hc
                refine g_iconst X (v := (0 : Int32)) dL_law_267 (by decide) ?_
                exact h.elim
          · replace h := h.2 hc; clear hc
            refine g_iconst X (v := (0 : Int32)) dL_law_250 (by decide) ?_
            exact h.elim
        · replace h := h.2.2.1 hc
          refine g_tableEq X (tgt := 272) hc dL_law_39 (by decide) (by decide) rfl (by decide) ?_
          clear hc
          refine g_aload_n X dL_law_272 rfl 1 rfl ?_
          refine g_aload_n X dL_law_273 rfl 0 rfl ?_
          refine g_iload X dL_law_274 4 rfl ?_
          refine g_iconst X (v := (1 : Int32)) dL_law_276 (by decide) ?_
          refine g_iadd X dL_law_277 (fun v63 hv => ?_)
          replace h := h v63 hv; clear hv
          obtain ⟨j64, hi, hj, h⟩ := h
          refine g_sld X hX hb hbA hi hj hLL dL_law_278 (fun v65 hv => ?_)
          replace h := h v65 hv; clear hv hi hj
          refine g_aload_n X dL_law_279 rfl 0 rfl ?_
          refine g_iload X dL_law_280 4 rfl ?_
          refine g_iconst X (v := (2 : Int32)) dL_law_282 (by decide) ?_
          refine g_iadd X dL_law_283 (fun v66 hv => ?_)
          replace h := h v66 hv; clear hv
          obtain ⟨j67, hi, hj, h⟩ := h
          refine g_sld X hX hb hbA hi hj hLL dL_law_284 (fun v68 hv => ?_)
          replace h := h v68 hv; clear hv hi hj
          refine g_aload_n X dL_law_285 rfl 3 rfl ?_
          refine g_callH_i X (As := [va_rf (some q1), .int v65, .int v68, va_rf (some q7)]) (st := []) (n := 4) (c_L_die hst h) m_404 m_405 m_29 m_406 (by decide +kernel) (by decide +kernel) (by decide +kernel) rfl rfl (Nat.zero_le _) ⟨(by have e1 : rm_L_law.cells = 601024 := rfl; have e2 : rm_L_law.slots = 7293034 := rfl; have e3 : rm_L_die.cells = 4 := rfl; have e4 : rm_L_die.slots = 24 := rfl; omega), (by have e1 : rm_L_law.cells = 601024 := rfl; have e2 : rm_L_law.slots = 7293034 := rfl; have e3 : rm_L_die.cells = 4 := rfl; have e4 : rm_L_die.slots = 24 := rfl; omega)⟩ dL_law_286 (fun v70 w69 h => ?_)
          refine g_widen (c2 := (31 + (513 - n9) * 134 + 4)) (s2 := (1769 + (513 - n9) * 5157 + 24)) (by have e1 : rm_L_die.cells = 4 := rfl; omega) (by have e1 : rm_L_die.slots = 24 := rfl; omega) ?_
          refine g_istore X [(5, .inl v70), (0, .inr (some b)), (1, .inr (some q1)), (2, .inr (some q4)), (3, .inr (some q7)), (4, .inl y11)] dL_law_289 (by decide) rfl ?_
          refine g_aload_n X dL_law_291 rfl 3 rfl ?_
          refine g_aload_n X dL_law_292 rfl 1 rfl ?_
          refine g_iload X dL_law_293 5 rfl ?_
          refine g_iconst X (v := (1 : Int32)) dL_law_295 (by decide) ?_
          refine g_iadd X dL_law_296 (fun v71 hv => ?_)
          replace h := h v71 hv; clear hv
          obtain ⟨j72, hi, hj, h⟩ := h
          refine g_sld X hX hb hbA hi hj hLL dL_law_297 (fun v73 hv => ?_)
          replace h := h v73 hv; clear hv hi hj
          refine g_aload_n X dL_law_298 rfl 1 rfl ?_
          refine g_iload X dL_law_299 5 rfl ?_
          refine g_iconst X (v := (2 : Int32)) dL_law_301 (by decide) ?_
          refine g_iadd X dL_law_302 (fun v74 hv => ?_)
          replace h := h v74 hv; clear hv
          obtain ⟨j75, hi, hj, h⟩ := h
          refine g_sld X hX hb hbA hi hj hLL dL_law_303 (fun v76 hv => ?_)
          replace h := h v76 hv; clear hv hi hj
          have hk := h.1
          replace h := h.2
          refine g_callV_i X (As := [.int v73, .int v76]) (st := []) (n := 2) (c_X4_die hst h) rfl (by decide) hk (wE_5 G w69 q4) m_1112 m_1113 m_1114 m_34 m_1115 (by decide +kernel) (by decide +kernel) rfl rfl (Nat.zero_le _) ⟨(by have e1 : rm_L_law.cells = 601024 := rfl; have e2 : rm_L_law.slots = 7293034 := rfl; have e3 : rm_X4_die.cells = 0 := rfl; have e4 : rm_X4_die.slots = 0 := rfl; omega), (by have e1 : rm_L_law.cells = 601024 := rfl; have e2 : rm_L_law.slots = 7293034 := rfl; have e3 : rm_X4_die.cells = 0 := rfl; have e4 : rm_X4_die.slots = 0 := rfl; omega)⟩ dL_law_304 (fun v78 w77 h => ?_)
          clear hk
          refine g_widen (c2 := (31 + (513 - n9) * 134 + 4)) (s2 := (1769 + (513 - n9) * 5157 + 24)) (by have e1 : rm_X4_die.cells = 0 := rfl; omega) (by have e1 : rm_X4_die.slots = 0 := rfl; omega) ?_
          refine g_istore X [(6, .inl v78), (5, .inl v70), (0, .inr (some b)), (1, .inr (some q1)), (2, .inr (some q4)), (3, .inr (some q7)), (4, .inl y11)] dL_law_307 (by decide) rfl ?_
          refine g_aload_n X dL_law_309 rfl 4 rfl ?_
          have hk := h.1
          replace h := h.2
          refine g_callV_i X (As := []) (st := []) (n := 0) (c_X4_thrown hst h) rfl (by decide) hk (wE_5 G w77 q4) m_1091 m_1092 m_1093 m_34 m_1094 (by decide +kernel) (by decide +kernel) rfl rfl (Nat.zero_le _) ⟨(by have e1 : rm_L_law.cells = 601024 := rfl; have e2 : rm_L_law.slots = 7293034 := rfl; have e3 : rm_X4_thrown.cells = 0 := rfl; have e4 : rm_X4_thrown.slots = 0 := rfl; omega), (by have e1 : rm_L_law.cells = 601024 := rfl; have e2 : rm_L_law.slots = 7293034 := rfl; have e3 : rm_X4_thrown.cells = 0 := rfl; have e4 : rm_X4_thrown.slots = 0 := rfl; omega)⟩ dL_law_310 (fun v80 w79 h => ?_)
          clear hk
          refine g_widen (c2 := (31 + (513 - n9) * 134 + 4)) (s2 := (1769 + (513 - n9) * 5157 + 24)) (by have e1 : rm_X4_thrown.cells = 0 := rfl; omega) (by have e1 : rm_X4_thrown.slots = 0 := rfl; omega) ?_
          refine g_iload X dL_law_313 1 rfl ?_
          refine g_icmp_eq X (tgt := 320) dL_law_315 (by decide) (fun hc => ?_) (fun hc => ?_)
          · replace h := h.1 hc; clear hc
            refine g_iload X dL_law_320 1 rfl ?_
            obtain ⟨J81, hjJ81, h⟩ := h
            have jp81 : J81 → Gw l G L0 p e rm_L_law s m #[Value.ref b] below meth c 7 (31 + (513 - n9) * 134 + 4) (1769 + (513 - n9) * 5157 + 24) (lw_Z below #[Value.ref b] s) w79 337 [(0, .inr (some b)), (1, .inr (some q1)), (2, .inr (some q4)), (3, .inr (some q7)), (4, .inl y11)] [] := by
              intro hJ
              have h := hjJ81 hJ
              clear hJ
              refine g_goto X (tgt := 1495) dL_law_337 (by decide) ?_
              refine g_widen (c2 := (31 + (513 - n9) * 134 + 134)) (s2 := (1769 + (513 - n9) * 5157 + 5157)) (by omega) (by omega) ?_
              exact g_sub [0, 1, 2, 3, 4] [(0, .inr (some b)), (1, .inr (some q1)), (2, .inr (some q4)), (3, .inr (some q7)), (4, .inl y11)] rfl (jp18 w79 h)
            refine g_if_ne X (tgt := 337) dL_law_322 (by decide) (fun hc => ?_) (fun hc => ?_)
            · replace h := h.1 hc; clear hc
              exact g_sub [2, 3, 4, 5, 6] [(0, .inr (some b)), (1, .inr (some q1)), (2, .inr (some q4)), (3, .inr (some q7)), (4, .inl y11)] rfl (jp81  h)
            · replace h := h.2 hc; clear hc
              refine g_aload_n X dL_law_325 rfl 5 rfl ?_
              refine g_iconst X (v := (0 : Int32)) dL_law_326 (by decide) ?_
              have hk := h.1
              replace h := h.2
              obtain ⟨j82, hi, hj, hN, h⟩ := h
              refine g_lald X hk hi hj hN dL_law_327 (fun u83 hv => ?_)
              replace h := h u83 hv; clear hv hk hi hj hN
              refine g_iload X dL_law_328 0 rfl ?_
              refine g_i2l X dL_law_330 ?_
              refine g_lcmp X dL_law_331 ?_
              refine g_if_eq X (tgt := 337) dL_law_332 (by decide) (fun hc => ?_) (fun hc => ?_)
              · replace h := h.1 hc; clear hc
                exact g_sub [2, 3, 4, 5, 6] [(0, .inr (some b)), (1, .inr (some q1)), (2, .inr (some q4)), (3, .inr (some q7)), (4, .inl y11)] rfl (jp81  h)
              · replace h := h.2 hc; clear hc
                refine g_iconst X (v := (0 : Int32)) dL_law_335 (by decide) ?_
                exact h.elim
          · replace h := h.2 hc; clear hc
            refine g_iconst X (v := (0 : Int32)) dL_law_318 (by decide) ?_
            exact h.elim
        · replace h := h.2.2.2.1 hc
          refine g_tableEq X (tgt := 340) hc dL_law_39 (by decide) (by decide) rfl (by decide) ?_
          clear hc
          refine g_aload_n X dL_law_340 rfl 1 rfl ?_
          refine g_aload_n X dL_law_341 rfl 0 rfl ?_
          refine g_iload X dL_law_342 4 rfl ?_
          refine g_iconst X (v := (1 : Int32)) dL_law_344 (by decide) ?_
          refine g_iadd X dL_law_345 (fun v84 hv => ?_)
          replace h := h v84 hv; clear hv
          obtain ⟨j85, hi, hj, h⟩ := h
          refine g_sld X hX hb hbA hi hj hLL dL_law_346 (fun v86 hv => ?_)
          replace h := h v86 hv; clear hv hi hj
          refine g_aload_n X dL_law_347 rfl 0 rfl ?_
          refine g_iload X dL_law_348 4 rfl ?_
          refine g_iconst X (v := (2 : Int32)) dL_law_350 (by decide) ?_
          refine g_iadd X dL_law_351 (fun v87 hv => ?_)
          replace h := h v87 hv; clear hv
          obtain ⟨j88, hi, hj, h⟩ := h
          refine g_sld X hX hb hbA hi hj hLL dL_law_352 (fun v89 hv => ?_)
          replace h := h v89 hv; clear hv hi hj
          refine g_aload_n X dL_law_353 rfl 3 rfl ?_
          refine g_callH_i X (As := [va_rf (some q1), .int v86, .int v89, va_rf (some q7)]) (st := []) (n := 4) (c_L_circle hst h) m_457 m_458 m_29 m_459 (by decide +kernel) (by decide +kernel) (by decide +kernel) rfl rfl (Nat.zero_le _) ⟨(by have e1 : rm_L_law.cells = 601024 := rfl; have e2 : rm_L_law.slots = 7293034 := rfl; have e3 : rm_L_circle.cells = 8 := rfl; have e4 : rm_L_circle.slots = 160 := rfl; omega), (by have e1 : rm_L_law.cells = 601024 := rfl; have e2 : rm_L_law.slots = 7293034 := rfl; have e3 : rm_L_circle.cells = 8 := rfl; have e4 : rm_L_circle.slots = 160 := rfl; omega)⟩ dL_law_354 (fun v91 w90 h => ?_)
          refine g_widen (c2 := (31 + (513 - n9) * 134 + 8)) (s2 := (1769 + (513 - n9) * 5157 + 160)) (by have e1 : rm_L_circle.cells = 8 := rfl; omega) (by have e1 : rm_L_circle.slots = 160 := rfl; omega) ?_
          refine g_istore X [(5, .inl v91), (0, .inr (some b)), (1, .inr (some q1)), (2, .inr (some q4)), (3, .inr (some q7)), (4, .inl y11)] dL_law_357 (by decide) rfl ?_
          refine g_aload_n X dL_law_359 rfl 3 rfl ?_
          refine g_aload_n X dL_law_360 rfl 1 rfl ?_
          refine g_iload X dL_law_361 5 rfl ?_
          refine g_iconst X (v := (1 : Int32)) dL_law_363 (by decide) ?_
          refine g_iadd X dL_law_364 (fun v92 hv => ?_)
          replace h := h v92 hv; clear hv
          obtain ⟨j93, hi, hj, h⟩ := h
          refine g_sld X hX hb hbA hi hj hLL dL_law_365 (fun v94 hv => ?_)
          replace h := h v94 hv; clear hv hi hj
          refine g_aload_n X dL_law_366 rfl 1 rfl ?_
          refine g_iload X dL_law_367 5 rfl ?_
          refine g_iconst X (v := (2 : Int32)) dL_law_369 (by decide) ?_
          refine g_iadd X dL_law_370 (fun v95 hv => ?_)
          replace h := h v95 hv; clear hv
          obtain ⟨j96, hi, hj, h⟩ := h
          refine g_sld X hX hb hbA hi hj hLL dL_law_371 (fun v97 hv => ?_)
          replace h := h v97 hv; clear hv hi hj
          have hk := h.1
          replace h := h.2
          refine g_callV_i X (As := [.int v94, .int v97]) (st := []) (n := 2) (c_X4_circle hst h) rfl (by decide) hk (wE_5 G w90 q4) m_1136 m_1137 m_1138 m_34 m_1139 (by decide +kernel) (by decide +kernel) rfl rfl (Nat.zero_le _) ⟨(by have e1 : rm_L_law.cells = 601024 := rfl; have e2 : rm_L_law.slots = 7293034 := rfl; have e3 : rm_X4_circle.cells = 0 := rfl; have e4 : rm_X4_circle.slots = 0 := rfl; omega), (by have e1 : rm_L_law.cells = 601024 := rfl; have e2 : rm_L_law.slots = 7293034 := rfl; have e3 : rm_X4_circle.cells = 0 := rfl; have e4 : rm_X4_circle.slots = 0 := rfl; omega)⟩ dL_law_372 (fun v99 w98 h => ?_)
          clear hk
          refine g_widen (c2 := (31 + (513 - n9) * 134 + 8)) (s2 := (1769 + (513 - n9) * 5157 + 160)) (by have e1 : rm_X4_circle.cells = 0 := rfl; omega) (by have e1 : rm_X4_circle.slots = 0 := rfl; omega) ?_
          refine g_istore X [(6, .inl v99), (5, .inl v91), (0, .inr (some b)), (1, .inr (some q1)), (2, .inr (some q4)), (3, .inr (some q7)), (4, .inl y11)] dL_law_375 (by decide) rfl ?_
          refine g_aload_n X dL_law_377 rfl 4 rfl ?_
          have hk := h.1
          replace h := h.2
          refine g_callV_i X (As := []) (st := []) (n := 0) (c_X4_thrown hst h) rfl (by decide) hk (wE_5 G w98 q4) m_1091 m_1092 m_1093 m_34 m_1094 (by decide +kernel) (by decide +kernel) rfl rfl (Nat.zero_le _) ⟨(by have e1 : rm_L_law.cells = 601024 := rfl; have e2 : rm_L_law.slots = 7293034 := rfl; have e3 : rm_X4_thrown.cells = 0 := rfl; have e4 : rm_X4_thrown.slots = 0 := rfl; omega), (by have e1 : rm_L_law.cells = 601024 := rfl; have e2 : rm_L_law.slots = 7293034 := rfl; have e3 : rm_X4_thrown.cells = 0 := rfl; have e4 : rm_X4_thrown.slots = 0 := rfl; omega)⟩ dL_law_378 (fun v101 w100 h => ?_)
          clear hk
          refine g_widen (c2 := (31 + (513 - n9) * 134 + 8)) (s2 := (1769 + (513 - n9) * 5157 + 160)) (by have e1 : rm_X4_thrown.cells = 0 := rfl; omega) (by have e1 : rm_X4_thrown.slots = 0 := rfl; omega) ?_
          refine g_iload X dL_law_381 1 rfl ?_
          refine g_icmp_eq X (tgt := 388) dL_law_383 (by decide) (fun hc => ?_) (fun hc => ?_)
          · replace h := h.1 hc; clear hc
            refine g_iload X dL_law_388 1 rfl ?_
            obtain ⟨J102, hjJ102, h⟩ := h
            have jp102 : J102 → Gw l G L0 p e rm_L_law s m #[Value.ref b] below meth c 7 (31 + (513 - n9) * 134 + 8) (1769 + (513 - n9) * 5157 + 160) (lw_Z below #[Value.ref b] s) w100 405 [(0, .inr (some b)), (1, .inr (some q1)), (2, .inr (some q4)), (3, .inr (some q7)), (4, .inl y11)] [] := by
              intro hJ
              have h := hjJ102 hJ
              clear hJ
              refine g_goto X (tgt := 1495) dL_law_405 (by decide) ?_
              refine g_widen (c2 := (31 + (513 - n9) * 134 + 134)) (s2 := (1769 + (513 - n9) * 5157 + 5157)) (by omega) (by omega) ?_
              exact g_sub [0, 1, 2, 3, 4] [(0, .inr (some b)), (1, .inr (some q1)), (2, .inr (some q4)), (3, .inr (some q7)), (4, .inl y11)] rfl (jp18 w100 h)
            refine g_if_ne X (tgt := 405) dL_law_390 (by decide) (fun hc => ?_) (fun hc => ?_)
            · replace h := h.1 hc; clear hc
              exact g_sub [2, 3, 4, 5, 6] [(0, .inr (some b)), (1, .inr (some q1)), (2, .inr (some q4)), (3, .inr (some q7)), (4, .inl y11)] rfl (jp102  h)
            · replace h := h.2 hc; clear hc
              refine g_aload_n X dL_law_393 rfl 5 rfl ?_
              refine g_iconst X (v := (0 : Int32)) dL_law_394 (by decide) ?_
              have hk := h.1
              replace h := h.2
              obtain ⟨j103, hi, hj, hN, h⟩ := h
              refine g_lald X hk hi hj hN dL_law_395 (fun u104 hv => ?_)
              replace h := h u104 hv; clear hv hk hi hj hN
              refine g_iload X dL_law_396 0 rfl ?_
              refine g_i2l X dL_law_398 ?_
              refine g_lcmp X dL_law_399 ?_
              refine g_if_eq X (tgt := 405) dL_law_400 (by decide) (fun hc => ?_) (fun hc => ?_)
              · replace h := h.1 hc; clear hc
                exact g_sub [2, 3, 4, 5, 6] [(0, .inr (some b)), (1, .inr (some q1)), (2, .inr (some q4)), (3, .inr (some q7)), (4, .inl y11)] rfl (jp102  h)
              · replace h := h.2 hc; clear hc
                refine g_iconst X (v := (0 : Int32)) dL_law_403 (by decide) ?_
                exact h.elim
          · replace h := h.2 hc; clear hc
            refine g_iconst X (v := (0 : Int32)) dL_law_386 (by decide) ?_
            exact h.elim
        · replace h := h.2.2.2.2.1 hc
          refine g_tableEq X (tgt := 408) hc dL_law_39 (by decide) (by decide) rfl (by decide) ?_
          clear hc
          refine g_aload_n X dL_law_408 rfl 1 rfl ?_
          refine g_aload_n X dL_law_409 rfl 0 rfl ?_
          refine g_iload X dL_law_410 4 rfl ?_
          refine g_iconst X (v := (1 : Int32)) dL_law_412 (by decide) ?_
          refine g_iadd X dL_law_413 (fun v105 hv => ?_)
          replace h := h v105 hv; clear hv
          obtain ⟨j106, hi, hj, h⟩ := h
          refine g_sld X hX hb hbA hi hj hLL dL_law_414 (fun v107 hv => ?_)
          replace h := h v107 hv; clear hv hi hj
          refine g_aload_n X dL_law_415 rfl 0 rfl ?_
          refine g_iload X dL_law_416 4 rfl ?_
          refine g_iconst X (v := (2 : Int32)) dL_law_418 (by decide) ?_
          refine g_iadd X dL_law_419 (fun v108 hv => ?_)
          replace h := h v108 hv; clear hv
          obtain ⟨j109, hi, hj, h⟩ := h
          refine g_sld X hX hb hbA hi hj hLL dL_law_420 (fun v110 hv => ?_)
          replace h := h v110 hv; clear hv hi hj
          refine g_aload_n X dL_law_421 rfl 3 rfl ?_
          refine g_callH_i X (As := [va_rf (some q1), .int v107, .int v110, va_rf (some q7)]) (st := []) (n := 4) (c_L_enter hst h) m_500 m_501 m_29 m_502 (by decide +kernel) (by decide +kernel) (by decide +kernel) rfl rfl (Nat.zero_le _) ⟨(by have e1 : rm_L_law.cells = 601024 := rfl; have e2 : rm_L_law.slots = 7293034 := rfl; have e3 : rm_L_enter.cells = 7 := rfl; have e4 : rm_L_enter.slots = 158 := rfl; omega), (by have e1 : rm_L_law.cells = 601024 := rfl; have e2 : rm_L_law.slots = 7293034 := rfl; have e3 : rm_L_enter.cells = 7 := rfl; have e4 : rm_L_enter.slots = 158 := rfl; omega)⟩ dL_law_422 (fun v112 w111 h => ?_)
          refine g_widen (c2 := (31 + (513 - n9) * 134 + 7)) (s2 := (1769 + (513 - n9) * 5157 + 158)) (by have e1 : rm_L_enter.cells = 7 := rfl; omega) (by have e1 : rm_L_enter.slots = 158 := rfl; omega) ?_
          refine g_istore X [(5, .inl v112), (0, .inr (some b)), (1, .inr (some q1)), (2, .inr (some q4)), (3, .inr (some q7)), (4, .inl y11)] dL_law_425 (by decide) rfl ?_
          refine g_aload_n X dL_law_427 rfl 3 rfl ?_
          refine g_aload_n X dL_law_428 rfl 1 rfl ?_
          refine g_iload X dL_law_429 5 rfl ?_
          refine g_iconst X (v := (1 : Int32)) dL_law_431 (by decide) ?_
          refine g_iadd X dL_law_432 (fun v113 hv => ?_)
          replace h := h v113 hv; clear hv
          obtain ⟨j114, hi, hj, h⟩ := h
          refine g_sld X hX hb hbA hi hj hLL dL_law_433 (fun v115 hv => ?_)
          replace h := h v115 hv; clear hv hi hj
          refine g_aload_n X dL_law_434 rfl 1 rfl ?_
          refine g_iload X dL_law_435 5 rfl ?_
          refine g_iconst X (v := (2 : Int32)) dL_law_437 (by decide) ?_
          refine g_iadd X dL_law_438 (fun v116 hv => ?_)
          replace h := h v116 hv; clear hv
          obtain ⟨j117, hi, hj, h⟩ := h
          refine g_sld X hX hb hbA hi hj hLL dL_law_439 (fun v118 hv => ?_)
          replace h := h v118 hv; clear hv hi hj
          have hk := h.1
          replace h := h.2
          refine g_callV_i X (As := [.int v115, .int v118]) (st := []) (n := 2) (c_X4_enter hst h) rfl (by decide) hk (wE_5 G w111 q4) m_1140 m_1141 m_1142 m_34 m_1143 (by decide +kernel) (by decide +kernel) rfl rfl (Nat.zero_le _) ⟨(by have e1 : rm_L_law.cells = 601024 := rfl; have e2 : rm_L_law.slots = 7293034 := rfl; have e3 : rm_X4_enter.cells = 0 := rfl; have e4 : rm_X4_enter.slots = 0 := rfl; omega), (by have e1 : rm_L_law.cells = 601024 := rfl; have e2 : rm_L_law.slots = 7293034 := rfl; have e3 : rm_X4_enter.cells = 0 := rfl; have e4 : rm_X4_enter.slots = 0 := rfl; omega)⟩ dL_law_440 (fun v120 w119 h => ?_)
          clear hk
          refine g_widen (c2 := (31 + (513 - n9) * 134 + 7)) (s2 := (1769 + (513 - n9) * 5157 + 158)) (by have e1 : rm_X4_enter.cells = 0 := rfl; omega) (by have e1 : rm_X4_enter.slots = 0 := rfl; omega) ?_
          refine g_istore X [(6, .inl v120), (5, .inl v112), (0, .inr (some b)), (1, .inr (some q1)), (2, .inr (some q4)), (3, .inr (some q7)), (4, .inl y11)] dL_law_443 (by decide) rfl ?_
          refine g_aload_n X dL_law_445 rfl 4 rfl ?_
          have hk := h.1
          replace h := h.2
          refine g_callV_i X (As := []) (st := []) (n := 0) (c_X4_thrown hst h) rfl (by decide) hk (wE_5 G w119 q4) m_1091 m_1092 m_1093 m_34 m_1094 (by decide +kernel) (by decide +kernel) rfl rfl (Nat.zero_le _) ⟨(by have e1 : rm_L_law.cells = 601024 := rfl; have e2 : rm_L_law.slots = 7293034 := rfl; have e3 : rm_X4_thrown.cells = 0 := rfl; have e4 : rm_X4_thrown.slots = 0 := rfl; omega), (by have e1 : rm_L_law.cells = 601024 := rfl; have e2 : rm_L_law.slots = 7293034 := rfl; have e3 : rm_X4_thrown.cells = 0 := rfl; have e4 : rm_X4_thrown.slots = 0 := rfl; omega)⟩ dL_law_446 (fun v122 w121 h => ?_)
          clear hk
          refine g_widen (c2 := (31 + (513 - n9) * 134 + 7)) (s2 := (1769 + (513 - n9) * 5157 + 158)) (by have e1 : rm_X4_thrown.cells = 0 := rfl; omega) (by have e1 : rm_X4_thrown.slots = 0 := rfl; omega) ?_
          refine g_iload X dL_law_449 1 rfl ?_
          refine g_icmp_eq X (tgt := 456) dL_law_451 (by decide) (fun hc => ?_) (fun hc => ?_)
          · replace h := h.1 hc; clear hc
            refine g_iload X dL_law_456 1 rfl ?_
            obtain ⟨J123, hjJ123, h⟩ := h
            have jp123 : J123 → Gw l G L0 p e rm_L_law s m #[Value.ref b] below meth c 7 (31 + (513 - n9) * 134 + 7) (1769 + (513 - n9) * 5157 + 158) (lw_Z below #[Value.ref b] s) w121 473 [(0, .inr (some b)), (1, .inr (some q1)), (2, .inr (some q4)), (3, .inr (some q7)), (4, .inl y11)] [] := by
              intro hJ
              have h := hjJ123 hJ
              clear hJ
              refine g_goto X (tgt := 1495) dL_law_473 (by decide) ?_
              refine g_widen (c2 := (31 + (513 - n9) * 134 + 134)) (s2 := (1769 + (513 - n9) * 5157 + 5157)) (by omega) (by omega) ?_
              exact g_sub [0, 1, 2, 3, 4] [(0, .inr (some b)), (1, .inr (some q1)), (2, .inr (some q4)), (3, .inr (some q7)), (4, .inl y11)] rfl (jp18 w121 h)
            refine g_if_ne X (tgt := 473) dL_law_458 (by decide) (fun hc => ?_) (fun hc => ?_)
            · replace h := h.1 hc; clear hc
              exact g_sub [2, 3, 4, 5, 6] [(0, .inr (some b)), (1, .inr (some q1)), (2, .inr (some q4)), (3, .inr (some q7)), (4, .inl y11)] rfl (jp123  h)
            · replace h := h.2 hc; clear hc
              refine g_aload_n X dL_law_461 rfl 5 rfl ?_
              refine g_iconst X (v := (0 : Int32)) dL_law_462 (by decide) ?_
              have hk := h.1
              replace h := h.2
              obtain ⟨j124, hi, hj, hN, h⟩ := h
              refine g_lald X hk hi hj hN dL_law_463 (fun u125 hv => ?_)
              replace h := h u125 hv; clear hv hk hi hj hN
              refine g_iload X dL_law_464 0 rfl ?_
              refine g_i2l X dL_law_466 ?_
              refine g_lcmp X dL_law_467 ?_
              refine g_if_eq X (tgt := 473) dL_law_468 (by decide) (fun hc => ?_) (fun hc => ?_)
              · replace h := h.1 hc; clear hc
                exact g_sub [2, 3, 4, 5, 6] [(0, .inr (some b)), (1, .inr (some q1)), (2, .inr (some q4)), (3, .inr (some q7)), (4, .inl y11)] rfl (jp123  h)
              · replace h := h.2 hc; clear hc
                refine g_iconst X (v := (0 : Int32)) dL_law_471 (by decide) ?_
                exact h.elim
          · replace h := h.2 hc; clear hc
            refine g_iconst X (v := (0 : Int32)) dL_law_454 (by decide) ?_
            exact h.elim
        · replace h := h.2.2.2.2.2.1 hc
          refine g_tableEq X (tgt := 476) hc dL_law_39 (by decide) (by decide) rfl (by decide) ?_
          clear hc
          refine g_aload_n X dL_law_476 rfl 1 rfl ?_
          refine g_aload_n X dL_law_477 rfl 0 rfl ?_
          refine g_iload X dL_law_478 4 rfl ?_
          refine g_iconst X (v := (1 : Int32)) dL_law_480 (by decide) ?_
          refine g_iadd X dL_law_481 (fun v126 hv => ?_)
          replace h := h v126 hv; clear hv
          obtain ⟨j127, hi, hj, h⟩ := h
          refine g_sld X hX hb hbA hi hj hLL dL_law_482 (fun v128 hv => ?_)
          replace h := h v128 hv; clear hv hi hj
          refine g_aload_n X dL_law_483 rfl 0 rfl ?_
          refine g_iload X dL_law_484 4 rfl ?_
          refine g_iconst X (v := (2 : Int32)) dL_law_486 (by decide) ?_
          refine g_iadd X dL_law_487 (fun v129 hv => ?_)
          replace h := h v129 hv; clear hv
          obtain ⟨j130, hi, hj, h⟩ := h
          refine g_sld X hX hb hbA hi hj hLL dL_law_488 (fun v131 hv => ?_)
          replace h := h v131 hv; clear hv hi hj
          refine g_aload_n X dL_law_489 rfl 3 rfl ?_
          refine g_callH_i X (As := [va_rf (some q1), .int v128, .int v131, va_rf (some q7)]) (st := []) (n := 4) (c_L_start hst h) m_546 m_547 m_29 m_548 (by decide +kernel) (by decide +kernel) (by decide +kernel) rfl rfl (Nat.zero_le _) ⟨(by have e1 : rm_L_law.cells = 601024 := rfl; have e2 : rm_L_law.slots = 7293034 := rfl; have e3 : rm_L_start.cells = 71 := rfl; have e4 : rm_L_start.slots = 4370 := rfl; omega), (by have e1 : rm_L_law.cells = 601024 := rfl; have e2 : rm_L_law.slots = 7293034 := rfl; have e3 : rm_L_start.cells = 71 := rfl; have e4 : rm_L_start.slots = 4370 := rfl; omega)⟩ dL_law_490 (fun v133 w132 h => ?_)
          refine g_widen (c2 := (31 + (513 - n9) * 134 + 71)) (s2 := (1769 + (513 - n9) * 5157 + 4370)) (by have e1 : rm_L_start.cells = 71 := rfl; omega) (by have e1 : rm_L_start.slots = 4370 := rfl; omega) ?_
          refine g_istore X [(5, .inl v133), (0, .inr (some b)), (1, .inr (some q1)), (2, .inr (some q4)), (3, .inr (some q7)), (4, .inl y11)] dL_law_493 (by decide) rfl ?_
          refine g_aload_n X dL_law_495 rfl 3 rfl ?_
          refine g_aload_n X dL_law_496 rfl 1 rfl ?_
          refine g_iload X dL_law_497 5 rfl ?_
          refine g_iconst X (v := (1 : Int32)) dL_law_499 (by decide) ?_
          refine g_iadd X dL_law_500 (fun v134 hv => ?_)
          replace h := h v134 hv; clear hv
          obtain ⟨j135, hi, hj, h⟩ := h
          refine g_sld X hX hb hbA hi hj hLL dL_law_501 (fun v136 hv => ?_)
          replace h := h v136 hv; clear hv hi hj
          refine g_aload_n X dL_law_502 rfl 1 rfl ?_
          refine g_iload X dL_law_503 5 rfl ?_
          refine g_iconst X (v := (2 : Int32)) dL_law_505 (by decide) ?_
          refine g_iadd X dL_law_506 (fun v137 hv => ?_)
          replace h := h v137 hv; clear hv
          obtain ⟨j138, hi, hj, h⟩ := h
          refine g_sld X hX hb hbA hi hj hLL dL_law_507 (fun v139 hv => ?_)
          replace h := h v139 hv; clear hv hi hj
          have hk := h.1
          replace h := h.2
          refine g_callV_i X (As := [.int v136, .int v139]) (st := []) (n := 2) (c_X4_start hst h) rfl (by decide) hk (wE_5 G w132 q4) m_1148 m_1149 m_1150 m_34 m_1151 (by decide +kernel) (by decide +kernel) rfl rfl (Nat.zero_le _) ⟨(by have e1 : rm_L_law.cells = 601024 := rfl; have e2 : rm_L_law.slots = 7293034 := rfl; have e3 : rm_X4_start.cells = 0 := rfl; have e4 : rm_X4_start.slots = 0 := rfl; omega), (by have e1 : rm_L_law.cells = 601024 := rfl; have e2 : rm_L_law.slots = 7293034 := rfl; have e3 : rm_X4_start.cells = 0 := rfl; have e4 : rm_X4_start.slots = 0 := rfl; omega)⟩ dL_law_508 (fun v141 w140 h => ?_)
          clear hk
          refine g_widen (c2 := (31 + (513 - n9) * 134 + 71)) (s2 := (1769 + (513 - n9) * 5157 + 4370)) (by have e1 : rm_X4_start.cells = 0 := rfl; omega) (by have e1 : rm_X4_start.slots = 0 := rfl; omega) ?_
          refine g_istore X [(6, .inl v141), (5, .inl v133), (0, .inr (some b)), (1, .inr (some q1)), (2, .inr (some q4)), (3, .inr (some q7)), (4, .inl y11)] dL_law_511 (by decide) rfl ?_
          refine g_aload_n X dL_law_513 rfl 4 rfl ?_
          have hk := h.1
          replace h := h.2
          refine g_callV_i X (As := []) (st := []) (n := 0) (c_X4_thrown hst h) rfl (by decide) hk (wE_5 G w140 q4) m_1091 m_1092 m_1093 m_34 m_1094 (by decide +kernel) (by decide +kernel) rfl rfl (Nat.zero_le _) ⟨(by have e1 : rm_L_law.cells = 601024 := rfl; have e2 : rm_L_law.slots = 7293034 := rfl; have e3 : rm_X4_thrown.cells = 0 := rfl; have e4 : rm_X4_thrown.slots = 0 := rfl; omega), (by have e1 : rm_L_law.cells = 601024 := rfl; have e2 : rm_L_law.slots = 7293034 := rfl; have e3 : rm_X4_thrown.cells = 0 := rfl; have e4 : rm_X4_thrown.slots = 0 := rfl; omega)⟩ dL_law_514 (fun v143 w142 h => ?_)
          clear hk
          refine g_widen (c2 := (31 + (513 - n9) * 134 + 71)) (s2 := (1769 + (513 - n9) * 5157 + 4370)) (by have e1 : rm_X4_thrown.cells = 0 := rfl; omega) (by have e1 : rm_X4_thrown.slots = 0 := rfl; omega) ?_
          refine g_iload X dL_law_517 1 rfl ?_
          refine g_icmp_eq X (tgt := 524) dL_law_519 (by decide) (fun hc => ?_) (fun hc => ?_)
          · replace h := h.1 hc; clear hc
            refine g_iload X dL_law_524 1 rfl ?_
            obtain ⟨J144, hjJ144, h⟩ := h
            have jp144 : J144 → Gw l G L0 p e rm_L_law s m #[Value.ref b] below meth c 7 (31 + (513 - n9) * 134 + 71) (1769 + (513 - n9) * 5157 + 4370) (lw_Z below #[Value.ref b] s) w142 541 [(0, .inr (some b)), (1, .inr (some q1)), (2, .inr (some q4)), (3, .inr (some q7)), (4, .inl y11)] [] := by
              intro hJ
              have h := hjJ144 hJ
              clear hJ
              refine g_goto X (tgt := 1495) dL_law_541 (by decide) ?_
              refine g_widen (c2 := (31 + (513 - n9) * 134 + 134)) (s2 := (1769 + (513 - n9) * 5157 + 5157)) (by omega) (by omega) ?_
              exact g_sub [0, 1, 2, 3, 4] [(0, .inr (some b)), (1, .inr (some q1)), (2, .inr (some q4)), (3, .inr (some q7)), (4, .inl y11)] rfl (jp18 w142 h)
            refine g_if_ne X (tgt := 541) dL_law_526 (by decide) (fun hc => ?_) (fun hc => ?_)
            · replace h := h.1 hc; clear hc
              exact g_sub [2, 3, 4, 5, 6] [(0, .inr (some b)), (1, .inr (some q1)), (2, .inr (some q4)), (3, .inr (some q7)), (4, .inl y11)] rfl (jp144  h)
            · replace h := h.2 hc; clear hc
              refine g_aload_n X dL_law_529 rfl 5 rfl ?_
              refine g_iconst X (v := (0 : Int32)) dL_law_530 (by decide) ?_
              have hk := h.1
              replace h := h.2
              obtain ⟨j145, hi, hj, hN, h⟩ := h
              refine g_lald X hk hi hj hN dL_law_531 (fun u146 hv => ?_)
              replace h := h u146 hv; clear hv hk hi hj hN
              refine g_iload X dL_law_532 0 rfl ?_
              refine g_i2l X dL_law_534 ?_
              refine g_lcmp X dL_law_535 ?_
              refine g_if_eq X (tgt := 541) dL_law_536 (by decide) (fun hc => ?_) (fun hc => ?_)
              · replace h := h.1 hc; clear hc
                exact g_sub [2, 3, 4, 5, 6] [(0, .inr (some b)), (1, .inr (some q1)), (2, .inr (some q4)), (3, .inr (some q7)), (4, .inl y11)] rfl (jp144  h)
              · replace h := h.2 hc; clear hc
                refine g_iconst X (v := (0 : Int32)) dL_law_539 (by decide) ?_
                exact h.elim
          · replace h := h.2 hc; clear hc
            refine g_iconst X (v := (0 : Int32)) dL_law_522 (by decide) ?_
            exact h.elim
        · replace h := h.2.2.2.2.2.2.1 hc
          refine g_tableEq X (tgt := 544) hc dL_law_39 (by decide) (by decide) rfl (by decide) ?_
          clear hc
          refine g_aload_n X dL_law_544 rfl 1 rfl ?_
          refine g_aload_n X dL_law_545 rfl 0 rfl ?_
          refine g_iload X dL_law_546 4 rfl ?_
          refine g_iconst X (v := (1 : Int32)) dL_law_548 (by decide) ?_
          refine g_iadd X dL_law_549 (fun v147 hv => ?_)
          replace h := h v147 hv; clear hv
          obtain ⟨j148, hi, hj, h⟩ := h
          refine g_sld X hX hb hbA hi hj hLL dL_law_550 (fun v149 hv => ?_)
          replace h := h v149 hv; clear hv hi hj
          refine g_aload_n X dL_law_551 rfl 0 rfl ?_
          refine g_iload X dL_law_552 4 rfl ?_
          refine g_iconst X (v := (2 : Int32)) dL_law_554 (by decide) ?_
          refine g_iadd X dL_law_555 (fun v150 hv => ?_)
          replace h := h v150 hv; clear hv
          obtain ⟨j151, hi, hj, h⟩ := h
          refine g_sld X hX hb hbA hi hj hLL dL_law_556 (fun v152 hv => ?_)
          replace h := h v152 hv; clear hv hi hj
          refine g_aload_n X dL_law_557 rfl 0 rfl ?_
          refine g_iload X dL_law_558 4 rfl ?_
          refine g_iconst X (v := (3 : Int32)) dL_law_560 (by decide) ?_
          refine g_iadd X dL_law_561 (fun v153 hv => ?_)
          replace h := h v153 hv; clear hv
          obtain ⟨j154, hi, hj, h⟩ := h
          refine g_sld X hX hb hbA hi hj hLL dL_law_562 (fun v155 hv => ?_)
          replace h := h v155 hv; clear hv hi hj
          refine g_aload_n X dL_law_563 rfl 0 rfl ?_
          refine g_iload X dL_law_564 4 rfl ?_
          refine g_iconst X (v := (4 : Int32)) dL_law_566 (by decide) ?_
          refine g_iadd X dL_law_567 (fun v156 hv => ?_)
          replace h := h v156 hv; clear hv
          obtain ⟨j157, hi, hj, h⟩ := h
          refine g_sld X hX hb hbA hi hj hLL dL_law_568 (fun v158 hv => ?_)
          replace h := h v158 hv; clear hv hi hj
          obtain ⟨J159, hjJ159, h⟩ := h
          have jp159 : ∀ (q160 : Option Nat) (y161 : Int32) (y162 : Int32) (y163 : Int32) (y164 : Int32), J159 q160 y161 y162 y163 y164 → Gw l G L0 p e rm_L_law s m #[Value.ref b] below meth c 7 (31 + (513 - n9) * 134 + 0) (1769 + (513 - n9) * 5157 + 0) (lw_Z below #[Value.ref b] s) w12 577 [(0, .inr (some b)), (1, .inr (some q1)), (2, .inr (some q4)), (3, .inr (some q7)), (4, .inl y11)] [.int y164, .int y163, .int y162, .int y161, va_rf q160] := by
            intro q160 y161 y162 y163 y164 hJ
            have h := hjJ159 q160 y161 y162 y163 y164 hJ
            clear hJ
            refine g_aload_n X dL_law_577 rfl 3 rfl ?_
            refine g_callH_i X (As := [va_rf q160, .int y161, .int y162, .int y163, .int y164, va_rf (some q7)]) (st := []) (n := 6) (c_L_want hst h) m_836 m_837 m_29 m_838 (by decide +kernel) (by decide +kernel) (by decide +kernel) rfl rfl (Nat.zero_le _) ⟨(by have e1 : rm_L_law.cells = 601024 := rfl; have e2 : rm_L_law.slots = 7293034 := rfl; have e3 : rm_L_want.cells = 4 := rfl; have e4 : rm_L_want.slots = 24 := rfl; omega), (by have e1 : rm_L_law.cells = 601024 := rfl; have e2 : rm_L_law.slots = 7293034 := rfl; have e3 : rm_L_want.cells = 4 := rfl; have e4 : rm_L_want.slots = 24 := rfl; omega)⟩ dL_law_578 (fun v166 w165 h => ?_)
            refine g_widen (c2 := (31 + (513 - n9) * 134 + 4)) (s2 := (1769 + (513 - n9) * 5157 + 24)) (by have e1 : rm_L_want.cells = 4 := rfl; omega) (by have e1 : rm_L_want.slots = 24 := rfl; omega) ?_
            refine g_istore X [(5, .inl v166), (0, .inr (some b)), (1, .inr (some q1)), (2, .inr (some q4)), (3, .inr (some q7)), (4, .inl y11)] dL_law_581 (by decide) rfl ?_
            refine g_aload_n X dL_law_583 rfl 3 rfl ?_
            refine g_aload_n X dL_law_584 rfl 1 rfl ?_
            refine g_iload X dL_law_585 5 rfl ?_
            refine g_iconst X (v := (1 : Int32)) dL_law_587 (by decide) ?_
            refine g_iadd X dL_law_588 (fun v167 hv => ?_)
            replace h := h v167 hv; clear hv
            obtain ⟨j168, hi, hj, h⟩ := h
            refine g_sld X hX hb hbA hi hj hLL dL_law_589 (fun v169 hv => ?_)
            replace h := h v169 hv; clear hv hi hj
            refine g_aload_n X dL_law_590 rfl 1 rfl ?_
            refine g_iload X dL_law_591 5 rfl ?_
            refine g_iconst X (v := (2 : Int32)) dL_law_593 (by decide) ?_
            refine g_iadd X dL_law_594 (fun v170 hv => ?_)
            replace h := h v170 hv; clear hv
            obtain ⟨j171, hi, hj, h⟩ := h
            refine g_sld X hX hb hbA hi hj hLL dL_law_595 (fun v172 hv => ?_)
            replace h := h v172 hv; clear hv hi hj
            refine g_aload_n X dL_law_596 rfl 1 rfl ?_
            refine g_iload X dL_law_597 5 rfl ?_
            refine g_iconst X (v := (3 : Int32)) dL_law_599 (by decide) ?_
            refine g_iadd X dL_law_600 (fun v173 hv => ?_)
            replace h := h v173 hv; clear hv
            obtain ⟨j174, hi, hj, h⟩ := h
            refine g_sld X hX hb hbA hi hj hLL dL_law_601 (fun v175 hv => ?_)
            replace h := h v175 hv; clear hv hi hj
            refine g_aload_n X dL_law_602 rfl 1 rfl ?_
            refine g_iload X dL_law_603 5 rfl ?_
            refine g_iconst X (v := (4 : Int32)) dL_law_605 (by decide) ?_
            refine g_iadd X dL_law_606 (fun v176 hv => ?_)
            replace h := h v176 hv; clear hv
            obtain ⟨j177, hi, hj, h⟩ := h
            refine g_sld X hX hb hbA hi hj hLL dL_law_607 (fun v178 hv => ?_)
            replace h := h v178 hv; clear hv hi hj
            obtain ⟨J179, hjJ179, h⟩ := h
            have jp179 : ∀ (q180 : Option Nat) (y181 : Int32) (y182 : Int32) (y183 : Int32) (y184 : Int32), J179 q180 y181 y182 y183 y184 → Gw l G L0 p e rm_L_law s m #[Value.ref b] below meth c 7 (31 + (513 - n9) * 134 + 4) (1769 + (513 - n9) * 5157 + 24) (lw_Z below #[Value.ref b] s) w165 616 [(0, .inr (some b)), (1, .inr (some q1)), (2, .inr (some q4)), (3, .inr (some q7)), (4, .inl y11), (5, .inl v166)] [.int y184, .int y183, .int y182, .int y181, va_rf q180] := by
              intro q180 y181 y182 y183 y184 hJ
              have h := hjJ179 q180 y181 y182 y183 y184 hJ
              clear hJ
              obtain ⟨a185, rfl, hk, h⟩ := h
              refine g_callV_i X (As := [.int y181, .int y182, .int y183, .int y184]) (st := []) (n := 4) (c_X4_want hst h) rfl (by decide) hk (wE_5 G w165 a185) m_1156 m_1157 m_1158 m_34 m_1159 (by decide +kernel) (by decide +kernel) rfl rfl (Nat.zero_le _) ⟨(by have e1 : rm_L_law.cells = 601024 := rfl; have e2 : rm_L_law.slots = 7293034 := rfl; have e3 : rm_X4_want.cells = 0 := rfl; have e4 : rm_X4_want.slots = 0 := rfl; omega), (by have e1 : rm_L_law.cells = 601024 := rfl; have e2 : rm_L_law.slots = 7293034 := rfl; have e3 : rm_X4_want.cells = 0 := rfl; have e4 : rm_X4_want.slots = 0 := rfl; omega)⟩ dL_law_616 (fun v187 w186 h => ?_)
              clear hk
              refine g_widen (c2 := (31 + (513 - n9) * 134 + 4)) (s2 := (1769 + (513 - n9) * 5157 + 24)) (by have e1 : rm_X4_want.cells = 0 := rfl; omega) (by have e1 : rm_X4_want.slots = 0 := rfl; omega) ?_
              refine g_istore X [(6, .inl v187), (0, .inr (some b)), (1, .inr (some q1)), (2, .inr (some q4)), (3, .inr (some q7)), (4, .inl y11), (5, .inl v166)] dL_law_619 (by decide) rfl ?_
              refine g_aload_n X dL_law_621 rfl 3 rfl ?_
              have hk := h.1
              replace h := h.2
              refine g_callV_i X (As := []) (st := []) (n := 0) (c_X4_thrown hst h) rfl (by decide) hk (wE_5 G w186 q4) m_1091 m_1092 m_1093 m_34 m_1094 (by decide +kernel) (by decide +kernel) rfl rfl (Nat.zero_le _) ⟨(by have e1 : rm_L_law.cells = 601024 := rfl; have e2 : rm_L_law.slots = 7293034 := rfl; have e3 : rm_X4_thrown.cells = 0 := rfl; have e4 : rm_X4_thrown.slots = 0 := rfl; omega), (by have e1 : rm_L_law.cells = 601024 := rfl; have e2 : rm_L_law.slots = 7293034 := rfl; have e3 : rm_X4_thrown.cells = 0 := rfl; have e4 : rm_X4_thrown.slots = 0 := rfl; omega)⟩ dL_law_622 (fun v189 w188 h => ?_)
              clear hk
              refine g_widen (c2 := (31 + (513 - n9) * 134 + 4)) (s2 := (1769 + (513 - n9) * 5157 + 24)) (by have e1 : rm_X4_thrown.cells = 0 := rfl; omega) (by have e1 : rm_X4_thrown.slots = 0 := rfl; omega) ?_
              refine g_iload X dL_law_625 6 rfl ?_
              refine g_icmp_eq X (tgt := 632) dL_law_627 (by decide) (fun hc => ?_) (fun hc => ?_)
              · replace h := h.1 hc; clear hc
                refine g_iload X dL_law_632 6 rfl ?_
                obtain ⟨J190, hjJ190, h⟩ := h
                have jp190 : J190 → Gw l G L0 p e rm_L_law s m #[Value.ref b] below meth c 7 (31 + (513 - n9) * 134 + 4) (1769 + (513 - n9) * 5157 + 24) (lw_Z below #[Value.ref b] s) w188 649 [(0, .inr (some b)), (1, .inr (some q1)), (2, .inr (some q4)), (3, .inr (some q7)), (4, .inl y11)] [] := by
                  intro hJ
                  have h := hjJ190 hJ
                  clear hJ
                  refine g_goto X (tgt := 1495) dL_law_649 (by decide) ?_
                  refine g_widen (c2 := (31 + (513 - n9) * 134 + 134)) (s2 := (1769 + (513 - n9) * 5157 + 5157)) (by omega) (by omega) ?_
                  exact g_sub [0, 1, 2, 3, 4] [(0, .inr (some b)), (1, .inr (some q1)), (2, .inr (some q4)), (3, .inr (some q7)), (4, .inl y11)] rfl (jp18 w188 h)
                refine g_if_ne X (tgt := 649) dL_law_634 (by decide) (fun hc => ?_) (fun hc => ?_)
                · replace h := h.1 hc; clear hc
                  exact g_sub [1, 2, 3, 4, 5] [(0, .inr (some b)), (1, .inr (some q1)), (2, .inr (some q4)), (3, .inr (some q7)), (4, .inl y11)] rfl (jp190  h)
                · replace h := h.2 hc; clear hc
                  refine g_aload_n X dL_law_637 rfl 4 rfl ?_
                  refine g_iconst X (v := (0 : Int32)) dL_law_638 (by decide) ?_
                  have hk := h.1
                  replace h := h.2
                  obtain ⟨j191, hi, hj, hN, h⟩ := h
                  refine g_lald X hk hi hj hN dL_law_639 (fun u192 hv => ?_)
                  replace h := h u192 hv; clear hv hk hi hj hN
                  refine g_iload X dL_law_640 0 rfl ?_
                  refine g_i2l X dL_law_642 ?_
                  refine g_lcmp X dL_law_643 ?_
                  refine g_if_eq X (tgt := 649) dL_law_644 (by decide) (fun hc => ?_) (fun hc => ?_)
                  · replace h := h.1 hc; clear hc
                    exact g_sub [1, 2, 3, 4, 5] [(0, .inr (some b)), (1, .inr (some q1)), (2, .inr (some q4)), (3, .inr (some q7)), (4, .inl y11)] rfl (jp190  h)
                  · replace h := h.2 hc; clear hc
                    refine g_iconst X (v := (0 : Int32)) dL_law_647 (by decide) ?_
                    exact h.elim
              · replace h := h.2 hc; clear hc
                refine g_iconst X (v := (0 : Int32)) dL_law_630 (by decide) ?_
                exact h.elim
            refine g_if_eq X (tgt := 615) dL_law_608 (by decide) (fun hc => ?_) (fun hc => ?_)
            · replace h := h.1 hc; clear hc
              refine g_iconst X (v := (0 : Int32)) dL_law_615 (by decide) ?_
              exact g_sub [1, 2, 3, 4, 5, 0] [(0, .inr (some b)), (1, .inr (some q1)), (2, .inr (some q4)), (3, .inr (some q7)), (4, .inl y11), (5, .inl v166)] rfl (jp179 (some q4) v169 v172 v175 (0 : Int32) h)
            · replace h := h.2 hc; clear hc
              refine g_iconst X (v := (1 : Int32)) dL_law_611 (by decide) ?_
              refine g_goto X (tgt := 616) dL_law_612 (by decide) ?_
              exact g_sub [1, 2, 3, 4, 5, 0] [(0, .inr (some b)), (1, .inr (some q1)), (2, .inr (some q4)), (3, .inr (some q7)), (4, .inl y11), (5, .inl v166)] rfl (jp179 (some q4) v169 v172 v175 (1 : Int32) h)
          refine g_if_eq X (tgt := 576) dL_law_569 (by decide) (fun hc => ?_) (fun hc => ?_)
          · replace h := h.1 hc; clear hc
            refine g_iconst X (v := (0 : Int32)) dL_law_576 (by decide) ?_
            exact g_sub [0, 1, 2, 3, 4] [(0, .inr (some b)), (1, .inr (some q1)), (2, .inr (some q4)), (3, .inr (some q7)), (4, .inl y11)] rfl (jp159 (some q1) v149 v152 v155 (0 : Int32) h)
          · replace h := h.2 hc; clear hc
            refine g_iconst X (v := (1 : Int32)) dL_law_572 (by decide) ?_
            refine g_goto X (tgt := 577) dL_law_573 (by decide) ?_
            exact g_sub [0, 1, 2, 3, 4] [(0, .inr (some b)), (1, .inr (some q1)), (2, .inr (some q4)), (3, .inr (some q7)), (4, .inl y11)] rfl (jp159 (some q1) v149 v152 v155 (1 : Int32) h)
        · replace h := h.2.2.2.2.2.2.2.1 hc
          refine g_tableEq X (tgt := 652) hc dL_law_39 (by decide) (by decide) rfl (by decide) ?_
          clear hc
          refine g_aload_n X dL_law_652 rfl 1 rfl ?_
          refine g_aload_n X dL_law_653 rfl 0 rfl ?_
          refine g_iload X dL_law_654 4 rfl ?_
          refine g_iconst X (v := (1 : Int32)) dL_law_656 (by decide) ?_
          refine g_iadd X dL_law_657 (fun v193 hv => ?_)
          replace h := h v193 hv; clear hv
          obtain ⟨j194, hi, hj, h⟩ := h
          refine g_sld X hX hb hbA hi hj hLL dL_law_658 (fun v195 hv => ?_)
          replace h := h v195 hv; clear hv hi hj
          refine g_aload_n X dL_law_659 rfl 0 rfl ?_
          refine g_iload X dL_law_660 4 rfl ?_
          refine g_iconst X (v := (2 : Int32)) dL_law_662 (by decide) ?_
          refine g_iadd X dL_law_663 (fun v196 hv => ?_)
          replace h := h v196 hv; clear hv
          obtain ⟨j197, hi, hj, h⟩ := h
          refine g_sld X hX hb hbA hi hj hLL dL_law_664 (fun v198 hv => ?_)
          replace h := h v198 hv; clear hv hi hj
          obtain ⟨J199, hjJ199, h⟩ := h
          have jp199 : ∀ (q200 : Option Nat) (y201 : Int32) (y202 : Int32), J199 q200 y201 y202 → Gw l G L0 p e rm_L_law s m #[Value.ref b] below meth c 7 (31 + (513 - n9) * 134 + 0) (1769 + (513 - n9) * 5157 + 0) (lw_Z below #[Value.ref b] s) w12 673 [(0, .inr (some b)), (1, .inr (some q1)), (2, .inr (some q4)), (3, .inr (some q7)), (4, .inl y11)] [.int y202, .int y201, va_rf q200] := by
            intro q200 y201 y202 hJ
            have h := hjJ199 q200 y201 y202 hJ
            clear hJ
            refine g_aload_n X dL_law_673 rfl 3 rfl ?_
            refine g_callH_i X (As := [va_rf q200, .int y201, .int y202, va_rf (some q7)]) (st := []) (n := 4) (c_L_meet hst h) m_852 m_853 m_29 m_854 (by decide +kernel) (by decide +kernel) (by decide +kernel) rfl rfl (Nat.zero_le _) ⟨(by have e1 : rm_L_law.cells = 601024 := rfl; have e2 : rm_L_law.slots = 7293034 := rfl; have e3 : rm_L_meet.cells = 2 := rfl; have e4 : rm_L_meet.slots = 12 := rfl; omega), (by have e1 : rm_L_law.cells = 601024 := rfl; have e2 : rm_L_law.slots = 7293034 := rfl; have e3 : rm_L_meet.cells = 2 := rfl; have e4 : rm_L_meet.slots = 12 := rfl; omega)⟩ dL_law_674 (fun v204 w203 h => ?_)
            refine g_widen (c2 := (31 + (513 - n9) * 134 + 2)) (s2 := (1769 + (513 - n9) * 5157 + 12)) (by have e1 : rm_L_meet.cells = 2 := rfl; omega) (by have e1 : rm_L_meet.slots = 12 := rfl; omega) ?_
            refine g_istore X [(5, .inl v204), (0, .inr (some b)), (1, .inr (some q1)), (2, .inr (some q4)), (3, .inr (some q7)), (4, .inl y11)] dL_law_677 (by decide) rfl ?_
            refine g_aload_n X dL_law_679 rfl 3 rfl ?_
            refine g_aload_n X dL_law_680 rfl 1 rfl ?_
            refine g_iload X dL_law_681 5 rfl ?_
            refine g_iconst X (v := (1 : Int32)) dL_law_683 (by decide) ?_
            refine g_iadd X dL_law_684 (fun v205 hv => ?_)
            replace h := h v205 hv; clear hv
            obtain ⟨j206, hi, hj, h⟩ := h
            refine g_sld X hX hb hbA hi hj hLL dL_law_685 (fun v207 hv => ?_)
            replace h := h v207 hv; clear hv hi hj
            refine g_aload_n X dL_law_686 rfl 1 rfl ?_
            refine g_iload X dL_law_687 5 rfl ?_
            refine g_iconst X (v := (2 : Int32)) dL_law_689 (by decide) ?_
            refine g_iadd X dL_law_690 (fun v208 hv => ?_)
            replace h := h v208 hv; clear hv
            obtain ⟨j209, hi, hj, h⟩ := h
            refine g_sld X hX hb hbA hi hj hLL dL_law_691 (fun v210 hv => ?_)
            replace h := h v210 hv; clear hv hi hj
            obtain ⟨J211, hjJ211, h⟩ := h
            have jp211 : ∀ (q212 : Option Nat) (y213 : Int32) (y214 : Int32), J211 q212 y213 y214 → Gw l G L0 p e rm_L_law s m #[Value.ref b] below meth c 7 (31 + (513 - n9) * 134 + 2) (1769 + (513 - n9) * 5157 + 12) (lw_Z below #[Value.ref b] s) w203 700 [(0, .inr (some b)), (1, .inr (some q1)), (2, .inr (some q4)), (3, .inr (some q7)), (4, .inl y11), (5, .inl v204)] [.int y214, .int y213, va_rf q212] := by
              intro q212 y213 y214 hJ
              have h := hjJ211 q212 y213 y214 hJ
              clear hJ
              obtain ⟨a215, rfl, hk, h⟩ := h
              refine g_callV_i X (As := [.int y213, .int y214]) (st := []) (n := 2) (c_X4_meet hst h) rfl (by decide) hk (wE_5 G w203 a215) m_1160 m_1161 m_1162 m_34 m_1163 (by decide +kernel) (by decide +kernel) rfl rfl (Nat.zero_le _) ⟨(by have e1 : rm_L_law.cells = 601024 := rfl; have e2 : rm_L_law.slots = 7293034 := rfl; have e3 : rm_X4_meet.cells = 0 := rfl; have e4 : rm_X4_meet.slots = 0 := rfl; omega), (by have e1 : rm_L_law.cells = 601024 := rfl; have e2 : rm_L_law.slots = 7293034 := rfl; have e3 : rm_X4_meet.cells = 0 := rfl; have e4 : rm_X4_meet.slots = 0 := rfl; omega)⟩ dL_law_700 (fun v217 w216 h => ?_)
              clear hk
              refine g_widen (c2 := (31 + (513 - n9) * 134 + 2)) (s2 := (1769 + (513 - n9) * 5157 + 12)) (by have e1 : rm_X4_meet.cells = 0 := rfl; omega) (by have e1 : rm_X4_meet.slots = 0 := rfl; omega) ?_
              refine g_istore X [(6, .inl v217), (0, .inr (some b)), (1, .inr (some q1)), (2, .inr (some q4)), (3, .inr (some q7)), (4, .inl y11), (5, .inl v204)] dL_law_703 (by decide) rfl ?_
              refine g_aload_n X dL_law_705 rfl 3 rfl ?_
              have hk := h.1
              replace h := h.2
              refine g_callV_i X (As := []) (st := []) (n := 0) (c_X4_thrown hst h) rfl (by decide) hk (wE_5 G w216 q4) m_1091 m_1092 m_1093 m_34 m_1094 (by decide +kernel) (by decide +kernel) rfl rfl (Nat.zero_le _) ⟨(by have e1 : rm_L_law.cells = 601024 := rfl; have e2 : rm_L_law.slots = 7293034 := rfl; have e3 : rm_X4_thrown.cells = 0 := rfl; have e4 : rm_X4_thrown.slots = 0 := rfl; omega), (by have e1 : rm_L_law.cells = 601024 := rfl; have e2 : rm_L_law.slots = 7293034 := rfl; have e3 : rm_X4_thrown.cells = 0 := rfl; have e4 : rm_X4_thrown.slots = 0 := rfl; omega)⟩ dL_law_706 (fun v219 w218 h => ?_)
              clear hk
              refine g_widen (c2 := (31 + (513 - n9) * 134 + 2)) (s2 := (1769 + (513 - n9) * 5157 + 12)) (by have e1 : rm_X4_thrown.cells = 0 := rfl; omega) (by have e1 : rm_X4_thrown.slots = 0 := rfl; omega) ?_
              refine g_iload X dL_law_709 6 rfl ?_
              refine g_icmp_eq X (tgt := 716) dL_law_711 (by decide) (fun hc => ?_) (fun hc => ?_)
              · replace h := h.1 hc; clear hc
                refine g_iload X dL_law_716 6 rfl ?_
                obtain ⟨J220, hjJ220, h⟩ := h
                have jp220 : J220 → Gw l G L0 p e rm_L_law s m #[Value.ref b] below meth c 7 (31 + (513 - n9) * 134 + 2) (1769 + (513 - n9) * 5157 + 12) (lw_Z below #[Value.ref b] s) w218 733 [(0, .inr (some b)), (1, .inr (some q1)), (2, .inr (some q4)), (3, .inr (some q7)), (4, .inl y11)] [] := by
                  intro hJ
                  have h := hjJ220 hJ
                  clear hJ
                  refine g_goto X (tgt := 1495) dL_law_733 (by decide) ?_
                  refine g_widen (c2 := (31 + (513 - n9) * 134 + 134)) (s2 := (1769 + (513 - n9) * 5157 + 5157)) (by omega) (by omega) ?_
                  exact g_sub [0, 1, 2, 3, 4] [(0, .inr (some b)), (1, .inr (some q1)), (2, .inr (some q4)), (3, .inr (some q7)), (4, .inl y11)] rfl (jp18 w218 h)
                refine g_if_ne X (tgt := 733) dL_law_718 (by decide) (fun hc => ?_) (fun hc => ?_)
                · replace h := h.1 hc; clear hc
                  exact g_sub [1, 2, 3, 4, 5] [(0, .inr (some b)), (1, .inr (some q1)), (2, .inr (some q4)), (3, .inr (some q7)), (4, .inl y11)] rfl (jp220  h)
                · replace h := h.2 hc; clear hc
                  refine g_aload_n X dL_law_721 rfl 4 rfl ?_
                  refine g_iconst X (v := (0 : Int32)) dL_law_722 (by decide) ?_
                  have hk := h.1
                  replace h := h.2
                  obtain ⟨j221, hi, hj, hN, h⟩ := h
                  refine g_lald X hk hi hj hN dL_law_723 (fun u222 hv => ?_)
                  replace h := h u222 hv; clear hv hk hi hj hN
                  refine g_iload X dL_law_724 0 rfl ?_
                  refine g_i2l X dL_law_726 ?_
                  refine g_lcmp X dL_law_727 ?_
                  refine g_if_eq X (tgt := 733) dL_law_728 (by decide) (fun hc => ?_) (fun hc => ?_)
                  · replace h := h.1 hc; clear hc
                    exact g_sub [1, 2, 3, 4, 5] [(0, .inr (some b)), (1, .inr (some q1)), (2, .inr (some q4)), (3, .inr (some q7)), (4, .inl y11)] rfl (jp220  h)
                  · replace h := h.2 hc; clear hc
                    refine g_iconst X (v := (0 : Int32)) dL_law_731 (by decide) ?_
                    exact h.elim
              · replace h := h.2 hc; clear hc
                refine g_iconst X (v := (0 : Int32)) dL_law_714 (by decide) ?_
                exact h.elim
            refine g_if_eq X (tgt := 699) dL_law_692 (by decide) (fun hc => ?_) (fun hc => ?_)
            · replace h := h.1 hc; clear hc
              refine g_iconst X (v := (0 : Int32)) dL_law_699 (by decide) ?_
              exact g_sub [1, 2, 3, 4, 5, 0] [(0, .inr (some b)), (1, .inr (some q1)), (2, .inr (some q4)), (3, .inr (some q7)), (4, .inl y11), (5, .inl v204)] rfl (jp211 (some q4) v207 (0 : Int32) h)
            · replace h := h.2 hc; clear hc
              refine g_iconst X (v := (1 : Int32)) dL_law_695 (by decide) ?_
              refine g_goto X (tgt := 700) dL_law_696 (by decide) ?_
              exact g_sub [1, 2, 3, 4, 5, 0] [(0, .inr (some b)), (1, .inr (some q1)), (2, .inr (some q4)), (3, .inr (some q7)), (4, .inl y11), (5, .inl v204)] rfl (jp211 (some q4) v207 (1 : Int32) h)
          refine g_if_eq X (tgt := 672) dL_law_665 (by decide) (fun hc => ?_) (fun hc => ?_)
          · replace h := h.1 hc; clear hc
            refine g_iconst X (v := (0 : Int32)) dL_law_672 (by decide) ?_
            exact g_sub [0, 1, 2, 3, 4] [(0, .inr (some b)), (1, .inr (some q1)), (2, .inr (some q4)), (3, .inr (some q7)), (4, .inl y11)] rfl (jp199 (some q1) v195 (0 : Int32) h)
          · replace h := h.2 hc; clear hc
            refine g_iconst X (v := (1 : Int32)) dL_law_668 (by decide) ?_
            refine g_goto X (tgt := 673) dL_law_669 (by decide) ?_
            exact g_sub [0, 1, 2, 3, 4] [(0, .inr (some b)), (1, .inr (some q1)), (2, .inr (some q4)), (3, .inr (some q7)), (4, .inl y11)] rfl (jp199 (some q1) v195 (1 : Int32) h)
        · replace h := h.2.2.2.2.2.2.2.2.1 hc
          refine g_tableEq X (tgt := 736) hc dL_law_39 (by decide) (by decide) rfl (by decide) ?_
          clear hc
          refine g_aload_n X dL_law_736 rfl 1 rfl ?_
          refine g_aload_n X dL_law_737 rfl 0 rfl ?_
          refine g_iload X dL_law_738 4 rfl ?_
          refine g_iconst X (v := (1 : Int32)) dL_law_740 (by decide) ?_
          refine g_iadd X dL_law_741 (fun v223 hv => ?_)
          replace h := h v223 hv; clear hv
          obtain ⟨j224, hi, hj, h⟩ := h
          refine g_sld X hX hb hbA hi hj hLL dL_law_742 (fun v225 hv => ?_)
          replace h := h v225 hv; clear hv hi hj
          refine g_aload_n X dL_law_743 rfl 0 rfl ?_
          refine g_iload X dL_law_744 4 rfl ?_
          refine g_iconst X (v := (2 : Int32)) dL_law_746 (by decide) ?_
          refine g_iadd X dL_law_747 (fun v226 hv => ?_)
          replace h := h v226 hv; clear hv
          obtain ⟨j227, hi, hj, h⟩ := h
          refine g_sld X hX hb hbA hi hj hLL dL_law_748 (fun v228 hv => ?_)
          replace h := h v228 hv; clear hv hi hj
          refine g_aload_n X dL_law_749 rfl 3 rfl ?_
          refine g_callH_i X (As := [va_rf (some q1), .int v225, .int v228, va_rf (some q7)]) (st := []) (n := 4) (c_L_leave hst h) m_883 m_884 m_29 m_885 (by decide +kernel) (by decide +kernel) (by decide +kernel) rfl rfl (Nat.zero_le _) ⟨(by have e1 : rm_L_law.cells = 601024 := rfl; have e2 : rm_L_law.slots = 7293034 := rfl; have e3 : rm_L_leave.cells = 3 := rfl; have e4 : rm_L_leave.slots = 18 := rfl; omega), (by have e1 : rm_L_law.cells = 601024 := rfl; have e2 : rm_L_law.slots = 7293034 := rfl; have e3 : rm_L_leave.cells = 3 := rfl; have e4 : rm_L_leave.slots = 18 := rfl; omega)⟩ dL_law_750 (fun v230 w229 h => ?_)
          refine g_widen (c2 := (31 + (513 - n9) * 134 + 3)) (s2 := (1769 + (513 - n9) * 5157 + 18)) (by have e1 : rm_L_leave.cells = 3 := rfl; omega) (by have e1 : rm_L_leave.slots = 18 := rfl; omega) ?_
          refine g_istore X [(5, .inl v230), (0, .inr (some b)), (1, .inr (some q1)), (2, .inr (some q4)), (3, .inr (some q7)), (4, .inl y11)] dL_law_753 (by decide) rfl ?_
          refine g_aload_n X dL_law_755 rfl 3 rfl ?_
          refine g_aload_n X dL_law_756 rfl 1 rfl ?_
          refine g_iload X dL_law_757 5 rfl ?_
          refine g_iconst X (v := (1 : Int32)) dL_law_759 (by decide) ?_
          refine g_iadd X dL_law_760 (fun v231 hv => ?_)
          replace h := h v231 hv; clear hv
          obtain ⟨j232, hi, hj, h⟩ := h
          refine g_sld X hX hb hbA hi hj hLL dL_law_761 (fun v233 hv => ?_)
          replace h := h v233 hv; clear hv hi hj
          refine g_aload_n X dL_law_762 rfl 1 rfl ?_
          refine g_iload X dL_law_763 5 rfl ?_
          refine g_iconst X (v := (2 : Int32)) dL_law_765 (by decide) ?_
          refine g_iadd X dL_law_766 (fun v234 hv => ?_)
          replace h := h v234 hv; clear hv
          obtain ⟨j235, hi, hj, h⟩ := h
          refine g_sld X hX hb hbA hi hj hLL dL_law_767 (fun v236 hv => ?_)
          replace h := h v236 hv; clear hv hi hj
          have hk := h.1
          replace h := h.2
          refine g_callV_i X (As := [.int v233, .int v236]) (st := []) (n := 2) (c_X4_leave hst h) rfl (by decide) hk (wE_5 G w229 q4) m_1176 m_1177 m_1178 m_34 m_1179 (by decide +kernel) (by decide +kernel) rfl rfl (Nat.zero_le _) ⟨(by have e1 : rm_L_law.cells = 601024 := rfl; have e2 : rm_L_law.slots = 7293034 := rfl; have e3 : rm_X4_leave.cells = 0 := rfl; have e4 : rm_X4_leave.slots = 0 := rfl; omega), (by have e1 : rm_L_law.cells = 601024 := rfl; have e2 : rm_L_law.slots = 7293034 := rfl; have e3 : rm_X4_leave.cells = 0 := rfl; have e4 : rm_X4_leave.slots = 0 := rfl; omega)⟩ dL_law_768 (fun v238 w237 h => ?_)
          clear hk
          refine g_widen (c2 := (31 + (513 - n9) * 134 + 3)) (s2 := (1769 + (513 - n9) * 5157 + 18)) (by have e1 : rm_X4_leave.cells = 0 := rfl; omega) (by have e1 : rm_X4_leave.slots = 0 := rfl; omega) ?_
          refine g_istore X [(6, .inl v238), (5, .inl v230), (0, .inr (some b)), (1, .inr (some q1)), (2, .inr (some q4)), (3, .inr (some q7)), (4, .inl y11)] dL_law_771 (by decide) rfl ?_
          refine g_aload_n X dL_law_773 rfl 4 rfl ?_
          have hk := h.1
          replace h := h.2
          refine g_callV_i X (As := []) (st := []) (n := 0) (c_X4_thrown hst h) rfl (by decide) hk (wE_5 G w237 q4) m_1091 m_1092 m_1093 m_34 m_1094 (by decide +kernel) (by decide +kernel) rfl rfl (Nat.zero_le _) ⟨(by have e1 : rm_L_law.cells = 601024 := rfl; have e2 : rm_L_law.slots = 7293034 := rfl; have e3 : rm_X4_thrown.cells = 0 := rfl; have e4 : rm_X4_thrown.slots = 0 := rfl; omega), (by have e1 : rm_L_law.cells = 601024 := rfl; have e2 : rm_L_law.slots = 7293034 := rfl; have e3 : rm_X4_thrown.cells = 0 := rfl; have e4 : rm_X4_thrown.slots = 0 := rfl; omega)⟩ dL_law_774 (fun v240 w239 h => ?_)
          clear hk
          refine g_widen (c2 := (31 + (513 - n9) * 134 + 3)) (s2 := (1769 + (513 - n9) * 5157 + 18)) (by have e1 : rm_X4_thrown.cells = 0 := rfl; omega) (by have e1 : rm_X4_thrown.slots = 0 := rfl; omega) ?_
          refine g_iload X dL_law_777 1 rfl ?_
          refine g_icmp_eq X (tgt := 784) dL_law_779 (by decide) (fun hc => ?_) (fun hc => ?_)
          · replace h := h.1 hc; clear hc
            refine g_iload X dL_law_784 1 rfl ?_
            obtain ⟨J241, hjJ241, h⟩ := h
            have jp241 : J241 → Gw l G L0 p e rm_L_law s m #[Value.ref b] below meth c 7 (31 + (513 - n9) * 134 + 3) (1769 + (513 - n9) * 5157 + 18) (lw_Z below #[Value.ref b] s) w239 801 [(0, .inr (some b)), (1, .inr (some q1)), (2, .inr (some q4)), (3, .inr (some q7)), (4, .inl y11)] [] := by
              intro hJ
              have h := hjJ241 hJ
              clear hJ
              refine g_goto X (tgt := 1495) dL_law_801 (by decide) ?_
              refine g_widen (c2 := (31 + (513 - n9) * 134 + 134)) (s2 := (1769 + (513 - n9) * 5157 + 5157)) (by omega) (by omega) ?_
              exact g_sub [0, 1, 2, 3, 4] [(0, .inr (some b)), (1, .inr (some q1)), (2, .inr (some q4)), (3, .inr (some q7)), (4, .inl y11)] rfl (jp18 w239 h)
            refine g_if_ne X (tgt := 801) dL_law_786 (by decide) (fun hc => ?_) (fun hc => ?_)
            · replace h := h.1 hc; clear hc
              exact g_sub [2, 3, 4, 5, 6] [(0, .inr (some b)), (1, .inr (some q1)), (2, .inr (some q4)), (3, .inr (some q7)), (4, .inl y11)] rfl (jp241  h)
            · replace h := h.2 hc; clear hc
              refine g_aload_n X dL_law_789 rfl 5 rfl ?_
              refine g_iconst X (v := (0 : Int32)) dL_law_790 (by decide) ?_
              have hk := h.1
              replace h := h.2
              obtain ⟨j242, hi, hj, hN, h⟩ := h
              refine g_lald X hk hi hj hN dL_law_791 (fun u243 hv => ?_)
              replace h := h u243 hv; clear hv hk hi hj hN
              refine g_iload X dL_law_792 0 rfl ?_
              refine g_i2l X dL_law_794 ?_
              refine g_lcmp X dL_law_795 ?_
              refine g_if_eq X (tgt := 801) dL_law_796 (by decide) (fun hc => ?_) (fun hc => ?_)
              · replace h := h.1 hc; clear hc
                exact g_sub [2, 3, 4, 5, 6] [(0, .inr (some b)), (1, .inr (some q1)), (2, .inr (some q4)), (3, .inr (some q7)), (4, .inl y11)] rfl (jp241  h)
              · replace h := h.2 hc; clear hc
                refine g_iconst X (v := (0 : Int32)) dL_law_799 (by decide) ?_
                exact h.elim
          · replace h := h.2 hc; clear hc
            refine g_iconst X (v := (0 : Int32)) dL_law_782 (by decide) ?_
            exact h.elim
        · replace h := h.2.2.2.2.2.2.2.2.2.1 hc
          refine g_tableEq X (tgt := 804) hc dL_law_39 (by decide) (by decide) rfl (by decide) ?_
          clear hc
          refine g_aload_n X dL_law_804 rfl 1 rfl ?_
          refine g_aload_n X dL_law_805 rfl 0 rfl ?_
          refine g_iload X dL_law_806 4 rfl ?_
          refine g_iconst X (v := (1 : Int32)) dL_law_808 (by decide) ?_
          refine g_iadd X dL_law_809 (fun v244 hv => ?_)
          replace h := h v244 hv; clear hv
          obtain ⟨j245, hi, hj, h⟩ := h
          refine g_sld X hX hb hbA hi hj hLL dL_law_810 (fun v246 hv => ?_)
          replace h := h v246 hv; clear hv hi hj
          refine g_aload_n X dL_law_811 rfl 0 rfl ?_
          refine g_iload X dL_law_812 4 rfl ?_
          refine g_iconst X (v := (2 : Int32)) dL_law_814 (by decide) ?_
          refine g_iadd X dL_law_815 (fun v247 hv => ?_)
          replace h := h v247 hv; clear hv
          obtain ⟨j248, hi, hj, h⟩ := h
          refine g_sld X hX hb hbA hi hj hLL dL_law_816 (fun v249 hv => ?_)
          replace h := h v249 hv; clear hv hi hj
          refine g_aload_n X dL_law_817 rfl 3 rfl ?_
          refine g_callH_i X (As := [va_rf (some q1), .int v246, .int v249, va_rf (some q7)]) (st := []) (n := 4) (c_L_buy hst h) m_893 m_894 m_29 m_895 (by decide +kernel) (by decide +kernel) (by decide +kernel) rfl rfl (Nat.zero_le _) ⟨(by have e1 : rm_L_law.cells = 601024 := rfl; have e2 : rm_L_law.slots = 7293034 := rfl; have e3 : rm_L_buy.cells = 3 := rfl; have e4 : rm_L_buy.slots = 18 := rfl; omega), (by have e1 : rm_L_law.cells = 601024 := rfl; have e2 : rm_L_law.slots = 7293034 := rfl; have e3 : rm_L_buy.cells = 3 := rfl; have e4 : rm_L_buy.slots = 18 := rfl; omega)⟩ dL_law_818 (fun v251 w250 h => ?_)
          refine g_widen (c2 := (31 + (513 - n9) * 134 + 3)) (s2 := (1769 + (513 - n9) * 5157 + 18)) (by have e1 : rm_L_buy.cells = 3 := rfl; omega) (by have e1 : rm_L_buy.slots = 18 := rfl; omega) ?_
          refine g_istore X [(5, .inl v251), (0, .inr (some b)), (1, .inr (some q1)), (2, .inr (some q4)), (3, .inr (some q7)), (4, .inl y11)] dL_law_821 (by decide) rfl ?_
          refine g_aload_n X dL_law_823 rfl 3 rfl ?_
          refine g_aload_n X dL_law_824 rfl 1 rfl ?_
          refine g_iload X dL_law_825 5 rfl ?_
          refine g_iconst X (v := (1 : Int32)) dL_law_827 (by decide) ?_
          refine g_iadd X dL_law_828 (fun v252 hv => ?_)
          replace h := h v252 hv; clear hv
          obtain ⟨j253, hi, hj, h⟩ := h
          refine g_sld X hX hb hbA hi hj hLL dL_law_829 (fun v254 hv => ?_)
          replace h := h v254 hv; clear hv hi hj
          refine g_aload_n X dL_law_830 rfl 1 rfl ?_
          refine g_iload X dL_law_831 5 rfl ?_
          refine g_iconst X (v := (2 : Int32)) dL_law_833 (by decide) ?_
          refine g_iadd X dL_law_834 (fun v255 hv => ?_)
          replace h := h v255 hv; clear hv
          obtain ⟨j256, hi, hj, h⟩ := h
          refine g_sld X hX hb hbA hi hj hLL dL_law_835 (fun v257 hv => ?_)
          replace h := h v257 hv; clear hv hi hj
          have hk := h.1
          replace h := h.2
          refine g_callV_i X (As := [.int v254, .int v257]) (st := []) (n := 2) (c_X4_buy hst h) rfl (by decide) hk (wE_5 G w250 q4) m_1180 m_1181 m_1182 m_34 m_1183 (by decide +kernel) (by decide +kernel) rfl rfl (Nat.zero_le _) ⟨(by have e1 : rm_L_law.cells = 601024 := rfl; have e2 : rm_L_law.slots = 7293034 := rfl; have e3 : rm_X4_buy.cells = 0 := rfl; have e4 : rm_X4_buy.slots = 0 := rfl; omega), (by have e1 : rm_L_law.cells = 601024 := rfl; have e2 : rm_L_law.slots = 7293034 := rfl; have e3 : rm_X4_buy.cells = 0 := rfl; have e4 : rm_X4_buy.slots = 0 := rfl; omega)⟩ dL_law_836 (fun v259 w258 h => ?_)
          clear hk
          refine g_widen (c2 := (31 + (513 - n9) * 134 + 3)) (s2 := (1769 + (513 - n9) * 5157 + 18)) (by have e1 : rm_X4_buy.cells = 0 := rfl; omega) (by have e1 : rm_X4_buy.slots = 0 := rfl; omega) ?_
          refine g_istore X [(6, .inl v259), (5, .inl v251), (0, .inr (some b)), (1, .inr (some q1)), (2, .inr (some q4)), (3, .inr (some q7)), (4, .inl y11)] dL_law_839 (by decide) rfl ?_
          refine g_aload_n X dL_law_841 rfl 4 rfl ?_
          have hk := h.1
          replace h := h.2
          refine g_callV_i X (As := []) (st := []) (n := 0) (c_X4_thrown hst h) rfl (by decide) hk (wE_5 G w258 q4) m_1091 m_1092 m_1093 m_34 m_1094 (by decide +kernel) (by decide +kernel) rfl rfl (Nat.zero_le _) ⟨(by have e1 : rm_L_law.cells = 601024 := rfl; have e2 : rm_L_law.slots = 7293034 := rfl; have e3 : rm_X4_thrown.cells = 0 := rfl; have e4 : rm_X4_thrown.slots = 0 := rfl; omega), (by have e1 : rm_L_law.cells = 601024 := rfl; have e2 : rm_L_law.slots = 7293034 := rfl; have e3 : rm_X4_thrown.cells = 0 := rfl; have e4 : rm_X4_thrown.slots = 0 := rfl; omega)⟩ dL_law_842 (fun v261 w260 h => ?_)
          clear hk
          refine g_widen (c2 := (31 + (513 - n9) * 134 + 3)) (s2 := (1769 + (513 - n9) * 5157 + 18)) (by have e1 : rm_X4_thrown.cells = 0 := rfl; omega) (by have e1 : rm_X4_thrown.slots = 0 := rfl; omega) ?_
          refine g_iload X dL_law_845 1 rfl ?_
          refine g_icmp_eq X (tgt := 852) dL_law_847 (by decide) (fun hc => ?_) (fun hc => ?_)
          · replace h := h.1 hc; clear hc
            refine g_iload X dL_law_852 1 rfl ?_
            obtain ⟨J262, hjJ262, h⟩ := h
            have jp262 : J262 → Gw l G L0 p e rm_L_law s m #[Value.ref b] below meth c 7 (31 + (513 - n9) * 134 + 3) (1769 + (513 - n9) * 5157 + 18) (lw_Z below #[Value.ref b] s) w260 869 [(0, .inr (some b)), (1, .inr (some q1)), (2, .inr (some q4)), (3, .inr (some q7)), (4, .inl y11)] [] := by
              intro hJ
              have h := hjJ262 hJ
              clear hJ
              refine g_goto X (tgt := 1495) dL_law_869 (by decide) ?_
              refine g_widen (c2 := (31 + (513 - n9) * 134 + 134)) (s2 := (1769 + (513 - n9) * 5157 + 5157)) (by omega) (by omega) ?_
              exact g_sub [0, 1, 2, 3, 4] [(0, .inr (some b)), (1, .inr (some q1)), (2, .inr (some q4)), (3, .inr (some q7)), (4, .inl y11)] rfl (jp18 w260 h)
            refine g_if_ne X (tgt := 869) dL_law_854 (by decide) (fun hc => ?_) (fun hc => ?_)
            · replace h := h.1 hc; clear hc
              exact g_sub [2, 3, 4, 5, 6] [(0, .inr (some b)), (1, .inr (some q1)), (2, .inr (some q4)), (3, .inr (some q7)), (4, .inl y11)] rfl (jp262  h)
            · replace h := h.2 hc; clear hc
              refine g_aload_n X dL_law_857 rfl 5 rfl ?_
              refine g_iconst X (v := (0 : Int32)) dL_law_858 (by decide) ?_
              have hk := h.1
              replace h := h.2
              obtain ⟨j263, hi, hj, hN, h⟩ := h
              refine g_lald X hk hi hj hN dL_law_859 (fun u264 hv => ?_)
              replace h := h u264 hv; clear hv hk hi hj hN
              refine g_iload X dL_law_860 0 rfl ?_
              refine g_i2l X dL_law_862 ?_
              refine g_lcmp X dL_law_863 ?_
              refine g_if_eq X (tgt := 869) dL_law_864 (by decide) (fun hc => ?_) (fun hc => ?_)
              · replace h := h.1 hc; clear hc
                exact g_sub [2, 3, 4, 5, 6] [(0, .inr (some b)), (1, .inr (some q1)), (2, .inr (some q4)), (3, .inr (some q7)), (4, .inl y11)] rfl (jp262  h)
              · replace h := h.2 hc; clear hc
                refine g_iconst X (v := (0 : Int32)) dL_law_867 (by decide) ?_
                exact h.elim
          · replace h := h.2 hc; clear hc
            refine g_iconst X (v := (0 : Int32)) dL_law_850 (by decide) ?_
            exact h.elim
        · replace h := h.2.2.2.2.2.2.2.2.2.2.1 hc
          refine g_tableEq X (tgt := 872) hc dL_law_39 (by decide) (by decide) rfl (by decide) ?_
          clear hc
          refine g_aload_n X dL_law_872 rfl 1 rfl ?_
          refine g_aload_n X dL_law_873 rfl 0 rfl ?_
          refine g_iload X dL_law_874 4 rfl ?_
          refine g_iconst X (v := (1 : Int32)) dL_law_876 (by decide) ?_
          refine g_iadd X dL_law_877 (fun v265 hv => ?_)
          replace h := h v265 hv; clear hv
          obtain ⟨j266, hi, hj, h⟩ := h
          refine g_sld X hX hb hbA hi hj hLL dL_law_878 (fun v267 hv => ?_)
          replace h := h v267 hv; clear hv hi hj
          refine g_aload_n X dL_law_879 rfl 0 rfl ?_
          refine g_iload X dL_law_880 4 rfl ?_
          refine g_iconst X (v := (2 : Int32)) dL_law_882 (by decide) ?_
          refine g_iadd X dL_law_883 (fun v268 hv => ?_)
          replace h := h v268 hv; clear hv
          obtain ⟨j269, hi, hj, h⟩ := h
          refine g_sld X hX hb hbA hi hj hLL dL_law_884 (fun v270 hv => ?_)
          replace h := h v270 hv; clear hv hi hj
          refine g_aload_n X dL_law_885 rfl 0 rfl ?_
          refine g_iload X dL_law_886 4 rfl ?_
          refine g_iconst X (v := (3 : Int32)) dL_law_888 (by decide) ?_
          refine g_iadd X dL_law_889 (fun v271 hv => ?_)
          replace h := h v271 hv; clear hv
          obtain ⟨j272, hi, hj, h⟩ := h
          refine g_sld X hX hb hbA hi hj hLL dL_law_890 (fun v273 hv => ?_)
          replace h := h v273 hv; clear hv hi hj
          refine g_aload_n X dL_law_891 rfl 0 rfl ?_
          refine g_iload X dL_law_892 4 rfl ?_
          refine g_iconst X (v := (4 : Int32)) dL_law_894 (by decide) ?_
          refine g_iadd X dL_law_895 (fun v274 hv => ?_)
          replace h := h v274 hv; clear hv
          obtain ⟨j275, hi, hj, h⟩ := h
          refine g_sld X hX hb hbA hi hj hLL dL_law_896 (fun v276 hv => ?_)
          replace h := h v276 hv; clear hv hi hj
          refine g_aload_n X dL_law_897 rfl 3 rfl ?_
          refine g_callH_i X (As := [va_rf (some q1), .int v267, .int v270, .int v273, .int v276, va_rf (some q7)]) (st := []) (n := 6) (c_L_borrow hst h) m_901 m_902 m_29 m_903 (by decide +kernel) (by decide +kernel) (by decide +kernel) rfl rfl (Nat.zero_le _) ⟨(by have e1 : rm_L_law.cells = 601024 := rfl; have e2 : rm_L_law.slots = 7293034 := rfl; have e3 : rm_L_borrow.cells = 7 := rfl; have e4 : rm_L_borrow.slots = 42 := rfl; omega), (by have e1 : rm_L_law.cells = 601024 := rfl; have e2 : rm_L_law.slots = 7293034 := rfl; have e3 : rm_L_borrow.cells = 7 := rfl; have e4 : rm_L_borrow.slots = 42 := rfl; omega)⟩ dL_law_898 (fun v278 w277 h => ?_)
          refine g_widen (c2 := (31 + (513 - n9) * 134 + 7)) (s2 := (1769 + (513 - n9) * 5157 + 42)) (by have e1 : rm_L_borrow.cells = 7 := rfl; omega) (by have e1 : rm_L_borrow.slots = 42 := rfl; omega) ?_
          refine g_istore X [(5, .inl v278), (0, .inr (some b)), (1, .inr (some q1)), (2, .inr (some q4)), (3, .inr (some q7)), (4, .inl y11)] dL_law_901 (by decide) rfl ?_
          refine g_aload_n X dL_law_903 rfl 3 rfl ?_
          refine g_aload_n X dL_law_904 rfl 1 rfl ?_
          refine g_iload X dL_law_905 5 rfl ?_
          refine g_iconst X (v := (1 : Int32)) dL_law_907 (by decide) ?_
          refine g_iadd X dL_law_908 (fun v279 hv => ?_)
          replace h := h v279 hv; clear hv
          obtain ⟨j280, hi, hj, h⟩ := h
          refine g_sld X hX hb hbA hi hj hLL dL_law_909 (fun v281 hv => ?_)
          replace h := h v281 hv; clear hv hi hj
          refine g_aload_n X dL_law_910 rfl 1 rfl ?_
          refine g_iload X dL_law_911 5 rfl ?_
          refine g_iconst X (v := (2 : Int32)) dL_law_913 (by decide) ?_
          refine g_iadd X dL_law_914 (fun v282 hv => ?_)
          replace h := h v282 hv; clear hv
          obtain ⟨j283, hi, hj, h⟩ := h
          refine g_sld X hX hb hbA hi hj hLL dL_law_915 (fun v284 hv => ?_)
          replace h := h v284 hv; clear hv hi hj
          refine g_aload_n X dL_law_916 rfl 1 rfl ?_
          refine g_iload X dL_law_917 5 rfl ?_
          refine g_iconst X (v := (3 : Int32)) dL_law_919 (by decide) ?_
          refine g_iadd X dL_law_920 (fun v285 hv => ?_)
          replace h := h v285 hv; clear hv
          obtain ⟨j286, hi, hj, h⟩ := h
          refine g_sld X hX hb hbA hi hj hLL dL_law_921 (fun v287 hv => ?_)
          replace h := h v287 hv; clear hv hi hj
          refine g_aload_n X dL_law_922 rfl 1 rfl ?_
          refine g_iload X dL_law_923 5 rfl ?_
          refine g_iconst X (v := (4 : Int32)) dL_law_925 (by decide) ?_
          refine g_iadd X dL_law_926 (fun v288 hv => ?_)
          replace h := h v288 hv; clear hv
          obtain ⟨j289, hi, hj, h⟩ := h
          refine g_sld X hX hb hbA hi hj hLL dL_law_927 (fun v290 hv => ?_)
          replace h := h v290 hv; clear hv hi hj
          have hk := h.1
          replace h := h.2
          refine g_callV_i X (As := [.int v281, .int v284, .int v287, .int v290]) (st := []) (n := 4) (c_X4_borrow hst h) rfl (by decide) hk (wE_5 G w277 q4) m_1184 m_1185 m_1186 m_34 m_1187 (by decide +kernel) (by decide +kernel) rfl rfl (Nat.zero_le _) ⟨(by have e1 : rm_L_law.cells = 601024 := rfl; have e2 : rm_L_law.slots = 7293034 := rfl; have e3 : rm_X4_borrow.cells = 0 := rfl; have e4 : rm_X4_borrow.slots = 0 := rfl; omega), (by have e1 : rm_L_law.cells = 601024 := rfl; have e2 : rm_L_law.slots = 7293034 := rfl; have e3 : rm_X4_borrow.cells = 0 := rfl; have e4 : rm_X4_borrow.slots = 0 := rfl; omega)⟩ dL_law_928 (fun v292 w291 h => ?_)
          clear hk
          refine g_widen (c2 := (31 + (513 - n9) * 134 + 7)) (s2 := (1769 + (513 - n9) * 5157 + 42)) (by have e1 : rm_X4_borrow.cells = 0 := rfl; omega) (by have e1 : rm_X4_borrow.slots = 0 := rfl; omega) ?_
          refine g_istore X [(6, .inl v292), (5, .inl v278), (0, .inr (some b)), (1, .inr (some q1)), (2, .inr (some q4)), (3, .inr (some q7)), (4, .inl y11)] dL_law_931 (by decide) rfl ?_
          refine g_aload_n X dL_law_933 rfl 4 rfl ?_
          have hk := h.1
          replace h := h.2
          refine g_callV_i X (As := []) (st := []) (n := 0) (c_X4_thrown hst h) rfl (by decide) hk (wE_5 G w291 q4) m_1091 m_1092 m_1093 m_34 m_1094 (by decide +kernel) (by decide +kernel) rfl rfl (Nat.zero_le _) ⟨(by have e1 : rm_L_law.cells = 601024 := rfl; have e2 : rm_L_law.slots = 7293034 := rfl; have e3 : rm_X4_thrown.cells = 0 := rfl; have e4 : rm_X4_thrown.slots = 0 := rfl; omega), (by have e1 : rm_L_law.cells = 601024 := rfl; have e2 : rm_L_law.slots = 7293034 := rfl; have e3 : rm_X4_thrown.cells = 0 := rfl; have e4 : rm_X4_thrown.slots = 0 := rfl; omega)⟩ dL_law_934 (fun v294 w293 h => ?_)
          clear hk
          refine g_widen (c2 := (31 + (513 - n9) * 134 + 7)) (s2 := (1769 + (513 - n9) * 5157 + 42)) (by have e1 : rm_X4_thrown.cells = 0 := rfl; omega) (by have e1 : rm_X4_thrown.slots = 0 := rfl; omega) ?_
          refine g_iload X dL_law_937 1 rfl ?_
          refine g_icmp_eq X (tgt := 944) dL_law_939 (by decide) (fun hc => ?_) (fun hc => ?_)
          · replace h := h.1 hc; clear hc
            refine g_iload X dL_law_944 1 rfl ?_
            obtain ⟨J295, hjJ295, h⟩ := h
            have jp295 : J295 → Gw l G L0 p e rm_L_law s m #[Value.ref b] below meth c 7 (31 + (513 - n9) * 134 + 7) (1769 + (513 - n9) * 5157 + 42) (lw_Z below #[Value.ref b] s) w293 961 [(0, .inr (some b)), (1, .inr (some q1)), (2, .inr (some q4)), (3, .inr (some q7)), (4, .inl y11)] [] := by
              intro hJ
              have h := hjJ295 hJ
              clear hJ
              refine g_goto X (tgt := 1495) dL_law_961 (by decide) ?_
              refine g_widen (c2 := (31 + (513 - n9) * 134 + 134)) (s2 := (1769 + (513 - n9) * 5157 + 5157)) (by omega) (by omega) ?_
              exact g_sub [0, 1, 2, 3, 4] [(0, .inr (some b)), (1, .inr (some q1)), (2, .inr (some q4)), (3, .inr (some q7)), (4, .inl y11)] rfl (jp18 w293 h)
            refine g_if_ne X (tgt := 961) dL_law_946 (by decide) (fun hc => ?_) (fun hc => ?_)
            · replace h := h.1 hc; clear hc
              exact g_sub [2, 3, 4, 5, 6] [(0, .inr (some b)), (1, .inr (some q1)), (2, .inr (some q4)), (3, .inr (some q7)), (4, .inl y11)] rfl (jp295  h)
            · replace h := h.2 hc; clear hc
              refine g_aload_n X dL_law_949 rfl 5 rfl ?_
              refine g_iconst X (v := (0 : Int32)) dL_law_950 (by decide) ?_
              have hk := h.1
              replace h := h.2
              obtain ⟨j296, hi, hj, hN, h⟩ := h
              refine g_lald X hk hi hj hN dL_law_951 (fun u297 hv => ?_)
              replace h := h u297 hv; clear hv hk hi hj hN
              refine g_iload X dL_law_952 0 rfl ?_
              refine g_i2l X dL_law_954 ?_
              refine g_lcmp X dL_law_955 ?_
              refine g_if_eq X (tgt := 961) dL_law_956 (by decide) (fun hc => ?_) (fun hc => ?_)
              · replace h := h.1 hc; clear hc
                exact g_sub [2, 3, 4, 5, 6] [(0, .inr (some b)), (1, .inr (some q1)), (2, .inr (some q4)), (3, .inr (some q7)), (4, .inl y11)] rfl (jp295  h)
              · replace h := h.2 hc; clear hc
                refine g_iconst X (v := (0 : Int32)) dL_law_959 (by decide) ?_
                exact h.elim
          · replace h := h.2 hc; clear hc
            refine g_iconst X (v := (0 : Int32)) dL_law_942 (by decide) ?_
            exact h.elim
        · replace h := h.2.2.2.2.2.2.2.2.2.2.2.1 hc
          refine g_tableEq X (tgt := 964) hc dL_law_39 (by decide) (by decide) rfl (by decide) ?_
          clear hc
          refine g_aload_n X dL_law_964 rfl 1 rfl ?_
          refine g_aload_n X dL_law_965 rfl 0 rfl ?_
          refine g_iload X dL_law_966 4 rfl ?_
          refine g_iconst X (v := (1 : Int32)) dL_law_968 (by decide) ?_
          refine g_iadd X dL_law_969 (fun v298 hv => ?_)
          replace h := h v298 hv; clear hv
          obtain ⟨j299, hi, hj, h⟩ := h
          refine g_sld X hX hb hbA hi hj hLL dL_law_970 (fun v300 hv => ?_)
          replace h := h v300 hv; clear hv hi hj
          refine g_aload_n X dL_law_971 rfl 0 rfl ?_
          refine g_iload X dL_law_972 4 rfl ?_
          refine g_iconst X (v := (2 : Int32)) dL_law_974 (by decide) ?_
          refine g_iadd X dL_law_975 (fun v301 hv => ?_)
          replace h := h v301 hv; clear hv
          obtain ⟨j302, hi, hj, h⟩ := h
          refine g_sld X hX hb hbA hi hj hLL dL_law_976 (fun v303 hv => ?_)
          replace h := h v303 hv; clear hv hi hj
          refine g_aload_n X dL_law_977 rfl 3 rfl ?_
          refine g_callH_i X (As := [va_rf (some q1), .int v300, .int v303, va_rf (some q7)]) (st := []) (n := 4) (c_L_repay hst h) m_932 m_933 m_29 m_934 (by decide +kernel) (by decide +kernel) (by decide +kernel) rfl rfl (Nat.zero_le _) ⟨(by have e1 : rm_L_law.cells = 601024 := rfl; have e2 : rm_L_law.slots = 7293034 := rfl; have e3 : rm_L_repay.cells = 3 := rfl; have e4 : rm_L_repay.slots = 18 := rfl; omega), (by have e1 : rm_L_law.cells = 601024 := rfl; have e2 : rm_L_law.slots = 7293034 := rfl; have e3 : rm_L_repay.cells = 3 := rfl; have e4 : rm_L_repay.slots = 18 := rfl; omega)⟩ dL_law_978 (fun v305 w304 h => ?_)
          refine g_widen (c2 := (31 + (513 - n9) * 134 + 3)) (s2 := (1769 + (513 - n9) * 5157 + 18)) (by have e1 : rm_L_repay.cells = 3 := rfl; omega) (by have e1 : rm_L_repay.slots = 18 := rfl; omega) ?_
          refine g_istore X [(5, .inl v305), (0, .inr (some b)), (1, .inr (some q1)), (2, .inr (some q4)), (3, .inr (some q7)), (4, .inl y11)] dL_law_981 (by decide) rfl ?_
          refine g_aload_n X dL_law_983 rfl 3 rfl ?_
          refine g_aload_n X dL_law_984 rfl 1 rfl ?_
          refine g_iload X dL_law_985 5 rfl ?_
          refine g_iconst X (v := (1 : Int32)) dL_law_987 (by decide) ?_
          refine g_iadd X dL_law_988 (fun v306 hv => ?_)
          replace h := h v306 hv; clear hv
          obtain ⟨j307, hi, hj, h⟩ := h
          refine g_sld X hX hb hbA hi hj hLL dL_law_989 (fun v308 hv => ?_)
          replace h := h v308 hv; clear hv hi hj
          refine g_aload_n X dL_law_990 rfl 1 rfl ?_
          refine g_iload X dL_law_991 5 rfl ?_
          refine g_iconst X (v := (2 : Int32)) dL_law_993 (by decide) ?_
          refine g_iadd X dL_law_994 (fun v309 hv => ?_)
          replace h := h v309 hv; clear hv
          obtain ⟨j310, hi, hj, h⟩ := h
          refine g_sld X hX hb hbA hi hj hLL dL_law_995 (fun v311 hv => ?_)
          replace h := h v311 hv; clear hv hi hj
          have hk := h.1
          replace h := h.2
          refine g_callV_i X (As := [.int v308, .int v311]) (st := []) (n := 2) (c_X4_repay hst h) rfl (by decide) hk (wE_5 G w304 q4) m_1199 m_1200 m_1201 m_34 m_1202 (by decide +kernel) (by decide +kernel) rfl rfl (Nat.zero_le _) ⟨(by have e1 : rm_L_law.cells = 601024 := rfl; have e2 : rm_L_law.slots = 7293034 := rfl; have e3 : rm_X4_repay.cells = 0 := rfl; have e4 : rm_X4_repay.slots = 0 := rfl; omega), (by have e1 : rm_L_law.cells = 601024 := rfl; have e2 : rm_L_law.slots = 7293034 := rfl; have e3 : rm_X4_repay.cells = 0 := rfl; have e4 : rm_X4_repay.slots = 0 := rfl; omega)⟩ dL_law_996 (fun v313 w312 h => ?_)
          clear hk
          refine g_widen (c2 := (31 + (513 - n9) * 134 + 3)) (s2 := (1769 + (513 - n9) * 5157 + 18)) (by have e1 : rm_X4_repay.cells = 0 := rfl; omega) (by have e1 : rm_X4_repay.slots = 0 := rfl; omega) ?_
          refine g_istore X [(6, .inl v313), (5, .inl v305), (0, .inr (some b)), (1, .inr (some q1)), (2, .inr (some q4)), (3, .inr (some q7)), (4, .inl y11)] dL_law_999 (by decide) rfl ?_
          refine g_aload_n X dL_law_1001 rfl 4 rfl ?_
          have hk := h.1
          replace h := h.2
          refine g_callV_i X (As := []) (st := []) (n := 0) (c_X4_thrown hst h) rfl (by decide) hk (wE_5 G w312 q4) m_1091 m_1092 m_1093 m_34 m_1094 (by decide +kernel) (by decide +kernel) rfl rfl (Nat.zero_le _) ⟨(by have e1 : rm_L_law.cells = 601024 := rfl; have e2 : rm_L_law.slots = 7293034 := rfl; have e3 : rm_X4_thrown.cells = 0 := rfl; have e4 : rm_X4_thrown.slots = 0 := rfl; omega), (by have e1 : rm_L_law.cells = 601024 := rfl; have e2 : rm_L_law.slots = 7293034 := rfl; have e3 : rm_X4_thrown.cells = 0 := rfl; have e4 : rm_X4_thrown.slots = 0 := rfl; omega)⟩ dL_law_1002 (fun v315 w314 h => ?_)
          clear hk
          refine g_widen (c2 := (31 + (513 - n9) * 134 + 3)) (s2 := (1769 + (513 - n9) * 5157 + 18)) (by have e1 : rm_X4_thrown.cells = 0 := rfl; omega) (by have e1 : rm_X4_thrown.slots = 0 := rfl; omega) ?_
          refine g_iload X dL_law_1005 1 rfl ?_
          refine g_icmp_eq X (tgt := 1012) dL_law_1007 (by decide) (fun hc => ?_) (fun hc => ?_)
          · replace h := h.1 hc; clear hc
            refine g_iload X dL_law_1012 1 rfl ?_
            obtain ⟨J316, hjJ316, h⟩ := h
            have jp316 : J316 → Gw l G L0 p e rm_L_law s m #[Value.ref b] below meth c 7 (31 + (513 - n9) * 134 + 3) (1769 + (513 - n9) * 5157 + 18) (lw_Z below #[Value.ref b] s) w314 1029 [(0, .inr (some b)), (1, .inr (some q1)), (2, .inr (some q4)), (3, .inr (some q7)), (4, .inl y11)] [] := by
              intro hJ
              have h := hjJ316 hJ
              clear hJ
              refine g_goto X (tgt := 1495) dL_law_1029 (by decide) ?_
              refine g_widen (c2 := (31 + (513 - n9) * 134 + 134)) (s2 := (1769 + (513 - n9) * 5157 + 5157)) (by omega) (by omega) ?_
              exact g_sub [0, 1, 2, 3, 4] [(0, .inr (some b)), (1, .inr (some q1)), (2, .inr (some q4)), (3, .inr (some q7)), (4, .inl y11)] rfl (jp18 w314 h)
            refine g_if_ne X (tgt := 1029) dL_law_1014 (by decide) (fun hc => ?_) (fun hc => ?_)
            · replace h := h.1 hc; clear hc
              exact g_sub [2, 3, 4, 5, 6] [(0, .inr (some b)), (1, .inr (some q1)), (2, .inr (some q4)), (3, .inr (some q7)), (4, .inl y11)] rfl (jp316  h)
            · replace h := h.2 hc; clear hc
              refine g_aload_n X dL_law_1017 rfl 5 rfl ?_
              refine g_iconst X (v := (0 : Int32)) dL_law_1018 (by decide) ?_
              have hk := h.1
              replace h := h.2
              obtain ⟨j317, hi, hj, hN, h⟩ := h
              refine g_lald X hk hi hj hN dL_law_1019 (fun u318 hv => ?_)
              replace h := h u318 hv; clear hv hk hi hj hN
              refine g_iload X dL_law_1020 0 rfl ?_
              refine g_i2l X dL_law_1022 ?_
              refine g_lcmp X dL_law_1023 ?_
              refine g_if_eq X (tgt := 1029) dL_law_1024 (by decide) (fun hc => ?_) (fun hc => ?_)
              · replace h := h.1 hc; clear hc
                exact g_sub [2, 3, 4, 5, 6] [(0, .inr (some b)), (1, .inr (some q1)), (2, .inr (some q4)), (3, .inr (some q7)), (4, .inl y11)] rfl (jp316  h)
              · replace h := h.2 hc; clear hc
                refine g_iconst X (v := (0 : Int32)) dL_law_1027 (by decide) ?_
                exact h.elim
          · replace h := h.2 hc; clear hc
            refine g_iconst X (v := (0 : Int32)) dL_law_1010 (by decide) ?_
            exact h.elim
        · replace h := h.2.2.2.2.2.2.2.2.2.2.2.2.1 hc
          refine g_tableEq X (tgt := 1032) hc dL_law_39 (by decide) (by decide) rfl (by decide) ?_
          clear hc
          refine g_aload_n X dL_law_1032 rfl 1 rfl ?_
          refine g_aload_n X dL_law_1033 rfl 0 rfl ?_
          refine g_iload X dL_law_1034 4 rfl ?_
          refine g_iconst X (v := (1 : Int32)) dL_law_1036 (by decide) ?_
          refine g_iadd X dL_law_1037 (fun v319 hv => ?_)
          replace h := h v319 hv; clear hv
          obtain ⟨j320, hi, hj, h⟩ := h
          refine g_sld X hX hb hbA hi hj hLL dL_law_1038 (fun v321 hv => ?_)
          replace h := h v321 hv; clear hv hi hj
          obtain ⟨J322, hjJ322, h⟩ := h
          have jp322 : ∀ (q323 : Option Nat) (y324 : Int32), J322 q323 y324 → Gw l G L0 p e rm_L_law s m #[Value.ref b] below meth c 7 (31 + (513 - n9) * 134 + 0) (1769 + (513 - n9) * 5157 + 0) (lw_Z below #[Value.ref b] s) w12 1047 [(0, .inr (some b)), (1, .inr (some q1)), (2, .inr (some q4)), (3, .inr (some q7)), (4, .inl y11)] [.int y324, va_rf q323] := by
            intro q323 y324 hJ
            have h := hjJ322 q323 y324 hJ
            clear hJ
            obtain ⟨a325, rfl, hk, h⟩ := h
            refine g_callV_i X (As := [.int y324]) (st := []) (n := 1) (c_X3_month hst h) rfl (by decide) hk (wE_4 G w12 a325) m_104 m_105 m_106 m_30 m_107 (by decide +kernel) (by decide +kernel) rfl rfl (Nat.zero_le _) ⟨(by have e1 : rm_L_law.cells = 601024 := rfl; have e2 : rm_L_law.slots = 7293034 := rfl; have e3 : rm_X3_month.cells = 0 := rfl; have e4 : rm_X3_month.slots = 0 := rfl; omega), (by have e1 : rm_L_law.cells = 601024 := rfl; have e2 : rm_L_law.slots = 7293034 := rfl; have e3 : rm_X3_month.cells = 0 := rfl; have e4 : rm_X3_month.slots = 0 := rfl; omega)⟩ dL_law_1047 (fun v327 w326 h => ?_)
            clear hk
            refine g_widen (c2 := (31 + (513 - n9) * 134 + 0)) (s2 := (1769 + (513 - n9) * 5157 + 0)) (by have e1 : rm_X3_month.cells = 0 := rfl; omega) (by have e1 : rm_X3_month.slots = 0 := rfl; omega) ?_
            refine g_aload_n X dL_law_1050 rfl 2 rfl ?_
            refine g_aload_n X dL_law_1051 rfl 0 rfl ?_
            refine g_iload X dL_law_1052 4 rfl ?_
            refine g_iconst X (v := (1 : Int32)) dL_law_1054 (by decide) ?_
            refine g_iadd X dL_law_1055 (fun v328 hv => ?_)
            replace h := h v328 hv; clear hv
            obtain ⟨j329, hi, hj, h⟩ := h
            refine g_sld X hX hb hbA hi hj hLL dL_law_1056 (fun v330 hv => ?_)
            replace h := h v330 hv; clear hv hi hj
            obtain ⟨J331, hjJ331, h⟩ := h
            have jp331 : ∀ (y332 : Int32) (q333 : Option Nat) (y334 : Int32), J331 y332 q333 y334 → Gw l G L0 p e rm_L_law s m #[Value.ref b] below meth c 7 (31 + (513 - n9) * 134 + 0) (1769 + (513 - n9) * 5157 + 0) (lw_Z below #[Value.ref b] s) w326 1065 [(0, .inr (some b)), (1, .inr (some q1)), (2, .inr (some q4)), (3, .inr (some q7)), (4, .inl y11)] [.int y334, va_rf q333, .int y332] := by
              intro y332 q333 y334 hJ
              have h := hjJ331 y332 q333 y334 hJ
              clear hJ
              obtain ⟨a335, rfl, hk, h⟩ := h
              refine g_callV_i X (As := [.int y334]) (st := [.int y332]) (n := 1) (c_X4_month hst h) rfl (by decide) hk (wE_5 G w326 a335) m_1203 m_1204 m_1205 m_34 m_1206 (by decide +kernel) (by decide +kernel) rfl rfl (by simp [cat_int, rf_cat]) ⟨(by have e1 : rm_L_law.cells = 601024 := rfl; have e2 : rm_L_law.slots = 7293034 := rfl; have e3 : rm_X4_month.cells = 0 := rfl; have e4 : rm_X4_month.slots = 0 := rfl; omega), (by have e1 : rm_L_law.cells = 601024 := rfl; have e2 : rm_L_law.slots = 7293034 := rfl; have e3 : rm_X4_month.cells = 0 := rfl; have e4 : rm_X4_month.slots = 0 := rfl; omega)⟩ dL_law_1065 (fun v337 w336 h => ?_)
              clear hk
              refine g_widen (c2 := (31 + (513 - n9) * 134 + 0)) (s2 := (1769 + (513 - n9) * 5157 + 0)) (by have e1 : rm_X4_month.cells = 0 := rfl; omega) (by have e1 : rm_X4_month.slots = 0 := rfl; omega) ?_
              refine g_icmp_eq X (tgt := 1495) dL_law_1068 (by decide) (fun hc => ?_) (fun hc => ?_)
              · replace h := h.1 hc; clear hc
                refine g_widen (c2 := (31 + (513 - n9) * 134 + 134)) (s2 := (1769 + (513 - n9) * 5157 + 5157)) (by omega) (by omega) ?_
                exact g_sub [0, 1, 2, 3, 4] [(0, .inr (some b)), (1, .inr (some q1)), (2, .inr (some q4)), (3, .inr (some q7)), (4, .inl y11)] rfl (jp18 w336 h)
              · replace h := h.2 hc; clear hc
                refine g_iconst X (v := (0 : Int32)) dL_law_1071 (by decide) ?_
                exact h.elim
            refine g_if_eq X (tgt := 1064) dL_law_1057 (by decide) (fun hc => ?_) (fun hc => ?_)
            · replace h := h.1 hc; clear hc
              refine g_iconst X (v := (0 : Int32)) dL_law_1064 (by decide) ?_
              exact g_sub [0, 1, 2, 3, 4] [(0, .inr (some b)), (1, .inr (some q1)), (2, .inr (some q4)), (3, .inr (some q7)), (4, .inl y11)] rfl (jp331 v327 (some q4) (0 : Int32) h)
            · replace h := h.2 hc; clear hc
              refine g_iconst X (v := (1 : Int32)) dL_law_1060 (by decide) ?_
              refine g_goto X (tgt := 1065) dL_law_1061 (by decide) ?_
              exact g_sub [0, 1, 2, 3, 4] [(0, .inr (some b)), (1, .inr (some q1)), (2, .inr (some q4)), (3, .inr (some q7)), (4, .inl y11)] rfl (jp331 v327 (some q4) (1 : Int32) h)
          refine g_if_eq X (tgt := 1046) dL_law_1039 (by decide) (fun hc => ?_) (fun hc => ?_)
          · replace h := h.1 hc; clear hc
            refine g_iconst X (v := (0 : Int32)) dL_law_1046 (by decide) ?_
            exact g_sub [0, 1, 2, 3, 4] [(0, .inr (some b)), (1, .inr (some q1)), (2, .inr (some q4)), (3, .inr (some q7)), (4, .inl y11)] rfl (jp322 (some q1) (0 : Int32) h)
          · replace h := h.2 hc; clear hc
            refine g_iconst X (v := (1 : Int32)) dL_law_1042 (by decide) ?_
            refine g_goto X (tgt := 1047) dL_law_1043 (by decide) ?_
            exact g_sub [0, 1, 2, 3, 4] [(0, .inr (some b)), (1, .inr (some q1)), (2, .inr (some q4)), (3, .inr (some q7)), (4, .inl y11)] rfl (jp322 (some q1) (1 : Int32) h)
        · replace h := h.2.2.2.2.2.2.2.2.2.2.2.2.2.1 hc
          refine g_tableEq X (tgt := 1073) hc dL_law_39 (by decide) (by decide) rfl (by decide) ?_
          clear hc
          refine g_aload_n X dL_law_1073 rfl 1 rfl ?_
          refine g_aload_n X dL_law_1074 rfl 3 rfl ?_
          refine g_callH_i X (As := [va_rf (some q1), va_rf (some q7)]) (st := []) (n := 2) (c_L_feast hst h) m_940 m_941 m_29 m_942 (by decide +kernel) (by decide +kernel) (by decide +kernel) rfl rfl (Nat.zero_le _) ⟨(by have e1 : rm_L_law.cells = 601024 := rfl; have e2 : rm_L_law.slots = 7293034 := rfl; have e3 : rm_L_feast.cells = 1 := rfl; have e4 : rm_L_feast.slots = 6 := rfl; omega), (by have e1 : rm_L_law.cells = 601024 := rfl; have e2 : rm_L_law.slots = 7293034 := rfl; have e3 : rm_L_feast.cells = 1 := rfl; have e4 : rm_L_feast.slots = 6 := rfl; omega)⟩ dL_law_1075 (fun v339 w338 h => ?_)
          refine g_widen (c2 := (31 + (513 - n9) * 134 + 1)) (s2 := (1769 + (513 - n9) * 5157 + 6)) (by have e1 : rm_L_feast.cells = 1 := rfl; omega) (by have e1 : rm_L_feast.slots = 6 := rfl; omega) ?_
          refine g_istore X [(5, .inl v339), (0, .inr (some b)), (1, .inr (some q1)), (2, .inr (some q4)), (3, .inr (some q7)), (4, .inl y11)] dL_law_1078 (by decide) rfl ?_
          refine g_aload_n X dL_law_1080 rfl 3 rfl ?_
          have hk := h.1
          replace h := h.2
          refine g_callV_i X (As := []) (st := []) (n := 0) (c_X4_feast hst h) rfl (by decide) hk (wE_5 G w338 q4) m_1211 m_1212 m_1213 m_34 m_1214 (by decide +kernel) (by decide +kernel) rfl rfl (Nat.zero_le _) ⟨(by have e1 : rm_L_law.cells = 601024 := rfl; have e2 : rm_L_law.slots = 7293034 := rfl; have e3 : rm_X4_feast.cells = 0 := rfl; have e4 : rm_X4_feast.slots = 0 := rfl; omega), (by have e1 : rm_L_law.cells = 601024 := rfl; have e2 : rm_L_law.slots = 7293034 := rfl; have e3 : rm_X4_feast.cells = 0 := rfl; have e4 : rm_X4_feast.slots = 0 := rfl; omega)⟩ dL_law_1081 (fun v341 w340 h => ?_)
          clear hk
          refine g_widen (c2 := (31 + (513 - n9) * 134 + 1)) (s2 := (1769 + (513 - n9) * 5157 + 6)) (by have e1 : rm_X4_feast.cells = 0 := rfl; omega) (by have e1 : rm_X4_feast.slots = 0 := rfl; omega) ?_
          refine g_istore X [(6, .inl v341), (5, .inl v339), (0, .inr (some b)), (1, .inr (some q1)), (2, .inr (some q4)), (3, .inr (some q7)), (4, .inl y11)] dL_law_1084 (by decide) rfl ?_
          refine g_aload_n X dL_law_1086 rfl 4 rfl ?_
          have hk := h.1
          replace h := h.2
          refine g_callV_i X (As := []) (st := []) (n := 0) (c_X4_thrown hst h) rfl (by decide) hk (wE_5 G w340 q4) m_1091 m_1092 m_1093 m_34 m_1094 (by decide +kernel) (by decide +kernel) rfl rfl (Nat.zero_le _) ⟨(by have e1 : rm_L_law.cells = 601024 := rfl; have e2 : rm_L_law.slots = 7293034 := rfl; have e3 : rm_X4_thrown.cells = 0 := rfl; have e4 : rm_X4_thrown.slots = 0 := rfl; omega), (by have e1 : rm_L_law.cells = 601024 := rfl; have e2 : rm_L_law.slots = 7293034 := rfl; have e3 : rm_X4_thrown.cells = 0 := rfl; have e4 : rm_X4_thrown.slots = 0 := rfl; omega)⟩ dL_law_1087 (fun v343 w342 h => ?_)
          clear hk
          refine g_widen (c2 := (31 + (513 - n9) * 134 + 1)) (s2 := (1769 + (513 - n9) * 5157 + 6)) (by have e1 : rm_X4_thrown.cells = 0 := rfl; omega) (by have e1 : rm_X4_thrown.slots = 0 := rfl; omega) ?_
          refine g_iload X dL_law_1090 1 rfl ?_
          refine g_icmp_eq X (tgt := 1097) dL_law_1092 (by decide) (fun hc => ?_) (fun hc => ?_)
          · replace h := h.1 hc; clear hc
            refine g_iload X dL_law_1097 1 rfl ?_
            obtain ⟨J344, hjJ344, h⟩ := h
            have jp344 : J344 → Gw l G L0 p e rm_L_law s m #[Value.ref b] below meth c 7 (31 + (513 - n9) * 134 + 1) (1769 + (513 - n9) * 5157 + 6) (lw_Z below #[Value.ref b] s) w342 1114 [(0, .inr (some b)), (1, .inr (some q1)), (2, .inr (some q4)), (3, .inr (some q7)), (4, .inl y11)] [] := by
              intro hJ
              have h := hjJ344 hJ
              clear hJ
              refine g_goto X (tgt := 1495) dL_law_1114 (by decide) ?_
              refine g_widen (c2 := (31 + (513 - n9) * 134 + 134)) (s2 := (1769 + (513 - n9) * 5157 + 5157)) (by omega) (by omega) ?_
              exact g_sub [0, 1, 2, 3, 4] [(0, .inr (some b)), (1, .inr (some q1)), (2, .inr (some q4)), (3, .inr (some q7)), (4, .inl y11)] rfl (jp18 w342 h)
            refine g_if_ne X (tgt := 1114) dL_law_1099 (by decide) (fun hc => ?_) (fun hc => ?_)
            · replace h := h.1 hc; clear hc
              exact g_sub [2, 3, 4, 5, 6] [(0, .inr (some b)), (1, .inr (some q1)), (2, .inr (some q4)), (3, .inr (some q7)), (4, .inl y11)] rfl (jp344  h)
            · replace h := h.2 hc; clear hc
              refine g_aload_n X dL_law_1102 rfl 5 rfl ?_
              refine g_iconst X (v := (0 : Int32)) dL_law_1103 (by decide) ?_
              have hk := h.1
              replace h := h.2
              obtain ⟨j345, hi, hj, hN, h⟩ := h
              refine g_lald X hk hi hj hN dL_law_1104 (fun u346 hv => ?_)
              replace h := h u346 hv; clear hv hk hi hj hN
              refine g_iload X dL_law_1105 0 rfl ?_
              refine g_i2l X dL_law_1107 ?_
              refine g_lcmp X dL_law_1108 ?_
              refine g_if_eq X (tgt := 1114) dL_law_1109 (by decide) (fun hc => ?_) (fun hc => ?_)
              · replace h := h.1 hc; clear hc
                exact g_sub [2, 3, 4, 5, 6] [(0, .inr (some b)), (1, .inr (some q1)), (2, .inr (some q4)), (3, .inr (some q7)), (4, .inl y11)] rfl (jp344  h)
              · replace h := h.2 hc; clear hc
                refine g_iconst X (v := (0 : Int32)) dL_law_1112 (by decide) ?_
                exact h.elim
          · replace h := h.2 hc; clear hc
            refine g_iconst X (v := (0 : Int32)) dL_law_1095 (by decide) ?_
            exact h.elim
        · replace h := h.2.2.2.2.2.2.2.2.2.2.2.2.2.2.1 hc
          refine g_tableEq X (tgt := 1117) hc dL_law_39 (by decide) (by decide) rfl (by decide) ?_
          clear hc
          refine g_aload_n X dL_law_1117 rfl 1 rfl ?_
          refine g_aload_n X dL_law_1118 rfl 0 rfl ?_
          refine g_iload X dL_law_1119 4 rfl ?_
          refine g_iconst X (v := (1 : Int32)) dL_law_1121 (by decide) ?_
          refine g_iadd X dL_law_1122 (fun v347 hv => ?_)
          replace h := h v347 hv; clear hv
          obtain ⟨j348, hi, hj, h⟩ := h
          refine g_sld X hX hb hbA hi hj hLL dL_law_1123 (fun v349 hv => ?_)
          replace h := h v349 hv; clear hv hi hj
          refine g_aload_n X dL_law_1124 rfl 0 rfl ?_
          refine g_iload X dL_law_1125 4 rfl ?_
          refine g_iconst X (v := (2 : Int32)) dL_law_1127 (by decide) ?_
          refine g_iadd X dL_law_1128 (fun v350 hv => ?_)
          replace h := h v350 hv; clear hv
          obtain ⟨j351, hi, hj, h⟩ := h
          refine g_sld X hX hb hbA hi hj hLL dL_law_1129 (fun v352 hv => ?_)
          replace h := h v352 hv; clear hv hi hj
          refine g_aload_n X dL_law_1130 rfl 0 rfl ?_
          refine g_iload X dL_law_1131 4 rfl ?_
          refine g_iconst X (v := (3 : Int32)) dL_law_1133 (by decide) ?_
          refine g_iadd X dL_law_1134 (fun v353 hv => ?_)
          replace h := h v353 hv; clear hv
          obtain ⟨j354, hi, hj, h⟩ := h
          refine g_sld X hX hb hbA hi hj hLL dL_law_1135 (fun v355 hv => ?_)
          replace h := h v355 hv; clear hv hi hj
          refine g_aload_n X dL_law_1136 rfl 3 rfl ?_
          refine g_callH_i X (As := [va_rf (some q1), .int v349, .int v352, .int v355, va_rf (some q7)]) (st := []) (n := 5) (c_L_note hst h) m_949 m_950 m_29 m_951 (by decide +kernel) (by decide +kernel) (by decide +kernel) rfl rfl (Nat.zero_le _) ⟨(by have e1 : rm_L_law.cells = 601024 := rfl; have e2 : rm_L_law.slots = 7293034 := rfl; have e3 : rm_L_note.cells = 3 := rfl; have e4 : rm_L_note.slots = 18 := rfl; omega), (by have e1 : rm_L_law.cells = 601024 := rfl; have e2 : rm_L_law.slots = 7293034 := rfl; have e3 : rm_L_note.cells = 3 := rfl; have e4 : rm_L_note.slots = 18 := rfl; omega)⟩ dL_law_1137 (fun v357 w356 h => ?_)
          refine g_widen (c2 := (31 + (513 - n9) * 134 + 3)) (s2 := (1769 + (513 - n9) * 5157 + 18)) (by have e1 : rm_L_note.cells = 3 := rfl; omega) (by have e1 : rm_L_note.slots = 18 := rfl; omega) ?_
          refine g_istore X [(5, .inl v357), (0, .inr (some b)), (1, .inr (some q1)), (2, .inr (some q4)), (3, .inr (some q7)), (4, .inl y11)] dL_law_1140 (by decide) rfl ?_
          refine g_aload_n X dL_law_1142 rfl 3 rfl ?_
          refine g_aload_n X dL_law_1143 rfl 1 rfl ?_
          refine g_iload X dL_law_1144 5 rfl ?_
          refine g_iconst X (v := (1 : Int32)) dL_law_1146 (by decide) ?_
          refine g_iadd X dL_law_1147 (fun v358 hv => ?_)
          replace h := h v358 hv; clear hv
          obtain ⟨j359, hi, hj, h⟩ := h
          refine g_sld X hX hb hbA hi hj hLL dL_law_1148 (fun v360 hv => ?_)
          replace h := h v360 hv; clear hv hi hj
          refine g_aload_n X dL_law_1149 rfl 1 rfl ?_
          refine g_iload X dL_law_1150 5 rfl ?_
          refine g_iconst X (v := (2 : Int32)) dL_law_1152 (by decide) ?_
          refine g_iadd X dL_law_1153 (fun v361 hv => ?_)
          replace h := h v361 hv; clear hv
          obtain ⟨j362, hi, hj, h⟩ := h
          refine g_sld X hX hb hbA hi hj hLL dL_law_1154 (fun v363 hv => ?_)
          replace h := h v363 hv; clear hv hi hj
          refine g_aload_n X dL_law_1155 rfl 1 rfl ?_
          refine g_iload X dL_law_1156 5 rfl ?_
          refine g_iconst X (v := (3 : Int32)) dL_law_1158 (by decide) ?_
          refine g_iadd X dL_law_1159 (fun v364 hv => ?_)
          replace h := h v364 hv; clear hv
          obtain ⟨j365, hi, hj, h⟩ := h
          refine g_sld X hX hb hbA hi hj hLL dL_law_1160 (fun v366 hv => ?_)
          replace h := h v366 hv; clear hv hi hj
          have hk := h.1
          replace h := h.2
          refine g_callV_i X (As := [.int v360, .int v363, .int v366]) (st := []) (n := 3) (c_X4_note hst h) rfl (by decide) hk (wE_5 G w356 q4) m_1215 m_1216 m_1217 m_34 m_1218 (by decide +kernel) (by decide +kernel) rfl rfl (Nat.zero_le _) ⟨(by have e1 : rm_L_law.cells = 601024 := rfl; have e2 : rm_L_law.slots = 7293034 := rfl; have e3 : rm_X4_note.cells = 0 := rfl; have e4 : rm_X4_note.slots = 0 := rfl; omega), (by have e1 : rm_L_law.cells = 601024 := rfl; have e2 : rm_L_law.slots = 7293034 := rfl; have e3 : rm_X4_note.cells = 0 := rfl; have e4 : rm_X4_note.slots = 0 := rfl; omega)⟩ dL_law_1161 (fun v368 w367 h => ?_)
          clear hk
          refine g_widen (c2 := (31 + (513 - n9) * 134 + 3)) (s2 := (1769 + (513 - n9) * 5157 + 18)) (by have e1 : rm_X4_note.cells = 0 := rfl; omega) (by have e1 : rm_X4_note.slots = 0 := rfl; omega) ?_
          refine g_istore X [(6, .inl v368), (5, .inl v357), (0, .inr (some b)), (1, .inr (some q1)), (2, .inr (some q4)), (3, .inr (some q7)), (4, .inl y11)] dL_law_1164 (by decide) rfl ?_
          refine g_aload_n X dL_law_1166 rfl 4 rfl ?_
          have hk := h.1
          replace h := h.2
          refine g_callV_i X (As := []) (st := []) (n := 0) (c_X4_thrown hst h) rfl (by decide) hk (wE_5 G w367 q4) m_1091 m_1092 m_1093 m_34 m_1094 (by decide +kernel) (by decide +kernel) rfl rfl (Nat.zero_le _) ⟨(by have e1 : rm_L_law.cells = 601024 := rfl; have e2 : rm_L_law.slots = 7293034 := rfl; have e3 : rm_X4_thrown.cells = 0 := rfl; have e4 : rm_X4_thrown.slots = 0 := rfl; omega), (by have e1 : rm_L_law.cells = 601024 := rfl; have e2 : rm_L_law.slots = 7293034 := rfl; have e3 : rm_X4_thrown.cells = 0 := rfl; have e4 : rm_X4_thrown.slots = 0 := rfl; omega)⟩ dL_law_1167 (fun v370 w369 h => ?_)
          clear hk
          refine g_widen (c2 := (31 + (513 - n9) * 134 + 3)) (s2 := (1769 + (513 - n9) * 5157 + 18)) (by have e1 : rm_X4_thrown.cells = 0 := rfl; omega) (by have e1 : rm_X4_thrown.slots = 0 := rfl; omega) ?_
          refine g_iload X dL_law_1170 1 rfl ?_
          refine g_icmp_eq X (tgt := 1177) dL_law_1172 (by decide) (fun hc => ?_) (fun hc => ?_)
          · replace h := h.1 hc; clear hc
            refine g_iload X dL_law_1177 1 rfl ?_
            obtain ⟨J371, hjJ371, h⟩ := h
            have jp371 : J371 → Gw l G L0 p e rm_L_law s m #[Value.ref b] below meth c 7 (31 + (513 - n9) * 134 + 3) (1769 + (513 - n9) * 5157 + 18) (lw_Z below #[Value.ref b] s) w369 1194 [(0, .inr (some b)), (1, .inr (some q1)), (2, .inr (some q4)), (3, .inr (some q7)), (4, .inl y11)] [] := by
              intro hJ
              have h := hjJ371 hJ
              clear hJ
              refine g_goto X (tgt := 1495) dL_law_1194 (by decide) ?_
              refine g_widen (c2 := (31 + (513 - n9) * 134 + 134)) (s2 := (1769 + (513 - n9) * 5157 + 5157)) (by omega) (by omega) ?_
              exact g_sub [0, 1, 2, 3, 4] [(0, .inr (some b)), (1, .inr (some q1)), (2, .inr (some q4)), (3, .inr (some q7)), (4, .inl y11)] rfl (jp18 w369 h)
            refine g_if_ne X (tgt := 1194) dL_law_1179 (by decide) (fun hc => ?_) (fun hc => ?_)
            · replace h := h.1 hc; clear hc
              exact g_sub [2, 3, 4, 5, 6] [(0, .inr (some b)), (1, .inr (some q1)), (2, .inr (some q4)), (3, .inr (some q7)), (4, .inl y11)] rfl (jp371  h)
            · replace h := h.2 hc; clear hc
              refine g_aload_n X dL_law_1182 rfl 5 rfl ?_
              refine g_iconst X (v := (0 : Int32)) dL_law_1183 (by decide) ?_
              have hk := h.1
              replace h := h.2
              obtain ⟨j372, hi, hj, hN, h⟩ := h
              refine g_lald X hk hi hj hN dL_law_1184 (fun u373 hv => ?_)
              replace h := h u373 hv; clear hv hk hi hj hN
              refine g_iload X dL_law_1185 0 rfl ?_
              refine g_i2l X dL_law_1187 ?_
              refine g_lcmp X dL_law_1188 ?_
              refine g_if_eq X (tgt := 1194) dL_law_1189 (by decide) (fun hc => ?_) (fun hc => ?_)
              · replace h := h.1 hc; clear hc
                exact g_sub [2, 3, 4, 5, 6] [(0, .inr (some b)), (1, .inr (some q1)), (2, .inr (some q4)), (3, .inr (some q7)), (4, .inl y11)] rfl (jp371  h)
              · replace h := h.2 hc; clear hc
                refine g_iconst X (v := (0 : Int32)) dL_law_1192 (by decide) ?_
                exact h.elim
          · replace h := h.2 hc; clear hc
            refine g_iconst X (v := (0 : Int32)) dL_law_1175 (by decide) ?_
            exact h.elim
        · replace h := h.2.2.2.2.2.2.2.2.2.2.2.2.2.2.2.1 hc
          refine g_tableEq X (tgt := 1197) hc dL_law_39 (by decide) (by decide) rfl (by decide) ?_
          clear hc
          refine g_aload_n X dL_law_1197 rfl 1 rfl ?_
          refine g_aload_n X dL_law_1198 rfl 0 rfl ?_
          refine g_iload X dL_law_1199 4 rfl ?_
          refine g_iconst X (v := (1 : Int32)) dL_law_1201 (by decide) ?_
          refine g_iadd X dL_law_1202 (fun v374 hv => ?_)
          replace h := h v374 hv; clear hv
          obtain ⟨j375, hi, hj, h⟩ := h
          refine g_sld X hX hb hbA hi hj hLL dL_law_1203 (fun v376 hv => ?_)
          replace h := h v376 hv; clear hv hi hj
          refine g_aload_n X dL_law_1204 rfl 3 rfl ?_
          refine g_callH_i X (As := [va_rf (some q1), .int v376, va_rf (some q7)]) (st := []) (n := 3) (c_L_audit hst h) m_957 m_958 m_29 m_959 (by decide +kernel) (by decide +kernel) (by decide +kernel) rfl rfl (Nat.zero_le _) ⟨(by have e1 : rm_L_law.cells = 601024 := rfl; have e2 : rm_L_law.slots = 7293034 := rfl; have e3 : rm_L_audit.cells = 1 := rfl; have e4 : rm_L_audit.slots = 6 := rfl; omega), (by have e1 : rm_L_law.cells = 601024 := rfl; have e2 : rm_L_law.slots = 7293034 := rfl; have e3 : rm_L_audit.cells = 1 := rfl; have e4 : rm_L_audit.slots = 6 := rfl; omega)⟩ dL_law_1205 (fun v378 w377 h => ?_)
          refine g_widen (c2 := (31 + (513 - n9) * 134 + 1)) (s2 := (1769 + (513 - n9) * 5157 + 6)) (by have e1 : rm_L_audit.cells = 1 := rfl; omega) (by have e1 : rm_L_audit.slots = 6 := rfl; omega) ?_
          refine g_istore X [(5, .inl v378), (0, .inr (some b)), (1, .inr (some q1)), (2, .inr (some q4)), (3, .inr (some q7)), (4, .inl y11)] dL_law_1208 (by decide) rfl ?_
          refine g_aload_n X dL_law_1210 rfl 3 rfl ?_
          refine g_aload_n X dL_law_1211 rfl 1 rfl ?_
          refine g_iload X dL_law_1212 5 rfl ?_
          refine g_iconst X (v := (1 : Int32)) dL_law_1214 (by decide) ?_
          refine g_iadd X dL_law_1215 (fun v379 hv => ?_)
          replace h := h v379 hv; clear hv
          obtain ⟨j380, hi, hj, h⟩ := h
          refine g_sld X hX hb hbA hi hj hLL dL_law_1216 (fun v381 hv => ?_)
          replace h := h v381 hv; clear hv hi hj
          have hk := h.1
          replace h := h.2
          refine g_callV_i X (As := [.int v381]) (st := []) (n := 1) (c_X4_audit hst h) rfl (by decide) hk (wE_5 G w377 q4) m_1219 m_1220 m_1221 m_34 m_1222 (by decide +kernel) (by decide +kernel) rfl rfl (Nat.zero_le _) ⟨(by have e1 : rm_L_law.cells = 601024 := rfl; have e2 : rm_L_law.slots = 7293034 := rfl; have e3 : rm_X4_audit.cells = 0 := rfl; have e4 : rm_X4_audit.slots = 0 := rfl; omega), (by have e1 : rm_L_law.cells = 601024 := rfl; have e2 : rm_L_law.slots = 7293034 := rfl; have e3 : rm_X4_audit.cells = 0 := rfl; have e4 : rm_X4_audit.slots = 0 := rfl; omega)⟩ dL_law_1217 (fun v383 w382 h => ?_)
          clear hk
          refine g_widen (c2 := (31 + (513 - n9) * 134 + 1)) (s2 := (1769 + (513 - n9) * 5157 + 6)) (by have e1 : rm_X4_audit.cells = 0 := rfl; omega) (by have e1 : rm_X4_audit.slots = 0 := rfl; omega) ?_
          refine g_istore X [(6, .inl v383), (5, .inl v378), (0, .inr (some b)), (1, .inr (some q1)), (2, .inr (some q4)), (3, .inr (some q7)), (4, .inl y11)] dL_law_1220 (by decide) rfl ?_
          refine g_aload_n X dL_law_1222 rfl 4 rfl ?_
          have hk := h.1
          replace h := h.2
          refine g_callV_i X (As := []) (st := []) (n := 0) (c_X4_thrown hst h) rfl (by decide) hk (wE_5 G w382 q4) m_1091 m_1092 m_1093 m_34 m_1094 (by decide +kernel) (by decide +kernel) rfl rfl (Nat.zero_le _) ⟨(by have e1 : rm_L_law.cells = 601024 := rfl; have e2 : rm_L_law.slots = 7293034 := rfl; have e3 : rm_X4_thrown.cells = 0 := rfl; have e4 : rm_X4_thrown.slots = 0 := rfl; omega), (by have e1 : rm_L_law.cells = 601024 := rfl; have e2 : rm_L_law.slots = 7293034 := rfl; have e3 : rm_X4_thrown.cells = 0 := rfl; have e4 : rm_X4_thrown.slots = 0 := rfl; omega)⟩ dL_law_1223 (fun v385 w384 h => ?_)
          clear hk
          refine g_widen (c2 := (31 + (513 - n9) * 134 + 1)) (s2 := (1769 + (513 - n9) * 5157 + 6)) (by have e1 : rm_X4_thrown.cells = 0 := rfl; omega) (by have e1 : rm_X4_thrown.slots = 0 := rfl; omega) ?_
          refine g_iload X dL_law_1226 1 rfl ?_
          refine g_icmp_eq X (tgt := 1233) dL_law_1228 (by decide) (fun hc => ?_) (fun hc => ?_)
          · replace h := h.1 hc; clear hc
            refine g_iload X dL_law_1233 1 rfl ?_
            obtain ⟨J386, hjJ386, h⟩ := h
            have jp386 : J386 → Gw l G L0 p e rm_L_law s m #[Value.ref b] below meth c 7 (31 + (513 - n9) * 134 + 1) (1769 + (513 - n9) * 5157 + 6) (lw_Z below #[Value.ref b] s) w384 1250 [(0, .inr (some b)), (1, .inr (some q1)), (2, .inr (some q4)), (3, .inr (some q7)), (4, .inl y11)] [] := by
              intro hJ
              have h := hjJ386 hJ
              clear hJ
              refine g_goto X (tgt := 1495) dL_law_1250 (by decide) ?_
              refine g_widen (c2 := (31 + (513 - n9) * 134 + 134)) (s2 := (1769 + (513 - n9) * 5157 + 5157)) (by omega) (by omega) ?_
              exact g_sub [0, 1, 2, 3, 4] [(0, .inr (some b)), (1, .inr (some q1)), (2, .inr (some q4)), (3, .inr (some q7)), (4, .inl y11)] rfl (jp18 w384 h)
            refine g_if_ne X (tgt := 1250) dL_law_1235 (by decide) (fun hc => ?_) (fun hc => ?_)
            · replace h := h.1 hc; clear hc
              exact g_sub [2, 3, 4, 5, 6] [(0, .inr (some b)), (1, .inr (some q1)), (2, .inr (some q4)), (3, .inr (some q7)), (4, .inl y11)] rfl (jp386  h)
            · replace h := h.2 hc; clear hc
              refine g_aload_n X dL_law_1238 rfl 5 rfl ?_
              refine g_iconst X (v := (0 : Int32)) dL_law_1239 (by decide) ?_
              have hk := h.1
              replace h := h.2
              obtain ⟨j387, hi, hj, hN, h⟩ := h
              refine g_lald X hk hi hj hN dL_law_1240 (fun u388 hv => ?_)
              replace h := h u388 hv; clear hv hk hi hj hN
              refine g_iload X dL_law_1241 0 rfl ?_
              refine g_i2l X dL_law_1243 ?_
              refine g_lcmp X dL_law_1244 ?_
              refine g_if_eq X (tgt := 1250) dL_law_1245 (by decide) (fun hc => ?_) (fun hc => ?_)
              · replace h := h.1 hc; clear hc
                exact g_sub [2, 3, 4, 5, 6] [(0, .inr (some b)), (1, .inr (some q1)), (2, .inr (some q4)), (3, .inr (some q7)), (4, .inl y11)] rfl (jp386  h)
              · replace h := h.2 hc; clear hc
                refine g_iconst X (v := (0 : Int32)) dL_law_1248 (by decide) ?_
                exact h.elim
          · replace h := h.2 hc; clear hc
            refine g_iconst X (v := (0 : Int32)) dL_law_1231 (by decide) ?_
            exact h.elim
        · replace h := h.2.2.2.2.2.2.2.2.2.2.2.2.2.2.2.2.1 hc
          refine g_tableEq X (tgt := 1253) hc dL_law_39 (by decide) (by decide) rfl (by decide) ?_
          clear hc
          refine g_aload_n X dL_law_1253 rfl 1 rfl ?_
          refine g_aload_n X dL_law_1254 rfl 0 rfl ?_
          refine g_iload X dL_law_1255 4 rfl ?_
          refine g_iconst X (v := (1 : Int32)) dL_law_1257 (by decide) ?_
          refine g_iadd X dL_law_1258 (fun v389 hv => ?_)
          replace h := h v389 hv; clear hv
          obtain ⟨j390, hi, hj, h⟩ := h
          refine g_sld X hX hb hbA hi hj hLL dL_law_1259 (fun v391 hv => ?_)
          replace h := h v391 hv; clear hv hi hj
          refine g_aload_n X dL_law_1260 rfl 0 rfl ?_
          refine g_iload X dL_law_1261 4 rfl ?_
          refine g_iconst X (v := (2 : Int32)) dL_law_1263 (by decide) ?_
          refine g_iadd X dL_law_1264 (fun v392 hv => ?_)
          replace h := h v392 hv; clear hv
          obtain ⟨j393, hi, hj, h⟩ := h
          refine g_sld X hX hb hbA hi hj hLL dL_law_1265 (fun v394 hv => ?_)
          replace h := h v394 hv; clear hv hi hj
          refine g_aload_n X dL_law_1266 rfl 3 rfl ?_
          refine g_callH_i X (As := [va_rf (some q1), .int v391, .int v394, va_rf (some q7)]) (st := []) (n := 4) (c_L_of hst h) m_964 m_965 m_29 m_966 (by decide +kernel) (by decide +kernel) (by decide +kernel) rfl rfl (Nat.zero_le _) ⟨(by have e1 : rm_L_law.cells = 601024 := rfl; have e2 : rm_L_law.slots = 7293034 := rfl; have e3 : rm_L_of.cells = 2 := rfl; have e4 : rm_L_of.slots = 12 := rfl; omega), (by have e1 : rm_L_law.cells = 601024 := rfl; have e2 : rm_L_law.slots = 7293034 := rfl; have e3 : rm_L_of.cells = 2 := rfl; have e4 : rm_L_of.slots = 12 := rfl; omega)⟩ dL_law_1267 (fun v396 w395 h => ?_)
          refine g_widen (c2 := (31 + (513 - n9) * 134 + 2)) (s2 := (1769 + (513 - n9) * 5157 + 12)) (by have e1 : rm_L_of.cells = 2 := rfl; omega) (by have e1 : rm_L_of.slots = 12 := rfl; omega) ?_
          refine g_istore X [(5, .inl v396), (0, .inr (some b)), (1, .inr (some q1)), (2, .inr (some q4)), (3, .inr (some q7)), (4, .inl y11)] dL_law_1270 (by decide) rfl ?_
          refine g_aload_n X dL_law_1272 rfl 3 rfl ?_
          refine g_aload_n X dL_law_1273 rfl 1 rfl ?_
          refine g_iload X dL_law_1274 5 rfl ?_
          refine g_iconst X (v := (1 : Int32)) dL_law_1276 (by decide) ?_
          refine g_iadd X dL_law_1277 (fun v397 hv => ?_)
          replace h := h v397 hv; clear hv
          obtain ⟨j398, hi, hj, h⟩ := h
          refine g_sld X hX hb hbA hi hj hLL dL_law_1278 (fun v399 hv => ?_)
          replace h := h v399 hv; clear hv hi hj
          refine g_aload_n X dL_law_1279 rfl 1 rfl ?_
          refine g_iload X dL_law_1280 5 rfl ?_
          refine g_iconst X (v := (2 : Int32)) dL_law_1282 (by decide) ?_
          refine g_iadd X dL_law_1283 (fun v400 hv => ?_)
          replace h := h v400 hv; clear hv
          obtain ⟨j401, hi, hj, h⟩ := h
          refine g_sld X hX hb hbA hi hj hLL dL_law_1284 (fun v402 hv => ?_)
          replace h := h v402 hv; clear hv hi hj
          have hk := h.1
          replace h := h.2
          refine g_callV_i X (As := [.int v399, .int v402]) (st := []) (n := 2) (c_X4_of hst h) rfl (by decide) hk (wE_5 G w395 q4) m_1223 m_1224 m_1225 m_34 m_1226 (by decide +kernel) (by decide +kernel) rfl rfl (Nat.zero_le _) ⟨(by have e1 : rm_L_law.cells = 601024 := rfl; have e2 : rm_L_law.slots = 7293034 := rfl; have e3 : rm_X4_of.cells = 0 := rfl; have e4 : rm_X4_of.slots = 0 := rfl; omega), (by have e1 : rm_L_law.cells = 601024 := rfl; have e2 : rm_L_law.slots = 7293034 := rfl; have e3 : rm_X4_of.cells = 0 := rfl; have e4 : rm_X4_of.slots = 0 := rfl; omega)⟩ dL_law_1285 (fun v404 w403 h => ?_)
          clear hk
          refine g_widen (c2 := (31 + (513 - n9) * 134 + 2)) (s2 := (1769 + (513 - n9) * 5157 + 12)) (by have e1 : rm_X4_of.cells = 0 := rfl; omega) (by have e1 : rm_X4_of.slots = 0 := rfl; omega) ?_
          refine g_istore X [(6, .inl v404), (5, .inl v396), (0, .inr (some b)), (1, .inr (some q1)), (2, .inr (some q4)), (3, .inr (some q7)), (4, .inl y11)] dL_law_1288 (by decide) rfl ?_
          refine g_aload_n X dL_law_1290 rfl 4 rfl ?_
          have hk := h.1
          replace h := h.2
          refine g_callV_i X (As := []) (st := []) (n := 0) (c_X4_thrown hst h) rfl (by decide) hk (wE_5 G w403 q4) m_1091 m_1092 m_1093 m_34 m_1094 (by decide +kernel) (by decide +kernel) rfl rfl (Nat.zero_le _) ⟨(by have e1 : rm_L_law.cells = 601024 := rfl; have e2 : rm_L_law.slots = 7293034 := rfl; have e3 : rm_X4_thrown.cells = 0 := rfl; have e4 : rm_X4_thrown.slots = 0 := rfl; omega), (by have e1 : rm_L_law.cells = 601024 := rfl; have e2 : rm_L_law.slots = 7293034 := rfl; have e3 : rm_X4_thrown.cells = 0 := rfl; have e4 : rm_X4_thrown.slots = 0 := rfl; omega)⟩ dL_law_1291 (fun v406 w405 h => ?_)
          clear hk
          refine g_widen (c2 := (31 + (513 - n9) * 134 + 2)) (s2 := (1769 + (513 - n9) * 5157 + 12)) (by have e1 : rm_X4_thrown.cells = 0 := rfl; omega) (by have e1 : rm_X4_thrown.slots = 0 := rfl; omega) ?_
          refine g_iload X dL_law_1294 1 rfl ?_
          refine g_icmp_eq X (tgt := 1301) dL_law_1296 (by decide) (fun hc => ?_) (fun hc => ?_)
          · replace h := h.1 hc; clear hc
            refine g_iload X dL_law_1301 1 rfl ?_
            obtain ⟨J407, hjJ407, h⟩ := h
            have jp407 : J407 → Gw l G L0 p e rm_L_law s m #[Value.ref b] below meth c 7 (31 + (513 - n9) * 134 + 2) (1769 + (513 - n9) * 5157 + 12) (lw_Z below #[Value.ref b] s) w405 1318 [(0, .inr (some b)), (1, .inr (some q1)), (2, .inr (some q4)), (3, .inr (some q7)), (4, .inl y11)] [] := by
              intro hJ
              have h := hjJ407 hJ
              clear hJ
              refine g_goto X (tgt := 1495) dL_law_1318 (by decide) ?_
              refine g_widen (c2 := (31 + (513 - n9) * 134 + 134)) (s2 := (1769 + (513 - n9) * 5157 + 5157)) (by omega) (by omega) ?_
              exact g_sub [0, 1, 2, 3, 4] [(0, .inr (some b)), (1, .inr (some q1)), (2, .inr (some q4)), (3, .inr (some q7)), (4, .inl y11)] rfl (jp18 w405 h)
            refine g_if_ne X (tgt := 1318) dL_law_1303 (by decide) (fun hc => ?_) (fun hc => ?_)
            · replace h := h.1 hc; clear hc
              exact g_sub [2, 3, 4, 5, 6] [(0, .inr (some b)), (1, .inr (some q1)), (2, .inr (some q4)), (3, .inr (some q7)), (4, .inl y11)] rfl (jp407  h)
            · replace h := h.2 hc; clear hc
              refine g_aload_n X dL_law_1306 rfl 5 rfl ?_
              refine g_iconst X (v := (0 : Int32)) dL_law_1307 (by decide) ?_
              have hk := h.1
              replace h := h.2
              obtain ⟨j408, hi, hj, hN, h⟩ := h
              refine g_lald X hk hi hj hN dL_law_1308 (fun u409 hv => ?_)
              replace h := h u409 hv; clear hv hk hi hj hN
              refine g_iload X dL_law_1309 0 rfl ?_
              refine g_i2l X dL_law_1311 ?_
              refine g_lcmp X dL_law_1312 ?_
              refine g_if_eq X (tgt := 1318) dL_law_1313 (by decide) (fun hc => ?_) (fun hc => ?_)
              · replace h := h.1 hc; clear hc
                exact g_sub [2, 3, 4, 5, 6] [(0, .inr (some b)), (1, .inr (some q1)), (2, .inr (some q4)), (3, .inr (some q7)), (4, .inl y11)] rfl (jp407  h)
              · replace h := h.2 hc; clear hc
                refine g_iconst X (v := (0 : Int32)) dL_law_1316 (by decide) ?_
                exact h.elim
          · replace h := h.2 hc; clear hc
            refine g_iconst X (v := (0 : Int32)) dL_law_1299 (by decide) ?_
            exact h.elim
        · replace h := h.2.2.2.2.2.2.2.2.2.2.2.2.2.2.2.2.2.1 hc
          refine g_tableEq X (tgt := 1321) hc dL_law_39 (by decide) (by decide) rfl (by decide) ?_
          clear hc
          refine g_aload_n X dL_law_1321 rfl 1 rfl ?_
          refine g_aload_n X dL_law_1322 rfl 0 rfl ?_
          refine g_iload X dL_law_1323 4 rfl ?_
          refine g_iconst X (v := (1 : Int32)) dL_law_1325 (by decide) ?_
          refine g_iadd X dL_law_1326 (fun v410 hv => ?_)
          replace h := h v410 hv; clear hv
          obtain ⟨j411, hi, hj, h⟩ := h
          refine g_sld X hX hb hbA hi hj hLL dL_law_1327 (fun v412 hv => ?_)
          replace h := h v412 hv; clear hv hi hj
          refine g_aload_n X dL_law_1328 rfl 0 rfl ?_
          refine g_iload X dL_law_1329 4 rfl ?_
          refine g_iconst X (v := (2 : Int32)) dL_law_1331 (by decide) ?_
          refine g_iadd X dL_law_1332 (fun v413 hv => ?_)
          replace h := h v413 hv; clear hv
          obtain ⟨j414, hi, hj, h⟩ := h
          refine g_sld X hX hb hbA hi hj hLL dL_law_1333 (fun v415 hv => ?_)
          replace h := h v415 hv; clear hv hi hj
          refine g_aload_n X dL_law_1334 rfl 0 rfl ?_
          refine g_iload X dL_law_1335 4 rfl ?_
          refine g_iconst X (v := (3 : Int32)) dL_law_1337 (by decide) ?_
          refine g_iadd X dL_law_1338 (fun v416 hv => ?_)
          replace h := h v416 hv; clear hv
          obtain ⟨j417, hi, hj, h⟩ := h
          refine g_sld X hX hb hbA hi hj hLL dL_law_1339 (fun v418 hv => ?_)
          replace h := h v418 hv; clear hv hi hj
          refine g_aload_n X dL_law_1340 rfl 3 rfl ?_
          refine g_callH_i X (As := [va_rf (some q1), .int v412, .int v415, .int v418, va_rf (some q7)]) (st := []) (n := 5) (c_L_member hst h) m_975 m_976 m_29 m_977 (by decide +kernel) (by decide +kernel) (by decide +kernel) rfl rfl (Nat.zero_le _) ⟨(by have e1 : rm_L_law.cells = 601024 := rfl; have e2 : rm_L_law.slots = 7293034 := rfl; have e3 : rm_L_member.cells = 3 := rfl; have e4 : rm_L_member.slots = 18 := rfl; omega), (by have e1 : rm_L_law.cells = 601024 := rfl; have e2 : rm_L_law.slots = 7293034 := rfl; have e3 : rm_L_member.cells = 3 := rfl; have e4 : rm_L_member.slots = 18 := rfl; omega)⟩ dL_law_1341 (fun v420 w419 h => ?_)
          refine g_widen (c2 := (31 + (513 - n9) * 134 + 3)) (s2 := (1769 + (513 - n9) * 5157 + 18)) (by have e1 : rm_L_member.cells = 3 := rfl; omega) (by have e1 : rm_L_member.slots = 18 := rfl; omega) ?_
          refine g_istore X [(5, .inl v420), (0, .inr (some b)), (1, .inr (some q1)), (2, .inr (some q4)), (3, .inr (some q7)), (4, .inl y11)] dL_law_1344 (by decide) rfl ?_
          refine g_aload_n X dL_law_1346 rfl 3 rfl ?_
          refine g_aload_n X dL_law_1347 rfl 1 rfl ?_
          refine g_iload X dL_law_1348 5 rfl ?_
          refine g_iconst X (v := (1 : Int32)) dL_law_1350 (by decide) ?_
          refine g_iadd X dL_law_1351 (fun v421 hv => ?_)
          replace h := h v421 hv; clear hv
          obtain ⟨j422, hi, hj, h⟩ := h
          refine g_sld X hX hb hbA hi hj hLL dL_law_1352 (fun v423 hv => ?_)
          replace h := h v423 hv; clear hv hi hj
          refine g_aload_n X dL_law_1353 rfl 1 rfl ?_
          refine g_iload X dL_law_1354 5 rfl ?_
          refine g_iconst X (v := (2 : Int32)) dL_law_1356 (by decide) ?_
          refine g_iadd X dL_law_1357 (fun v424 hv => ?_)
          replace h := h v424 hv; clear hv
          obtain ⟨j425, hi, hj, h⟩ := h
          refine g_sld X hX hb hbA hi hj hLL dL_law_1358 (fun v426 hv => ?_)
          replace h := h v426 hv; clear hv hi hj
          refine g_aload_n X dL_law_1359 rfl 1 rfl ?_
          refine g_iload X dL_law_1360 5 rfl ?_
          refine g_iconst X (v := (3 : Int32)) dL_law_1362 (by decide) ?_
          refine g_iadd X dL_law_1363 (fun v427 hv => ?_)
          replace h := h v427 hv; clear hv
          obtain ⟨j428, hi, hj, h⟩ := h
          refine g_sld X hX hb hbA hi hj hLL dL_law_1364 (fun v429 hv => ?_)
          replace h := h v429 hv; clear hv hi hj
          have hk := h.1
          replace h := h.2
          refine g_callV_i X (As := [.int v423, .int v426, .int v429]) (st := []) (n := 3) (c_X4_member hst h) rfl (by decide) hk (wE_5 G w419 q4) m_1227 m_1228 m_1229 m_34 m_1230 (by decide +kernel) (by decide +kernel) rfl rfl (Nat.zero_le _) ⟨(by have e1 : rm_L_law.cells = 601024 := rfl; have e2 : rm_L_law.slots = 7293034 := rfl; have e3 : rm_X4_member.cells = 0 := rfl; have e4 : rm_X4_member.slots = 0 := rfl; omega), (by have e1 : rm_L_law.cells = 601024 := rfl; have e2 : rm_L_law.slots = 7293034 := rfl; have e3 : rm_X4_member.cells = 0 := rfl; have e4 : rm_X4_member.slots = 0 := rfl; omega)⟩ dL_law_1365 (fun v431 w430 h => ?_)
          clear hk
          refine g_widen (c2 := (31 + (513 - n9) * 134 + 3)) (s2 := (1769 + (513 - n9) * 5157 + 18)) (by have e1 : rm_X4_member.cells = 0 := rfl; omega) (by have e1 : rm_X4_member.slots = 0 := rfl; omega) ?_
          refine g_istore X [(6, .inl v431), (5, .inl v420), (0, .inr (some b)), (1, .inr (some q1)), (2, .inr (some q4)), (3, .inr (some q7)), (4, .inl y11)] dL_law_1368 (by decide) rfl ?_
          refine g_aload_n X dL_law_1370 rfl 4 rfl ?_
          have hk := h.1
          replace h := h.2
          refine g_callV_i X (As := []) (st := []) (n := 0) (c_X4_thrown hst h) rfl (by decide) hk (wE_5 G w430 q4) m_1091 m_1092 m_1093 m_34 m_1094 (by decide +kernel) (by decide +kernel) rfl rfl (Nat.zero_le _) ⟨(by have e1 : rm_L_law.cells = 601024 := rfl; have e2 : rm_L_law.slots = 7293034 := rfl; have e3 : rm_X4_thrown.cells = 0 := rfl; have e4 : rm_X4_thrown.slots = 0 := rfl; omega), (by have e1 : rm_L_law.cells = 601024 := rfl; have e2 : rm_L_law.slots = 7293034 := rfl; have e3 : rm_X4_thrown.cells = 0 := rfl; have e4 : rm_X4_thrown.slots = 0 := rfl; omega)⟩ dL_law_1371 (fun v433 w432 h => ?_)
          clear hk
          refine g_widen (c2 := (31 + (513 - n9) * 134 + 3)) (s2 := (1769 + (513 - n9) * 5157 + 18)) (by have e1 : rm_X4_thrown.cells = 0 := rfl; omega) (by have e1 : rm_X4_thrown.slots = 0 := rfl; omega) ?_
          refine g_iload X dL_law_1374 1 rfl ?_
          refine g_icmp_eq X (tgt := 1381) dL_law_1376 (by decide) (fun hc => ?_) (fun hc => ?_)
          · replace h := h.1 hc; clear hc
            refine g_iload X dL_law_1381 1 rfl ?_
            obtain ⟨J434, hjJ434, h⟩ := h
            have jp434 : J434 → Gw l G L0 p e rm_L_law s m #[Value.ref b] below meth c 7 (31 + (513 - n9) * 134 + 3) (1769 + (513 - n9) * 5157 + 18) (lw_Z below #[Value.ref b] s) w432 1398 [(0, .inr (some b)), (1, .inr (some q1)), (2, .inr (some q4)), (3, .inr (some q7)), (4, .inl y11)] [] := by
              intro hJ
              have h := hjJ434 hJ
              clear hJ
              refine g_goto X (tgt := 1495) dL_law_1398 (by decide) ?_
              refine g_widen (c2 := (31 + (513 - n9) * 134 + 134)) (s2 := (1769 + (513 - n9) * 5157 + 5157)) (by omega) (by omega) ?_
              exact g_sub [0, 1, 2, 3, 4] [(0, .inr (some b)), (1, .inr (some q1)), (2, .inr (some q4)), (3, .inr (some q7)), (4, .inl y11)] rfl (jp18 w432 h)
            refine g_if_ne X (tgt := 1398) dL_law_1383 (by decide) (fun hc => ?_) (fun hc => ?_)
            · replace h := h.1 hc; clear hc
              exact g_sub [2, 3, 4, 5, 6] [(0, .inr (some b)), (1, .inr (some q1)), (2, .inr (some q4)), (3, .inr (some q7)), (4, .inl y11)] rfl (jp434  h)
            · replace h := h.2 hc; clear hc
              refine g_aload_n X dL_law_1386 rfl 5 rfl ?_
              refine g_iconst X (v := (0 : Int32)) dL_law_1387 (by decide) ?_
              have hk := h.1
              replace h := h.2
              obtain ⟨j435, hi, hj, hN, h⟩ := h
              refine g_lald X hk hi hj hN dL_law_1388 (fun u436 hv => ?_)
              replace h := h u436 hv; clear hv hk hi hj hN
              refine g_iload X dL_law_1389 0 rfl ?_
              refine g_i2l X dL_law_1391 ?_
              refine g_lcmp X dL_law_1392 ?_
              refine g_if_eq X (tgt := 1398) dL_law_1393 (by decide) (fun hc => ?_) (fun hc => ?_)
              · replace h := h.1 hc; clear hc
                exact g_sub [2, 3, 4, 5, 6] [(0, .inr (some b)), (1, .inr (some q1)), (2, .inr (some q4)), (3, .inr (some q7)), (4, .inl y11)] rfl (jp434  h)
              · replace h := h.2 hc; clear hc
                refine g_iconst X (v := (0 : Int32)) dL_law_1396 (by decide) ?_
                exact h.elim
          · replace h := h.2 hc; clear hc
            refine g_iconst X (v := (0 : Int32)) dL_law_1379 (by decide) ?_
            exact h.elim
        · replace h := h.2.2.2.2.2.2.2.2.2.2.2.2.2.2.2.2.2.2.1 hc
          refine g_tableEq X (tgt := 1401) hc dL_law_39 (by decide) (by decide) rfl (by decide) ?_
          clear hc
          refine g_aload_n X dL_law_1401 rfl 1 rfl ?_
          refine g_aload_n X dL_law_1402 rfl 0 rfl ?_
          refine g_iload X dL_law_1403 4 rfl ?_
          refine g_iconst X (v := (1 : Int32)) dL_law_1405 (by decide) ?_
          refine g_iadd X dL_law_1406 (fun v437 hv => ?_)
          replace h := h v437 hv; clear hv
          obtain ⟨j438, hi, hj, h⟩ := h
          refine g_sld X hX hb hbA hi hj hLL dL_law_1407 (fun v439 hv => ?_)
          replace h := h v439 hv; clear hv hi hj
          refine g_aload_n X dL_law_1408 rfl 0 rfl ?_
          refine g_iload X dL_law_1409 4 rfl ?_
          refine g_iconst X (v := (2 : Int32)) dL_law_1411 (by decide) ?_
          refine g_iadd X dL_law_1412 (fun v440 hv => ?_)
          replace h := h v440 hv; clear hv
          obtain ⟨j441, hi, hj, h⟩ := h
          refine g_sld X hX hb hbA hi hj hLL dL_law_1413 (fun v442 hv => ?_)
          replace h := h v442 hv; clear hv hi hj
          refine g_aload_n X dL_law_1414 rfl 3 rfl ?_
          refine g_callH_i X (As := [va_rf (some q1), .int v439, .int v442, va_rf (some q7)]) (st := []) (n := 4) (c_L_ofCircle hst h) m_983 m_984 m_29 m_985 (by decide +kernel) (by decide +kernel) (by decide +kernel) rfl rfl (Nat.zero_le _) ⟨(by have e1 : rm_L_law.cells = 601024 := rfl; have e2 : rm_L_law.slots = 7293034 := rfl; have e3 : rm_L_ofCircle.cells = 2 := rfl; have e4 : rm_L_ofCircle.slots = 12 := rfl; omega), (by have e1 : rm_L_law.cells = 601024 := rfl; have e2 : rm_L_law.slots = 7293034 := rfl; have e3 : rm_L_ofCircle.cells = 2 := rfl; have e4 : rm_L_ofCircle.slots = 12 := rfl; omega)⟩ dL_law_1415 (fun v444 w443 h => ?_)
          refine g_widen (c2 := (31 + (513 - n9) * 134 + 2)) (s2 := (1769 + (513 - n9) * 5157 + 12)) (by have e1 : rm_L_ofCircle.cells = 2 := rfl; omega) (by have e1 : rm_L_ofCircle.slots = 12 := rfl; omega) ?_
          refine g_istore X [(5, .inl v444), (0, .inr (some b)), (1, .inr (some q1)), (2, .inr (some q4)), (3, .inr (some q7)), (4, .inl y11)] dL_law_1418 (by decide) rfl ?_
          refine g_aload_n X dL_law_1420 rfl 3 rfl ?_
          refine g_aload_n X dL_law_1421 rfl 1 rfl ?_
          refine g_iload X dL_law_1422 5 rfl ?_
          refine g_iconst X (v := (1 : Int32)) dL_law_1424 (by decide) ?_
          refine g_iadd X dL_law_1425 (fun v445 hv => ?_)
          replace h := h v445 hv; clear hv
          obtain ⟨j446, hi, hj, h⟩ := h
          refine g_sld X hX hb hbA hi hj hLL dL_law_1426 (fun v447 hv => ?_)
          replace h := h v447 hv; clear hv hi hj
          refine g_aload_n X dL_law_1427 rfl 1 rfl ?_
          refine g_iload X dL_law_1428 5 rfl ?_
          refine g_iconst X (v := (2 : Int32)) dL_law_1430 (by decide) ?_
          refine g_iadd X dL_law_1431 (fun v448 hv => ?_)
          replace h := h v448 hv; clear hv
          obtain ⟨j449, hi, hj, h⟩ := h
          refine g_sld X hX hb hbA hi hj hLL dL_law_1432 (fun v450 hv => ?_)
          replace h := h v450 hv; clear hv hi hj
          have hk := h.1
          replace h := h.2
          refine g_callV_i X (As := [.int v447, .int v450]) (st := []) (n := 2) (c_X4_ofCircle hst h) rfl (by decide) hk (wE_5 G w443 q4) m_1231 m_1232 m_1233 m_34 m_1234 (by decide +kernel) (by decide +kernel) rfl rfl (Nat.zero_le _) ⟨(by have e1 : rm_L_law.cells = 601024 := rfl; have e2 : rm_L_law.slots = 7293034 := rfl; have e3 : rm_X4_ofCircle.cells = 0 := rfl; have e4 : rm_X4_ofCircle.slots = 0 := rfl; omega), (by have e1 : rm_L_law.cells = 601024 := rfl; have e2 : rm_L_law.slots = 7293034 := rfl; have e3 : rm_X4_ofCircle.cells = 0 := rfl; have e4 : rm_X4_ofCircle.slots = 0 := rfl; omega)⟩ dL_law_1433 (fun v452 w451 h => ?_)
          clear hk
          refine g_widen (c2 := (31 + (513 - n9) * 134 + 2)) (s2 := (1769 + (513 - n9) * 5157 + 12)) (by have e1 : rm_X4_ofCircle.cells = 0 := rfl; omega) (by have e1 : rm_X4_ofCircle.slots = 0 := rfl; omega) ?_
          refine g_istore X [(6, .inl v452), (5, .inl v444), (0, .inr (some b)), (1, .inr (some q1)), (2, .inr (some q4)), (3, .inr (some q7)), (4, .inl y11)] dL_law_1436 (by decide) rfl ?_
          refine g_aload_n X dL_law_1438 rfl 4 rfl ?_
          have hk := h.1
          replace h := h.2
          refine g_callV_i X (As := []) (st := []) (n := 0) (c_X4_thrown hst h) rfl (by decide) hk (wE_5 G w451 q4) m_1091 m_1092 m_1093 m_34 m_1094 (by decide +kernel) (by decide +kernel) rfl rfl (Nat.zero_le _) ⟨(by have e1 : rm_L_law.cells = 601024 := rfl; have e2 : rm_L_law.slots = 7293034 := rfl; have e3 : rm_X4_thrown.cells = 0 := rfl; have e4 : rm_X4_thrown.slots = 0 := rfl; omega), (by have e1 : rm_L_law.cells = 601024 := rfl; have e2 : rm_L_law.slots = 7293034 := rfl; have e3 : rm_X4_thrown.cells = 0 := rfl; have e4 : rm_X4_thrown.slots = 0 := rfl; omega)⟩ dL_law_1439 (fun v454 w453 h => ?_)
          clear hk
          refine g_widen (c2 := (31 + (513 - n9) * 134 + 2)) (s2 := (1769 + (513 - n9) * 5157 + 12)) (by have e1 : rm_X4_thrown.cells = 0 := rfl; omega) (by have e1 : rm_X4_thrown.slots = 0 := rfl; omega) ?_
          refine g_iload X dL_law_1442 1 rfl ?_
          refine g_icmp_eq X (tgt := 1449) dL_law_1444 (by decide) (fun hc => ?_) (fun hc => ?_)
          · replace h := h.1 hc; clear hc
            refine g_iload X dL_law_1449 1 rfl ?_
            obtain ⟨J455, hjJ455, h⟩ := h
            have jp455 : J455 → Gw l G L0 p e rm_L_law s m #[Value.ref b] below meth c 7 (31 + (513 - n9) * 134 + 2) (1769 + (513 - n9) * 5157 + 12) (lw_Z below #[Value.ref b] s) w453 1466 [(0, .inr (some b)), (1, .inr (some q1)), (2, .inr (some q4)), (3, .inr (some q7)), (4, .inl y11)] [] := by
              intro hJ
              have h := hjJ455 hJ
              clear hJ
              refine g_goto X (tgt := 1495) dL_law_1466 (by decide) ?_
              refine g_widen (c2 := (31 + (513 - n9) * 134 + 134)) (s2 := (1769 + (513 - n9) * 5157 + 5157)) (by omega) (by omega) ?_
              exact g_sub [0, 1, 2, 3, 4] [(0, .inr (some b)), (1, .inr (some q1)), (2, .inr (some q4)), (3, .inr (some q7)), (4, .inl y11)] rfl (jp18 w453 h)
            refine g_if_ne X (tgt := 1466) dL_law_1451 (by decide) (fun hc => ?_) (fun hc => ?_)
            · replace h := h.1 hc; clear hc
              exact g_sub [2, 3, 4, 5, 6] [(0, .inr (some b)), (1, .inr (some q1)), (2, .inr (some q4)), (3, .inr (some q7)), (4, .inl y11)] rfl (jp455  h)
            · replace h := h.2 hc; clear hc
              refine g_aload_n X dL_law_1454 rfl 5 rfl ?_
              refine g_iconst X (v := (0 : Int32)) dL_law_1455 (by decide) ?_
              have hk := h.1
              replace h := h.2
              obtain ⟨j456, hi, hj, hN, h⟩ := h
              refine g_lald X hk hi hj hN dL_law_1456 (fun u457 hv => ?_)
              replace h := h u457 hv; clear hv hk hi hj hN
              refine g_iload X dL_law_1457 0 rfl ?_
              refine g_i2l X dL_law_1459 ?_
              refine g_lcmp X dL_law_1460 ?_
              refine g_if_eq X (tgt := 1466) dL_law_1461 (by decide) (fun hc => ?_) (fun hc => ?_)
              · replace h := h.1 hc; clear hc
                exact g_sub [2, 3, 4, 5, 6] [(0, .inr (some b)), (1, .inr (some q1)), (2, .inr (some q4)), (3, .inr (some q7)), (4, .inl y11)] rfl (jp455  h)
              · replace h := h.2 hc; clear hc
                refine g_iconst X (v := (0 : Int32)) dL_law_1464 (by decide) ?_
                exact h.elim
          · replace h := h.2 hc; clear hc
            refine g_iconst X (v := (0 : Int32)) dL_law_1447 (by decide) ?_
            exact h.elim
        · replace h := h.2.2.2.2.2.2.2.2.2.2.2.2.2.2.2.2.2.2.2.1 hc
          refine g_tableEq X (tgt := 1469) hc dL_law_39 (by decide) (by decide) rfl (by decide) ?_
          clear hc
          refine g_aload_n X dL_law_1469 rfl 1 rfl ?_
          have hk := h.1
          replace h := h.2
          refine g_callV_i X (As := []) (st := []) (n := 0) (c_X3_cash hst h) rfl (by decide) hk (wE_4 G w12 q1) m_154 m_155 m_156 m_30 m_157 (by decide +kernel) (by decide +kernel) rfl rfl (Nat.zero_le _) ⟨(by have e1 : rm_L_law.cells = 601024 := rfl; have e2 : rm_L_law.slots = 7293034 := rfl; have e3 : rm_X3_cash.cells = 0 := rfl; have e4 : rm_X3_cash.slots = 0 := rfl; omega), (by have e1 : rm_L_law.cells = 601024 := rfl; have e2 : rm_L_law.slots = 7293034 := rfl; have e3 : rm_X3_cash.cells = 0 := rfl; have e4 : rm_X3_cash.slots = 0 := rfl; omega)⟩ dL_law_1470 (fun v459 w458 h => ?_)
          clear hk
          refine g_widen (c2 := (31 + (513 - n9) * 134 + 0)) (s2 := (1769 + (513 - n9) * 5157 + 0)) (by have e1 : rm_X3_cash.cells = 0 := rfl; omega) (by have e1 : rm_X3_cash.slots = 0 := rfl; omega) ?_
          refine g_aload_n X dL_law_1473 rfl 2 rfl ?_
          have hk := h.1
          replace h := h.2
          refine g_callV_i X (As := []) (st := [.int v459]) (n := 0) (c_X4_cash hst h) rfl (by decide) hk (wE_5 G w458 q4) m_1235 m_1236 m_1237 m_34 m_1238 (by decide +kernel) (by decide +kernel) rfl rfl (by simp [cat_int, rf_cat]) ⟨(by have e1 : rm_L_law.cells = 601024 := rfl; have e2 : rm_L_law.slots = 7293034 := rfl; have e3 : rm_X4_cash.cells = 0 := rfl; have e4 : rm_X4_cash.slots = 0 := rfl; omega), (by have e1 : rm_L_law.cells = 601024 := rfl; have e2 : rm_L_law.slots = 7293034 := rfl; have e3 : rm_X4_cash.cells = 0 := rfl; have e4 : rm_X4_cash.slots = 0 := rfl; omega)⟩ dL_law_1474 (fun v461 w460 h => ?_)
          clear hk
          refine g_widen (c2 := (31 + (513 - n9) * 134 + 0)) (s2 := (1769 + (513 - n9) * 5157 + 0)) (by have e1 : rm_X4_cash.cells = 0 := rfl; omega) (by have e1 : rm_X4_cash.slots = 0 := rfl; omega) ?_
          refine g_icmp_eq X (tgt := 1495) dL_law_1477 (by decide) (fun hc => ?_) (fun hc => ?_)
          · replace h := h.1 hc; clear hc
            refine g_widen (c2 := (31 + (513 - n9) * 134 + 134)) (s2 := (1769 + (513 - n9) * 5157 + 5157)) (by omega) (by omega) ?_
            exact g_sub [0, 1, 2, 3, 4] [(0, .inr (some b)), (1, .inr (some q1)), (2, .inr (some q4)), (3, .inr (some q7)), (4, .inl y11)] rfl (jp18 w460 h)
          · replace h := h.2 hc; clear hc
            refine g_iconst X (v := (0 : Int32)) dL_law_1480 (by decide) ?_
            exact h.elim
        · replace h := h.2.2.2.2.2.2.2.2.2.2.2.2.2.2.2.2.2.2.2.2.1 hc
          refine g_tableEq X (tgt := 1482) hc dL_law_39 (by decide) (by decide) rfl (by decide) ?_
          clear hc
          refine g_aload_n X dL_law_1482 rfl 1 rfl ?_
          have hk := h.1
          replace h := h.2
          refine g_callV_i X (As := []) (st := []) (n := 0) (c_X3_coins hst h) rfl (by decide) hk (wE_4 G w12 q1) m_158 m_159 m_160 m_30 m_161 (by decide +kernel) (by decide +kernel) rfl rfl (Nat.zero_le _) ⟨(by have e1 : rm_L_law.cells = 601024 := rfl; have e2 : rm_L_law.slots = 7293034 := rfl; have e3 : rm_X3_coins.cells = 0 := rfl; have e4 : rm_X3_coins.slots = 0 := rfl; omega), (by have e1 : rm_L_law.cells = 601024 := rfl; have e2 : rm_L_law.slots = 7293034 := rfl; have e3 : rm_X3_coins.cells = 0 := rfl; have e4 : rm_X3_coins.slots = 0 := rfl; omega)⟩ dL_law_1483 (fun v463 w462 h => ?_)
          clear hk
          refine g_widen (c2 := (31 + (513 - n9) * 134 + 0)) (s2 := (1769 + (513 - n9) * 5157 + 0)) (by have e1 : rm_X3_coins.cells = 0 := rfl; omega) (by have e1 : rm_X3_coins.slots = 0 := rfl; omega) ?_
          refine g_aload_n X dL_law_1486 rfl 2 rfl ?_
          have hk := h.1
          replace h := h.2
          refine g_callV_i X (As := []) (st := [.int v463]) (n := 0) (c_X4_coins hst h) rfl (by decide) hk (wE_5 G w462 q4) m_1239 m_1240 m_1241 m_34 m_1242 (by decide +kernel) (by decide +kernel) rfl rfl (by simp [cat_int, rf_cat]) ⟨(by have e1 : rm_L_law.cells = 601024 := rfl; have e2 : rm_L_law.slots = 7293034 := rfl; have e3 : rm_X4_coins.cells = 0 := rfl; have e4 : rm_X4_coins.slots = 0 := rfl; omega), (by have e1 : rm_L_law.cells = 601024 := rfl; have e2 : rm_L_law.slots = 7293034 := rfl; have e3 : rm_X4_coins.cells = 0 := rfl; have e4 : rm_X4_coins.slots = 0 := rfl; omega)⟩ dL_law_1487 (fun v465 w464 h => ?_)
          clear hk
          refine g_widen (c2 := (31 + (513 - n9) * 134 + 0)) (s2 := (1769 + (513 - n9) * 5157 + 0)) (by have e1 : rm_X4_coins.cells = 0 := rfl; omega) (by have e1 : rm_X4_coins.slots = 0 := rfl; omega) ?_
          refine g_icmp_eq X (tgt := 1495) dL_law_1490 (by decide) (fun hc => ?_) (fun hc => ?_)
          · replace h := h.1 hc; clear hc
            refine g_widen (c2 := (31 + (513 - n9) * 134 + 134)) (s2 := (1769 + (513 - n9) * 5157 + 5157)) (by omega) (by omega) ?_
            exact g_sub [0, 1, 2, 3, 4] [(0, .inr (some b)), (1, .inr (some q1)), (2, .inr (some q4)), (3, .inr (some q7)), (4, .inl y11)] rfl (jp18 w464 h)
          · replace h := h.2 hc; clear hc
            refine g_iconst X (v := (0 : Int32)) dL_law_1493 (by decide) ?_
            exact h.elim
        · replace h := h.2.2.2.2.2.2.2.2.2.2.2.2.2.2.2.2.2.2.2.2.2 hc
          refine g_tableOut X (tgt := 1495) dL_law_39 hc (by decide) ?_
          clear hc
          refine g_widen (c2 := (31 + (513 - n9) * 134 + 134)) (s2 := (1769 + (513 - n9) * 5157 + 5157)) (by omega) (by omega) ?_
          exact g_sub [0, 1, 2, 3, 4] [(0, .inr (some b)), (1, .inr (some q1)), (2, .inr (some q4)), (3, .inr (some q7)), (4, .inl y11)] rfl (jp18 w12 h)
  refine g_widen (c2 := (31 + (513 - n0) * 134 + 0)) (s2 := (1769 + (513 - n0) * 5157 + 0)) (by omega) (by omega) ?_
  exact g_sub [4, 3, 2, 1, 0] [(0, .inr (some b)), (1, .inr (some q1)), (2, .inr (some q4)), (3, .inr (some q7)), (4, .inl (0 : Int32))] rfl (lp10 n0 hn0 (0 : Int32) w8 hi)
