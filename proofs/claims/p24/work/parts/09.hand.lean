-- ===== Arrays.copyOf of a row of references (written by hand: it asks for a Class object)
section HND
variable {l : Launch} {G : GT} {L0 : Nat} {p : Program} {e : Env} {R : Room} {s : State} {m : MethodId} {args : Array Value} {below : List Frame} {meth : Method} {c : Code} {cc : ByteArray} {nL : Nat} {own : String} {cells slots : Nat} {Q : State → Prop} {w : Wd} {pc : Nat} {lv : Lc} {st : List Value}
theorem g_getC (X : GC l G L0 p s m args meth c cc nL own) {a idx mi : Nat} (hk : w.K a = 13) (hM : va_Mi "[Ljava/lang/Object;" mi s) (q1 : Cond.methodLink own idx ⟨"java/lang/Object", "getClass", "()Ljava/lang/Class;"⟩ ∈ wAll) (q2 : Cond.selects "[Ljava/lang/Object;" ⟨"java/lang/Object", "getClass", "()Ljava/lang/Class;"⟩ ⟨"java/lang/Object", "getClass", "()Ljava/lang/Class;"⟩ ∈ wAll) (q3 : Cond.instanceMethod ⟨"java/lang/Object", "getClass", "()Ljava/lang/Class;"⟩ ∈ wAll) (q4 : Cond.native ⟨"java/lang/Object", "getClass", "()Ljava/lang/Class;"⟩ ∈ wAll)
    (hf : 1 ≤ R.frames) (hlo : (st.map fun v => v.category).sum + 14 ≤ R.locals) (hd : decode cc pc = .ok (.invokevirtual idx, 3))
    (kk : Gw l G L0 p e R s m args below meth c nL cells slots Q w (pc + 3) lv (va_rf (some mi) :: st)) : Gw l G L0 p e R s m args below meth c nL cells slots Q w pc lv (.ref a :: st) := by
  intro H locs ls hG hS hl
  have hP := gw_one hG hk (by decide) (ee := .inl (G.2.2.2.1, w.N a, .inr (.inr (.inr (.inr (w.O a)))))) rfl
  have h1 : H[a]? = some (vp_cell G.2.2.2.1 (w.N a, .inr (.inr (.inr (.inr (w.O a)))))) := hP 0 _ rfl
  obtain ⟨-, -, -, -, -, h2⟩ := (X.2.2.2.2.1.2 2 _ rfl).2
  exact va_getC X.1.1 X.1.2.1 (X.1.2.2.1.trans hl.1.symm) X.1.2.2.2.1 (X.1.2.2.2.2 _ q1) (va_Dc.use X.2.2.2.2.2.2.2.2.2.1) (X.1.2.2.2.2 _ q2) (X.1.2.2.2.2 _ q3) (X.1.2.2.2.2 _ q4) hM ⟨_, h1, rfl, h2⟩ hf hlo hd (kk H locs ls hG hS hl)
theorem g_ldcM (X : GC l G L0 p s m args meth c cc nL own) {index mi : Nat} {C : String} (q1 : Cond.classLink own index C ∈ wAll) (hM : va_Mi C mi s) (hd : decode cc pc = .ok (.ldc index, 2))
    (kk : Gw l G L0 p e R s m args below meth c nL cells slots Q w (pc + 2) lv (va_rf (some mi) :: st)) : Gw l G L0 p e R s m args below meth c nL cells slots Q w pc lv st :=
  fun H locs ls hG hS hl => va_ldcM X.1.1 X.1.2.1 X.1.2.2.2.1 (X.1.2.2.2.2 _ q1) hM hd (kk H locs ls hG hS hl)
end HND
def gPcE (G : GT) (L0 : Nat) (As : List Value) (w : Wd) (E : State → Prop) : Array Value → State → Prop := va_Pc As (fun U => (GS G L0 U ∧ GWd G L0 w U.heap) ∧ E U)
theorem g_enterE {l : Launch} {G : GT} {L0 : Nat} {y : MethodName} {cc : ByteArray} {nL : Nat} {ret : Option FieldType} {rm : Room} {As : List Value} {w : Wd} {E : State → Prop} {Qc : Array Value → State → Outcome → State → Prop} (hst : l.stackTraces = false) (hy : plainName y.cls = true) (q : List (Int32 ⊕ Option Nat)) (hq : As = q.map lcV) (hn : q.length ≤ nL)
    (body : ∀ (p : Program) (e : Env) (s : State) (m : MethodId) (args : Array Value) (below : List Frame) (meth : Method) (c : Code), GC l G L0 p s m args meth c cc nL y.cls → meth.sig.returnType = ret → E s → Gw l G L0 p e rm s m args below meth c nL 0 0 (MQ below Qc args s rm.cells rm.slots (GA L0)) w 0 (lcEnum 0 q) []) : Met l y (.code y cc nL ret :: wAll) rm (gPcE G L0 As w E) Qc rm.cells rm.slots (GA L0) := by
  refine Met.ofW (cc := cc) (maxL := nL) (ret := ret) hy rfl ?_
  intro p e s m args below meth c s₁ B hml hv
  obtain ⟨rfl, ⟨hGS, hG⟩, hE⟩ := hv
  have hts := atoms_spec (ws := .code y cc nL ret :: wAll) B.pre
  have hX : GC l G L0 p s m As.toArray meth c cc nL y.cls := ⟨⟨B.exec, B.bytes, hml, findClass_of_methodNamed B.named, fun x hx => hts x (List.mem_cons_of_mem _ hx)⟩, B.notSynchronized, hst, hGS⟩
  have h := body p e s m As.toArray below meth c hX B.returns hE s.heap [] _ hG va_S.rf (by rw [← lc_args, ← hq]; exact lv_entry As (by rw [hq, lc_len]; exact hn))
  rw [lg_entry_eq]
  exact h
abbrev rm_copyOf3 : Room := { frames := 1, cells := 1, slots := 64, locals := 100 }
set_option maxHeartbeats 4000000 in
theorem c_copyOf3 {l : Launch} {G : GT} {L0 : Nat} (hst : l.stackTraces = false) {a k mi : Nat} {w : Wd} {Q : Option Nat → Wd → Prop} (hk : k ≤ 64) (ha : w.K a = 13) (hN : w.N a ≤ k) (hel : ∀ t, t < w.N a → ∀ y, w.O a t = some y → w.K y = 1 ∨ w.K y = 2 ∨ w.K y = 3) (h : ∀ q, w.K q = 0 → ∀ w1, w1 = (w.newA 13 q k).cpO a q 0 0 (w.N a) → Q (some q) w1) :
    Met l yJ7_copyOf_6403c (.code yJ7_copyOf_6403c cJ7_copyOf_6403c 4 (some (.array (.object "java/lang/Object"))) :: wAll) rm_copyOf3 (gPcE G L0 [va_rf (some a), .int (nI k), va_rf (some mi)] w (va_Mi "[Ljava/lang/Object;" mi)) (gQq G L0 Q) rm_copyOf3.cells rm_copyOf3.slots (GA L0) := by
  refine g_enterE hst (by decide +kernel) [.inr (some a), .inl (nI k), .inr (some mi)] rfl (show 3 ≤ 4 by decide) ?_
  intro p e s m args below meth c X hr hM
  replace X : GC l G L0 p s m args meth c cJ7_copyOf_6403c 4 "java/util/Arrays" := X
  refine g_aload_n X dJ7_copyOf_6403c_0 rfl 2 rfl ?_
  refine g_ldcM X m_280 hM dJ7_copyOf_6403c_1 ?_
  refine g_acmp_ne X (tgt := 13) dJ7_copyOf_6403c_3 (by decide) (fun hc => absurd rfl hc) (fun _ => ?_)
  refine g_iload_n X dJ7_copyOf_6403c_6 rfl 1 rfl ?_
  refine g_newO X (n := k) m_282 rfl (by omega) (by decide) (by show 0 + k ≤ 64; omega) dJ7_copyOf_6403c_7 (fun q hq w1 hw => ?_)
  refine g_widen (c2 := 1) (s2 := 64) (by decide) (by omega) ?_
  refine g_goto X (tgt := 24) dJ7_copyOf_6403c_10 (by decide) ?_
  refine g_astore_n X [(3, .inr (some q)), (0, .inr (some a)), (1, .inl (nI k)), (2, .inr (some mi))] dJ7_copyOf_6403c_24 rfl (by decide) rfl ?_
  refine g_aload_n X dJ7_copyOf_6403c_25 rfl 1 rfl ?_
  refine g_iconst X (v := 0) dJ7_copyOf_6403c_26 (by decide) ?_
  refine g_aload_n X dJ7_copyOf_6403c_27 rfl 0 rfl ?_
  refine g_iconst X (v := 0) dJ7_copyOf_6403c_28 (by decide) ?_
  refine g_aload_n X dJ7_copyOf_6403c_29 rfl 1 rfl ?_
  have haq : a ≠ q := fun e => by rw [e, hq] at ha; cases ha
  have ha1 : w1.K a = 13 := by rw [hw]; show va_up w.K q 13 a = 13; rw [va_up_ne _ _ haq]; exact ha
  have hq1 : w1.K q = 13 := by rw [hw]; show va_up w.K q 13 q = 13; rw [va_up_self]
  have hNa : w1.N a = w.N a := by rw [hw]; show va_up w.N q k a = _; rw [va_up_ne _ _ haq]
  have hNq : w1.N q = k := by rw [hw]; show va_up w.N q k q = _; rw [va_up_self]
  refine g_alen X ha1 (by simp) dJ7_copyOf_6403c_30 (fun v hv => ?_)
  refine g_iload_n X dJ7_copyOf_6403c_31 rfl 2 rfl ?_
  refine g_mmin X m_283 m_284 m_26 m_285 (by decide) (by show _ ≤ 100; simp [cat_int, rf_cat]) (by decide) (by decide) dJ7_copyOf_6403c_32 (fun v2 hv2 => ?_)
  have e2 : v2 = nI (w.N a) := by
    rw [hv2, hv, hNa]
    by_cases h1 : k = w.N a
    · rw [← h1]; simp
    · rw [if_neg (nI_nlt (by omega) (by omega))]
  refine g_acpy X (sp := 0) (dp := 0) (n := w.N a) ha1 hq1 rfl rfl e2 (by rw [hNa]; omega) (by rw [hNq]; omega) (by rw [hNa]; omega) (by rw [hNq]; omega) (fun t ht y hy => ?_) m_286 m_288 m_287 m_28 (by decide) (by decide +kernel) dJ7_copyOf_6403c_35 (fun w2 hw2 => ?_)
  · have h1 : w1.O a (0 + t) = w.O a t := by rw [hw]; show (if a = q then none else w.O a (0 + t)) = _; rw [if_neg haq, Nat.zero_add]
    have hy1 := hel t ht y (h1.symm.trans hy)
    have hyq : y ≠ q := fun e => by rw [e, hq] at hy1; omega
    rw [hw]
    show va_up w.K q 13 y = 1 ∨ va_up w.K q 13 y = 2 ∨ va_up w.K q 13 y = 3
    rw [va_up_ne _ _ hyq]
    exact hy1
  refine g_aload_n X dJ7_copyOf_6403c_38 rfl 0 rfl ?_
  exact g_aret X hr (Or.inr ⟨_, rfl⟩) (by decide +kernel) (by decide +kernel) dJ7_copyOf_6403c_39 (h q hq w2 (by rw [hw2, hw]))
abbrev rm_J7_copyOf_1904c : Room := { frames := 2, cells := 1, slots := 64, locals := 150 }
def wp_J7_copyOf_1904c (r0 : Option Nat) (x1 : Int32) (w : Wd) (Q : Option Nat → Wd → Prop) : Prop :=
  ∃ a k : Nat, r0 = some a ∧ x1 = nI k ∧ k ≤ 64 ∧ w.K a = 13 ∧ w.N a ≤ k ∧ (∀ t, t < w.N a → ∀ y, w.O a t = some y → w.K y = 1 ∨ w.K y = 2 ∨ w.K y = 3) ∧ ∀ q, w.K q = 0 → ∀ w1, w1 = (w.newA 13 q k).cpO a q 0 0 (w.N a) → Q (some q) w1
set_option maxHeartbeats 4000000 in
theorem c_J7_copyOf_1904c {l : Launch} {G : GT} {L0 : Nat} (hst : l.stackTraces = false) {r0 : Option Nat} {x1 : Int32} {w : Wd} {Q : Option Nat → Wd → Prop} (h : wp_J7_copyOf_1904c r0 x1 w Q) : GMq l G L0 yJ7_copyOf_1904c cJ7_copyOf_1904c 2 (some (.array (.object "java/lang/Object"))) rm_J7_copyOf_1904c [va_rf r0, .int x1] w Q := by
  obtain ⟨a, k, rfl, rfl, hk, ha, hN, hel, h⟩ := h
  refine g_enter hst (by decide +kernel) [.inr (some a), .inl (nI k)] rfl (show 2 ≤ 2 by decide) ?_
  intro p e s m args below meth c X hr hnm
  replace X : GC l G L0 p s m args meth c cJ7_copyOf_1904c 2 "java/util/Arrays" := X
  obtain ⟨mi, hM⟩ := X.2.2.2.2.2.2.2.2.2.2.1
  refine g_aload_n X dJ7_copyOf_1904c_0 rfl 0 rfl ?_
  refine g_iload_n X dJ7_copyOf_1904c_1 rfl 1 rfl ?_
  refine g_aload_n X dJ7_copyOf_1904c_2 rfl 0 rfl ?_
  refine g_getC X ha hM m_265 m_726 m_266 m_276 (by decide) (by show _ ≤ 150; simp [cat_int, rf_cat]) dJ7_copyOf_1904c_3 ?_
  intro H locs ls hG hS hl
  exact va_callq (va_runS (As := [va_rf (some a), .int (nI k), va_rf (some mi)]) (rest := []) X.1 (c_copyOf3 hst hk ha hN hel h) ⟨callB_of (ws' := wAll) 3 X.1.2.2.2.2 (wA_good m_279) rfl rfl rfl (X.1.2.2.2.2 _ m_27) (X.1.2.2.2.2 _ m_277) (by decide +kernel) (by decide +kernel), X.1.2.2.2.2 _ m_278⟩
    ⟨fun _ _ _ _ q => ⟨q.1, ⟨GS.same q.2.1.1 rfl rfl, q.2.1.2⟩, va_Mi.moved (Vm.Alike.refl _) q.2.2⟩, fun U hU hW => ⟨rfl, ⟨GS.call X.2.2.2 hS hU hW, by rw [hU]; exact hG⟩, va_Mi.moved hW.alike hM⟩⟩ rfl rfl hl.1 rfl (lv_room (Nat.zero_le _)) dJ7_copyOf_1904c_6 ⟨by decide +kernel, by decide +kernel⟩) hS (fun q _ h => h) (fun q h => h)
    (fun r u t H1 locs1 ht hvm hq hB hz hk1 hS1 => g_aret X hr (Or.inr ⟨_, rfl⟩) (by decide +kernel) (by decide +kernel) dJ7_copyOf_1904c_9 hq H1 locs1 ls (by rw [← ht]; exact hB) hS1 hl)
