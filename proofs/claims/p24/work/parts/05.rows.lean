section GR
variable {l : Launch} {G : GT} {L0 : Nat} {p : Program} {e : Env} {R : Room} {s : State} {m : MethodId} {args : Array Value} {below : List Frame} {meth : Method} {c : Code} {cc : ByteArray} {nL : Nat} {own : String} {cells slots : Nat} {Q : State → Prop} {w : Wd} {pc : Nat} {lv : Lc} {st : List Value}
-- ===== locals, stack, arithmetic
theorem g_iload_n (X : GC l G L0 p s m args meth c cc nL own) {k : Fin 4} {i : Nat} {x : Int32} (hd : decode cc pc = .ok (.iload_n k, 1)) (hi : (k : Nat) = i) (j : Nat) (hj : lv[j]? = some (i, .inl x))
    (kk : Gw l G L0 p e R s m args below meth c nL cells slots Q w (pc + 1) lv (.int x :: st)) : Gw l G L0 p e R s m args below meth c nL cells slots Q w pc lv st :=
  fun H locs ls hG hS hl => lv_iload_n X.1.1 X.1.2.1 hd hi (lvV_at hl j hj) (kk H locs ls hG hS hl)
theorem g_iload (X : GC l G L0 p s m args meth c cc nL own) {i : Nat} {x : Int32} (hd : decode cc pc = .ok (.iload i, 2)) (j : Nat) (hj : lv[j]? = some (i, .inl x))
    (kk : Gw l G L0 p e R s m args below meth c nL cells slots Q w (pc + 2) lv (.int x :: st)) : Gw l G L0 p e R s m args below meth c nL cells slots Q w pc lv st :=
  fun H locs ls hG hS hl => lv_iload X.1.1 X.1.2.1 hd (lvV_at hl j hj) (kk H locs ls hG hS hl)
theorem g_aload_n (X : GC l G L0 p s m args meth c cc nL own) {k : Fin 4} {i : Nat} {r : Option Nat} (hd : decode cc pc = .ok (.aload_n k, 1)) (hi : (k : Nat) = i) (j : Nat) (hj : lv[j]? = some (i, .inr r))
    (kk : Gw l G L0 p e R s m args below meth c nL cells slots Q w (pc + 1) lv (va_rf r :: st)) : Gw l G L0 p e R s m args below meth c nL cells slots Q w pc lv st := by
  intro H locs ls hG hS hl
  have h1 := lvV_at hl j hj
  cases r with
  | none => exact lv_aload_nN X.1.1 X.1.2.1 hd hi h1 (kk H locs ls hG hS hl)
  | some a => exact lv_aload_n X.1.1 X.1.2.1 hd hi h1 (kk H locs ls hG hS hl)
theorem g_aload (X : GC l G L0 p s m args meth c cc nL own) {i : Nat} {r : Option Nat} (hd : decode cc pc = .ok (.aload i, 2)) (j : Nat) (hj : lv[j]? = some (i, .inr r))
    (kk : Gw l G L0 p e R s m args below meth c nL cells slots Q w (pc + 2) lv (va_rf r :: st)) : Gw l G L0 p e R s m args below meth c nL cells slots Q w pc lv st := by
  intro H locs ls hG hS hl
  have h1 := lvV_at hl j hj
  cases r with
  | none => exact lv_aloadN X.1.1 X.1.2.1 hd h1 (kk H locs ls hG hS hl)
  | some a => exact lv_aload X.1.1 X.1.2.1 hd h1 (kk H locs ls hG hS hl)
theorem g_istore_n (X : GC l G L0 p s m args meth c cc nL own) {k : Fin 4} {i : Nat} {x : Int32} (lv' : Lc) (hd : decode cc pc = .ok (.istore_n k, 1)) (hi : (k : Nat) = i) (hn : i < nL) (hl' : lset lv i (.inl x) = lv')
    (kk : Gw l G L0 p e R s m args below meth c nL cells slots Q w (pc + 1) lv' st) : Gw l G L0 p e R s m args below meth c nL cells slots Q w pc lv (.int x :: st) :=
  fun H locs _ hG hS hl => lv_istore_n X.1.1 X.1.2.1 hd hi hl hn (lvV_set hl') (fun ls' h' => kk H locs ls' hG hS h')
theorem g_istore (X : GC l G L0 p s m args meth c cc nL own) {i : Nat} {x : Int32} (lv' : Lc) (hd : decode cc pc = .ok (.istore i, 2)) (hn : i < nL) (hl' : lset lv i (.inl x) = lv')
    (kk : Gw l G L0 p e R s m args below meth c nL cells slots Q w (pc + 2) lv' st) : Gw l G L0 p e R s m args below meth c nL cells slots Q w pc lv (.int x :: st) :=
  fun H locs _ hG hS hl => lv_istore X.1.1 X.1.2.1 hd hl hn (lvV_set hl') (fun ls' h' => kk H locs ls' hG hS h')
theorem g_astore_n (X : GC l G L0 p s m args meth c cc nL own) {k : Fin 4} {i : Nat} {r : Option Nat} (lv' : Lc) (hd : decode cc pc = .ok (.astore_n k, 1)) (hi : (k : Nat) = i) (hn : i < nL) (hl' : lset lv i (.inr r) = lv')
    (kk : Gw l G L0 p e R s m args below meth c nL cells slots Q w (pc + 1) lv' st) : Gw l G L0 p e R s m args below meth c nL cells slots Q w pc lv (va_rf r :: st) := by
  intro H locs _ hG hS hl
  have h1 := lvV_set hl'
  cases r with
  | none => exact lv_astore_nN X.1.1 X.1.2.1 hd hi hl hn h1 (fun ls' h' => kk H locs ls' hG hS h')
  | some a => exact lv_astore_n X.1.1 X.1.2.1 hd hi hl hn h1 (fun ls' h' => kk H locs ls' hG hS h')
theorem g_astore (X : GC l G L0 p s m args meth c cc nL own) {i : Nat} {r : Option Nat} (lv' : Lc) (hd : decode cc pc = .ok (.astore i, 2)) (hn : i < nL) (hl' : lset lv i (.inr r) = lv')
    (kk : Gw l G L0 p e R s m args below meth c nL cells slots Q w (pc + 2) lv' st) : Gw l G L0 p e R s m args below meth c nL cells slots Q w pc lv (va_rf r :: st) := by
  intro H locs _ hG hS hl
  have h1 := lvV_set hl'
  cases r with
  | none => exact lv_astoreN X.1.1 X.1.2.1 hd hl hn h1 (fun ls' h' => kk H locs ls' hG hS h')
  | some a => exact lv_astore X.1.1 X.1.2.1 hd hl hn h1 (fun ls' h' => kk H locs ls' hG hS h')
theorem g_iinc (X : GC l G L0 p s m args meth c cc nL own) {i : Nat} {n : Int} {x d : Int32} (hd : decode cc pc = .ok (.iinc i n, 3)) (j : Nat) (hj : lv[j]? = some (i, .inl x)) (hv : Int32.ofInt n = d) (hn : i < nL)
    (kk : ∀ v : Int32, v = x + d → Gw l G L0 p e R s m args below meth c nL cells slots Q w (pc + 3) (lset lv i (.inl v)) st) : Gw l G L0 p e R s m args below meth c nL cells slots Q w pc lv st := by
  intro H locs _ hG hS hl
  have hj1 : (lvV lv)[j]? = some (i, .int x) := by rw [lvV, List.getElem?_map, hj]; rfl
  exact lv_iinc X.1.1 X.1.2.1 hd hl hj1 (v := x + d) (by rw [hv]) hn (lvV_set (lv := lv) (i := i) (v := .inl (x + d)) rfl) (fun ls' h' => kk _ rfl H locs ls' hG hS h')
/-- the same locals in another order, or fewer -/
theorem g_sub (ks : List Nat) (lv' : Lc) (h : lpick lv ks = lv') (kk : Gw l G L0 p e R s m args below meth c nL cells slots Q w pc lv' st) : Gw l G L0 p e R s m args below meth c nL cells slots Q w pc lv st :=
  fun H locs ls hG hS hl => kk H locs ls hG hS (lv_sub hl ks (lvV_pick h))
theorem g_widen {c2 s2 : Nat} (h1 : cells ≤ c2) (h2 : slots ≤ s2) (kk : Gw l G L0 p e R s m args below meth c nL c2 s2 Q w pc lv st) : Gw l G L0 p e R s m args below meth c nL cells slots Q w pc lv st :=
  fun H locs ls hG hS hl => W.widen h1 h2 (kk H locs ls hG hS hl)
theorem g_iconst (X : GC l G L0 p s m args meth c cc nL own) {n : Int} {v : Int32} (hd : decode cc pc = .ok (.iconst n, 1)) (hv : Int32.ofInt n = v)
    (kk : Gw l G L0 p e R s m args below meth c nL cells slots Q w (pc + 1) lv (.int v :: st)) : Gw l G L0 p e R s m args below meth c nL cells slots Q w pc lv st :=
  fun H locs ls hG hS hl => lv_iconst X.1.1 X.1.2.1 hd hv (kk H locs ls hG hS hl)
theorem g_bipush (X : GC l G L0 p s m args meth c cc nL own) {n : Int} {v : Int32} (hd : decode cc pc = .ok (.bipush n, 2)) (hv : (Int8.ofInt n).toInt32 = v)
    (kk : Gw l G L0 p e R s m args below meth c nL cells slots Q w (pc + 2) lv (.int v :: st)) : Gw l G L0 p e R s m args below meth c nL cells slots Q w pc lv st :=
  fun H locs ls hG hS hl => lv_bipush X.1.1 X.1.2.1 hd hv (kk H locs ls hG hS hl)
theorem g_sipush (X : GC l G L0 p s m args meth c cc nL own) {n : Int} {v : Int32} (hd : decode cc pc = .ok (.sipush n, 3)) (hv : (Int16.ofInt n).toInt32 = v)
    (kk : Gw l G L0 p e R s m args below meth c nL cells slots Q w (pc + 3) lv (.int v :: st)) : Gw l G L0 p e R s m args below meth c nL cells slots Q w pc lv st :=
  fun H locs ls hG hS hl => lv_sipush X.1.1 X.1.2.1 hd hv (kk H locs ls hG hS hl)
theorem g_ldc (X : GC l G L0 p s m args meth c cc nL own) {index : Nat} {v : Int32} (hw : Cond.constant own index v ∈ wAll) (hd : decode cc pc = .ok (.ldc index, 2))
    (kk : Gw l G L0 p e R s m args below meth c nL cells slots Q w (pc + 2) lv (.int v :: st)) : Gw l G L0 p e R s m args below meth c nL cells slots Q w pc lv st :=
  fun H locs ls hG hS hl => lv_ldc X.1.1 X.1.2.1 X.1.2.2.2.1 (X.1.2.2.2.2 _ hw) hd (kk H locs ls hG hS hl)
theorem g_ldcw (X : GC l G L0 p s m args meth c cc nL own) {index : Nat} {v : Int32} (hw : Cond.constant own index v ∈ wAll) (hd : decode cc pc = .ok (.ldc_w index, 3))
    (kk : Gw l G L0 p e R s m args below meth c nL cells slots Q w (pc + 3) lv (.int v :: st)) : Gw l G L0 p e R s m args below meth c nL cells slots Q w pc lv st :=
  fun H locs ls hG hS hl => lv_ldcw X.1.1 X.1.2.1 X.1.2.2.2.1 (X.1.2.2.2.2 _ hw) hd (kk H locs ls hG hS hl)
theorem g_null (X : GC l G L0 p s m args meth c cc nL own) (hd : decode cc pc = .ok (.aconst_null, 1))
    (kk : Gw l G L0 p e R s m args below meth c nL cells slots Q w (pc + 1) lv (va_rf none :: st)) : Gw l G L0 p e R s m args below meth c nL cells slots Q w pc lv st :=
  fun H locs ls hG hS hl => lv_null X.1.1 X.1.2.1 hd (kk H locs ls hG hS hl)
theorem g_iadd (X : GC l G L0 p s m args meth c cc nL own) {x y : Int32} (hd : decode cc pc = .ok (.iadd, 1))
    (kk : ∀ v : Int32, v = x + y → Gw l G L0 p e R s m args below meth c nL cells slots Q w (pc + 1) lv (.int v :: st)) : Gw l G L0 p e R s m args below meth c nL cells slots Q w pc lv (.int y :: .int x :: st) :=
  fun H locs ls hG hS hl => lv_iadd X.1.1 X.1.2.1 hd (kk _ rfl H locs ls hG hS hl)
theorem g_isub (X : GC l G L0 p s m args meth c cc nL own) {x y : Int32} (hd : decode cc pc = .ok (.isub, 1))
    (kk : ∀ v : Int32, v = x - y → Gw l G L0 p e R s m args below meth c nL cells slots Q w (pc + 1) lv (.int v :: st)) : Gw l G L0 p e R s m args below meth c nL cells slots Q w pc lv (.int y :: .int x :: st) :=
  fun H locs ls hG hS hl => lv_isub X.1.1 X.1.2.1 hd (kk _ rfl H locs ls hG hS hl)
theorem g_imul (X : GC l G L0 p s m args meth c cc nL own) {x y : Int32} (hd : decode cc pc = .ok (.imul, 1))
    (kk : ∀ v : Int32, v = x * y → Gw l G L0 p e R s m args below meth c nL cells slots Q w (pc + 1) lv (.int v :: st)) : Gw l G L0 p e R s m args below meth c nL cells slots Q w pc lv (.int y :: .int x :: st) :=
  fun H locs ls hG hS hl => lv_imul X.1.1 X.1.2.1 hd (kk _ rfl H locs ls hG hS hl)
theorem g_iand (X : GC l G L0 p s m args meth c cc nL own) {x y : Int32} (hd : decode cc pc = .ok (.iand, 1))
    (kk : ∀ v : Int32, v = x &&& y → Gw l G L0 p e R s m args below meth c nL cells slots Q w (pc + 1) lv (.int v :: st)) : Gw l G L0 p e R s m args below meth c nL cells slots Q w pc lv (.int y :: .int x :: st) :=
  fun H locs ls hG hS hl => lv_iand X.1.1 X.1.2.1 hd (kk _ rfl H locs ls hG hS hl)
theorem g_ior (X : GC l G L0 p s m args meth c cc nL own) {x y : Int32} (hd : decode cc pc = .ok (.ior, 1))
    (kk : ∀ v : Int32, v = x ||| y → Gw l G L0 p e R s m args below meth c nL cells slots Q w (pc + 1) lv (.int v :: st)) : Gw l G L0 p e R s m args below meth c nL cells slots Q w pc lv (.int y :: .int x :: st) :=
  fun H locs ls hG hS hl => lv_ior X.1.1 X.1.2.1 hd (kk _ rfl H locs ls hG hS hl)
theorem g_ishl (X : GC l G L0 p s m args meth c cc nL own) {x y : Int32} (hd : decode cc pc = .ok (.ishl, 1))
    (kk : ∀ v : Int32, v = x <<< (y &&& 31) → Gw l G L0 p e R s m args below meth c nL cells slots Q w (pc + 1) lv (.int v :: st)) : Gw l G L0 p e R s m args below meth c nL cells slots Q w pc lv (.int y :: .int x :: st) :=
  fun H locs ls hG hS hl => lv_ishl X.1.1 X.1.2.1 hd (kk _ rfl H locs ls hG hS hl)
theorem g_ishr (X : GC l G L0 p s m args meth c cc nL own) {x y : Int32} (hd : decode cc pc = .ok (.ishr, 1))
    (kk : ∀ v : Int32, v = x >>> (y &&& 31) → Gw l G L0 p e R s m args below meth c nL cells slots Q w (pc + 1) lv (.int v :: st)) : Gw l G L0 p e R s m args below meth c nL cells slots Q w pc lv (.int y :: .int x :: st) :=
  fun H locs ls hG hS hl => lv_ishr X.1.1 X.1.2.1 hd (kk _ rfl H locs ls hG hS hl)
theorem g_idiv (X : GC l G L0 p s m args meth c cc nL own) {x y : Int32} (hd : decode cc pc = .ok (.idiv, 1)) (hne : ¬ y = 0)
    (kk : ∀ v : Int32, v = x / y → Gw l G L0 p e R s m args below meth c nL cells slots Q w (pc + 1) lv (.int v :: st)) : Gw l G L0 p e R s m args below meth c nL cells slots Q w pc lv (.int y :: .int x :: st) :=
  fun H locs ls hG hS hl => lv_idiv X.1.1 X.1.2.1 hd hne (kk _ rfl H locs ls hG hS hl)
theorem g_irem (X : GC l G L0 p s m args meth c cc nL own) {x y : Int32} (hd : decode cc pc = .ok (.irem, 1)) (hne : ¬ y = 0)
    (kk : ∀ v : Int32, v = x - x / y * y → Gw l G L0 p e R s m args below meth c nL cells slots Q w (pc + 1) lv (.int v :: st)) : Gw l G L0 p e R s m args below meth c nL cells slots Q w pc lv (.int y :: .int x :: st) :=
  fun H locs ls hG hS hl => lv_irem X.1.1 X.1.2.1 hd hne (kk _ rfl H locs ls hG hS hl)
theorem g_ineg (X : GC l G L0 p s m args meth c cc nL own) {x : Int32} (hd : decode cc pc = .ok (.ineg, 1))
    (kk : ∀ v : Int32, v = -x → Gw l G L0 p e R s m args below meth c nL cells slots Q w (pc + 1) lv (.int v :: st)) : Gw l G L0 p e R s m args below meth c nL cells slots Q w pc lv (.int x :: st) :=
  fun H locs ls hG hS hl => lv_ineg X.1.1 X.1.2.1 hd (kk _ rfl H locs ls hG hS hl)
theorem g_i2l (X : GC l G L0 p s m args meth c cc nL own) {x : Int32} (hd : decode cc pc = .ok (.i2l, 1))
    (kk : Gw l G L0 p e R s m args below meth c nL cells slots Q w (pc + 1) lv (.long x.toInt64 :: st)) : Gw l G L0 p e R s m args below meth c nL cells slots Q w pc lv (.int x :: st) :=
  fun H locs ls hG hS hl => lv_i2l X.1.1 X.1.2.1 hd rfl (kk H locs ls hG hS hl)
theorem g_dup (X : GC l G L0 p s m args meth c cc nL own) {v : Value} (hd : decode cc pc = .ok (.dup, 1)) (hv : v.category = 1)
    (kk : Gw l G L0 p e R s m args below meth c nL cells slots Q w (pc + 1) lv (v :: v :: st)) : Gw l G L0 p e R s m args below meth c nL cells slots Q w pc lv (v :: st) :=
  fun H locs ls hG hS hl => lv_dup X.1.1 X.1.2.1 hd hv (kk H locs ls hG hS hl)
theorem g_pop (X : GC l G L0 p s m args meth c cc nL own) {v : Value} (hd : decode cc pc = .ok (.pop, 1)) (hv : v.category = 1)
    (kk : Gw l G L0 p e R s m args below meth c nL cells slots Q w (pc + 1) lv st) : Gw l G L0 p e R s m args below meth c nL cells slots Q w pc lv (v :: st) :=
  fun H locs ls hG hS hl => lv_pop X.1.1 X.1.2.1 hd hv (kk H locs ls hG hS hl)
theorem g_dup2 (X : GC l G L0 p s m args meth c cc nL own) {v u : Value} (hd : decode cc pc = .ok (.dup2, 1)) (hv : v.category = 1) (hu : u.category = 1)
    (kk : Gw l G L0 p e R s m args below meth c nL cells slots Q w (pc + 1) lv (v :: u :: v :: u :: st)) : Gw l G L0 p e R s m args below meth c nL cells slots Q w pc lv (v :: u :: st) :=
  fun H locs ls hG hS hl => lv_dup2_11 X.1.1 X.1.2.1 hd hv hu (kk H locs ls hG hS hl)
theorem g_dup_x1 (X : GC l G L0 p s m args meth c cc nL own) {v u : Value} (hd : decode cc pc = .ok (.dup_x1, 1)) (hv : v.category = 1) (hu : u.category = 1)
    (kk : Gw l G L0 p e R s m args below meth c nL cells slots Q w (pc + 1) lv (v :: u :: v :: st)) : Gw l G L0 p e R s m args below meth c nL cells slots Q w pc lv (v :: u :: st) :=
  fun H locs ls hG hS hl => lv_dup_x1 X.1.1 X.1.2.1 hd hv hu (kk H locs ls hG hS hl)
theorem cat_int {x : Int32} : (Value.int x).category = 1 := rfl
theorem rf_cat {r : Option Nat} : (va_rf r).category = 1 := by cases r <;> rfl
-- ===== branches
theorem g_if_eq (X : GC l G L0 p s m args meth c cc nL own) {x : Int32} {off : Int} {tgt : Nat} (hd : decode cc pc = .ok (.ifCond .eq off, 3)) (ht : (pc : Int) + off = (tgt : Int))
    (kt : x = 0 → Gw l G L0 p e R s m args below meth c nL cells slots Q w tgt lv st) (kf : ¬ x = 0 → Gw l G L0 p e R s m args below meth c nL cells slots Q w (pc + 3) lv st) : Gw l G L0 p e R s m args below meth c nL cells slots Q w pc lv (.int x :: st) :=
  fun H locs ls hG hS hl => lv_if_eq X.1.1 X.1.2.1 hd ht (fun h => kt h H locs ls hG hS hl) (fun h => kf h H locs ls hG hS hl)
theorem g_icmp_eq (X : GC l G L0 p s m args meth c cc nL own) {x y : Int32} {off : Int} {tgt : Nat} (hd : decode cc pc = .ok (.if_icmp .eq off, 3)) (ht : (pc : Int) + off = (tgt : Int))
    (kt : x = y → Gw l G L0 p e R s m args below meth c nL cells slots Q w tgt lv st) (kf : ¬ x = y → Gw l G L0 p e R s m args below meth c nL cells slots Q w (pc + 3) lv st) : Gw l G L0 p e R s m args below meth c nL cells slots Q w pc lv (.int y :: .int x :: st) :=
  fun H locs ls hG hS hl => lv_icmp_eq X.1.1 X.1.2.1 hd ht (fun h => kt h H locs ls hG hS hl) (fun h => kf h H locs ls hG hS hl)
theorem g_if_ne (X : GC l G L0 p s m args meth c cc nL own) {x : Int32} {off : Int} {tgt : Nat} (hd : decode cc pc = .ok (.ifCond .ne off, 3)) (ht : (pc : Int) + off = (tgt : Int))
    (kt : ¬ x = 0 → Gw l G L0 p e R s m args below meth c nL cells slots Q w tgt lv st) (kf : x = 0 → Gw l G L0 p e R s m args below meth c nL cells slots Q w (pc + 3) lv st) : Gw l G L0 p e R s m args below meth c nL cells slots Q w pc lv (.int x :: st) :=
  fun H locs ls hG hS hl => lv_if_ne X.1.1 X.1.2.1 hd ht (fun h => kt h H locs ls hG hS hl) (fun h => kf h H locs ls hG hS hl)
theorem g_icmp_ne (X : GC l G L0 p s m args meth c cc nL own) {x y : Int32} {off : Int} {tgt : Nat} (hd : decode cc pc = .ok (.if_icmp .ne off, 3)) (ht : (pc : Int) + off = (tgt : Int))
    (kt : ¬ x = y → Gw l G L0 p e R s m args below meth c nL cells slots Q w tgt lv st) (kf : x = y → Gw l G L0 p e R s m args below meth c nL cells slots Q w (pc + 3) lv st) : Gw l G L0 p e R s m args below meth c nL cells slots Q w pc lv (.int y :: .int x :: st) :=
  fun H locs ls hG hS hl => lv_icmp_ne X.1.1 X.1.2.1 hd ht (fun h => kt h H locs ls hG hS hl) (fun h => kf h H locs ls hG hS hl)
theorem g_if_lt (X : GC l G L0 p s m args meth c cc nL own) {x : Int32} {off : Int} {tgt : Nat} (hd : decode cc pc = .ok (.ifCond .lt off, 3)) (ht : (pc : Int) + off = (tgt : Int))
    (kt : x < 0 → Gw l G L0 p e R s m args below meth c nL cells slots Q w tgt lv st) (kf : ¬ x < 0 → Gw l G L0 p e R s m args below meth c nL cells slots Q w (pc + 3) lv st) : Gw l G L0 p e R s m args below meth c nL cells slots Q w pc lv (.int x :: st) :=
  fun H locs ls hG hS hl => lv_if_lt X.1.1 X.1.2.1 hd ht (fun h => kt h H locs ls hG hS hl) (fun h => kf h H locs ls hG hS hl)
theorem g_icmp_lt (X : GC l G L0 p s m args meth c cc nL own) {x y : Int32} {off : Int} {tgt : Nat} (hd : decode cc pc = .ok (.if_icmp .lt off, 3)) (ht : (pc : Int) + off = (tgt : Int))
    (kt : x < y → Gw l G L0 p e R s m args below meth c nL cells slots Q w tgt lv st) (kf : ¬ x < y → Gw l G L0 p e R s m args below meth c nL cells slots Q w (pc + 3) lv st) : Gw l G L0 p e R s m args below meth c nL cells slots Q w pc lv (.int y :: .int x :: st) :=
  fun H locs ls hG hS hl => lv_icmp_lt X.1.1 X.1.2.1 hd ht (fun h => kt h H locs ls hG hS hl) (fun h => kf h H locs ls hG hS hl)
theorem g_if_ge (X : GC l G L0 p s m args meth c cc nL own) {x : Int32} {off : Int} {tgt : Nat} (hd : decode cc pc = .ok (.ifCond .ge off, 3)) (ht : (pc : Int) + off = (tgt : Int))
    (kt : 0 ≤ x → Gw l G L0 p e R s m args below meth c nL cells slots Q w tgt lv st) (kf : ¬ 0 ≤ x → Gw l G L0 p e R s m args below meth c nL cells slots Q w (pc + 3) lv st) : Gw l G L0 p e R s m args below meth c nL cells slots Q w pc lv (.int x :: st) :=
  fun H locs ls hG hS hl => lv_if_ge X.1.1 X.1.2.1 hd ht (fun h => kt h H locs ls hG hS hl) (fun h => kf h H locs ls hG hS hl)
theorem g_icmp_ge (X : GC l G L0 p s m args meth c cc nL own) {x y : Int32} {off : Int} {tgt : Nat} (hd : decode cc pc = .ok (.if_icmp .ge off, 3)) (ht : (pc : Int) + off = (tgt : Int))
    (kt : y ≤ x → Gw l G L0 p e R s m args below meth c nL cells slots Q w tgt lv st) (kf : ¬ y ≤ x → Gw l G L0 p e R s m args below meth c nL cells slots Q w (pc + 3) lv st) : Gw l G L0 p e R s m args below meth c nL cells slots Q w pc lv (.int y :: .int x :: st) :=
  fun H locs ls hG hS hl => lv_icmp_ge X.1.1 X.1.2.1 hd ht (fun h => kt h H locs ls hG hS hl) (fun h => kf h H locs ls hG hS hl)
theorem g_if_gt (X : GC l G L0 p s m args meth c cc nL own) {x : Int32} {off : Int} {tgt : Nat} (hd : decode cc pc = .ok (.ifCond .gt off, 3)) (ht : (pc : Int) + off = (tgt : Int))
    (kt : 0 < x → Gw l G L0 p e R s m args below meth c nL cells slots Q w tgt lv st) (kf : ¬ 0 < x → Gw l G L0 p e R s m args below meth c nL cells slots Q w (pc + 3) lv st) : Gw l G L0 p e R s m args below meth c nL cells slots Q w pc lv (.int x :: st) :=
  fun H locs ls hG hS hl => lv_if_gt X.1.1 X.1.2.1 hd ht (fun h => kt h H locs ls hG hS hl) (fun h => kf h H locs ls hG hS hl)
theorem g_icmp_gt (X : GC l G L0 p s m args meth c cc nL own) {x y : Int32} {off : Int} {tgt : Nat} (hd : decode cc pc = .ok (.if_icmp .gt off, 3)) (ht : (pc : Int) + off = (tgt : Int))
    (kt : y < x → Gw l G L0 p e R s m args below meth c nL cells slots Q w tgt lv st) (kf : ¬ y < x → Gw l G L0 p e R s m args below meth c nL cells slots Q w (pc + 3) lv st) : Gw l G L0 p e R s m args below meth c nL cells slots Q w pc lv (.int y :: .int x :: st) :=
  fun H locs ls hG hS hl => lv_icmp_gt X.1.1 X.1.2.1 hd ht (fun h => kt h H locs ls hG hS hl) (fun h => kf h H locs ls hG hS hl)
theorem g_if_le (X : GC l G L0 p s m args meth c cc nL own) {x : Int32} {off : Int} {tgt : Nat} (hd : decode cc pc = .ok (.ifCond .le off, 3)) (ht : (pc : Int) + off = (tgt : Int))
    (kt : x ≤ 0 → Gw l G L0 p e R s m args below meth c nL cells slots Q w tgt lv st) (kf : ¬ x ≤ 0 → Gw l G L0 p e R s m args below meth c nL cells slots Q w (pc + 3) lv st) : Gw l G L0 p e R s m args below meth c nL cells slots Q w pc lv (.int x :: st) :=
  fun H locs ls hG hS hl => lv_if_le X.1.1 X.1.2.1 hd ht (fun h => kt h H locs ls hG hS hl) (fun h => kf h H locs ls hG hS hl)
theorem g_icmp_le (X : GC l G L0 p s m args meth c cc nL own) {x y : Int32} {off : Int} {tgt : Nat} (hd : decode cc pc = .ok (.if_icmp .le off, 3)) (ht : (pc : Int) + off = (tgt : Int))
    (kt : x ≤ y → Gw l G L0 p e R s m args below meth c nL cells slots Q w tgt lv st) (kf : ¬ x ≤ y → Gw l G L0 p e R s m args below meth c nL cells slots Q w (pc + 3) lv st) : Gw l G L0 p e R s m args below meth c nL cells slots Q w pc lv (.int y :: .int x :: st) :=
  fun H locs ls hG hS hl => lv_icmp_le X.1.1 X.1.2.1 hd ht (fun h => kt h H locs ls hG hS hl) (fun h => kf h H locs ls hG hS hl)
theorem g_goto (X : GC l G L0 p s m args meth c cc nL own) {off : Int} {tgt : Nat} (hd : decode cc pc = .ok (.goto off, 3)) (ht : (pc : Int) + off = (tgt : Int))
    (kk : Gw l G L0 p e R s m args below meth c nL cells slots Q w tgt lv st) : Gw l G L0 p e R s m args below meth c nL cells slots Q w pc lv st :=
  fun H locs ls hG hS hl => lv_goto X.1.1 X.1.2.1 hd ht (kk H locs ls hG hS hl)
theorem g_acmp_eq (X : GC l G L0 p s m args meth c cc nL own) {rx ry : Option Nat} {off : Int} {tgt : Nat} (hd : decode cc pc = .ok (.if_acmp .eq off, 3)) (ht : (pc : Int) + off = (tgt : Int))
    (kt : rx = ry → Gw l G L0 p e R s m args below meth c nL cells slots Q w tgt lv st) (kf : ¬ rx = ry → Gw l G L0 p e R s m args below meth c nL cells slots Q w (pc + 3) lv st) : Gw l G L0 p e R s m args below meth c nL cells slots Q w pc lv (va_rf ry :: va_rf rx :: st) :=
  fun H locs ls hG hS hl => lv_acmp_eq X.1.1 X.1.2.1 hd ht (fun h => kt h H locs ls hG hS hl) (fun h => kf h H locs ls hG hS hl)
theorem g_acmp_ne (X : GC l G L0 p s m args meth c cc nL own) {rx ry : Option Nat} {off : Int} {tgt : Nat} (hd : decode cc pc = .ok (.if_acmp .ne off, 3)) (ht : (pc : Int) + off = (tgt : Int))
    (kt : ¬ rx = ry → Gw l G L0 p e R s m args below meth c nL cells slots Q w tgt lv st) (kf : rx = ry → Gw l G L0 p e R s m args below meth c nL cells slots Q w (pc + 3) lv st) : Gw l G L0 p e R s m args below meth c nL cells slots Q w pc lv (va_rf ry :: va_rf rx :: st) :=
  fun H locs ls hG hS hl => lv_acmp_ne X.1.1 X.1.2.1 hd ht (fun h => kt h H locs ls hG hS hl) (fun h => kf h H locs ls hG hS hl)
theorem g_ifnull (X : GC l G L0 p s m args meth c cc nL own) {r : Option Nat} {off : Int} {tgt : Nat} (hd : decode cc pc = .ok (.ifnull off, 3)) (ht : (pc : Int) + off = (tgt : Int))
    (kt : r = none → Gw l G L0 p e R s m args below meth c nL cells slots Q w tgt lv st) (kf : ¬ r = none → Gw l G L0 p e R s m args below meth c nL cells slots Q w (pc + 3) lv st) : Gw l G L0 p e R s m args below meth c nL cells slots Q w pc lv (va_rf r :: st) := by
  intro H locs ls hG hS hl
  cases r with
  | none => exact lv_ifnullN X.1.1 X.1.2.1 hd ht (kt rfl H locs ls hG hS hl)
  | some a => exact lv_ifnull X.1.1 X.1.2.1 hd (kf (fun h => nomatch h) H locs ls hG hS hl)
theorem g_ifnonnull (X : GC l G L0 p s m args meth c cc nL own) {r : Option Nat} {off : Int} {tgt : Nat} (hd : decode cc pc = .ok (.ifnonnull off, 3)) (ht : (pc : Int) + off = (tgt : Int))
    (kt : ¬ r = none → Gw l G L0 p e R s m args below meth c nL cells slots Q w tgt lv st) (kf : r = none → Gw l G L0 p e R s m args below meth c nL cells slots Q w (pc + 3) lv st) : Gw l G L0 p e R s m args below meth c nL cells slots Q w pc lv (va_rf r :: st) := by
  intro H locs ls hG hS hl
  cases r with
  | none => exact lv_ifnonnullN X.1.1 X.1.2.1 hd (kf rfl H locs ls hG hS hl)
  | some a => exact lv_ifnonnull X.1.1 X.1.2.1 hd ht (kt (fun h => nomatch h) H locs ls hG hS hl)
theorem g_tableIn (X : GC l G L0 p s m args meth c cc nL own) {dflt lo hi : Int} {offs : Array Int} {len : Nat} {x : Int32} {off : Int} {tgt : Nat} (hd : decode cc pc = .ok (.tableswitch dflt lo hi offs, len)) (h1 : ¬ x.toInt < lo) (h2 : ¬ hi < x.toInt) (ho : offs[(x.toInt - lo).toNat]? = some off) (ht : (pc : Int) + off = (tgt : Int))
    (kk : Gw l G L0 p e R s m args below meth c nL cells slots Q w tgt lv st) : Gw l G L0 p e R s m args below meth c nL cells slots Q w pc lv (.int x :: st) :=
  fun H locs ls hG hS hl => lv_tableIn X.1.1 X.1.2.1 hd h1 h2 ho ht (kk H locs ls hG hS hl)
theorem g_tableEq (X : GC l G L0 p s m args meth c cc nL own) {dflt lo hi : Int} {offs : Array Int} {len : Nat} {x k : Int32} {off : Int} {tgt : Nat} (hx : x = k) (hd : decode cc pc = .ok (.tableswitch dflt lo hi offs, len)) (h1 : ¬ k.toInt < lo) (h2 : ¬ hi < k.toInt) (ho : offs[(k.toInt - lo).toNat]? = some off) (ht : (pc : Int) + off = (tgt : Int))
    (kk : Gw l G L0 p e R s m args below meth c nL cells slots Q w tgt lv st) : Gw l G L0 p e R s m args below meth c nL cells slots Q w pc lv (.int x :: st) := by
  subst hx
  exact g_tableIn X hd h1 h2 ho ht kk
theorem g_tableOut (X : GC l G L0 p s m args meth c cc nL own) {dflt lo hi : Int} {offs : Array Int} {len : Nat} {x : Int32} {tgt : Nat} (hd : decode cc pc = .ok (.tableswitch dflt lo hi offs, len)) (h : x.toInt < lo ∨ hi < x.toInt) (ht : (pc : Int) + dflt = (tgt : Int))
    (kk : Gw l G L0 p e R s m args below meth c nL cells slots Q w tgt lv st) : Gw l G L0 p e R s m args below meth c nL cells slots Q w pc lv (.int x :: st) :=
  fun H locs ls hG hS hl => lv_tableOut X.1.1 X.1.2.1 hd h ht (kk H locs ls hG hS hl)
theorem g_mmin (X : GC l G L0 p s m args meth c cc nL own) {index : Nat} {x y : Int32} (h1 : Cond.methodLink own index Lib.Math.min.name ∈ wAll) (h2 : Cond.static Lib.Math.min.name ∈ wAll) (h3 : Cond.initialized "java/lang/Math" ∈ wAll) (h4 : Cond.code Lib.Math.min.name Lib.Math.min.code 2 (some .int) ∈ wAll) (hf : 1 ≤ R.frames) (hlo : (st.map fun v => v.category).sum + 13 ≤ R.locals) (hc : cells ≤ R.cells) (hs : slots ≤ R.slots) (hd : decode cc pc = .ok (.invokestatic index, 3))
    (kk : ∀ v : Int32, v = (if y < x then y else x) → Gw l G L0 p e R s m args below meth c nL cells slots Q w (pc + 3) lv (.int v :: st)) : Gw l G L0 p e R s m args below meth c nL cells slots Q w pc lv (.int y :: .int x :: st) :=
  fun H locs ls hG hS hl => va_mmin X.1.1 X.1.2.1 (X.1.2.2.1.trans hl.1.symm) X.1.2.2.2.1 (X.1.2.2.2.2 _ h1) (X.1.2.2.2.2 _ h2) (X.1.2.2.2.2 _ h3) (X.1.2.2.2.2 _ h4) hf hlo hc hs hd (kk _ rfl H locs ls hG hS hl)
theorem g_mmax (X : GC l G L0 p s m args meth c cc nL own) {index : Nat} {x y : Int32} (h1 : Cond.methodLink own index Lib.Math.max.name ∈ wAll) (h2 : Cond.static Lib.Math.max.name ∈ wAll) (h3 : Cond.initialized "java/lang/Math" ∈ wAll) (h4 : Cond.code Lib.Math.max.name Lib.Math.max.code 2 (some .int) ∈ wAll) (hf : 1 ≤ R.frames) (hlo : (st.map fun v => v.category).sum + 13 ≤ R.locals) (hc : cells ≤ R.cells) (hs : slots ≤ R.slots) (hd : decode cc pc = .ok (.invokestatic index, 3))
    (kk : ∀ v : Int32, v = (if x < y then y else x) → Gw l G L0 p e R s m args below meth c nL cells slots Q w (pc + 3) lv (.int v :: st)) : Gw l G L0 p e R s m args below meth c nL cells slots Q w pc lv (.int y :: .int x :: st) :=
  fun H locs ls hG hS hl => va_mmax X.1.1 X.1.2.1 (X.1.2.2.1.trans hl.1.symm) X.1.2.2.2.1 (X.1.2.2.2.2 _ h1) (X.1.2.2.2.2 _ h2) (X.1.2.2.2.2 _ h3) (X.1.2.2.2.2 _ h4) hf hlo hc hs hd (kk _ rfl H locs ls hG hS hl)
-- ===== fields
theorem g_get (X : GC l G L0 p s m args meth c cc nL own) {C : String} {T : u_T} {N ci k j index a : Nat} {fs : List Value} {v : Value} (hin : ∀ x ∈ u_ws C T N, x ∈ wAll) (hc : vwCl[ci]? = some (C, T, N)) (h0 : k ≠ 0 ∧ k ≠ 15) (hj : j < N) (hk : w.K a = k) (he : wE G w k a = .inr (ci, fs)) (hv : fs[j]? = some v)
    (ref : String) (hsame : ∀ x, s.fieldFound? (T j).1 (T j).2.1 (T j).2.2.1 = some x → s.fieldFound? ref (T j).2.1 (T j).2.2.1 = some x) (hlink : Cond.fieldLink own index ref (T j).2.1 (T j).2.2.1 ∈ wAll) (hd : decode cc pc = .ok (.getfield index, 3))
    (kk : Gw l G L0 p e R s m args below meth c nL cells slots Q w (pc + 3) lv (v :: st)) : Gw l G L0 p e R s m args below meth c nL cells slots Q w pc lv (.ref a :: st) :=
  fun H locs ls hG hS hl => va_get X.1.1 X.1.2.1 X.1.2.2.2.2 hin X.1.2.2.2.1 X.2.2.2.2.1 (gw_one hG hk h0 he) 0 rfl hc j hj (X.1.2.2.2.2 _ hlink) hsame hv hd (kk H locs ls hG hS hl)
/-- a field is written: any picture w1 that differs there alone -/
theorem g_put (X : GC l G L0 p s m args meth c cc nL own) {C : String} {T : u_T} {N ci k j index a : Nat} {fs : List Value} {v : Value} {ty : FieldType} {w1 : Wd} (ty0 : Nat → FieldType) (hty : ∀ k, k < N → parseFieldDescriptor (T k).2.2.1 = some (ty0 k)) (hnm : ∀ a, a < N → ∀ b, b < N → a ≠ b → (T a).2.1 ≠ (T b).2.1) (hin : ∀ x ∈ u_ws C T N, x ∈ wAll) (hc : vwCl[ci]? = some (C, T, N)) (h0 : k ≠ 0 ∧ k ≠ 15) (hj : j < N) (hk : w.K a = k) (he : wE G w k a = .inr (ci, fs)) (hl1 : j < fs.length)
    (hfin : (T j).2.2.2 = false) (hpd : parseFieldDescriptor (T j).2.2.1 = some ty) (hn : narrow ty v = v) (hfit : fits ty v = true) (ref : String) (hsame : ∀ x, s.fieldFound? (T j).1 (T j).2.1 (T j).2.2.1 = some x → s.fieldFound? ref (T j).2.1 (T j).2.2.1 = some x) (hlink : Cond.fieldLink own index ref (T j).2.1 (T j).2.2.1 ∈ wAll) (hd : decode cc pc = .ok (.putfield index, 3))
    (hK : w1.K = w.K) (hN : w1.N = w.N) (hE : wE G w1 k a = .inr (ci, fs.set j v)) (ho : ∀ b, b ≠ a → wE G w1 (w.K b) b = wE G w (w.K b) b)
    (kk : Gw l G L0 p e R s m args below meth c nL cells slots Q w1 (pc + 3) lv st) : Gw l G L0 p e R s m args below meth c nL cells slots Q w pc lv (v :: .ref a :: st) := by
  intro H locs ls hG hS hl
  obtain ⟨L, hL, hP, hD, h15⟩ := hG
  have haL : a ∈ L := (hL a).mpr (by rw [hk]; exact h0)
  obtain ⟨k0, hk0⟩ := va_pl_get (X := []) (f := fun b => wE G w (w.K b) b) haL
  have hk1 : ([] ++ va_pl L (fun b => wE G w (w.K b) b))[k0]? = some (a, .inr (ci, fs)) := by rw [hk0, hk, he]
  refine va_put X.1.1 X.1.2.1 X.1.2.2.2.2 hin ty0 hty hnm X.1.2.2.2.1 X.2.2.2.2.1 hP hD hS k0 hk1 hc j hj (X.1.2.2.2.2 _ hlink) hsame hfin hpd hn hfit hl1 hd (fun H1 locs1 hP1 hD1 hS1 => ?_)
  exact kk H1 locs1 ls (gw_set hL hD haL hk0 h15 X.2.2.2.1 hS hS1 hP1 hD1 hK hN (by rw [hk]; exact hE.symm) ho) hS1 hl
theorem g_putF (X : GC l G L0 p s m args meth c cc nL own) {C : String} {T : u_T} {N ci k j index a : Nat} {fs : List Value} {v : Value} {ty : FieldType} {w1 : Wd} (ty0 : Nat → FieldType) (hty : ∀ k, k < N → parseFieldDescriptor (T k).2.2.1 = some (ty0 k)) (hnm : ∀ a, a < N → ∀ b, b < N → a ≠ b → (T a).2.1 ≠ (T b).2.1) (hin : ∀ x ∈ u_ws C T N, x ∈ wAll) (hc : vwCl[ci]? = some (C, T, N)) (h0 : k ≠ 0 ∧ k ≠ 15) (hj : j < N) (hk : w.K a = k) (he : wE G w k a = .inr (ci, fs)) (hl1 : j < fs.length)
    (hin2 : meth.name = "<init>") (hdecl : (T j).1 = own) (hfin : (T j).2.2.2 = true) (hpd : parseFieldDescriptor (T j).2.2.1 = some ty) (hn : narrow ty v = v) (hfit : fits ty v = true) (ref : String) (hsame : ∀ x, s.fieldFound? (T j).1 (T j).2.1 (T j).2.2.1 = some x → s.fieldFound? ref (T j).2.1 (T j).2.2.1 = some x) (hlink : Cond.fieldLink own index ref (T j).2.1 (T j).2.2.1 ∈ wAll) (hd : decode cc pc = .ok (.putfield index, 3))
    (hK : w1.K = w.K) (hN : w1.N = w.N) (hE : wE G w1 k a = .inr (ci, fs.set j v)) (ho : ∀ b, b ≠ a → wE G w1 (w.K b) b = wE G w (w.K b) b)
    (kk : Gw l G L0 p e R s m args below meth c nL cells slots Q w1 (pc + 3) lv st) : Gw l G L0 p e R s m args below meth c nL cells slots Q w pc lv (v :: .ref a :: st) := by
  intro H locs ls hG hS hl
  obtain ⟨L, hL, hP, hD, h15⟩ := hG
  have haL : a ∈ L := (hL a).mpr (by rw [hk]; exact h0)
  obtain ⟨k0, hk0⟩ := va_pl_get (X := []) (f := fun b => wE G w (w.K b) b) haL
  have hk1 : ([] ++ va_pl L (fun b => wE G w (w.K b) b))[k0]? = some (a, .inr (ci, fs)) := by rw [hk0, hk, he]
  refine va_putF X.1.1 X.1.2.1 X.1.2.2.2.2 hin ty0 hty hnm X.1.2.2.2.1 X.2.2.2.2.1 hP hD hS k0 hk1 hc j hj (X.1.2.2.2.2 _ hlink) hsame hfin hin2 hdecl hpd hn hfit hl1 hd (fun H1 locs1 hP1 hD1 hS1 => ?_)
  exact kk H1 locs1 ls (gw_set hL hD haL hk0 h15 X.2.2.2.1 hS hS1 hP1 hD1 hK hN (by rw [hk]; exact hE.symm) ho) hS1 hl
-- ===== arrays
theorem nI_in2 {j N : Nat} (h : j < N) (hN : N < 2 ^ 31) : vp_in (nI j) N := vp_in_nI h hN
theorem g_iald (X : GC l G L0 p s m args meth c cc nL own) {a j : Nat} {i : Int32} (hk : w.K a = 11) (hi : i = nI j) (hj : j < w.N a) (hN : w.N a < 2 ^ 31) (hd : decode cc pc = .ok (.iaload, 1))
    (kk : ∀ v : Int32, v = w.A a j → Gw l G L0 p e R s m args below meth c nL cells slots Q w (pc + 1) lv (.int v :: st)) : Gw l G L0 p e R s m args below meth c nL cells slots Q w pc lv (.int i :: .ref a :: st) := by
  intro H locs ls hG hS hl
  subst hi
  refine va_iald X.1.1 X.1.2.1 X.2.2.2.2.1 (gw_one hG hk (by decide) (ee := .inl (G.2.1, w.N a, .inl (w.A a))) rfl) 0 0 rfl rfl (nI_in2 hj hN) hd ?_
  rw [nI_clamp (by omega)]
  exact kk _ rfl H locs ls hG hS hl
theorem g_aald (X : GC l G L0 p s m args meth c cc nL own) {a j : Nat} {i : Int32} (hk : w.K a = 13) (hi : i = nI j) (hj : j < w.N a) (hN : w.N a < 2 ^ 31) (hd : decode cc pc = .ok (.aaload, 1))
    (kk : ∀ v : Option Nat, v = w.O a j → Gw l G L0 p e R s m args below meth c nL cells slots Q w (pc + 1) lv (va_rf v :: st)) : Gw l G L0 p e R s m args below meth c nL cells slots Q w pc lv (.int i :: .ref a :: st) := by
  intro H locs ls hG hS hl
  subst hi
  refine va_aldq X.1.1 X.1.2.1 X.2.2.2.2.1 (gw_one hG hk (by decide) (ee := .inl (G.2.2.2.1, w.N a, .inr (.inr (.inr (.inr (w.O a)))))) rfl) 0 2 rfl rfl (nI_in2 hj hN) hd ?_
  rw [nI_clamp (by omega)]
  exact kk _ rfl H locs ls hG hS hl
theorem gw_upd (w : Wd) (a j : Nat) {v : Int32} : upd (w.A a) j v = (w.setA a j v).A a := by
  funext x
  show _ = up2 w.A a j v a x
  simp [up2, upd]
theorem gw_updL (w : Wd) (a j : Nat) {v : Int64} : vp_updL (w.J a) j v = (w.setJ a j v).J a := by
  funext x
  show _ = up2 w.J a j v a x
  simp [up2, vp_updL]
theorem gw_updO (w : Wd) (a j : Nat) {v : Option Nat} : va_up (w.O a) j v = (w.setO a j v).O a := by
  funext x
  show _ = up2 w.O a j v a x
  simp [up2, va_up]
theorem up2_row {α : Type} (f : Nat → Nat → α) (a j : Nat) (v : α) : up2 f a j v a = fun x => if x = j then v else f a x := by
  funext x; simp [up2]
theorem g_iast (X : GC l G L0 p s m args meth c cc nL own) {a j : Nat} {i v : Int32} (hk : w.K a = 11) (hi : i = nI j) (hj : j < w.N a) (hN : w.N a < 2 ^ 31) (hd : decode cc pc = .ok (.iastore, 1))
    (kk : ∀ w1 : Wd, w1 = w.setA a j v → Gw l G L0 p e R s m args below meth c nL cells slots Q w1 (pc + 1) lv st) : Gw l G L0 p e R s m args below meth c nL cells slots Q w pc lv (.int v :: .int i :: .ref a :: st) := by
  intro H locs ls hG hS hl
  subst hi
  obtain ⟨L, hL, hP, hD, h15⟩ := hG
  have haL : a ∈ L := (hL a).mpr (by rw [hk]; decide)
  obtain ⟨k0, hk0⟩ := va_pl_get (X := []) (f := fun b => wE G w (w.K b) b) haL
  have hk1 : ([] ++ va_pl L (fun b => wE G w (w.K b) b))[k0]? = some (a, .inl (G.2.1, w.N a, .inl (w.A a))) := by rw [hk0, hk]; rfl
  refine va_iast X.1.1 X.1.2.1 X.2.2.2.2.1 hP hD hS k0 0 hk1 rfl (nI_in2 hj hN) hd (fun H1 locs1 hP1 hD1 hS1 => ?_)
  rw [nI_clamp (by omega)] at hP1 hD1
  refine kk _ rfl H1 locs1 ls (gw_set hL hD haL hk0 h15 X.2.2.2.1 hS hS1 hP1 hD1 rfl rfl ?_ (fun b hb => wE_A hb)) hS1 hl
  rw [hk]
  exact congrArg (fun f => (Sum.inl (G.2.1, w.N a, .inl f) : va_E)) (gw_upd _ _ _)
theorem gw_any (X : GC l G L0 p s m args meth c cc nL own) {H : Heap} {a k ci : Nat} {fs : List Value} {r : vw_C} (hG : GWd G L0 w H) (hk : w.K a = k) (h0 : k ≠ 0 ∧ k ≠ 15) (he : wE G w k a = .inr (ci, fs)) (hc : vwCl[ci]? = some r) (hq : (r.1, "java/lang/Object") ∈ gCast) : va_Any "java/lang/Object" s H a :=
  va_rAny X.2.2.2.2.1 (gw_one hG hk h0 he) (q0 := 0) rfl hc (fun comp c0 h1 h2 => by
    obtain ⟨c3, c4, hc3, hc4, hasg⟩ := Cond.castable_spec (X.2.2.2.2.2.2.1 _ hq)
    cases h1.symm.trans hc4
    cases h2.symm.trans hc3
    exact hasg)
theorem gw_any3 (X : GC l G L0 p s m args meth c cc nL own) {H : Heap} {a : Nat} (hG : GWd G L0 w H) (hk : w.K a = 1 ∨ w.K a = 2 ∨ w.K a = 3) : va_Any "java/lang/Object" s H a := by
  rcases hk with hk | hk | hk
  · exact gw_any X hG hk (by decide) (ci := 1) rfl rfl (by decide +kernel)
  · exact gw_any X hG hk (by decide) (ci := 2) rfl rfl (by decide +kernel)
  · exact gw_any X hG hk (by decide) (ci := 3) rfl rfl (by decide +kernel)
theorem g_aast (X : GC l G L0 p s m args meth c cc nL own) {a j : Nat} {i : Int32} {r : Option Nat} (hk : w.K a = 13) (hi : i = nI j) (hj : j < w.N a) (hN : w.N a < 2 ^ 31) (hr : ∀ y, r = some y → w.K y = 1 ∨ w.K y = 2 ∨ w.K y = 3) (hd : decode cc pc = .ok (.aastore, 1))
    (kk : ∀ w1 : Wd, w1 = w.setO a j r → Gw l G L0 p e R s m args below meth c nL cells slots Q w1 (pc + 1) lv st) : Gw l G L0 p e R s m args below meth c nL cells slots Q w pc lv (va_rf r :: .int i :: .ref a :: st) := by
  intro H locs ls hG hS hl
  subst hi
  have hG0 := hG
  obtain ⟨L, hL, hP, hD, h15⟩ := hG
  have haL : a ∈ L := (hL a).mpr (by rw [hk]; decide)
  obtain ⟨k0, hk0⟩ := va_pl_get (X := []) (f := fun b => wE G w (w.K b) b) haL
  have hk1 : ([] ++ va_pl L (fun b => wE G w (w.K b) b))[k0]? = some (a, .inl (G.2.2.2.1, w.N a, .inr (.inr (.inr (.inr (w.O a)))))) := by rw [hk0, hk]; rfl
  cases r with
  | none =>
    refine va_astqN X.1.1 X.1.2.1 X.2.2.2.2.1 hP hD hS k0 2 hk1 rfl (nI_in2 hj hN) hd (fun H1 locs1 hP1 hD1 hS1 => ?_)
    rw [nI_clamp (by omega)] at hP1 hD1
    refine kk _ rfl H1 locs1 ls (gw_set hL hD haL hk0 h15 X.2.2.2.1 hS hS1 hP1 hD1 rfl rfl ?_ (fun b hb => wE_O hb)) hS1 hl
    rw [hk]
    exact congrArg (fun f => (Sum.inl (G.2.2.2.1, w.N a, .inr (.inr (.inr (.inr f)))) : va_E)) (gw_updO _ _ _)
  | some y =>
    refine va_astqM X.1.1 X.1.2.1 X.2.2.2.2.1 hP hD hS k0 2 hk1 rfl (gw_any3 X hG0 (hr y rfl)) (nI_in2 hj hN) hd (fun H1 locs1 hP1 hD1 hS1 => ?_)
    rw [nI_clamp (by omega)] at hP1 hD1
    refine kk _ rfl H1 locs1 ls (gw_set hL hD haL hk0 h15 X.2.2.2.1 hS hS1 hP1 hD1 rfl rfl ?_ (fun b hb => wE_O hb)) hS1 hl
    rw [hk]
    exact congrArg (fun f => (Sum.inl (G.2.2.2.1, w.N a, .inr (.inr (.inr (.inr f)))) : va_E)) (gw_updO _ _ _)
theorem g_acpy (X : GC l G L0 p s m args meth c cc nL own) {a b sp dp n index : Nat} {i j k : Int32} (ha : w.K a = 13) (hb : w.K b = 13) (hi : i = nI sp) (hj : j = nI dp) (hk : k = nI n) (h1 : sp + n ≤ w.N a) (h2 : dp + n ≤ w.N b) (hNa : w.N a < 2 ^ 31) (hNb : w.N b < 2 ^ 31) (hel : ∀ x, x < n → ∀ y, w.O a (sp + x) = some y → w.K y = 1 ∨ w.K y = 2 ∨ w.K y = 3)
    (q1 : Cond.methodLink own index arraycopyName ∈ wAll) (q2 : Cond.native arraycopyName ∈ wAll) (q3 : Cond.static arraycopyName ∈ wAll) (q4 : Cond.initialized "java/lang/System" ∈ wAll) (hf : 1 ≤ R.frames) (hlo : (st.map fun v => v.category).sum + (nativeFrameWords "java/lang/System" "arraycopy" 5 + 11) ≤ R.locals) (hd : decode cc pc = .ok (.invokestatic index, 3))
    (kk : ∀ w1 : Wd, w1 = w.cpO a b sp dp n → Gw l G L0 p e R s m args below meth c nL cells slots Q w1 (pc + 3) lv st) : Gw l G L0 p e R s m args below meth c nL cells slots Q w pc lv (.int k :: .int j :: .ref b :: .int i :: .ref a :: st) := by
  intro H locs ls hG hS hl
  subst hi; subst hj; subst hk
  have hG0 := hG
  obtain ⟨L, hL, hP, hD, h15⟩ := hG
  have haL : a ∈ L := (hL a).mpr (by rw [ha]; decide)
  have hbL : b ∈ L := (hL b).mpr (by rw [hb]; decide)
  obtain ⟨k0, hk0⟩ := va_pl_get (X := []) (f := fun b => wE G w (w.K b) b) haL
  obtain ⟨k1, hk1⟩ := va_pl_get (X := []) (f := fun b => wE G w (w.K b) b) hbL
  have hk0' : ([] ++ va_pl L (fun b => wE G w (w.K b) b))[k0]? = some (a, .inl (G.2.2.2.1, w.N a, .inr (.inr (.inr (.inr (w.O a)))))) := by rw [hk0, ha]; rfl
  have hk1' : ([] ++ va_pl L (fun b => wE G w (w.K b) b))[k1]? = some (b, .inl (G.2.2.2.1, w.N b, .inr (.inr (.inr (.inr (w.O b)))))) := by rw [hk1, hb]; rfl
  have es : (nI sp).toNatClampNeg = sp := nI_clamp (by omega)
  have ed : (nI dp).toNatClampNeg = dp := nI_clamp (by omega)
  have en : (nI n).toNatClampNeg = n := nI_clamp (by omega)
  refine va_copyM X.1.1 X.1.2.1 (X.1.2.2.1.trans hl.1.symm) X.1.2.2.2.1 (X.1.2.2.2.2 _ q1) (X.1.2.2.2.2 _ q2) (X.1.2.2.2.2 _ q3) (X.1.2.2.2.2 _ q4) X.2.2.2.2.1 hP hD hS k0 k1 2 2 hk0' hk1' rfl rfl (nI_pos (by omega)) (nI_pos (by omega)) (nI_pos (by omega)) (by rw [es, en]; exact h1) (by rw [ed, en]; exact h2) (fun x hx y hy => gw_any3 X hG0 (hel x (by rw [en] at hx; exact hx) y (by rw [es] at hy; exact hy))) hf hlo hd (fun H1 locs1 hP1 hD1 hS1 => ?_)
  rw [es, ed, en] at hP1 hD1
  refine kk _ rfl H1 locs1 ls (gw_set hL hD hbL hk1 h15 X.2.2.2.1 hS hS1 hP1 hD1 rfl rfl ?_ (fun b' hb' => wE_C hb')) hS1 hl
  rw [hb]
  show (Sum.inl (G.2.2.2.1, w.N b, .inr (.inr (.inr (.inr (va_cpy (w.O a) (w.O b) sp dp n)))) ) : va_E) = Sum.inl (G.2.2.2.1, w.N b, .inr (.inr (.inr (.inr (va_up w.O b (va_cpy (w.O a) (w.O b) sp dp n) b)))))
  rw [va_up_self]
theorem g_alen (X : GC l G L0 p s m args meth c cc nL own) {a k : Nat} (hk : w.K a = k) (h3 : k = 11 ∨ k = 13 ∨ k = 15) (hd : decode cc pc = .ok (.arraylength, 1))
    (kk : ∀ v : Int32, v = nI (w.N a) → Gw l G L0 p e R s m args below meth c nL cells slots Q w (pc + 1) lv (.int v :: st)) : Gw l G L0 p e R s m args below meth c nL cells slots Q w pc lv (.ref a :: st) := by
  intro H locs ls hG hS hl
  rcases h3 with h3 | h3 | h3 <;> subst h3
  · exact va_alen X.1.1 X.1.2.1 X.2.2.2.2.1 (gw_one hG hk (by decide) (ee := .inl (G.2.1, w.N a, .inl (w.A a))) rfl) 0 0 rfl rfl rfl hd (kk _ rfl H locs ls hG hS hl)
  · exact va_alen X.1.1 X.1.2.1 X.2.2.2.2.1 (gw_one hG hk (by decide) (ee := .inl (G.2.2.2.1, w.N a, .inr (.inr (.inr (.inr (w.O a)))))) rfl) 0 2 rfl rfl rfl hd (kk _ rfl H locs ls hG hS hl)
  · have hG0 := hG
    obtain ⟨L, hL, hP, hD, h0, h1, h2⟩ := hG
    have hae : a = G.2.2.2.2.2 := (h0 a).mp hk
    have hz : w.N a = 0 := by rw [hae]; exact h1
    obtain ⟨cell, q1, q2, q3, q4⟩ := X.2.2.2.2.2.1.2.2.2
    rw [← hae] at q1 q4
    have q5 : H[a]? = some cell := by rw [hS.2.1 a (Array.getElem?_eq_some_iff.mp q1).1 q4]; exact q1
    exact W.alen (n := nI (w.N a)) X.1.1 X.1.2.1 q5 q2 (by rw [q3, hz]; rfl) rfl rfl hd (kk _ rfl H locs ls hG0 hS hl)
-- ===== making
theorem g_new (X : GC l G L0 p s m args meth c cc nL own) {C : String} {T : u_T} {N ci k index : Nat} {fs : List Value} (ty : Nat → FieldType) (hty : ∀ k, k < N → parseFieldDescriptor (T k).2.2.1 = some (ty k)) (hin : ∀ x ∈ u_ws C T N, x ∈ wAll) (hc : vwCl[ci]? = some (C, T, N)) (h0 : k ≠ 0 ∧ k ≠ 15) (hfs : ∀ j, j < N → defaultValue (ty j) = vp_V fs j) (he : ∀ a, wE G (w.new k a) k a = .inr (ci, fs))
    (q1 : Cond.classLink own index C ∈ wAll) (q2 : Cond.instantiable C N ∈ wAll) (q3 : Cond.initialized C ∈ wAll) (hcells : cells + 1 ≤ R.cells) (hslots : slots + N ≤ R.slots) (hd : decode cc pc = .ok (.new index, 3))
    (kk : ∀ a : Nat, w.K a = 0 → ∀ w1 : Wd, w1 = w.new k a → Gw l G L0 p e R s m args below meth c nL (cells + 1) (slots + N) Q w1 (pc + 3) lv (va_rf (some a) :: st)) : Gw l G L0 p e R s m args below meth c nL cells slots Q w pc lv st := by
  intro H locs ls hG hS hl
  obtain ⟨L, hL, hP, hD, h15⟩ := hG
  refine va_new X.1.1 X.1.2.1 X.1.2.2.2.2 hin ty hty X.1.2.2.2.1 (X.1.2.2.2.2 _ q1) (X.1.2.2.2.2 _ q2) (X.1.2.2.2.2 _ q3) X.2.2.2.2.1 hP hD hS (fun q h => Nat.le_trans X.2.2.2.1 h) hc hfs hcells hslots hd (fun a H1 hP1 hD1 hS1 => ?_)
  obtain ⟨haL, haA⟩ := gw_new hD1
  have haK : w.K a = 0 := by
    rcases Nat.decEq (w.K a) 0 with h | h
    · exfalso
      rcases Nat.decEq (w.K a) 15 with h2 | h2
      · exact haL ((hL a).mpr ⟨h, h2⟩)
      · have h3 := (h15.1 a).mp h2
        have h4 := h15.2.2
        have h5 : L0 ≤ a := haA
        omega
    · exact h
  exact kk a haK _ rfl H1 locs ls (gw_push hL haL h15 X.2.2.2.1 hS hS1 haA hP1 hD1 h0 (fun b => rfl) (fun b hb => rfl) (he a).symm (fun b hb => wE_n hb)) hS1 hl
theorem g_newA (X : GC l G L0 p s m args meth c cc nL own) {atype : ArrayType} {ty : FieldType} {k t0 n : Nat} {i : Int32} {cA : ClassId} {a0 : vp_A} (q1 : Cond.arrayClass (newarray.typeOf atype) ∈ wAll) (hty : newarray.typeOf atype = ty) (ht : (gTys G)[t0]? = some (cA, ty)) (hobj : ∀ C, ty ≠ .object C) (h0 : k ≠ 0 ∧ k ≠ 15) (ha0 : ∀ cA : ClassId, vp_cell cA a0 = arrV cA n (fun _ => defaultValue ty)) (hi : i = nI n) (hn : n ≤ 65536) (hby : componentBytes ty ≤ 8) (he : ∀ a, wE G (w.newA k a n) k a = .inl (cA, a0)) (hcells : cells + 1 ≤ R.cells) (hslots : slots + n ≤ R.slots) (hd : decode cc pc = .ok (.newarray atype, 2))
    (kk : ∀ a : Nat, w.K a = 0 → ∀ w1 : Wd, w1 = w.newA k a n → Gw l G L0 p e R s m args below meth c nL (cells + 1) (slots + n) Q w1 (pc + 2) lv (va_rf (some a) :: st)) : Gw l G L0 p e R s m args below meth c nL cells slots Q w pc lv (.int i :: st) := by
  intro H locs ls hG hS hl
  subst hi
  obtain ⟨L, hL, hP, hD, h15⟩ := hG
  refine va_newa X.1.1 X.1.2.1 (X.1.2.2.2.2 _ q1) hty X.2.2.2.2.1 hP hD hS (fun q h => Nat.le_trans X.2.2.2.1 h) ha0 (nI_pos (by omega)) (nI_clamp (by omega)) (Nat.le_trans (Nat.mul_le_mul hn hby) (by decide)) hcells hslots hd (fun a cA2 H1 hK1 hP1 hD1 hS1 => ?_)
  have e1 : cA2 = cA := by
    have h1 := (hK1.2 (gTys G).length (cA2, ty) (by simp)).2
    have h2 := (X.2.2.2.2.1.2 t0 _ ht).2
    cases ty <;> first | exact Option.some.inj (h1.symm.trans h2) | exact absurd rfl (hobj _)
  subst e1
  obtain ⟨haL, haA⟩ := gw_new hD1
  have haK : w.K a = 0 := by
    rcases Nat.decEq (w.K a) 0 with h | h
    · exfalso
      rcases Nat.decEq (w.K a) 15 with h2 | h2
      · exact haL ((hL a).mpr ⟨h, h2⟩)
      · have h3 := (h15.1 a).mp h2
        have h4 := h15.2.2
        have h5 : L0 ≤ a := haA
        omega
    · exact h
  exact kk a haK _ rfl H1 locs ls (gw_push hL haL h15 X.2.2.2.1 hS hS1 haA hP1 hD1 h0 (fun b => rfl) (fun b hb => va_up_ne _ _ hb) (he a).symm (fun b hb => wE_nA hb)) hS1 hl
theorem g_newO (X : GC l G L0 p s m args meth c cc nL own) {n index : Nat} {i : Int32} (q1 : Cond.classLink own index "java/lang/Object" ∈ wAll) (hi : i = nI n) (hn : n ≤ 65536) (hcells : cells + 1 ≤ R.cells) (hslots : slots + n ≤ R.slots) (hd : decode cc pc = .ok (.anewarray index, 3))
    (kk : ∀ a : Nat, w.K a = 0 → ∀ w1 : Wd, w1 = w.newA 13 a n → Gw l G L0 p e R s m args below meth c nL (cells + 1) (slots + n) Q w1 (pc + 3) lv (va_rf (some a) :: st)) : Gw l G L0 p e R s m args below meth c nL cells slots Q w pc lv (.int i :: st) := by
  intro H locs ls hG hS hl
  subst hi
  obtain ⟨L, hL, hP, hD, h15⟩ := hG
  refine va_newq X.1.1 X.1.2.1 X.1.2.2.2.1 (X.1.2.2.2.2 _ q1) X.2.2.2.2.2.2.2.2.1 X.2.2.2.2.1 hP hD hS (fun q h => Nat.le_trans X.2.2.2.1 h) (nI_pos (by omega)) (nI_clamp (by omega)) (by omega) hcells hslots hd (fun a cA2 H1 hK1 hP1 hD1 hS1 => ?_)
  have e1 : cA2 = G.2.2.2.1 := by
    obtain ⟨-, -, -, -, -, h1⟩ := (hK1.2 (gTys G).length (cA2, .object "java/lang/Object") (by simp)).2
    obtain ⟨-, -, -, -, -, h2⟩ := (X.2.2.2.2.1.2 2 _ rfl).2
    exact Option.some.inj (h1.symm.trans h2)
  subst e1
  obtain ⟨haL, haA⟩ := gw_new hD1
  have haK : w.K a = 0 := by
    rcases Nat.decEq (w.K a) 0 with h | h
    · exfalso
      rcases Nat.decEq (w.K a) 15 with h2 | h2
      · exact haL ((hL a).mpr ⟨h, h2⟩)
      · have h3 := (h15.1 a).mp h2
        have h4 := h15.2.2
        have h5 : L0 ≤ a := haA
        omega
    · exact h
  refine kk a haK _ rfl H1 locs ls (gw_push hL haL h15 X.2.2.2.1 hS hS1 haA hP1 hD1 (k := 13) (by decide) (fun b => rfl) (fun b hb => va_up_ne _ _ hb) ?_ (fun b hb => wE_nA hb)) hS1 hl
  show (Sum.inl (G.2.2.2.1, n, .inr (.inr (.inr (.inr (fun _ => none))))) : va_E) = Sum.inl (G.2.2.2.1, va_up w.N a n a, .inr (.inr (.inr (.inr (fun j => if a = a then none else w.O a j)))))
  rw [va_up_self]
  simp
/-- ArrayList's empty row -/
theorem g_empty (X : GC l G L0 p s m args meth c cc nL own) {index : Nat} (q1 : Cond.fieldLink own index "java/util/ArrayList" "DEFAULTCAPACITY_EMPTY_ELEMENTDATA" "[Ljava/lang/Object;" ∈ wAll) (hd : decode cc pc = .ok (.getstatic index, 3))
    (kk : ∀ a : Nat, w.K a = 15 → w.N a = 0 → (∀ b, w.K b = 15 → b = a) → Gw l G L0 p e R s m args below meth c nL cells slots Q w (pc + 3) lv (va_rf (some a) :: st)) : Gw l G L0 p e R s m args below meth c nL cells slots Q w pc lv st := by
  intro H locs ls hG hS hl
  have hG0 := hG
  obtain ⟨L, hL, hP, hD, h0, h1, h2⟩ := hG
  exact va_gets X.1.1 X.1.2.1 X.2.2.2.2.2.1.2.2.1 hS X.1.2.2.2.1 (X.1.2.2.2.2 _ q1) (fun _ h => h) hd (kk _ ((h0 _).mpr rfl) h1 (fun b hb => (h0 b).mp hb) H locs ls hG0 hS hl)
theorem g_castS (X : GC l G L0 p s m args meth c cc nL own) {C : String} {T : u_T} {N ci k index : Nat} {r : Option Nat} (hc : vwCl[ci]? = some (C, T, N)) (h0 : k ≠ 0 ∧ k ≠ 15) (he : ∀ a, ∃ fs, wE G w k a = .inr (ci, fs)) (hr : ∀ a, r = some a → w.K a = k) (q1 : Cond.classLink own index C ∈ wAll) (hd : decode cc pc = .ok (.checkcast index, 3))
    (kk : Gw l G L0 p e R s m args below meth c nL cells slots Q w (pc + 3) lv (va_rf r :: st)) : Gw l G L0 p e R s m args below meth c nL cells slots Q w pc lv (va_rf r :: st) := by
  intro H locs ls hG hS hl
  cases r with
  | none => exact lv_castN X.1.1 X.1.2.1 hd (kk H locs ls hG hS hl)
  | some a =>
    obtain ⟨fs, he⟩ := he a
    exact va_castS X.1.1 X.1.2.1 X.1.2.2.2.1 (X.1.2.2.2.2 _ q1) (X.2.2.2.2.1.1 ci _ hc).2 (va_recv X.2.2.2.2.1 (gw_one hG (hr a rfl) h0 he) (q0 := 0) hc rfl) hd (kk H locs ls hG hS hl)
theorem g_lcmp (X : GC l G L0 p s m args meth c cc nL own) {x y : Int64} (hd : decode cc pc = .ok (.lcmp, 1))
    (kk : Gw l G L0 p e R s m args below meth c nL cells slots Q w (pc + 1) lv (.int (lg_cmp x y) :: st)) : Gw l G L0 p e R s m args below meth c nL cells slots Q w pc lv (.long y :: .long x :: st) :=
  fun H locs ls hG hS hl => W.lcmp X.1.1 X.1.2.1 hd (kk H locs ls hG hS hl)
end GR
