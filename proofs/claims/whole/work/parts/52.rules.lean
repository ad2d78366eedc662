/-! ===== the words that all methods share ===== -/
def gw : List Cond := lw_tbl.filter goodWord
def isNest : Cond → Bool
  | .methodLinkNest _ _ _ _ => true
  | _ => false
def nestW : List Cond := lw_tbl.filter isNest
theorem gw_good : ∀ w ∈ gw, w ∈ lw_tbl ∧ ((w.onTables && w.keeps) = true ∨ ∃ ty, w = .arrayClass ty) := fun w h => ⟨(List.mem_filter.mp h).1, good_of_word (List.mem_filter.mp h).2⟩
def mws (y : MethodName) (cc : ByteArray) (nL : Nat) (ret : Option FieldType) : List Cond := Cond.code y cc nL ret :: gw
theorem mws_good {y y' : MethodName} {cc cc' : ByteArray} {nL nL' : Nat} {ret ret' : Option FieldType} (h : Cond.code y' cc' nL' ret' ∈ gw) : GoodIn (mws y cc nL ret) (mws y' cc' nL' ret') := by
  intro w hw
  rcases List.mem_cons.mp hw with rfl | hw
  · exact ⟨List.mem_cons_of_mem _ h, (gw_good _ h).2⟩
  · exact ⟨List.mem_cons_of_mem _ hw, (gw_good _ hw).2⟩
/-- where the nine text constants of the class stand in its pool, and their texts -/
def sIx : List Nat := [40, 77, 79, 81, 83, 53, 59, 69, 71]
def sTx : List String := ["never", "way", "state", "kind", "after", "most", "in", "always", "from"]
/-! ===== what holds of the tables all the time ===== -/
def AOA (U : State) : Prop := (Cond.arrayOver (.array .int)).before #[] U = true
def KK (G : GL) (U : State) : Prop := va_K (gD G) vwCl (tysOf G) U ∧ (∀ w ∈ nestW, va_Nw w U) ∧ (va_AO RX3 U ∧ va_AO RX5 U ∧ va_AO RX6 U ∧ AOA U) ∧ ∀ i, i < 9 → vk_R RX2 (sIx.getD i 0) (sTx.getD i "") (gK G i) U
/-- what holds of old cells: the text constants, two statics -/
def EX (G : GL) (U : State) (H : Heap) : Prop := vk_S 9 sLens sByts (gK G) (gVc G) (gAd G) U H ∧ va_Z "java/lang/String" "COMPACT_STRINGS" "Z" (.int 1) (gAd G) U H ∧ ∃ v : Value, v.category = 1 ∧ va_Z "jdk/internal/util/Preconditions" "SIOOBE_FORMATTER" "Ljava/util/function/BiFunction;" v (gAd G) U H
theorem EX.moved {G : GL} {u U : State} {H : Heap} (hvm : u.vm.Alike U.vm) (h : EX G u H) : EX G U H := by
  obtain ⟨h1, h2, v, h4, h3⟩ := h
  exact ⟨h1.moved hvm, h2.moved hvm, v, h4, h3.moved hvm⟩
theorem EX.kept {G : GL} {U : State} {H H1 : Heap} (h : EX G U H) (hq : ∀ a : Nat, a < H.size → ¬ gAd G a → H1[a]? = H[a]?) : EX G U H1 := by
  obtain ⟨h1, h2, v, h4, h3⟩ := h
  exact ⟨h1.kept hq, h2.kept hq, v, h4, h3.kept hq⟩
theorem AOA.moved {u U : State} (hvm : u.vm.Alike U.vm) (h : AOA u) : AOA U := by
  obtain ⟨comp, c, k, h1, h2, h3, h4, h5⟩ := arrayOver_specB h
  obtain ⟨k', hk', he⟩ := hvm.2.2 _ _ h3
  have hi : (U.vm.classes.findIdx? fun (x : Class) => match x.kind with | .array component _ => component == comp | _ => false) = some c := by
    refine (va_idx_bare U.vm comp).symm.trans ?_
    first | rw [hvm.bare_eq] | rw [← hvm.bare_eq]
    exact (va_idx_bare u.vm comp).trans h2
  have hkind : k'.kind = .array comp (.array .int) := by rw [he]; exact h4
  have f1 : U.vm.findClass (FieldType.array .int).toString = some comp := by rw [hvm.findClass]; exact h1
  have f2 : U.vm.findClass ("[" ++ (FieldType.array .int).toString) = some c := by rw [hvm.findClass]; exact h5
  unfold AOA Cond.before Cond.holds
  simp only [Cond.value]
  rw [f1, Option.bind_some]
  refine (congrArg (fun o : Option Nat => (o.bind (fun c => (U.vm.classes[c]?).map fun (k : Class) => match k.kind with | .array _ ty => decide (ty = FieldType.array .int) && decide (U.vm.findClass ("[" ++ (FieldType.array .int).toString) = some c) | _ => false) == some true)) hi).trans ?_
  simp [hk', hkind, f2]
abbrev CX : Type := Program × Launch × Env × Room × State × MethodId × Array Value × List Frame × Method × Code × (State → Prop)
abbrev xP (X : CX) : Program := X.1
abbrev xL (X : CX) : Launch := X.2.1
abbrev xE (X : CX) : Env := X.2.2.1
abbrev xR (X : CX) : Room := X.2.2.2.1
abbrev xS (X : CX) : State := X.2.2.2.2.1
abbrev xM (X : CX) : MethodId := X.2.2.2.2.2.1
abbrev xA (X : CX) : Array Value := X.2.2.2.2.2.2.1
abbrev xB (X : CX) : List Frame := X.2.2.2.2.2.2.2.1
abbrev xT (X : CX) : Method := X.2.2.2.2.2.2.2.2.1
abbrev xC (X : CX) : Code := X.2.2.2.2.2.2.2.2.2.1
abbrev xQ (X : CX) : State → Prop := X.2.2.2.2.2.2.2.2.2.2
/-- the machine inside a method: its code, its words, its room -/
def Ctx (G : GL) (X : CX) (cc : ByteArray) (nL : Nat) (own : String) (rm : Room) : Prop :=
  (xP X).tables.exec = Jvm.exec ∧ (xC X).code = cc ∧ (xC X).maxLocals = nL ∧ (xS X).vm.findClass own = some (xM X).cls ∧ (∀ w ∈ gw, w.before (xA X) (xS X) = true) ∧ KK G (xS X) ∧ xR X = rm ∧ gZ G ≤ (xS X).heap.size ∧ EX G (xS X) (xS X).heap
/-- from this frame, with this memory, the machine comes to Q -/
def AW (G : GL) (nL : Nat) (X : CX) (cells slots pc : Nat) (L : List (Nat × Value)) (st : List Value) (μ : Mem) : Prop :=
  ∀ (H : Heap) (locs : List Loc) (ls : Array Slot), lv_has ls nL L → Wd G μ H → va_S (gAd G) (xS X).heap H locs → W (xP X) (xL X) (xE X) (xR X) (xS X) (xM X) (xA X) (xB X) (xT X) (xC X) H locs cells slots (xQ X) (F0 (xM X) pc ls st)
section AWR
variable {G : GL} {X : CX} {cc : ByteArray} {nL : Nat} {own : String} {rm : Room} {cells slots pc : Nat} {L L' : List (Nat × Value)} {st : List Value} {μ μ' : Mem}
theorem aw_sub (ks : List Nat) (h : lv_pick L ks = L') (k : AW G nL X cells slots pc L' st μ) : AW G nL X cells slots pc L st μ := fun H locs ls a b e => k H locs ls (lv_sub a ks h) b e
theorem aw_topi {x y : Int32} (h : x = y) (k : AW G nL X cells slots pc L (.int y :: st) μ) : AW G nL X cells slots pc L (.int x :: st) μ := h ▸ k
theorem aw_topj {x y : Int64} (h : x = y) (k : AW G nL X cells slots pc L (.long y :: st) μ) : AW G nL X cells slots pc L (.long x :: st) μ := h ▸ k
theorem aw_iconst (C : Ctx G X cc nL own rm) {n : Int} (v : Int32) (d : decode cc pc = .ok (.iconst n, 1)) (hv : Int32.ofInt n = v) (k : AW G nL X cells slots (pc + 1) L (.int v :: st) μ) : AW G nL X cells slots pc L st μ := fun H locs ls a b e => lv_iconst C.1 C.2.1 d hv (k H locs ls a b e)
theorem aw_bipush (C : Ctx G X cc nL own rm) {n : Int} (v : Int32) (d : decode cc pc = .ok (.bipush n, 2)) (hv : (Int8.ofInt n).toInt32 = v) (k : AW G nL X cells slots (pc + 2) L (.int v :: st) μ) : AW G nL X cells slots pc L st μ := fun H locs ls a b e => lv_bipush C.1 C.2.1 d hv (k H locs ls a b e)
theorem aw_sipush (C : Ctx G X cc nL own rm) {n : Int} (v : Int32) (d : decode cc pc = .ok (.sipush n, 3)) (hv : (Int16.ofInt n).toInt32 = v) (k : AW G nL X cells slots (pc + 3) L (.int v :: st) μ) : AW G nL X cells slots pc L st μ := fun H locs ls a b e => lv_sipush C.1 C.2.1 d hv (k H locs ls a b e)
theorem aw_lconst (C : Ctx G X cc nL own rm) {n : Fin 2} (v : Int64) (d : decode cc pc = .ok (.lconst n, 1)) (hv : Int64.ofNat (n : Nat) = v) (k : AW G nL X cells slots (pc + 1) L (.long v :: st) μ) : AW G nL X cells slots pc L st μ := fun H locs ls a b e => lv_lconst C.1 C.2.1 d hv (k H locs ls a b e)
theorem aw_ldc (C : Ctx G X cc nL own rm) {i : Nat} {v : Int32} (hw : Cond.constant own i v ∈ gw) (d : decode cc pc = .ok (.ldc i, 2)) (k : AW G nL X cells slots (pc + 2) L (.int v :: st) μ) : AW G nL X cells slots pc L st μ := fun H locs ls a b e => lv_ldc C.1 C.2.1 C.2.2.2.1 (C.2.2.2.2.1 _ hw) d (k H locs ls a b e)
theorem aw_ldcw (C : Ctx G X cc nL own rm) {i : Nat} {v : Int32} (hw : Cond.constant own i v ∈ gw) (d : decode cc pc = .ok (.ldc_w i, 3)) (k : AW G nL X cells slots (pc + 3) L (.int v :: st) μ) : AW G nL X cells slots pc L st μ := fun H locs ls a b e => lv_ldcw C.1 C.2.1 C.2.2.2.1 (C.2.2.2.2.1 _ hw) d (k H locs ls a b e)
theorem aw_ldc2 (C : Ctx G X cc nL own rm) {i : Nat} {v : Int64} (hw : Cond.constantLong own i v ∈ gw) (d : decode cc pc = .ok (.ldc2_w i, 3)) (k : AW G nL X cells slots (pc + 3) L (.long v :: st) μ) : AW G nL X cells slots pc L st μ := fun H locs ls a b e => lv_ldc2 C.1 C.2.1 C.2.2.2.1 (C.2.2.2.2.1 _ hw) d (k H locs ls a b e)
theorem aw_iload_n (C : Ctx G X cc nL own rm) {n : Fin 4} {i : Nat} {x : Int32} (j : Nat) (d : decode cc pc = .ok (.iload_n n, 1)) (hi : (n : Nat) = i) (hj : L[j]? = some (i, .int x)) (k : AW G nL X cells slots (pc + 1) L (.int x :: st) μ) : AW G nL X cells slots pc L st μ := fun H locs ls a b e => lv_iload_n C.1 C.2.1 d hi (lv_at a j hj) (k H locs ls a b e)
theorem aw_iload (C : Ctx G X cc nL own rm) {i : Nat} {x : Int32} (j : Nat) (d : decode cc pc = .ok (.iload i, 2)) (hj : L[j]? = some (i, .int x)) (k : AW G nL X cells slots (pc + 2) L (.int x :: st) μ) : AW G nL X cells slots pc L st μ := fun H locs ls a b e => lv_iload C.1 C.2.1 d (lv_at a j hj) (k H locs ls a b e)
theorem aw_lload_n (C : Ctx G X cc nL own rm) {n : Fin 4} {i : Nat} {x : Int64} (j : Nat) (d : decode cc pc = .ok (.lload_n n, 1)) (hi : (n : Nat) = i) (hj : L[j]? = some (i, .long x)) (k : AW G nL X cells slots (pc + 1) L (.long x :: st) μ) : AW G nL X cells slots pc L st μ := fun H locs ls a b e => lv_lload_n C.1 C.2.1 d hi (lv_at a j hj) (k H locs ls a b e)
theorem aw_lload (C : Ctx G X cc nL own rm) {i : Nat} {x : Int64} (j : Nat) (d : decode cc pc = .ok (.lload i, 2)) (hj : L[j]? = some (i, .long x)) (k : AW G nL X cells slots (pc + 2) L (.long x :: st) μ) : AW G nL X cells slots pc L st μ := fun H locs ls a b e => lv_lload C.1 C.2.1 d (lv_at a j hj) (k H locs ls a b e)
theorem aw_aload_n (C : Ctx G X cc nL own rm) {n : Fin 4} {i : Nat} {x : Nat} (j : Nat) (d : decode cc pc = .ok (.aload_n n, 1)) (hi : (n : Nat) = i) (hj : L[j]? = some (i, .ref x)) (k : AW G nL X cells slots (pc + 1) L (.ref x :: st) μ) : AW G nL X cells slots pc L st μ := fun H locs ls a b e => lv_aload_n C.1 C.2.1 d hi (lv_at a j hj) (k H locs ls a b e)
theorem aw_aload (C : Ctx G X cc nL own rm) {i : Nat} {x : Nat} (j : Nat) (d : decode cc pc = .ok (.aload i, 2)) (hj : L[j]? = some (i, .ref x)) (k : AW G nL X cells slots (pc + 2) L (.ref x :: st) μ) : AW G nL X cells slots pc L st μ := fun H locs ls a b e => lv_aload C.1 C.2.1 d (lv_at a j hj) (k H locs ls a b e)
theorem aw_istore_n (C : Ctx G X cc nL own rm) {n : Fin 4} {i : Nat} {x : Int32} (L' : List (Nat × Value)) (d : decode cc pc = .ok (.istore_n n, 1)) (hi : (n : Nat) = i) (hn : i < nL) (hl : (i, Value.int x) :: L.filter (fun q => !(q.1 == i) && !(q.1 + 1 == i && q.2.category == 2)) = L') (k : AW G nL X cells slots (pc + 1) L' st μ) : AW G nL X cells slots pc L (.int x :: st) μ := fun H locs ls a b e => lv_istore_n C.1 C.2.1 d hi a hn hl (fun ls' a' => k H locs ls' a' b e)
theorem aw_istore (C : Ctx G X cc nL own rm) {i : Nat} {x : Int32} (L' : List (Nat × Value)) (d : decode cc pc = .ok (.istore i, 2)) (hn : i < nL) (hl : (i, Value.int x) :: L.filter (fun q => !(q.1 == i) && !(q.1 + 1 == i && q.2.category == 2)) = L') (k : AW G nL X cells slots (pc + 2) L' st μ) : AW G nL X cells slots pc L (.int x :: st) μ := fun H locs ls a b e => lv_istore C.1 C.2.1 d a hn hl (fun ls' a' => k H locs ls' a' b e)
theorem aw_lstore_n (C : Ctx G X cc nL own rm) {n : Fin 4} {i : Nat} {x : Int64} (L' : List (Nat × Value)) (d : decode cc pc = .ok (.lstore_n n, 1)) (hi : (n : Nat) = i) (hn : i + 1 < nL) (hl : (i, Value.long x) :: L.filter (fun q => !(q.1 == i) && (!(q.1 == i + 1) && !(q.1 + 1 == i && q.2.category == 2))) = L') (k : AW G nL X cells slots (pc + 1) L' st μ) : AW G nL X cells slots pc L (.long x :: st) μ := fun H locs ls a b e => lv_lstore_n C.1 C.2.1 d hi a hn hl (fun ls' a' => k H locs ls' a' b e)
theorem aw_lstore (C : Ctx G X cc nL own rm) {i : Nat} {x : Int64} (L' : List (Nat × Value)) (d : decode cc pc = .ok (.lstore i, 2)) (hn : i + 1 < nL) (hl : (i, Value.long x) :: L.filter (fun q => !(q.1 == i) && (!(q.1 == i + 1) && !(q.1 + 1 == i && q.2.category == 2))) = L') (k : AW G nL X cells slots (pc + 2) L' st μ) : AW G nL X cells slots pc L (.long x :: st) μ := fun H locs ls a b e => lv_lstore C.1 C.2.1 d a hn hl (fun ls' a' => k H locs ls' a' b e)
theorem aw_astore_n (C : Ctx G X cc nL own rm) {n : Fin 4} {i : Nat} {x : Nat} (L' : List (Nat × Value)) (d : decode cc pc = .ok (.astore_n n, 1)) (hi : (n : Nat) = i) (hn : i < nL) (hl : (i, Value.ref x) :: L.filter (fun q => !(q.1 == i) && !(q.1 + 1 == i && q.2.category == 2)) = L') (k : AW G nL X cells slots (pc + 1) L' st μ) : AW G nL X cells slots pc L (.ref x :: st) μ := fun H locs ls a b e => lv_astore_n C.1 C.2.1 d hi a hn hl (fun ls' a' => k H locs ls' a' b e)
theorem aw_astore (C : Ctx G X cc nL own rm) {i : Nat} {x : Nat} (L' : List (Nat × Value)) (d : decode cc pc = .ok (.astore i, 2)) (hn : i < nL) (hl : (i, Value.ref x) :: L.filter (fun q => !(q.1 == i) && !(q.1 + 1 == i && q.2.category == 2)) = L') (k : AW G nL X cells slots (pc + 2) L' st μ) : AW G nL X cells slots pc L (.ref x :: st) μ := fun H locs ls a b e => lv_astore C.1 C.2.1 d a hn hl (fun ls' a' => k H locs ls' a' b e)
theorem aw_iinc (C : Ctx G X cc nL own rm) {i : Nat} {n : Int} {x : Int32} (v : Int32) (j : Nat) (L' : List (Nat × Value)) (d : decode cc pc = .ok (.iinc i n, 3)) (hj : L[j]? = some (i, .int x)) (hv : x + Int32.ofInt n = v) (hn : i < nL) (hl : (i, Value.int v) :: L.filter (fun q => !(q.1 == i) && !(q.1 + 1 == i && q.2.category == 2)) = L') (k : AW G nL X cells slots (pc + 3) L' st μ) : AW G nL X cells slots pc L st μ := fun H locs ls a b e => lv_iinc C.1 C.2.1 d a hj hv hn hl (fun ls' a' => k H locs ls' a' b e)
theorem aw_iadd (C : Ctx G X cc nL own rm) {x y : Int32} (d : decode cc pc = .ok (.iadd, 1)) (k : AW G nL X cells slots (pc + 1) L (.int (x + y) :: st) μ) : AW G nL X cells slots pc L (.int y :: .int x :: st) μ := fun H locs ls a b e => lv_iadd C.1 C.2.1 d (k H locs ls a b e)
theorem aw_isub (C : Ctx G X cc nL own rm) {x y : Int32} (d : decode cc pc = .ok (.isub, 1)) (k : AW G nL X cells slots (pc + 1) L (.int (x - y) :: st) μ) : AW G nL X cells slots pc L (.int y :: .int x :: st) μ := fun H locs ls a b e => lv_isub C.1 C.2.1 d (k H locs ls a b e)
theorem aw_imul (C : Ctx G X cc nL own rm) {x y : Int32} (d : decode cc pc = .ok (.imul, 1)) (k : AW G nL X cells slots (pc + 1) L (.int (x * y) :: st) μ) : AW G nL X cells slots pc L (.int y :: .int x :: st) μ := fun H locs ls a b e => lv_imul C.1 C.2.1 d (k H locs ls a b e)
theorem aw_iand (C : Ctx G X cc nL own rm) {x y : Int32} (d : decode cc pc = .ok (.iand, 1)) (k : AW G nL X cells slots (pc + 1) L (.int (x &&& y) :: st) μ) : AW G nL X cells slots pc L (.int y :: .int x :: st) μ := fun H locs ls a b e => lv_iand C.1 C.2.1 d (k H locs ls a b e)
theorem aw_ior (C : Ctx G X cc nL own rm) {x y : Int32} (d : decode cc pc = .ok (.ior, 1)) (k : AW G nL X cells slots (pc + 1) L (.int (x ||| y) :: st) μ) : AW G nL X cells slots pc L (.int y :: .int x :: st) μ := fun H locs ls a b e => lv_ior C.1 C.2.1 d (k H locs ls a b e)
theorem aw_ixor (C : Ctx G X cc nL own rm) {x y : Int32} (d : decode cc pc = .ok (.ixor, 1)) (k : AW G nL X cells slots (pc + 1) L (.int (x ^^^ y) :: st) μ) : AW G nL X cells slots pc L (.int y :: .int x :: st) μ := fun H locs ls a b e => lv_ixor C.1 C.2.1 d (k H locs ls a b e)
theorem aw_ishl (C : Ctx G X cc nL own rm) {x y : Int32} (d : decode cc pc = .ok (.ishl, 1)) (k : AW G nL X cells slots (pc + 1) L (.int (x <<< (y &&& 31)) :: st) μ) : AW G nL X cells slots pc L (.int y :: .int x :: st) μ := fun H locs ls a b e => lv_ishl C.1 C.2.1 d (k H locs ls a b e)
theorem aw_ishr (C : Ctx G X cc nL own rm) {x y : Int32} (d : decode cc pc = .ok (.ishr, 1)) (k : AW G nL X cells slots (pc + 1) L (.int (x >>> (y &&& 31)) :: st) μ) : AW G nL X cells slots pc L (.int y :: .int x :: st) μ := fun H locs ls a b e => lv_ishr C.1 C.2.1 d (k H locs ls a b e)
theorem aw_iushr (C : Ctx G X cc nL own rm) {x y : Int32} (d : decode cc pc = .ok (.iushr, 1)) (k : AW G nL X cells slots (pc + 1) L (.int ((x.toUInt32 >>> (y.toUInt32 &&& Int32.toUInt32 31)).toInt32) :: st) μ) : AW G nL X cells slots pc L (.int y :: .int x :: st) μ := fun H locs ls a b e => lv_iushr C.1 C.2.1 d (by first | exact rfl | exact (k H locs ls a b e)) (k H locs ls a b e)
theorem aw_ladd (C : Ctx G X cc nL own rm) {x y : Int64} (d : decode cc pc = .ok (.ladd, 1)) (k : AW G nL X cells slots (pc + 1) L (.long (x + y) :: st) μ) : AW G nL X cells slots pc L (.long y :: .long x :: st) μ := fun H locs ls a b e => lv_ladd C.1 C.2.1 d (k H locs ls a b e)
theorem aw_lsub (C : Ctx G X cc nL own rm) {x y : Int64} (d : decode cc pc = .ok (.lsub, 1)) (k : AW G nL X cells slots (pc + 1) L (.long (x - y) :: st) μ) : AW G nL X cells slots pc L (.long y :: .long x :: st) μ := fun H locs ls a b e => lv_lsub C.1 C.2.1 d (k H locs ls a b e)
theorem aw_lmul (C : Ctx G X cc nL own rm) {x y : Int64} (d : decode cc pc = .ok (.lmul, 1)) (k : AW G nL X cells slots (pc + 1) L (.long (x * y) :: st) μ) : AW G nL X cells slots pc L (.long y :: .long x :: st) μ := fun H locs ls a b e => lv_lmul C.1 C.2.1 d (k H locs ls a b e)
theorem aw_land (C : Ctx G X cc nL own rm) {x y : Int64} (d : decode cc pc = .ok (.land, 1)) (k : AW G nL X cells slots (pc + 1) L (.long (x &&& y) :: st) μ) : AW G nL X cells slots pc L (.long y :: .long x :: st) μ := fun H locs ls a b e => lv_land C.1 C.2.1 d (k H locs ls a b e)
theorem aw_lor (C : Ctx G X cc nL own rm) {x y : Int64} (d : decode cc pc = .ok (.lor, 1)) (k : AW G nL X cells slots (pc + 1) L (.long (x ||| y) :: st) μ) : AW G nL X cells slots pc L (.long y :: .long x :: st) μ := fun H locs ls a b e => lv_lor C.1 C.2.1 d (k H locs ls a b e)
theorem aw_lshl (C : Ctx G X cc nL own rm) {x : Int64} {y : Int32} (d : decode cc pc = .ok (.lshl, 1)) (k : AW G nL X cells slots (pc + 1) L (.long (x <<< (y.toInt64 &&& 63)) :: st) μ) : AW G nL X cells slots pc L (.int y :: .long x :: st) μ := fun H locs ls a b e => lv_lshl C.1 C.2.1 d rfl (k H locs ls a b e)
theorem aw_lshr (C : Ctx G X cc nL own rm) {x : Int64} {y : Int32} (d : decode cc pc = .ok (.lshr, 1)) (k : AW G nL X cells slots (pc + 1) L (.long (x >>> (y.toInt64 &&& 63)) :: st) μ) : AW G nL X cells slots pc L (.int y :: .long x :: st) μ := fun H locs ls a b e => lv_lshr C.1 C.2.1 d rfl (k H locs ls a b e)
theorem aw_lushr (C : Ctx G X cc nL own rm) {x : Int64} {y : Int32} (d : decode cc pc = .ok (.lushr, 1)) (k : AW G nL X cells slots (pc + 1) L (.long ((x.toUInt64 >>> (y.toInt64.toUInt64 &&& Int64.toUInt64 63)).toInt64) :: st) μ) : AW G nL X cells slots pc L (.int y :: .long x :: st) μ := fun H locs ls a b e => lv_lushr C.1 C.2.1 d rfl (k H locs ls a b e)
theorem aw_i2l (C : Ctx G X cc nL own rm) {x : Int32} (d : decode cc pc = .ok (.i2l, 1)) (k : AW G nL X cells slots (pc + 1) L (.long (x.toInt64) :: st) μ) : AW G nL X cells slots pc L (.int x :: st) μ := fun H locs ls a b e => lv_i2l C.1 C.2.1 d rfl (k H locs ls a b e)
theorem aw_l2i (C : Ctx G X cc nL own rm) {x : Int64} (d : decode cc pc = .ok (.l2i, 1)) (k : AW G nL X cells slots (pc + 1) L (.int (x.toInt32) :: st) μ) : AW G nL X cells slots pc L (.long x :: st) μ := fun H locs ls a b e => lv_l2i C.1 C.2.1 d rfl (k H locs ls a b e)
theorem aw_idiv (C : Ctx G X cc nL own rm) {x y v : Int32} (h : dvI x y = some v) (d : decode cc pc = .ok (.idiv, 1)) (k : AW G nL X cells slots (pc + 1) L (.int v :: st) μ) : AW G nL X cells slots pc L (.int y :: .int x :: st) μ := by
  unfold dvI at h
  split at h
  · cases h
  · rename_i hy
    cases h
    exact fun H locs ls a b e => lv_idiv C.1 C.2.1 d hy (k H locs ls a b e)
theorem aw_ldiv (C : Ctx G X cc nL own rm) {x y v : Int64} (h : dvJ x y = some v) (d : decode cc pc = .ok (.ldiv, 1)) (k : AW G nL X cells slots (pc + 1) L (.long v :: st) μ) : AW G nL X cells slots pc L (.long y :: .long x :: st) μ := by
  unfold dvJ at h
  split at h
  · cases h
  · rename_i hy
    cases h
    exact fun H locs ls a b e => lv_ldiv C.1 C.2.1 d hy (k H locs ls a b e)
theorem aw_lrem (C : Ctx G X cc nL own rm) {x y v : Int64} (h : rmJ x y = some v) (d : decode cc pc = .ok (.lrem, 1)) (k : AW G nL X cells slots (pc + 1) L (.long v :: st) μ) : AW G nL X cells slots pc L (.long y :: .long x :: st) μ := by
  unfold rmJ at h
  split at h
  · cases h
  · rename_i hy
    cases h
    exact fun H locs ls a b e => lv_lrem C.1 C.2.1 d hy (k H locs ls a b e)
theorem aw_dup (C : Ctx G X cc nL own rm) {v : Value} (d : decode cc pc = .ok (.dup, 1)) (hv : v.category = 1) (k : AW G nL X cells slots (pc + 1) L (v :: v :: st) μ) : AW G nL X cells slots pc L (v :: st) μ := fun H locs ls a b e => lv_dup C.1 C.2.1 d hv (k H locs ls a b e)
theorem aw_dup2 (C : Ctx G X cc nL own rm) {v w : Value} (d : decode cc pc = .ok (.dup2, 1)) (hv : v.category = 1) (hw : w.category = 1) (k : AW G nL X cells slots (pc + 1) L (v :: w :: v :: w :: st) μ) : AW G nL X cells slots pc L (v :: w :: st) μ := fun H locs ls a b e => lv_dup2_11 C.1 C.2.1 d hv hw (k H locs ls a b e)
theorem aw_pop (C : Ctx G X cc nL own rm) {v : Value} (d : decode cc pc = .ok (.pop, 1)) (hv : v.category = 1) (k : AW G nL X cells slots (pc + 1) L (st) μ) : AW G nL X cells slots pc L (v :: st) μ := fun H locs ls a b e => lv_pop C.1 C.2.1 d hv (k H locs ls a b e)
theorem aw_goto (C : Ctx G X cc nL own rm) {off : Int} (tgt : Nat) (d : decode cc pc = .ok (.goto off, 3)) (ht : (pc : Int) + off = (tgt : Int)) (k : AW G nL X cells slots tgt L (st) μ) : AW G nL X cells slots pc L (st) μ := fun H locs ls a b e => lv_goto C.1 C.2.1 d ht (k H locs ls a b e)
theorem aw_icmp_eq (C : Ctx G X cc nL own rm) {x y : Int32} {off : Int} (tgt : Nat) (d : decode cc pc = .ok (.if_icmp .eq off, 3)) (ht : (pc : Int) + off = (tgt : Int)) (kt : x = y → AW G nL X cells slots tgt L (st) μ) (kf : ¬ x = y → AW G nL X cells slots (pc + 3) L (st) μ) : AW G nL X cells slots pc L (.int y :: .int x :: st) μ := fun H locs ls a b e => lv_icmp_eq C.1 C.2.1 d ht (fun c => kt c H locs ls a b e) (fun c => kf c H locs ls a b e)
theorem aw_if_eq (C : Ctx G X cc nL own rm) {x : Int32} {off : Int} (tgt : Nat) (d : decode cc pc = .ok (.ifCond .eq off, 3)) (ht : (pc : Int) + off = (tgt : Int)) (kt : x = 0 → AW G nL X cells slots tgt L (st) μ) (kf : ¬ x = 0 → AW G nL X cells slots (pc + 3) L (st) μ) : AW G nL X cells slots pc L (.int x :: st) μ := fun H locs ls a b e => lv_if_eq C.1 C.2.1 d ht (fun c => kt c H locs ls a b e) (fun c => kf c H locs ls a b e)
theorem aw_icmp_ne (C : Ctx G X cc nL own rm) {x y : Int32} {off : Int} (tgt : Nat) (d : decode cc pc = .ok (.if_icmp .ne off, 3)) (ht : (pc : Int) + off = (tgt : Int)) (kt : ¬ x = y → AW G nL X cells slots tgt L (st) μ) (kf : x = y → AW G nL X cells slots (pc + 3) L (st) μ) : AW G nL X cells slots pc L (.int y :: .int x :: st) μ := fun H locs ls a b e => lv_icmp_ne C.1 C.2.1 d ht (fun c => kt c H locs ls a b e) (fun c => kf (by first | exact c | exact Classical.not_not.mp c) H locs ls a b e)
theorem aw_if_ne (C : Ctx G X cc nL own rm) {x : Int32} {off : Int} (tgt : Nat) (d : decode cc pc = .ok (.ifCond .ne off, 3)) (ht : (pc : Int) + off = (tgt : Int)) (kt : ¬ x = 0 → AW G nL X cells slots tgt L (st) μ) (kf : x = 0 → AW G nL X cells slots (pc + 3) L (st) μ) : AW G nL X cells slots pc L (.int x :: st) μ := fun H locs ls a b e => lv_if_ne C.1 C.2.1 d ht (fun c => kt c H locs ls a b e) (fun c => kf (by first | exact c | exact Classical.not_not.mp c) H locs ls a b e)
theorem aw_icmp_lt (C : Ctx G X cc nL own rm) {x y : Int32} {off : Int} (tgt : Nat) (d : decode cc pc = .ok (.if_icmp .lt off, 3)) (ht : (pc : Int) + off = (tgt : Int)) (kt : x < y → AW G nL X cells slots tgt L (st) μ) (kf : ¬ x < y → AW G nL X cells slots (pc + 3) L (st) μ) : AW G nL X cells slots pc L (.int y :: .int x :: st) μ := fun H locs ls a b e => lv_icmp_lt C.1 C.2.1 d ht (fun c => kt c H locs ls a b e) (fun c => kf c H locs ls a b e)
theorem aw_if_lt (C : Ctx G X cc nL own rm) {x : Int32} {off : Int} (tgt : Nat) (d : decode cc pc = .ok (.ifCond .lt off, 3)) (ht : (pc : Int) + off = (tgt : Int)) (kt : x < 0 → AW G nL X cells slots tgt L (st) μ) (kf : ¬ x < 0 → AW G nL X cells slots (pc + 3) L (st) μ) : AW G nL X cells slots pc L (.int x :: st) μ := fun H locs ls a b e => lv_if_lt C.1 C.2.1 d ht (fun c => kt c H locs ls a b e) (fun c => kf c H locs ls a b e)
theorem aw_icmp_ge (C : Ctx G X cc nL own rm) {x y : Int32} {off : Int} (tgt : Nat) (d : decode cc pc = .ok (.if_icmp .ge off, 3)) (ht : (pc : Int) + off = (tgt : Int)) (kt : y ≤ x → AW G nL X cells slots tgt L (st) μ) (kf : ¬ y ≤ x → AW G nL X cells slots (pc + 3) L (st) μ) : AW G nL X cells slots pc L (.int y :: .int x :: st) μ := fun H locs ls a b e => lv_icmp_ge C.1 C.2.1 d ht (fun c => kt c H locs ls a b e) (fun c => kf c H locs ls a b e)
theorem aw_if_ge (C : Ctx G X cc nL own rm) {x : Int32} {off : Int} (tgt : Nat) (d : decode cc pc = .ok (.ifCond .ge off, 3)) (ht : (pc : Int) + off = (tgt : Int)) (kt : 0 ≤ x → AW G nL X cells slots tgt L (st) μ) (kf : ¬ 0 ≤ x → AW G nL X cells slots (pc + 3) L (st) μ) : AW G nL X cells slots pc L (.int x :: st) μ := fun H locs ls a b e => lv_if_ge C.1 C.2.1 d ht (fun c => kt c H locs ls a b e) (fun c => kf c H locs ls a b e)
theorem aw_icmp_gt (C : Ctx G X cc nL own rm) {x y : Int32} {off : Int} (tgt : Nat) (d : decode cc pc = .ok (.if_icmp .gt off, 3)) (ht : (pc : Int) + off = (tgt : Int)) (kt : y < x → AW G nL X cells slots tgt L (st) μ) (kf : ¬ y < x → AW G nL X cells slots (pc + 3) L (st) μ) : AW G nL X cells slots pc L (.int y :: .int x :: st) μ := fun H locs ls a b e => lv_icmp_gt C.1 C.2.1 d ht (fun c => kt c H locs ls a b e) (fun c => kf c H locs ls a b e)
theorem aw_if_gt (C : Ctx G X cc nL own rm) {x : Int32} {off : Int} (tgt : Nat) (d : decode cc pc = .ok (.ifCond .gt off, 3)) (ht : (pc : Int) + off = (tgt : Int)) (kt : 0 < x → AW G nL X cells slots tgt L (st) μ) (kf : ¬ 0 < x → AW G nL X cells slots (pc + 3) L (st) μ) : AW G nL X cells slots pc L (.int x :: st) μ := fun H locs ls a b e => lv_if_gt C.1 C.2.1 d ht (fun c => kt c H locs ls a b e) (fun c => kf c H locs ls a b e)
theorem aw_icmp_le (C : Ctx G X cc nL own rm) {x y : Int32} {off : Int} (tgt : Nat) (d : decode cc pc = .ok (.if_icmp .le off, 3)) (ht : (pc : Int) + off = (tgt : Int)) (kt : x ≤ y → AW G nL X cells slots tgt L (st) μ) (kf : ¬ x ≤ y → AW G nL X cells slots (pc + 3) L (st) μ) : AW G nL X cells slots pc L (.int y :: .int x :: st) μ := fun H locs ls a b e => lv_icmp_le C.1 C.2.1 d ht (fun c => kt c H locs ls a b e) (fun c => kf c H locs ls a b e)
theorem aw_if_le (C : Ctx G X cc nL own rm) {x : Int32} {off : Int} (tgt : Nat) (d : decode cc pc = .ok (.ifCond .le off, 3)) (ht : (pc : Int) + off = (tgt : Int)) (kt : x ≤ 0 → AW G nL X cells slots tgt L (st) μ) (kf : ¬ x ≤ 0 → AW G nL X cells slots (pc + 3) L (st) μ) : AW G nL X cells slots pc L (.int x :: st) μ := fun H locs ls a b e => lv_if_le C.1 C.2.1 d ht (fun c => kt c H locs ls a b e) (fun c => kf c H locs ls a b e)
end AWR
