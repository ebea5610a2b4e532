/-- words that stay by laws of their own -/
def mOth : Cond → Bool
  | .castable .. => true
  | .declares _ => true
  | .methodLinkNest .. => true
  | .arrayOver (.object _) => true
  | .arrayOver (.array _) => true
  | _ => false
/-- an array class over arrays stays (follows the kit's va_AO.moved) -/
theorem aoa_moved {t : FieldType} {u U : State} (hvm : u.vm.Alike U.vm) (h : (Cond.arrayOver (.array t)).before #[] u = true) : (Cond.arrayOver (.array t)).before #[] U = true := by
  obtain ⟨comp, c, k, h1, h2, h3, h4, h5⟩ := arrayOverA_spec h
  obtain ⟨k', hk', he⟩ := hvm.2.2 _ _ h3
  have hi : (U.vm.classes.findIdx? fun (x : Class) => match x.kind with | .array component _ => component == comp | _ => false) = some c := by
    rw [hvm.findIdx?_eq _ (fun _ => rfl)]
    exact h2
  have hkind : k'.kind = .array comp (.array t) := by rw [he]; exact h4
  have f1 : U.vm.findClass (FieldType.array t).toString = some comp := by rw [hvm.findClass]; exact h1
  have f2 : U.vm.findClass ("[" ++ (FieldType.array t).toString) = some c := by rw [hvm.findClass]; exact h5
  unfold Cond.before Cond.holds
  simp only [Cond.value]
  rw [f1, Option.bind_some]
  generalize hx : Array.findIdx? _ U.vm.classes = o
  have ho : o = some c := hx.symm.trans hi
  subst ho
  simp [hk', hkind, f2]
def mNk (U : State) : Prop := ∀ w ∈ lw_tbl, mOth w = true → w.before #[] U = true
theorem mNk.warm {s U : State} (hW : s.WarmedH U.vm) (h : mNk s) : mNk U := by
  intro w hw ho
  have h1 := h w hw ho
  unfold mOth at ho
  split at ho
  · exact va_Nw.warmC hW h1
  · exact va_Nw.warmD hW h1
  · exact va_Nw.warmM hW h1
  · exact va_AO.moved hW.alike h1
  · exact aoa_moved hW.alike h1
  · cases ho
theorem mNk.same {u U : State} (e : u.vm = U.vm) (h : mNk u) : mNk U := by
  have e2 : U.vm = u.vm := e.symm
  intro w hw ho
  have h1 := h w hw ho
  unfold mOth at ho
  split at ho
  · exact va_Nw.same rfl e h1
  · exact va_Nw.same rfl e h1
  · exact va_Nw.same rfl e h1
  · exact va_AO.moved (by rw [e]; exact Vm.Alike.refl _) h1
  · exact aoa_moved (by rw [e]; exact Vm.Alike.refl _) h1
  · cases ho
/-! THE MINI LOGIC. A small picture of the machine: whole numbers for ints, bit rows for longs, places for references; a flat store by place and slot.
Ev says: from this frame over this store the method comes to the end r with the store t, on the machine. One row an instruction. -/
abbrev mV : Type := Int ⊕ (Nat ⊕ BitVec 64)
abbrev vi (x : Int) : mV := Sum.inl x
abbrev vr (a : Nat) : mV := Sum.inr (Sum.inl a)
abbrev vl (w : BitVec 64) : mV := Sum.inr (Sum.inr w)
def mw (x : Int) : Int := x.bmod 4294967296
def mIn (x : Int) : Prop := -2147483648 ≤ x ∧ x < 2147483648
theorem mw_in (x : Int) : mIn (mw x) := by
  have h1 := Int.le_bmod (x := x) (m := 4294967296) (by decide)
  have h2 := Int.bmod_lt (x := x) (m := 4294967296) (by decide)
  unfold mIn mw
  omega
theorem mw_id {x : Int} (h : mIn x) : mw x = x := by
  unfold mw
  unfold mIn at h
  exact Int.bmod_eq_of_le (by omega) (by omega)
theorem mw_of {x : Int} (h1 : -2147483648 ≤ x) (h2 : x < 2147483648) : mw x = x := mw_id ⟨h1, h2⟩
theorem oi_mw (x : Int) : Int32.ofInt (mw x) = Int32.ofInt x := by
  apply Int32.toInt_inj.1
  rw [Int32.toInt_ofInt, Int32.toInt_ofInt]
  show (x.bmod 4294967296).bmod 4294967296 = x.bmod 4294967296
  exact Int.bmod_bmod
theorem oi_to {x : Int} (h : mIn x) : (Int32.ofInt x).toInt = x := Int32.toInt_ofInt_of_le h.1 h.2
theorem oi_in (i : Int32) : mIn i.toInt := ⟨i.le_toInt, i.toInt_lt⟩
theorem oi_back (i : Int32) : Int32.ofInt i.toInt = i := Int32.ofInt_toInt i
theorem oi_cl {x : Int} (h : mIn x) : (Int32.ofInt x).toNatClampNeg = x.toNat := by
  show (Int32.ofInt x).toInt.toNat = x.toNat
  rw [oi_to h]
theorem oi_eq {x y : Int} (hx : mIn x) (hy : mIn y) : Int32.ofInt x = Int32.ofInt y ↔ x = y := by
  rw [← Int32.toInt_inj, oi_to hx, oi_to hy]
theorem oi_lt {x y : Int} (hx : mIn x) (hy : mIn y) : Int32.ofInt x < Int32.ofInt y ↔ x < y := by
  rw [Int32.lt_iff_toInt_lt, oi_to hx, oi_to hy]
theorem oi_le {x y : Int} (hx : mIn x) (hy : mIn y) : Int32.ofInt x ≤ Int32.ofInt y ↔ x ≤ y := by
  rw [Int32.le_iff_toInt_le, oi_to hx, oi_to hy]
theorem mIn0 : mIn 0 := by unfold mIn; omega
theorem oi_0 : Int32.ofInt 0 = 0 := rfl
/-! ===== the store ===== -/
abbrev mS : Type := (Nat × Nat × Nat × Nat) × (Nat → Nat × Nat) × (Nat → Nat → Int) × (Nat → Nat → BitVec 64) × (Nat → Nat → Nat)
abbrev mC (σ : mS) : Nat := σ.1.1
abbrev mZ (σ : mS) : Nat := σ.1.2.1
abbrev mN (σ : mS) : Nat := σ.1.2.2.1
abbrev mF (σ : mS) : Nat := σ.1.2.2.2
abbrev mH (σ : mS) : Nat → Nat × Nat := σ.2.1
abbrev mI (σ : mS) : Nat → Nat → Int := σ.2.2.1
abbrev mL (σ : mS) : Nat → Nat → BitVec 64 := σ.2.2.2.1
abbrev mR (σ : mS) : Nat → Nat → Nat := σ.2.2.2.2
def u2 {α : Type} (f : Nat → Nat → α) (a k : Nat) (x : α) : Nat → Nat → α := fun b j => if b = a ∧ j = k then x else f b j
def u1 {α : Type} (f : Nat → Nat → α) (a : Nat) (x : α) : Nat → Nat → α := fun b j => if b = a then x else f b j
def mwI (σ : mS) (a k : Nat) (x : Int) : mS := (σ.1, σ.2.1, u2 σ.2.2.1 a k x, σ.2.2.2.1, σ.2.2.2.2)
def mwL (σ : mS) (a k : Nat) (x : BitVec 64) : mS := (σ.1, σ.2.1, σ.2.2.1, u2 σ.2.2.2.1 a k x, σ.2.2.2.2)
def mwR (σ : mS) (a k : Nat) (x : Nat) : mS := (σ.1, σ.2.1, σ.2.2.1, σ.2.2.2.1, u2 σ.2.2.2.2 a k x)
def mNew (σ : mS) (t n : Nat) : mS := ((σ.1.1 + 1, σ.1.2.1 + n, σ.1.2.2.1 + 1, σ.1.2.2.2), (fun b => if b = 32 + σ.1.2.2.1 then (t, n) else σ.2.1 b), u1 σ.2.2.1 (32 + σ.1.2.2.1) 0, u1 σ.2.2.2.1 (32 + σ.1.2.2.1) 0, u1 σ.2.2.2.2 (32 + σ.1.2.2.1) 0)
def mExc (σ : mS) : mS := ((σ.1.1 + 1, σ.1.2.1 + 6, σ.1.2.2.1, 1), σ.2)
/-! ===== what stays the same all through: the start, the script's cell, the classes' numbers, the places of their fields, the array classes' numbers, the texts' cells ===== -/
abbrev mG : Type := State × Nat × (Nat → ClassId) × (Nat → Nat → Nat) × (Nat → ClassId) × (Nat → Nat)
def mAD (G : mG) (r : Nat) : Nat := if r = 1 then G.2.1 else if r < 32 then G.2.2.2.2.2 r else G.1.heap.size + (r - 32)
def tv (G : mG) : mV → Value
  | .inl x => .int (Int32.ofInt x)
  | .inr (.inl a) => if a = 0 then .null else .ref (mAD G a)
  | .inr (.inr w) => .long (Int64.ofBitVec w)
def mOk : mV → Prop
  | .inl x => mIn x
  | .inr _ => True
def mTv (G : mG) (ty : FieldType) (σ : mS) (r k : Nat) : Value := match ty with
  | .long => .long (Int64.ofBitVec (mL σ r k))
  | .object _ => tv G (vr (mR σ r k))
  | .array _ => tv G (vr (mR σ r k))
  | _ => .int (Int32.ofInt (mI σ r k))
def mTY : Nat → Nat → FieldType := fun t => match t with
  | 0 => tyX0
  | 1 => tyX1
  | 2 => tyX2
  | 3 => tyX3
  | 4 => tyX4
  | 5 => tyX5
  | 6 => tyX6
  | 7 => tyX8
  | _ => tyX9
def mAT : List FieldType := [.int, .long, .boolean, .byte, .object RX5, .object RX4, .object RX1, .object RX3, .array .long, .array .int, .array .boolean]
def mCellO (G : mG) (σ : mS) (H : Heap) (r t : Nat) : Prop := ∀ q, vwCl[t]? = some q → (mH σ r).2 = q.2.2 ∧ t_OB (mAD G r) (G.2.2.1 t) q.2.2 (G.2.2.2.1 t) H (fun k => mTv G (mTY t k) σ r k)
def mCellA (G : mG) (σ : mS) (H : Heap) (r t : Nat) : Prop := ∀ ty, mAT[t]? = some ty → H[mAD G r]? = some (arrV (G.2.2.2.2.1 t) (mH σ r).2 (fun i => mTv G ty σ r i))
/-- the store is what the heap holds from the start's size on; below it nothing has changed -/
def mRZ (G : mG) (σ : mS) (H : Heap) : Prop :=
  (G.1.heap.size + mN σ ≤ H.size ∧ (mF σ = 0 → H.size = G.1.heap.size + mN σ)) ∧ (∀ q : Nat, q < G.1.heap.size → H[q]? = G.1.heap[q]?) ∧ (∀ r k, mIn (mI σ r k)) ∧
  (∀ r t, 32 ≤ r → (mH σ r).1 = t + 1 → r < 32 + mN σ ∧ (t < 50 → mCellO G σ H r t) ∧ ∀ t', t = 50 + t' → mCellA G σ H r t') ∧
  (∀ r, r < 32 → r ≠ 1 → (mH σ r).1 = 0) ∧
  ((mH σ 1).1 = 51 ∧ ∃ scr : Cell, G.1.heap[G.2.1]? = some scr ∧ G.1.isArrayOf scr .int ∧ scr.vm ≠ .unknown ∧ scr.slots.size = (mH σ 1).2 ∧ ∀ i, i < (mH σ 1).2 → scr.slots[i]? = some (.int (Int32.ofInt (mI σ 1 i))))
/-- an array class by its component's type -/
def mAC (U : State) (cA : ClassId) (ty : FieldType) : Prop := ∃ (kA : Class) (comp : ClassId), U.vm.classes[cA]? = some kA ∧ kA.kind = .array comp ty ∧ U.vm.findClass ("[" ++ ty.toString) = some cA ∧ (∀ C, ty = .object C → U.vm.findClass C = some comp) ∧ ∀ e, ty = .array e → U.vm.findClass (FieldType.array e).toString = some comp
/-- the texts, by their places from 2 on -/
def mStr : List (List Int) := [[98, 101, 102, 111, 114, 101], [115, 97, 109, 101], [97, 102, 116, 101, 114], [117, 110, 116, 105, 108], [111, 114, 100, 101, 114], [108, 97, 115, 116, 115], [99, 117, 114, 118, 101], [115, 97, 109, 112, 108, 101], [114, 105, 110, 103, 115], [112, 104, 97, 115, 101], [115, 105, 103, 109, 97], [114, 101, 115, 101, 114, 118, 101]]
def sLn (a : Nat) : Option Int := if 2 ≤ a ∧ a < 14 then some ((mStr.getD (a - 2) []).length : Nat) else none
def sCh (a : Nat) (i : Int) : Option Int := if 2 ≤ a ∧ a < 14 ∧ 0 ≤ i ∧ i < ((mStr.getD (a - 2) []).length : Nat) then some ((mStr.getD (a - 2) []).getD i.toNat 0) else none
def mStrT : List String := ["before", "same", "after", "until", "order", "lasts", "curve", "sample", "rings", "phase", "sigma", "reserve"]
/-- the texts' words and objects: a text j stands at place 2 + j, its bytes at 14 + j, the formatter at 26 -/
def mSr (f : Nat → Nat) (U : State) : Prop := ∀ (own : String) (k : Nat) (text : String) (j : Nat), Cond.stringRef own k text ∈ lw_tbl → mStrT[j]? = some text → vk_R own k text (f (2 + j)) U
def mGT (G : mG) : Prop := (∀ j, j < 12 → va_O "java/lang/String" (G.2.2.2.2.2 (2 + j)) (fun q : Nat => G.1.heap.size ≤ q) G.1 G.1.heap ∧ va_OF "java/lang/String" "coder" "B" (.int 0) (G.2.2.2.2.2 (2 + j)) (fun q : Nat => G.1.heap.size ≤ q) G.1 G.1.heap ∧
    va_OF "java/lang/String" "value" "[B" (.ref (G.2.2.2.2.2 (14 + j))) (G.2.2.2.2.2 (2 + j)) (fun q : Nat => G.1.heap.size ≤ q) G.1 G.1.heap ∧
    va_T .byte (G.2.2.2.2.2 (14 + j)) ((mStr.getD j []).length) (fun i => .int (Int32.ofInt ((mStr.getD j []).getD i 0))) (fun q : Nat => G.1.heap.size ≤ q) G.1 G.1.heap) ∧
  va_Z "java/lang/String" "COMPACT_STRINGS" "Z" (.int 1) (fun q : Nat => G.1.heap.size ≤ q) G.1 G.1.heap ∧
  (va_Z "jdk/internal/util/Preconditions" "SIOOBE_FORMATTER" "Ljava/util/function/BiFunction;" .null (fun q : Nat => G.1.heap.size ≤ q) G.1 G.1.heap ∨ va_Z "jdk/internal/util/Preconditions" "SIOOBE_FORMATTER" "Ljava/util/function/BiFunction;" (.ref (G.2.2.2.2.2 26)) (fun q : Nat => G.1.heap.size ≤ q) G.1 G.1.heap)
def mNg (G : mG) (U : State) : Prop := mNk U ∧ mSr G.2.2.2.2.2 U ∧ mGT G
theorem mNg.warm {G : mG} {s U : State} (hW : s.WarmedH U.vm) (h : mNg G s) : mNg G U := ⟨h.1.warm hW, fun own k text j h1 h2 => (h.2.1 own k text j h1 h2).warm hW, h.2.2⟩
theorem mNg.same {G : mG} {u U : State} (e : u.vm = U.vm) (h : mNg G u) : mNg G U := ⟨h.1.same e, fun own k text j h1 h2 => (h.2.1 own k text j h1 h2).same e.symm, h.2.2⟩
def mGF (G : mG) : Prop :=
  (∀ (t : Nat) (q : vw_C), vwCl[t]? = some q → u_Kn G.1 q.1 q.2.1 q.2.2 (G.2.2.1 t) (G.2.2.2.1 t)) ∧ (∀ (t : Nat) (ty : FieldType), mAT[t]? = some ty → mAC G.1 (G.2.2.2.2.1 t) ty) ∧ G.2.1 < G.1.heap.size ∧
  vx_Zq Bundle.tN "UNASSIGNED_STACK" Bundle.steD (fun q : Nat => G.1.heap.size ≤ q) G.1 G.1.heap ∧ vx_Zq Bundle.tN "SUPPRESSED_SENTINEL" Bundle.listD (fun q : Nat => G.1.heap.size ≤ q) G.1 G.1.heap
/-! ===== a method: its name, its class, its code, how many places, its words, its answer's type, its handlers, the frames and the words of places that it needs ===== -/
abbrev mM : Type := MethodName × String × ByteArray × Nat × Option FieldType × List (Nat × Nat × Nat × Nat) × Nat × Nat
abbrev mNm (M : mM) : MethodName := M.1
abbrev mOw (M : mM) : String := M.2.1
abbrev mCo (M : mM) : ByteArray := M.2.2.1
abbrev mNl (M : mM) : Nat := M.2.2.2.1
abbrev mWs (_ : mM) : List Cond := mW0
abbrev mRt (M : mM) : Option FieldType := M.2.2.2.2.1
abbrev mHh (M : mM) : List (Nat × Nat × Nat × Nat) := M.2.2.2.2.2.1
abbrev mRf (M : mM) : Nat := M.2.2.2.2.2.2.1
abbrev mRl (M : mM) : Nat := M.2.2.2.2.2.2.2
def mRi (M : mM) : Instr := match mRt M with
  | none => .return_
  | some .long => .lreturn
  | some (.object _) => .areturn
  | some (.array _) => .areturn
  | some _ => .ireturn
def mFr (G : mG) (M : mM) (p : Program) (l : Launch) (R : Room) (s : State) (m : MethodId) (args : Array Value) (meth : Method) (c : Code) : Prop :=
  p.tables.exec = Jvm.exec ∧ c.code = mCo M ∧ c.maxLocals = mNl M ∧ s.vm.findClass (mOw M) = some m.cls ∧ (∀ w ∈ mWs M, w.before args s = true) ∧ meth.locks = false ∧ meth.sig.returnType = mRt M ∧ ((mNm M).name = "<init>" → meth.name = "<init>") ∧ c.exceptionTable.toList = tableOf (mHh M) ∧
  G.1.vm.Alike s.vm ∧ mRf M ≤ R.frames ∧ mRl M ≤ R.locals ∧ l.stackTraces = false ∧ G.1.heap.size ≤ s.heap.size ∧ (∀ q : Nat, q < G.1.heap.size → s.heap[q]? = G.1.heap[q]?) ∧ mNg G s ∧ mGF G
abbrev mX : Type := Option mV ⊕ Nat
/-- an answer of a method's type -/
def mVt (ty : Option FieldType) (v : Option mV) : Prop := match ty, v with
  | none, none => True
  | some .int, some (.inl _) => True
  | some .boolean, some (.inl x) => x = 0 ∨ x = 1
  | some .byte, some (.inl x) => -128 ≤ x ∧ x < 128
  | some .char, some (.inl x) => 0 ≤ x ∧ x < 65536
  | some .long, some (.inr (.inr _)) => True
  | _, _ => False
def mK (G : mG) (M : mM) (p : Program) (l : Launch) (e : Env) (R : Room) (s : State) (m : MethodId) (args : Array Value) (below : List Frame) (meth : Method) (c : Code) (Q : State → Prop) (c0 z0 : Nat) (r : mX) (τ : mS) : Prop := match r with
  | .inl v => ∀ (H : Heap) (locs : List Loc) (ls : Array Slot) (pc : Nat), mRZ G τ H → s.heap.size ≤ H.size → (∀ x ∈ locs, G.1.heap.size ≤ x.base) → (∀ w, v = some w → mOk w) → mVt (mRt M) v → decode (mCo M) pc = .ok (mRi M, 1) →
      W p l e R s m args below meth c H locs (mC τ - c0) (mZ τ - z0) Q (F0 m pc ls (v.toList.map (tv G)))
  | .inr E => ∃ (Qc : Array Value → State → Outcome → State → Prop) (XC : String → State → State → Prop) (mc ms : Nat) (free : Addr → Prop), Q = vx_MQ below Qc XC args s mc ms free ∧ (∀ t : State, s.vm.Alike t.vm → mRZ G τ t.heap → s.heap.size ≤ t.heap.size → XC (mEN E) s t) ∧ (∀ x : Nat, G.1.heap.size ≤ x → free x) ∧ mC τ ≤ c0 + mc ∧ mZ τ ≤ z0 + ms
/-- what stands at an instruction -/
def mSt (G : mG) (M : mM) (R : Room) (s : State) (H : Heap) (locs : List Loc) (ls : Array Slot) (lo : List (Nat × mV)) (st : List mV) (σ τ : mS) (c0 z0 : Nat) : Prop :=
  mRZ G σ H ∧ s.heap.size ≤ H.size ∧ (∀ x ∈ locs, G.1.heap.size ≤ x.base) ∧ (∀ v ∈ st, mOk v) ∧ (∀ q ∈ lo, mOk q.2) ∧ lv_has ls (mNl M) (lo.map fun q => (q.1, tv G q.2)) ∧ c0 ≤ mC σ ∧ z0 ≤ mZ σ ∧ mC τ ≤ c0 + R.cells ∧ mZ τ ≤ z0 + R.slots
/-- from here the method comes to r with the store τ -/
def Ev (G : mG) (M : mM) (pc : Nat) (lo : List (Nat × mV)) (st : List mV) (σ : mS) (r : mX) (τ : mS) : Prop :=
  (mC σ ≤ mC τ ∧ mZ σ ≤ mZ τ) ∧
  ∀ (c0 z0 : Nat) (p : Program) (l : Launch) (e : Env) (R : Room) (s : State) (m : MethodId) (args : Array Value) (below : List Frame) (meth : Method) (c : Code) (H : Heap) (locs : List Loc) (Q : State → Prop) (ls : Array Slot),
    mFr G M p l R s m args meth c → mSt G M R s H locs ls lo st σ τ c0 z0 → mK G M p l e R s m args below meth c Q c0 z0 r τ →
    W p l e R s m args below meth c H locs (mC σ - c0) (mZ σ - z0) Q (F0 m pc ls (st.map (tv G)))
/-- a row that changes neither heap nor room -/
theorem Ev.step {G : mG} {M : mM} {pc pc' : Nat} {lo lo' : List (Nat × mV)} {st st' : List mV} {σ τ : mS} {r : mX}
    (hok : (∀ v ∈ st, mOk v) → (∀ q ∈ lo, mOk q.2) → (∀ v ∈ st', mOk v) ∧ ∀ q ∈ lo', mOk q.2)
    (hs : ∀ (p : Program) (l : Launch) (e : Env) (R : Room) (s : State) (m : MethodId) (args : Array Value) (below : List Frame) (meth : Method) (c : Code) (H : Heap) (locs : List Loc) (cells slots : Nat) (Q : State → Prop) (ls : Array Slot),
      mFr G M p l R s m args meth c → mRZ G σ H → lv_has ls (mNl M) (lo.map fun q => (q.1, tv G q.2)) → (∀ v ∈ st, mOk v) → (∀ q ∈ lo, mOk q.2) →
      (∀ ls' : Array Slot, lv_has ls' (mNl M) (lo'.map fun q => (q.1, tv G q.2)) → W p l e R s m args below meth c H locs cells slots Q (F0 m pc' ls' (st'.map (tv G)))) → W p l e R s m args below meth c H locs cells slots Q (F0 m pc ls (st.map (tv G))))
    (k : Ev G M pc' lo' st' σ r τ) : Ev G M pc lo st σ r τ := by
  refine ⟨k.1, fun c0 z0 p l e R s m args below meth c H locs Q ls hF hS hK => ?_⟩
  obtain ⟨h1, h2, h3, h4, h5, h6, h7⟩ := hS
  obtain ⟨k1, k2⟩ := hok h4 h5
  exact hs p l e R s m args below meth c H locs _ _ Q ls hF h1 h6 h4 h5 fun ls' hl => k.2 c0 z0 p l e R s m args below meth c H locs Q ls' hF ⟨h1, h2, h3, k1, k2, hl, h7⟩ hK
/-- fewer places -/
theorem Ev.sub {G : mG} {M : mM} {pc : Nat} {lo lo' : List (Nat × mV)} {st : List mV} {σ τ : mS} {r : mX} (h : ∀ q ∈ lo', q ∈ lo) (k : Ev G M pc lo' st σ r τ) : Ev G M pc lo st σ r τ := by
  refine Ev.step (lo' := lo') (st' := st) (fun a b => ⟨a, fun q hq => b q (h q hq)⟩) ?_ k
  intro p l e R s m args below meth c H locs cells slots Q ls hF hRZ hl hst hlo kk
  refine kk ls ⟨hl.1, hl.2.1, fun q hq => ?_⟩
  obtain ⟨z, hz, rfl⟩ := List.mem_map.mp hq
  exact hl.2.2 _ (List.mem_map.mpr ⟨z, h z hz, rfl⟩)
