/-! ===== BEGIN new T[n][m]: the outer array a place, the inner ones among the pooled ===== -/
/-- f, but v at every address of l -/
def vr_up {α : Type} (f : Nat → α) (l : List Nat) (v : α) : Nat → α := fun a => if a ∈ l then v else f a
theorem vr_up_in {α : Type} {f : Nat → α} {l : List Nat} {v : α} {a : Nat} (h : a ∈ l) : vr_up f l v a = v := if_pos h
theorem vr_up_ne {α : Type} {f : Nat → α} {l : List Nat} {v : α} {a : Nat} (h : a ∉ l) : vr_up f l v a = f a := if_neg h
theorem vr_rows {L l : List Nat} {f : Nat → va_E} {e : va_E} (h : ∀ a, a ∈ l → a ∉ L) : va_pl L f ++ l.map (fun a => (a, e)) = va_pl (L ++ l) (vr_up f l e) := by
  unfold va_pl
  rw [List.map_append]
  congr 1
  · apply List.map_congr_left
    intro a ha
    rw [vr_up_ne (fun q => h a q ha)]
  · apply List.map_congr_left
    intro a ha
    rw [vr_up_in ha]
theorem vr_lay {X rows : va_W} {x : Nat × va_E} {pl : va_W} {D : va_G} {cl : List vw_C} {H : Heap} (hP : va_P D cl (((X ++ pl) ++ [x]) ++ rows) H) : va_P D cl ((X ++ [x]) ++ (pl ++ rows)) H := by
  rw [List.append_assoc (X ++ pl)] at hP
  have h := va_P.swap hP
  rw [← List.append_assoc X] at h
  have h2 := va_P.swap h
  rw [List.append_assoc (X ++ [x])] at h2
  exact h2
theorem vr_layD {X rows : va_W} {x : Nat × va_E} {pl : va_W} {A : Nat → Prop} (hD : va_D A (((X ++ pl) ++ [x]) ++ rows)) : va_D A ((X ++ [x]) ++ (pl ++ rows)) := by
  rw [List.append_assoc (X ++ pl)] at hD
  have h := va_D.swap hD
  rw [← List.append_assoc X] at h
  have h2 := va_D.swap h
  rw [List.append_assoc (X ++ [x])] at h2
  exact h2
def va_AOA (ty : FieldType) (U : State) : Prop := (Cond.arrayOver (.array ty)).before #[] U = true
theorem va_AOA.use {ty : FieldType} {A : Array Value} {U : State} (h : va_AOA ty U) : (Cond.arrayOver (.array ty)).before A U = true := h
theorem aoa_spec {ty : FieldType} {s : State} (h : va_AOA ty s) : ∃ comp c k, s.vm.findClass (FieldType.array ty).toString = some comp ∧ (s.vm.classes.findIdx? fun (x : Class) => match x.kind with | .array component _ => component == comp | _ => false) = some c ∧ s.vm.classes[c]? = some k ∧ k.kind = .array comp (.array ty) ∧ s.vm.findClass ("[" ++ (FieldType.array ty).toString) = some c := by
  unfold va_AOA Cond.before at h
  simp only [Cond.holds, Cond.value, beq_iff_eq] at h
  cases hc : s.vm.findClass (FieldType.array ty).toString with
  | none => simp [hc] at h
  | some comp =>
    simp only [hc, Option.bind_some, Option.bind_eq_some_iff, Option.map_eq_some_iff] at h
    obtain ⟨c, hi, k, hk, hb⟩ := h
    obtain ⟨hlt, hp, -⟩ := Array.findIdx?_eq_some_iff_getElem.mp hi
    have hkk : s.vm.classes[c] = k := (Array.getElem?_eq_some_iff.mp hk).2
    rw [hkk] at hp
    cases hkind : k.kind with
    | array component t =>
      rw [hkind] at hb hp
      simp at hb hp
      exact ⟨comp, c, k, rfl, hi, hk, by rw [hkind, hp, hb.1], hb.2⟩
    | _ => rw [hkind] at hb; simp at hb
theorem va_AOA_moved {ty : FieldType} {u U : State} (hvm : u.vm.Alike U.vm) (h : va_AOA ty u) : va_AOA ty U := by
  obtain ⟨comp, c, k, h1, h2, h3, h4, h5⟩ := aoa_spec h
  obtain ⟨k', hk', he⟩ := hvm.2.2 _ _ h3
  have hi : (U.vm.classes.findIdx? fun (x : Class) => match x.kind with | .array component _ => component == comp | _ => false) = some c := by
    refine (va_idx_bare U.vm comp).symm.trans ?_
    refine Eq.trans ?_ ((va_idx_bare u.vm comp).trans h2)
    first | rw [hvm.bare_eq] | rw [← hvm.bare_eq]
  have hkind : k'.kind = .array comp (.array ty) := by rw [he]; exact h4
  have f1 : U.vm.findClass (FieldType.array ty).toString = some comp := by rw [hvm.findClass]; exact h1
  have f2 : U.vm.findClass ("[" ++ (FieldType.array ty).toString) = some c := by rw [hvm.findClass]; exact h5
  unfold va_AOA Cond.before Cond.holds
  simp only [Cond.value]
  rw [f1, Option.bind_some]
  refine (congrArg (fun o : Option Nat => (o.bind (fun c => (U.vm.classes[c]?).map fun (k : Class) => match k.kind with | .array _ t => decide (t = FieldType.array ty) && decide (U.vm.findClass ("[" ++ (FieldType.array ty).toString) = some c) | _ => false) == some true)) hi).trans ?_
  simp [hk', hkind, f2]
/-! new int[5][17] in one step, over the library's words for single arrays: mine -/
section MZ
variable {p : Program} {l : Launch} {e : Env} {R : Room} {s : State} {m : MethodId} {args : Array Value} {below : List Frame} {meth : Method} {c : Code} {T : State} {locs : List Loc} {cells slots : Nat}
/-- the outer array at address h when i of its rows are laid behind it -/
def mz_top (cA : ClassId) (h i : Nat) : Cell := arrV cA 5 (fun j => va_rf (if j < i then some (h + 1 + j) else none))
def mz_row (ci : ClassId) : Cell := arrV ci 17 (fun _ => .int 0)
theorem mz_top_size (cA : ClassId) (h i : Nat) : (mz_top cA h i).slots.size = 5 := by
  unfold mz_top arrV
  simp
theorem mz_row_size (ci : ClassId) : (mz_row ci).slots.size = 17 := by
  unfold mz_row arrV
  simp
theorem mz_top_first (cA : ClassId) (h : Nat) : ({ cls := cA, slots := Array.replicate 5 .null, vm := .none } : Cell) = mz_top cA h 0 := by
  rw [arrV_new]
  unfold mz_top
  refine congrArg (arrV cA 5) (funext fun j => ?_)
  rw [if_neg (Nat.not_lt_zero j)]
  rfl
theorem mz_top_next (cA : ClassId) (h i : Nat) : (mz_top cA h i).setSlot i (.ref (h + 1 + i)) = mz_top cA h (i + 1) := by
  unfold mz_top
  rw [arrV_store]
  refine congrArg (arrV cA 5) (funext fun j => ?_)
  unfold updV
  by_cases q : j = i
  · subst q
    rw [if_pos rfl, if_pos (Nat.lt_succ_self j)]
    rfl
  · rw [if_neg q]
    show va_rf (if j < i then some (h + 1 + j) else none) = _
    by_cases r : j < i
    · rw [if_pos r, if_pos (Nat.lt_succ_of_lt r)]
    · rw [if_neg r, if_neg (by omega)]
theorem mz_row_first (ci : ClassId) : ({ cls := ci, slots := Array.replicate 17 (.int 0), vm := .none } : Cell) = mz_row ci := arrV_new ci 17 (.int 0)
/-- the state when i rows are laid -/
def mz_k (S : State) (cA ci : ClassId) : Nat → State
  | 0 => S.pushCell (mz_top cA S.heap.size 0)
  | i + 1 => ((mz_k S cA ci i).pushCell (mz_row ci)).setCell S.heap.size (mz_top cA S.heap.size (i + 1))
/-- what is known of it -/
def mz_I (S U : State) (cA ci : ClassId) (i : Nat) : Prop :=
  U.heap.size = S.heap.size + 1 + i ∧ U.vm = S.vm ∧ U.slotsUsed = S.slotsUsed + 5 + 17 * i ∧ U.heap[S.heap.size]? = some (mz_top cA S.heap.size i) ∧ (∀ x, x < S.heap.size → U.heap[x]? = S.heap[x]?) ∧ ∀ j, j < i → U.heap[S.heap.size + 1 + j]? = some (mz_row ci)
theorem mz_I_next {S U : State} {cA ci : ClassId} {i : Nat} (h : mz_I S U cA ci i) : mz_I S ((U.pushCell (mz_row ci)).setCell S.heap.size (mz_top cA S.heap.size (i + 1))) cA ci (i + 1) := by
  obtain ⟨h1, h2, h3, h4, h5, h6⟩ := h
  have hp : ∀ x, x < U.heap.size → (U.pushCell (mz_row ci)).heap[x]? = U.heap[x]? := fun x hx => State.heap_pushCell_of_lt _ _ hx
  refine ⟨?_, h2, ?_, State.heap_setCell_self (c := mz_top cA S.heap.size i) (by rw [hp _ (by omega)]; exact h4), fun x hx => ?_, fun j hj => ?_⟩
  · rw [State.heap_setCell, Array.size_setIfInBounds, State.heap_pushCell, Array.size_push, h1]
    omega
  · rw [State.slotsUsed_setCell, State.slotsUsed_pushCell, mz_row_size, h3]
    omega
  · rw [State.heap_setCell_other (Nat.ne_of_gt hx), hp x (by omega)]
    exact h5 x hx
  · rw [State.heap_setCell_other (show S.heap.size ≠ S.heap.size + 1 + j by omega)]
    by_cases q : j < i
    · rw [hp _ (by omega)]
      exact h6 j q
    · rw [show S.heap.size + 1 + j = U.heap.size by omega]
      exact State.heap_pushCell_size _ _
theorem mz_I_k (S : State) (cA ci : ClassId) : ∀ i : Nat, mz_I S (mz_k S cA ci i) cA ci i
  | 0 => ⟨by rw [mz_k, State.heap_pushCell, Array.size_push], rfl, by rw [mz_k, State.slotsUsed_pushCell, mz_top_size], State.heap_pushCell_size _ _, fun x hx => State.heap_pushCell_of_lt _ _ hx, fun j hj => absurd hj (Nat.not_lt_zero j)⟩
  | i + 1 => mz_I_next (mz_I_k S cA ci i)
theorem mz_k_frame (S : State) (f : JFrame) (cA ci : ClassId) : ∀ i : Nat, mz_k (S.setTop f) cA ci i = (mz_k S cA ci i).setTop f
  | 0 => rfl
  | i + 1 => by
    rw [mz_k, mz_k_frame S f cA ci i]
    rfl
theorem mz_k_java (S : State) (cA ci : ClassId) : ∀ i : Nat, (mz_k S cA ci i).topJava? = S.topJava?
  | 0 => rfl
  | i + 1 => mz_k_java S cA ci i
theorem mz_stand (X : Stand p l e R s m args below meth c T locs cells slots) (cA ci : ClassId) : ∀ i : Nat, Stand p l e R s m args below meth c (mz_k T cA ci i) locs (cells + 1 + i) (slots + 5 + 17 * i)
  | 0 => by
    have Y := X.pushed (mz_top cA T.heap.size 0)
    rw [mz_top_size] at Y
    exact Y
  | i + 1 => by
    obtain ⟨h1, -, -, h4, -, -⟩ := mz_I_k T cA ci i
    have Y := (mz_stand X cA ci i).pushed (mz_row ci)
    rw [mz_row_size] at Y
    have hc : ((mz_k T cA ci i).pushCell (mz_row ci)).heap[T.heap.size]? = some (mz_top cA T.heap.size i) := by
      rw [State.heap_pushCell_of_lt _ _ (show T.heap.size < (mz_k T cA ci i).heap.size by omega)]
      exact h4
    have Z := Y.stored hc i (.ref (T.heap.size + 1 + i))
    rw [mz_top_next] at Z
    have Z2 := Z.dropFresh (fun x hx => by
      rw [List.mem_singleton.mp hx]
      exact X.heapGrown)
    rw [show slots + 5 + 17 * (i + 1) = slots + 5 + 17 * i + 17 by omega]
    exact Z2
end MZ
section MY
variable {E : CtlPost} {e : Env} {d : Bool} {acts : List Action} {U : State}
theorem mz_make1 {ci cb : ClassId} {kc : Class} (hk : U.vm.classes[ci]? = some kc) (hkind : kc.kind = .array cb .int) (hlim : ¬ 17 > e.platform.arrayLengthLimit) (hheap : ¬ 17 * componentBytes .int > e.platform.maxHeapBytes) (h1 : U.heap.size < e.platform.maxCells) (h2 : U.slotsUsed + 17 ≤ e.platform.maxSlots)
    {Q : Addr → Pre} (hq : ∀ acts', Q U.heap.size d acts' (U.pushCell (mz_row ci))) : wp (multianewarray.make ci [17]) Q E e d acts U := by
  unfold multianewarray.make
  simp only [wp_bind', W.ite, show ¬ ((17 : Int32) < 0) by decide, if_false, wp_pure', W.theClass, hk, hkind, Option.some.injEq, exists_eq_left']
  refine W.newArray_of (howMany := 17) hk hkind hlim hheap h1 h2 rfl (fun acts' => ?_)
  have hc := hq acts'
  rw [← mz_row_first] at hc
  exact hc
/-- one turn: a row made and laid -/
theorem mz_turn {S : State} {cA ci cb : ClassId} {kA kc : Class} (hkA : S.vm.classes[cA]? = some kA) (hkindA : kA.kind = .array ci (.array .int)) (hk : S.vm.classes[ci]? = some kc) (hkind : kc.kind = .array cb .int) (hlim : 17 ≤ e.platform.arrayLengthLimit) (hheap : 17 * 4 ≤ e.platform.maxHeapBytes) (h1 : S.heap.size + 6 ≤ e.platform.maxCells) (h2 : S.slotsUsed + 90 ≤ e.platform.maxSlots)
    {i : Nat} (hi : i < 5) {Q : ForInStep PUnit → Pre} (hq : ∀ d' acts', Q (.yield PUnit.unit) d' acts' (mz_k S cA ci (i + 1))) : wp (do
      let a ← multianewarray.make ci [17]
      writeLoc S.heap.size i (.ref a)
      Pure.pure (ForInStep.yield PUnit.unit)) Q E e d acts (mz_k S cA ci i) := by
  obtain ⟨f1, f2, f3, f4, -, -⟩ := mz_I_k S cA ci i
  have hb : componentBytes .int = 4 := rfl
  simp only [wp_bind']
  refine mz_make1 (by rw [f2]; exact hk) hkind (by omega) (by rw [hb]; omega) (by omega) (by omega) (fun acts' => ?_)
  rw [wp_bind', W.writeLoc]
  refine ⟨mz_top cA S.heap.size i, ?_, (fun h => by cases h), by rw [mz_top_size]; exact hi, ?_, ?_⟩
  · rw [State.heap_pushCell_of_lt _ _ (show S.heap.size < (mz_k S cA ci i).heap.size by omega)]
    exact f4
  · show ((mz_k S cA ci i).pushCell (mz_row ci)).fitsSlot cA .none i _ = true
    rw [State.fitsSlot_pushCell]
    simp [State.fitsSlot, State.slotType?, f2, hkA, hkindA, fits]
  · rw [wp_pure', f1, mz_top_next]
    exact hq _ _
/-- the turns from i on -/
theorem mz_turns {S : State} {cA ci cb : ClassId} {kA kc : Class} (hkA : S.vm.classes[cA]? = some kA) (hkindA : kA.kind = .array ci (.array .int)) (hk : S.vm.classes[ci]? = some kc) (hkind : kc.kind = .array cb .int) (hlim : 17 ≤ e.platform.arrayLengthLimit) (hheap : 17 * 4 ≤ e.platform.maxHeapBytes) (h1 : S.heap.size + 6 ≤ e.platform.maxCells) (h2 : S.slotsUsed + 90 ≤ e.platform.maxSlots)
    {Q : PUnit → Pre} (hq : ∀ d' acts', Q PUnit.unit d' acts' (mz_k S cA ci 5)) : ∀ (n i : Nat) (d : Bool) (acts : List Action), i + n = 5 → wp (forIn (List.range' i n 1) PUnit.unit fun i (_ : PUnit) => do
      let a ← multianewarray.make ci [17]
      writeLoc S.heap.size i (.ref a)
      Pure.pure (ForInStep.yield PUnit.unit)) Q E e d acts (mz_k S cA ci i)
  | 0, i, d, acts, h => by
    rw [show i = 5 by omega]
    exact hq d acts
  | n + 1, i, d, acts, h => by
    rw [List.range'_succ, List.forIn_cons, wp_bind']
    exact mz_turn hkA hkindA hk hkind hlim hheap h1 h2 (by omega) (fun d' acts' => mz_turns hkA hkindA hk hkind hlim hheap h1 h2 hq n (i + 1) d' acts' (by omega))
theorem mz_make2 {S : State} {cA ci cb : ClassId} {kA kc : Class} (hkA : S.vm.classes[cA]? = some kA) (hkindA : kA.kind = .array ci (.array .int)) (hk : S.vm.classes[ci]? = some kc) (hkind : kc.kind = .array cb .int) (hlim : 17 ≤ e.platform.arrayLengthLimit) (hheap : 17 * 4 ≤ e.platform.maxHeapBytes) (h1 : S.heap.size + 6 ≤ e.platform.maxCells) (h2 : S.slotsUsed + 90 ≤ e.platform.maxSlots)
    {Q : Addr → Pre} (hq : ∀ d' acts', Q S.heap.size d' acts' (mz_k S cA ci 5)) : wp (multianewarray.make cA [5, 17]) Q E e d acts S := by
  have hb : componentBytes .int = 4 := rfl
  have hbA : componentBytes (.array .int) = 4 := rfl
  unfold multianewarray.make
  simp only [wp_bind', W.ite, show ¬ ((5 : Int32) < 0) by decide, if_false, wp_pure', W.theClass, hkA, hkindA, Option.some.injEq, exists_eq_left']
  refine W.newArray_of (howMany := 5) hkA hkindA (by omega) (by rw [hbA]; omega) (by omega) (by omega) rfl (fun acts' => ?_)
  rw [mz_top_first cA S.heap.size]
  have hfind : ([17] : List Int32).find? (· < 0) = none := by decide
  have h5 : (5 : Int32).toNatClampNeg = 5 := by decide
  simp only [hfind, h5]
  have hloop := mz_turns (E := E) hkA hkindA hk hkind hlim hheap h1 h2 (Q := fun _ => wp (Pure.pure S.heap.size) Q E e) (fun d' acts' => hq d' acts') 5 0 d acts' rfl
  rw [if_neg (by decide), wp_bind', Std.Legacy.Range.forIn_eq_forIn_range']
  exact hloop
theorem mz_sem {T : State} {f : JFrame} {index : Nat} {rest : List Value} {vm₁ : Vm} {cA ci cb : ClassId} {kA kc : Class} {d : Bool} {acts : List Action} (hs : T.topJava?.isSome) (hg : (Jvm.resolveClass f.method.cls index).Gives e.toSetting T.vm (.ok cA) vm₁) (hsz : vm₁.classes.size ≤ T.vm.classes.size) (hstack : f.stack = .int 17 :: .int 5 :: rest)
    (hkA : vm₁.classes[cA]? = some kA) (hkindA : kA.kind = .array ci (.array .int)) (hk : vm₁.classes[ci]? = some kc) (hkind : kc.kind = .array cb .int) (hlim : 17 ≤ e.platform.arrayLengthLimit) (hheap : 17 * 4 ≤ e.platform.maxHeapBytes) (h1 : T.heap.size + 6 ≤ e.platform.maxCells) (h2 : T.slotsUsed + 90 ≤ e.platform.maxSlots)
    {Q : Unit → Pre} (hq : ∀ d' acts', Q () d' acts' ((mz_k (T.setVm vm₁) cA ci 5).setTop { f with stack := .ref T.heap.size :: rest })) : wp (multianewarray.sem index 2) Q E e d acts (T.setTop f) := by
  unfold multianewarray.sem
  simp only [wp_bind']
  rw [W.resolveClassAt_links (t := T.setTop f) (State.method?_setTop f hs) hg hsz, wp_bind', W.popN, if_neg (by decide)]
  refine ⟨f, State.topJava?_setTop' _ hs, [.int 5, .int 17], rest, rfl, hstack, ?_⟩
  simp only [List.mapM_cons, List.mapM_nil, wp_bind', wp_pure']
  refine mz_make2 (S := ((T.setTop f).setVm vm₁).setTop { f with stack := rest }) (kA := kA) (kc := kc) hkA hkindA hk hkind hlim hheap h1 h2 (fun d' acts' => ?_)
  have hS : ((T.setTop f).setVm vm₁).setTop { f with stack := rest } = (T.setVm vm₁).setTop { f with stack := rest } := by
    rw [show (T.setTop f).setVm vm₁ = (T.setVm vm₁).setTop f from rfl, State.setTop_setTop]
  have ht : (mz_k (T.setVm vm₁) cA ci 5).topJava?.isSome := by
    rw [mz_k_java]
    exact hs
  rw [hS, mz_k_frame, wp_bind', W.mark, W.pushRef]
  refine ⟨{ f with stack := rest }, State.topJava?_setTop' _ ht, ?_⟩
  rw [State.setTop_setTop]
  exact hq _ _
end MY
section MX
variable {p : Program} {l : Launch} {e : Env} {R : Room} {s : State} {m : MethodId} {args : Array Value} {below : List Frame} {meth : Method} {c : Code} {T : State} {locs : List Loc} {cells slots : Nat}
/-- the instruction, cold or warm -/
theorem mz_step (X : Stand p l e R s m args below meth c T locs cells slots) (hexec : p.tables.exec = Jvm.exec) {own : String} {index : Nat} (hown : s.vm.findClass own = some m.cls) (hclink : (Cond.classLink own index ("[" ++ (FieldType.array .int).toString)).before args s = true) (hover : va_AOA .int s) (harr : (Cond.arrayClass .int).before args s = true)
    {g : JFrame} (hg : g.method = m) (hdg : decode c.code g.pc = .ok (.multianewarray index 2, 4)) {rest : List Value} (hstack : g.stack = .int 17 :: .int 5 :: rest) (hcells : cells + 6 ≤ R.cells) (hslots : slots + 90 ≤ R.slots) :
    ∃ (vm₁ : Vm) (cA ci : ClassId) (kA : Class), s.vm.findClass ("[" ++ (FieldType.array .int).toString) = some cA ∧ s.vm.findClass (FieldType.array .int).toString = some ci ∧ s.vm.classes[cA]? = some kA ∧ kA.kind = .array ci (.array .int) ∧ Stand p l e R s m args below meth c (mz_k (T.setVm vm₁) cA ci 5) locs (cells + 6) (slots + 90) ∧
      ∀ target, Steps p.tables e below ((mz_k (T.setVm vm₁) cA ci 5).setTop { g with pc := g.pc + 4, stack := .ref T.heap.size :: rest }) target → Steps p.tables e below (T.setTop g) target := by
  subst hg
  obtain ⟨ci, cA, kA, h1, -, h3, h4, h5⟩ := aoa_spec hover
  obtain ⟨ci', kc, cb, g1, g2, g3⟩ := Cond.arrayClass_spec harr
  have ei : some ci = some ci' := h1.symm.trans g1
  cases ei
  obtain ⟨cA', l1, l2⟩ := Cond.classLink_spec hown hclink e.platform (by rw [X.admits.platform])
  have eA : some cA = some cA' := h5.symm.trans l1
  cases eA
  obtain ⟨v1, v2, v3⟩ := State.classEntry (e := e) X.warmed l2
  generalize T.vm.noted g.method.cls index (.cls cA) = vm₁ at v1 v2 v3
  obtain ⟨kA1, a1, a2⟩ := v2.alike.2.2 _ _ h3
  obtain ⟨kc1, b1, b2⟩ := v2.alike.2.2 _ _ g2
  have a3 : kA1.kind = .array ci (.array .int) := by rw [a2]; exact h4
  have b3 : kc1.kind = .array cb .int := by rw [b2]; exact g3
  obtain ⟨r1, r2⟩ := X.roomAbove hcells hslots
  refine ⟨vm₁, cA, ci, kA, h5, h1, h3, h4, mz_stand (X.noted v2) cA ci 5, fun target hrest => ?_⟩
  refine Steps.instr (c := c) X.here ?_
  simp only [hdg]
  rw [hexec]
  have lim := Launch.admits_arrayLengthLimit X.admits
  have hp := Launch.admits_maxHeapBytes X.admits
  refine mz_sem (T := T) (f := g) X.here.top v1 (by no_record) hstack a1 a3 b1 b3 (by omega) (by omega) r1 r2 (fun d' acts' acts'' => ?_)
  have ht : (mz_k (T.setVm vm₁) cA ci 5).topJava?.isSome := by
    rw [mz_k_java]
    exact X.here.top
  simpa [jvm, ht] using hrest
end MX
section VGM
variable {p : Program} {l : Launch} {e : Env} {R : Room} {s : State} {m : MethodId} {args : Array Value} {below : List Frame} {meth : Method} {c : Code} {H : Heap} {locs : List Loc} {cells slots : Nat} {Q : State → Prop}
variable {cc : ByteArray} {pc : Nat} {ls : Array Slot} {rest : List Value} {D : va_G} {cl : List vw_C} {A : Nat → Prop} {a : Nat} {tys : List (ClassId × FieldType)} {ws : va_W} {H0 : Heap}
theorem mz_mna {X : va_W} {L : List Nat} {f : Nat → va_E} {cc : ByteArray} (hexec : p.tables.exec = Jvm.exec) (hb : c.code = cc) {own : String} {index : Nat} {cy : ClassId} (hown : s.vm.findClass own = some m.cls) (hclink : (Cond.classLink own index ("[" ++ (FieldType.array .int).toString)).before args s = true) (hover : va_AOA .int s) (harr : (Cond.arrayClass .int).before args s = true) (hcy : s.vm.findClass (FieldType.array .int).toString = some cy)
    (hK : va_K D cl tys s) (hP : va_P D cl (X ++ va_pl L f) H) (hD : va_D A (X ++ va_pl L f)) (hS : va_S A H0 H locs) (hA : ∀ q, H0.size ≤ q → A q) (hcells : cells + 6 ≤ R.cells) (hslots : slots + 90 ≤ R.slots) (hdg : decode cc pc = .ok (.multianewarray index 2, 4))
    (kk : ∀ (q : Nat) (r : Nat → Nat) (cA : ClassId) (H1 : Heap), (∀ i j : Nat, i < 5 → j < 5 → r i = r j → i = j) → (∀ i : Nat, i < 5 → r i ∉ L) → va_K D cl (tys ++ [(cA, .array .int)]) s →
      va_P D cl ((X ++ [(q, .inl (cA, 5, .inr (.inr (.inr (.inr (fun i => if i < 5 then some (r i) else none))))))]) ++ va_pl (L ++ (List.range 5).map r) (vr_up f ((List.range 5).map r) (.inl (cy, (17, .inl (fun _ => 0)))))) H1 → va_D A ((X ++ [(q, .inl (cA, 5, .inr (.inr (.inr (.inr (fun i => if i < 5 then some (r i) else none))))))]) ++ va_pl (L ++ (List.range 5).map r) (vr_up f ((List.range 5).map r) (.inl (cy, (17, .inl (fun _ => 0)))))) → va_S A H0 H1 locs →
      W p l e R s m args below meth c H1 locs (cells + 6) (slots + 90) Q (F0 m (pc + 4) ls (.ref q :: rest))) : W p l e R s m args below meth c H locs cells slots Q (F0 m pc ls (.int 17 :: .int 5 :: rest)) := by
  intro T hT Xs
  obtain ⟨vm₁, cA, ci, kA, fA, fC, fk, fkind, X', step⟩ := mz_step Xs hexec hown hclink hover harr (g := F0 m pc ls (.int 17 :: .int 5 :: rest)) rfl (by rw [hb]; exact hdg) rfl hcells hslots
  have ec : some cy = some ci := hcy.symm.trans fC
  cases ec
  obtain ⟨f1, -, -, f2, hold, hrow⟩ := mz_I_k (T.setVm vm₁) cA cy 5
  generalize mz_k (T.setVm vm₁) cA cy 5 = F at X' step f1 f2 hold hrow
  have hTh : (T.setVm vm₁).heap = H := hT
  rw [hTh] at f1 f2 hold hrow
  have hlt : ∀ a, a ∈ L → a < H.size := fun a ha => by
    obtain ⟨k9, hk9⟩ := va_pl_get (X := X) (f := f) ha
    exact (hP k9 _ hk9).lt
  have hnl : ∀ i : Nat, i < 5 → H.size + 1 + i ∉ L := fun i _ h => by
    have := hlt _ h
    omega
  have hnm : ∀ a, a ∈ (List.range 5).map (fun i => H.size + 1 + i) → a ∉ L := fun a ha h => by
    obtain ⟨i, -, rfl⟩ := List.mem_map.mp ha
    have := hlt _ h
    omega
  have hP0 : va_P D cl (X ++ va_pl L f) F.heap := hP.kept (fun k9 x hx => hold x.1 ((hP k9 x hx).lt))
  have hP1 : va_P D cl ((X ++ va_pl L f) ++ [(H.size, .inl (cA, 5, .inr (.inr (.inr (.inr (fun i => if i < 5 then some (H.size + 1 + i) else none))))))]) F.heap := hP0.app (fun k9 x hx => by
    have h0 : k9 < 1 := (List.getElem?_eq_some_iff.mp hx).1
    rw [show k9 = 0 by omega] at hx
    cases hx
    exact f2)
  have hP2 : va_P D cl (((X ++ va_pl L f) ++ [(H.size, .inl (cA, 5, .inr (.inr (.inr (.inr (fun i => if i < 5 then some (H.size + 1 + i) else none))))))]) ++ ((List.range 5).map (fun i => H.size + 1 + i)).map (fun a => (a, .inl (cy, (17, .inl (fun _ => 0)))))) F.heap := hP1.app (fun k9 x hx => by
    obtain ⟨a, ha, rfl⟩ := List.mem_map.mp (List.mem_of_getElem? hx)
    obtain ⟨i, hi, rfl⟩ := List.mem_map.mp ha
    exact hrow i (List.mem_range.mp hi))
  have hD2 : va_D A (((X ++ va_pl L f) ++ [(H.size, .inl (cA, 5, .inr (.inr (.inr (.inr (fun i => if i < 5 then some (H.size + 1 + i) else none))))))]) ++ ((List.range 5).map (fun i => H.size + 1 + i)).map (fun a => (a, .inl (cy, (17, .inl (fun _ => 0)))))) := by
    have hD1 := hD.push (e := .inl (cA, 5, .inr (.inr (.inr (.inr (fun i => if i < 5 then some (H.size + 1 + i) else none)))))) hP rfl (hA _ hS.1)
    generalize hW1 : (X ++ va_pl L f) ++ [(H.size, .inl (cA, 5, .inr (.inr (.inr (.inr (fun i => if i < 5 then some (H.size + 1 + i) else none))))))] = W1 at hD1 hP1 ⊢
    have hle : ∀ (k9 : Nat) (x : Nat × va_E), W1[k9]? = some x → x.1 ≤ H.size := fun k9 x hx => by
      rw [← hW1] at hx
      by_cases hl : k9 < (X ++ va_pl L f).length
      · rw [List.getElem?_append_left hl] at hx
        exact Nat.le_of_lt ((hP k9 x hx).lt)
      · rw [List.getElem?_append_right (by omega)] at hx
        have h0 : k9 - (X ++ va_pl L f).length < 1 := (List.getElem?_eq_some_iff.mp hx).1
        rw [show k9 - (X ++ va_pl L f).length = 0 by omega] at hx
        cases hx
        exact Nat.le_refl _
    have hr : ∀ (k9 : Nat) (x : Nat × va_E), (((List.range 5).map (fun i => H.size + 1 + i)).map (fun a => ((a, .inl (cy, (17, .inl (fun _ => 0)))) : Nat × va_E)))[k9]? = some x → x.1 = H.size + 1 + k9 := fun k9 x hx => by
      rw [List.getElem?_map, List.getElem?_map] at hx
      by_cases h9 : k9 < 5
      · rw [List.getElem?_range h9] at hx
        cases hx
        rfl
      · have hn0 : (List.range 5)[k9]? = none := List.getElem?_eq_none (by rw [List.length_range]; omega)
        rw [hn0] at hx
        cases hx
    refine ⟨fun i j x y hi hj hxy => ?_, fun k9 x hx => ?_⟩
    · by_cases h1 : i < W1.length <;> by_cases h2 : j < W1.length
      · rw [List.getElem?_append_left h1] at hi
        rw [List.getElem?_append_left h2] at hj
        exact hD1.1 i j x y hi hj hxy
      · rw [List.getElem?_append_left h1] at hi
        rw [List.getElem?_append_right (by omega)] at hj
        have := hle _ _ hi
        have := hr _ _ hj
        omega
      · rw [List.getElem?_append_right (by omega)] at hi
        rw [List.getElem?_append_left h2] at hj
        have := hle _ _ hj
        have := hr _ _ hi
        omega
      · rw [List.getElem?_append_right (by omega)] at hi hj
        have := hr _ _ hi
        have := hr _ _ hj
        omega
    · by_cases h1 : k9 < W1.length
      · rw [List.getElem?_append_left h1] at hx
        exact hD1.2 k9 x hx
      · rw [List.getElem?_append_right (by omega)] at hx
        have := hr _ _ hx
        exact hA _ (by have := hS.1; omega)
  have hAr : ArrOfT s cA (.array .int) := fun N9 z9 => by
    exact ⟨(fun q hq => by cases hq), kA, fk, cy, fkind⟩
  have hK2 : va_K D cl (tys ++ [(cA, .array .int)]) s := ⟨hK.1, fun k9 x hx => by
    by_cases hl : k9 < tys.length
    · rw [List.getElem?_append_left hl] at hx
      exact hK.2 k9 x hx
    · rw [List.getElem?_append_right (by omega)] at hx
      have h0 : k9 - tys.length < 1 := (List.getElem?_eq_some_iff.mp hx).1
      rw [show k9 - tys.length = 0 by omega] at hx
      cases hx
      exact ⟨hAr, fA⟩⟩
  obtain ⟨t, a1, b1⟩ := kk H.size (fun i => H.size + 1 + i) cA F.heap (fun i j _ _ h => by have h9 : H.size + 1 + i = H.size + 1 + j := h; omega) hnl hK2 (by rw [← vr_rows hnm]; exact vr_lay hP2) (by rw [← vr_rows hnm]; exact vr_layD hD2) ⟨by rw [f1]; have := hS.1; omega, fun x h1 h2 => (hold x (Nat.lt_of_lt_of_le h1 hS.1)).trans (hS.2.1 x h1 h2), hS.2.2⟩ F rfl X'
  refine ⟨t, step t ?_, b1⟩
  have e : T.heap.size = H.size := by rw [hT]
  rw [e]
  exact a1
end VGM
def kc_Mk (U : State) : Prop := va_AO RX2 U ∧ va_AOA .int U
theorem kc_Mk_moved {u U : State} (hvm : u.vm.Alike U.vm) (h : kc_Mk u) : kc_Mk U := ⟨va_AO.moved hvm h.1, va_AOA_moved hvm h.2⟩
def kc_PreC (D : va_G) (cx : Nat → ClassId) (w : va_W) (av : List Value) (sz : Nat) : Array Value → State → Prop := fun a U => kc_Pre D cx w av sz a U ∧ kc_Mk U
theorem kc_blindC (D : va_G) (cx : Nat → ClassId) (w : va_W) (av : List Value) (sz : Nat) : FrameBlind (kc_PreC D cx w av sz) := fun a U g mk q => ⟨kc_blind D cx w av sz a U g mk q.1, kc_Mk_moved (u := U) (U := U.calling g mk a) (Vm.Alike.refl U.vm) q.2⟩
theorem kc_preC {D : va_G} {cx : Nat → ClassId} {s : State} {H : Heap} {w : va_W} {A : Nat → Prop} (av : List Value) (hK : va_K D classes (kc_TY cx) s) (hN : kc_NW s) (hM : kc_Mk s) (hP : va_P D classes w H) (hD : va_D A w) : ∀ U : State, U.heap = H → s.WarmedH U.vm → kc_PreC D cx w av H.size av.toArray U :=
  fun U hU hW => ⟨kc_pre av hK hN hP hD U hU hW, kc_Mk_moved hW.alike hM⟩
theorem kc_entryC {l : Launch} {y : MethodName} {cc : ByteArray} {maxL : Nat} {ret : Option FieldType} {rm : Room} {D : va_G} {cx : Nat → ClassId} {w : va_W} {av : List Value} {sz mc ms : Nat} {Qc : (Nat → Prop) → Array Value → State → Outcome → State → Prop} (hy : plainName y.cls = true) (hn : (lg_sl av).length ≤ maxL)
    (body : ∀ (p : Program) (e : Env) (s : State) (m : MethodId) (below : List Frame) (meth : Method) (c : Code) (A : Nat → Prop), p.tables.exec = Jvm.exec → c.code = cc → meth.sig.returnType = ret → meth.locks = false → c.maxLocals = maxL → s.vm.findClass y.cls = some m.cls → meth.name = y.name → (∀ w ∈ kc_TB, w.before av.toArray s = true) → kc_NW s → kc_Mk s → va_K D classes (kc_TY cx) s → va_P D classes w s.heap → va_D A w → va_S A s.heap s.heap [] → (∀ q, s.heap.size ≤ q → A q) → ∀ ls : Array Slot, lv_has ls maxL (lv_args 0 av) →
      W p l e rm s m av.toArray below meth c s.heap [] 0 0 (MQ below (Qc A) av.toArray s mc ms A) (F0 m 0 ls [])) :
    Met l y (.code y cc maxL ret :: kc_TB) rm (kc_PreC D cx w av sz) (Qc (va_A w sz)) mc ms (va_A w sz) := by
  refine Met.ofW (cc := cc) (maxL := maxL) (ret := ret) hy rfl ?_
  intro p e s m args below meth c s₁ B hml hv
  obtain ⟨⟨rfl, hsz, hP, hK, hD0, hN⟩, hM⟩ := hv
  have hts := atoms_spec (ws := .code y cc maxL ret :: kc_TB) B.pre
  subst hsz
  have hl := lv_entry av (n := maxL) hn
  rw [lg_entry_eq]
  exact body p e s m below meth c (va_A w s.heap.size) B.exec B.bytes B.returns B.notSynchronized hml (findClass_of_methodNamed B.named) (name_of_methodNamed B.named B.method).1 (fun w hw => hts w (List.mem_cons_of_mem _ hw)) hN hM hK hP (hD0.self (sz := s.heap.size)) va_S.rf (fun q h => Or.inr h) _ hl
theorem kc_rows5 (r : Nat → Nat) (f : Nat → va_E) (e : va_E) : va_pl ([] ++ (List.range 5).map r) (vr_up f ((List.range 5).map r) e) = [(r 0, e), (r 1, e), (r 2, e), (r 3, e), (r 4, e)] := by
  have h : ∀ i, i < 5 → vr_up f ((List.range 5).map r) e (r i) = e := fun i hi => vr_up_in (List.mem_map.mpr ⟨i, List.mem_range.mpr hi, rfl⟩)
  show [(r 0, vr_up f ((List.range 5).map r) e (r 0)), (r 1, vr_up f ((List.range 5).map r) e (r 1)), (r 2, vr_up f ((List.range 5).map r) e (r 2)), (r 3, vr_up f ((List.range 5).map r) e (r 3)), (r 4, vr_up f ((List.range 5).map r) e (r 4))] = _
  rw [h 0 (by decide), h 1 (by decide), h 2 (by decide), h 3 (by decide), h 4 (by decide)]
section KH
variable {p : Program} {l : Launch} {e : Env} {R : Room} {s : State} {m : MethodId} {args : Array Value} {below : List Frame} {meth : Method} {c : Code} {H H0 : Heap} {locs : List Loc} {cells slots mc ms : Nat} {Q : State → Prop} {D : va_G} {A0 : Nat → Prop} {pc : Nat} {ls : Array Slot} {rest : List Value} {ws : va_W} {cc : ByteArray}
theorem kc_mna (cx : Nat → ClassId) (hexec : p.tables.exec = Jvm.exec) (hb : c.code = cc) {own : String} {index : Nat} (hown : s.vm.findClass own = some m.cls) (hcl : (Cond.classLink own index "[[I").before args s = true) (hover : va_AOA .int s) (harr : (Cond.arrayClass .int).before args s = true) (hK : va_K D classes (kc_TY cx) s) (hP : va_P D classes ws H) (hD : va_D A0 ws) (hS : va_S A0 H0 H locs) (hA : ∀ q, H0.size ≤ q → A0 q) (hcells : cells + 6 ≤ R.cells) (hslots : slots + 90 ≤ R.slots) (hdg : decode cc pc = .ok (.multianewarray index 2, 4))
    (kk : ∀ (q : Nat) (r : Nat → Nat) (H1 : Heap), va_P D classes (ws ++ [(q, .inl (cx 4, 5, .inr (.inr (.inr (.inr (fun i => if i < 5 then some (r i) else none)))))), (r 0, .inl (cx 0, 17, .inl (fun _ => 0))), (r 1, .inl (cx 0, 17, .inl (fun _ => 0))), (r 2, .inl (cx 0, 17, .inl (fun _ => 0))), (r 3, .inl (cx 0, 17, .inl (fun _ => 0))), (r 4, .inl (cx 0, 17, .inl (fun _ => 0)))]) H1 → va_D A0 (ws ++ [(q, .inl (cx 4, 5, .inr (.inr (.inr (.inr (fun i => if i < 5 then some (r i) else none)))))), (r 0, .inl (cx 0, 17, .inl (fun _ => 0))), (r 1, .inl (cx 0, 17, .inl (fun _ => 0))), (r 2, .inl (cx 0, 17, .inl (fun _ => 0))), (r 3, .inl (cx 0, 17, .inl (fun _ => 0))), (r 4, .inl (cx 0, 17, .inl (fun _ => 0)))]) → va_S A0 H0 H1 locs → W p l e R s m args below meth c H1 locs (cells + 6) (slots + 90) Q (F0 m (pc + 4) ls (.ref q :: rest))) : W p l e R s m args below meth c H locs cells slots Q (F0 m pc ls (.int 17 :: .int 5 :: rest)) := by
  have hcy : s.vm.findClass (FieldType.array .int).toString = some (cx 0) := (hK.2 0 (cx 0, .int) rfl).2
  refine mz_mna (X := ws) (L := []) (f := fun _ => .inl (cx 0, 0, .inl (fun _ => 0))) hexec hb hown hcl hover harr hcy hK (by simpa [va_pl] using hP) (by simpa [va_pl] using hD) hS hA hcells hslots hdg (fun q r cA H1 _ _ hK1 hP1 hD1 hS1 => ?_)
  rw [kc_rows5] at hP1 hD1
  have e1 : s.vm.findClass ("[" ++ (FieldType.array .int).toString) = some cA := (hK1.2 5 (cA, .array .int) rfl).2
  have e2 : s.vm.findClass ("[" ++ (FieldType.array .int).toString) = some (cx 4) := (hK.2 4 (cx 4, .array .int) rfl).2
  have e3 : cA = cx 4 := Option.some.inj (e1.symm.trans e2)
  subst e3
  rw [List.append_assoc] at hP1 hD1
  exact kk q r H1 hP1 hD1 hS1
end KH
