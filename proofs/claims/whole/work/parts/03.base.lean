/-! the words of the tables that a call may carry, the classes of the worlds, and one row for a method's entry, its end, a call -/
def kc_TB : List Cond := lw_tbl.filter goodWord
abbrev classes : List vw_C := [(RX0, TX0, 5), (RX1, TX1, 9), (RX2, TX2, 4), (RX3, TX3, 12), (RX4, TX4, 7), (RX5, TX5, 23)]
def kc_TY (cx : Nat → ClassId) : List (ClassId × FieldType) := [(cx 0, .int), (cx 1, .byte), (cx 2, .long), (cx 3, .object RX2), (cx 4, .array .int)]
theorem kc_in {w : Cond} (i : Nat) (h : lw_tbl[i]? = some w) (hg : goodWord w = true) : w ∈ kc_TB := List.mem_filter.mpr ⟨List.mem_of_getElem? h, hg⟩
theorem kc_tbl {w : Cond} (h : w ∈ kc_TB) : w ∈ lw_tbl := (List.mem_filter.mp h).1
theorem kc_all {ws : List Cond} (h : ∀ w ∈ ws, w ∈ kc_TB) : GoodIn kc_TB ws := fun w hw => ⟨h w hw, good_of_word (List.mem_filter.mp (h w hw)).2⟩
theorem kc_gI {cd : Cond} (h5 : cd ∈ kc_TB) : GoodIn kc_TB (cd :: kc_TB) := kc_all (fun w hw => by
  rcases List.mem_cons.mp hw with e | e
  · rw [e]; exact h5
  · exact e)
theorem kc_gV {own C : String} {idx : Nat} {y : MethodName} {cd : Cond} (h1 : Cond.methodLink own idx y ∈ kc_TB) (h2 : Cond.instanceMethod y ∈ kc_TB) (h3 : Cond.selects C y y ∈ kc_TB) (h4 : Cond.initialized C ∈ kc_TB) (h5 : cd ∈ kc_TB) : GoodIn kc_TB (wsV own idx C y (cd :: kc_TB)) := kc_all (fun w hw => by
  rcases List.mem_append.mp hw with hw | hw
  · simp only [List.mem_cons, List.not_mem_nil, or_false] at hw
    rcases hw with e | e | e | e <;> rw [e] <;> assumption
  · rcases List.mem_cons.mp hw with e | e
    · rw [e]; exact h5
    · exact e)
theorem kc_gS {own : String} {idx : Nat} {y : MethodName} {cd : Cond} (h1 : Cond.methodLink own idx y ∈ kc_TB) (h2 : Cond.static y ∈ kc_TB) (h4 : Cond.initialized own ∈ kc_TB) (h5 : cd ∈ kc_TB) : GoodIn kc_TB (wsS own idx y (cd :: kc_TB)) := kc_all (fun w hw => by
  rcases List.mem_append.mp hw with hw | hw
  · simp only [List.mem_cons, List.not_mem_nil, or_false] at hw
    rcases hw with e | e | e <;> rw [e] <;> assumption
  · rcases List.mem_cons.mp hw with e | e
    · rw [e]; exact h5
    · exact e)
/-- the links over the nest -/
def kc_NW (U : State) : Prop := va_Nw (.methodLinkNest RX0 47 yX4_isWithin RX4) U ∧ va_Nw (.methodLinkNest RX3 103 yX4_isWithin RX4) U ∧ va_Nw (.methodLinkNest RX2 32 yX4_isWithin RX4) U
theorem kc_NW_same {u U : State} (h : u.vm = U.vm) (q : kc_NW u) : kc_NW U := ⟨va_Nw.same rfl h q.1, va_Nw.same rfl h q.2.1, va_Nw.same rfl h q.2.2⟩
theorem kc_NW_warm {s U : State} (hW : s.WarmedH U.vm) (q : kc_NW s) : kc_NW U := ⟨va_Nw.warmM hW q.1, va_Nw.warmM hW q.2.1, va_Nw.warmM hW q.2.2⟩
def kc_Pre (D : va_G) (cx : Nat → ClassId) (w : va_W) (av : List Value) (sz : Nat) : Array Value → State → Prop := va_Pc av (fun U => U.heap.size = sz ∧ va_P D classes w U.heap ∧ va_K D classes (kc_TY cx) U ∧ va_D (fun _ => True) w ∧ kc_NW U)
def kc_Pi {S : Type} (D : va_G) (w : S → va_W) (r : Int32) (A : Nat → Prop) : Array Value → State → Outcome → State → Prop := va_Qi (fun x (_ : S) => x = r) (fun u t => va_P D classes (w u) t.heap ∧ va_D A (w u)) A
def kc_Pl {S : Type} (D : va_G) (w : S → va_W) (r : Int64) (A : Nat → Prop) : Array Value → State → Outcome → State → Prop := va_Ql (fun x (_ : S) => x = r) (fun u t => va_P D classes (w u) t.heap ∧ va_D A (w u)) A
def kc_Pv {S : Type} (D : va_G) (w : S → va_W) (A : Nat → Prop) : Array Value → State → Outcome → State → Prop := va_Qv (fun (_ : S) => True) (fun u t => va_P D classes (w u) t.heap ∧ va_D A (w u)) A
theorem kc_blind (D : va_G) (cx : Nat → ClassId) (w : va_W) (av : List Value) (sz : Nat) : FrameBlind (kc_Pre D cx w av sz) := fun a U g mk q => by
  obtain ⟨q0, q1, qP, qK, qD, qN⟩ := q
  exact ⟨q0, q1, qP, va_K.moved (u := U) (U := U.calling g mk a) (Vm.Alike.refl U.vm) qK, qD, kc_NW_same rfl qN⟩
theorem kc_pre {D : va_G} {cx : Nat → ClassId} {s : State} {H : Heap} {w : va_W} {A : Nat → Prop} (av : List Value) (hK : va_K D classes (kc_TY cx) s) (hN : kc_NW s) (hP : va_P D classes w H) (hD : va_D A w) : ∀ U : State, U.heap = H → s.WarmedH U.vm → kc_Pre D cx w av H.size av.toArray U :=
  fun U hU hW => ⟨rfl, by rw [hU], by rw [hU]; exact hP, va_K.moved hW.alike hK, hD.weaken (fun _ _ _ _ => trivial), kc_NW_warm hW hN⟩
/-- a method's entry -/
theorem kc_entry {l : Launch} {y : MethodName} {cc : ByteArray} {maxL : Nat} {ret : Option FieldType} {rm : Room} {D : va_G} {cx : Nat → ClassId} {w : va_W} {av : List Value} {sz mc ms : Nat} {Qc : (Nat → Prop) → Array Value → State → Outcome → State → Prop} (hy : plainName y.cls = true) (hn : (lg_sl av).length ≤ maxL)
    (body : ∀ (p : Program) (e : Env) (s : State) (m : MethodId) (below : List Frame) (meth : Method) (c : Code) (A : Nat → Prop), p.tables.exec = Jvm.exec → c.code = cc → meth.sig.returnType = ret → meth.locks = false → c.maxLocals = maxL → s.vm.findClass y.cls = some m.cls → meth.name = y.name → (∀ w ∈ kc_TB, w.before av.toArray s = true) → kc_NW s → va_K D classes (kc_TY cx) s → va_P D classes w s.heap → va_D A w → va_S A s.heap s.heap [] → (∀ q, s.heap.size ≤ q → A q) → ∀ ls : Array Slot, lv_has ls maxL (lv_args 0 av) →
      W p l e rm s m av.toArray below meth c s.heap [] 0 0 (MQ below (Qc A) av.toArray s mc ms A) (F0 m 0 ls [])) :
    Met l y (.code y cc maxL ret :: kc_TB) rm (kc_Pre D cx w av sz) (Qc (va_A w sz)) mc ms (va_A w sz) := by
  refine Met.ofW (cc := cc) (maxL := maxL) (ret := ret) hy rfl ?_
  intro p e s m args below meth c s₁ B hml hv
  obtain ⟨rfl, hsz, hP, hK, hD0, hN⟩ := hv
  have hts := atoms_spec (ws := .code y cc maxL ret :: kc_TB) B.pre
  subst hsz
  have hl := lv_entry av (n := maxL) hn
  rw [lg_entry_eq]
  exact body p e s m below meth c (va_A w s.heap.size) B.exec B.bytes B.returns B.notSynchronized hml (findClass_of_methodNamed B.named) (name_of_methodNamed B.named B.method).1 (fun w hw => hts w (List.mem_cons_of_mem _ hw)) hN hK hP (hD0.self (sz := s.heap.size)) va_S.rf (fun q h => Or.inr h) _ hl
section KC
variable {p : Program} {l : Launch} {e : Env} {R : Room} {s : State} {m : MethodId} {args : Array Value} {below : List Frame} {meth : Method} {c : Code} {H : Heap} {locs : List Loc} {cells slots : Nat} {Q : State → Prop} {cc : ByteArray} {D : va_G} {A : Nat → Prop} {pc : Nat} {ls : Array Slot}
theorem kc_iret {S : Type} {w : S → va_W} {r v : Int32} (u : S) (hx : p.tables.exec = Jvm.exec) (hb : c.code = cc) (hr : meth.sig.returnType = some .int) (hk : meth.locks = false) (hP : va_P D classes (w u) H) (hD : va_D A (w u)) (hS : va_S A s.heap H locs) (hv : v = r) (hdg : decode cc pc = .ok (.ireturn, 1)) : W p l e R s m args below meth c H locs cells slots (MQ below (kc_Pi D w r A) args s cells slots A) (F0 m pc ls [.int v]) :=
  W.iret (v := v) hx hb hr (fun t ht _ => ⟨⟨v, u, rfl, hv, by rw [ht]; exact hP, hD⟩, hS.F ht⟩) hS.2.2 hdg
theorem kc_zret {S : Type} {w : S → va_W} {r v : Int32} (u : S) (hx : p.tables.exec = Jvm.exec) (hb : c.code = cc) (hr : meth.sig.returnType = some .boolean) (hk : meth.locks = false) (hP : va_P D classes (w u) H) (hD : va_D A (w u)) (hS : va_S A s.heap H locs) (hv : v = r) (hn : narrow .boolean (.int v) = .int v) (hdg : decode cc pc = .ok (.ireturn, 1)) : W p l e R s m args below meth c H locs cells slots (MQ below (kc_Pi D w r A) args s cells slots A) (F0 m pc ls [.int v]) :=
  W.zret (v := v) hx hb hr hn (fun t ht _ => ⟨⟨v, u, rfl, hv, by rw [ht]; exact hP, hD⟩, hS.F ht⟩) hS.2.2 hdg
theorem kc_lret {S : Type} {w : S → va_W} {r v : Int64} (u : S) (hx : p.tables.exec = Jvm.exec) (hb : c.code = cc) (hr : meth.sig.returnType = some .long) (hk : meth.locks = false) (hP : va_P D classes (w u) H) (hD : va_D A (w u)) (hS : va_S A s.heap H locs) (hv : v = r) (hdg : decode cc pc = .ok (.lreturn, 1)) : W p l e R s m args below meth c H locs cells slots (MQ below (kc_Pl D w r A) args s cells slots A) (F0 m pc ls [.long v]) :=
  W.lret (v := v) hx hb hr (fun t ht _ => ⟨⟨v, u, rfl, hv, by rw [ht]; exact hP, hD⟩, hS.F ht⟩) hS.2.2 hdg
theorem kc_vret {S : Type} {w : S → va_W} (u : S) (hx : p.tables.exec = Jvm.exec) (hb : c.code = cc) (hr : meth.sig.returnType = none) (hk : meth.locks = false) (hP : va_P D classes (w u) H) (hD : va_D A (w u)) (hS : va_S A s.heap H locs) (hdg : decode cc pc = .ok (.return_, 1)) : W p l e R s m args below meth c H locs cells slots (MQ below (kc_Pv D w A) args s cells slots A) (F0 m pc ls []) :=
  W.vret hx hb hr (fun t ht _ => ⟨⟨u, rfl, trivial, by rw [ht]; exact hP, hD⟩, hS.F ht⟩) hS.2.2 hdg
end KC
theorem kc_fm {α β : Type} {f : α → Option β} {l : List α} {r : List β} (h : l.map f = r.map some) : l.filterMap f = r := by
  have h1 : (l.map f).filterMap id = (r.map some).filterMap id := by rw [h]
  rw [List.filterMap_map, List.filterMap_map] at h1
  simpa using h1
/-- what came back beside the rest, in the order of the new world -/
theorem kc_join {A0 : Nat → Prop} {D : va_G} {ws wc w1 w' : va_W} {H H1 : Heap} (hP : va_P D classes ws H) (hD : va_D A0 ws) (isC isR pm : List Nat) (hC : isC.map (fun i => ws[i]?) = wc.map some) (hR : isR.map (fun i => ws[i]?) = (isR.filterMap (fun i => ws[i]?)).map some) (hn : va_nd isR = true) (hdis : ∀ i ∈ isR, i ∉ isC)
    (hp : pm.map (fun i => (isR.filterMap (fun i => ws[i]?) ++ w1)[i]?) = w'.map some) (hpn : va_nd pm = true) (hk : ∀ q : Nat, q < H.size → ¬ va_A wc H.size q → H1[q]? = H[q]?) (hF : ∀ q, va_A wc H.size q → A0 q) (hP1 : va_P D classes w1 H1) (hD1 : va_D (va_A wc H.size) w1) : va_P D classes w' H1 ∧ va_D A0 w' := by
  obtain ⟨a, b⟩ := va_join hP hD isC isR hC hR hn hdis hk hF hP1 hD1
  exact ⟨a.sub pm (kc_fm hp), b.sub pm hpn hp⟩
section KD
variable {p : Program} {l : Launch} {e : Env} {R : Room} {s : State} {m : MethodId} {args : Array Value} {below : List Frame} {meth : Method} {c : Code} {H H0 : Heap} {locs : List Loc} {cells slots mc ms : Nat} {Q : State → Prop} {D : va_G} {A0 : Nat → Prop} {pc : Nat} {ls : Array Slot} {st0 rest : List Value} {a : Array Value} {S : Type} {ws wc : va_W}
theorem kc_calli {r : Int32} {w1 wn : S → va_W} (hr : va_Run p l e R s m args below meth c H locs cells slots mc ms (F0 m pc ls st0) rest (kc_Pi D w1 r (va_A wc H.size) a) (va_A wc H.size)) (hP : va_P D classes ws H) (hD : va_D A0 ws) (hS : va_S A0 H0 H locs) (hA : ∀ q, H0.size ≤ q → A0 q) (isC isR pm : List Nat) (hC : isC.map (fun i => ws[i]?) = wc.map some) (hR : isR.map (fun i => ws[i]?) = (isR.filterMap (fun i => ws[i]?)).map some) (hn : va_nd isR = true) (hdis : ∀ i ∈ isR, i ∉ isC)
    (hp : ∀ u, pm.map (fun i => (isR.filterMap (fun i => ws[i]?) ++ w1 u)[i]?) = (wn u).map some) (hpn : va_nd pm = true)
    (kk : ∀ (u : S) (H1 : Heap) (locs1 : List Loc), va_P D classes (wn u) H1 → va_D A0 (wn u) → va_S A0 H0 H1 locs1 → W p l e R s m args below meth c H1 locs1 (cells + mc) (slots + ms) Q (F0 m (pc + 3) ls (.int r :: rest))) : W p l e R s m args below meth c H locs cells slots Q (F0 m pc ls st0) := by
  have hFc := va_free (wc := wc) hD hS hA isC hC
  refine va_calli hr hS (fun q _ h => hFc q h) hFc (fun r1 u t H1 locs1 ht _ hw hB _ hk1 hS1 => ?_)
  obtain ⟨hP1, hD1⟩ := hB
  rw [ht] at hP1
  subst hw
  obtain ⟨hP2, hD2⟩ := kc_join hP hD isC isR pm hC hR hn hdis (hp u) hpn hk1 hFc hP1 hD1
  exact kk u H1 locs1 hP2 hD2 hS1
theorem kc_calll {r : Int64} {w1 wn : S → va_W} (hr : va_Run p l e R s m args below meth c H locs cells slots mc ms (F0 m pc ls st0) rest (kc_Pl D w1 r (va_A wc H.size) a) (va_A wc H.size)) (hP : va_P D classes ws H) (hD : va_D A0 ws) (hS : va_S A0 H0 H locs) (hA : ∀ q, H0.size ≤ q → A0 q) (isC isR pm : List Nat) (hC : isC.map (fun i => ws[i]?) = wc.map some) (hR : isR.map (fun i => ws[i]?) = (isR.filterMap (fun i => ws[i]?)).map some) (hn : va_nd isR = true) (hdis : ∀ i ∈ isR, i ∉ isC)
    (hp : ∀ u, pm.map (fun i => (isR.filterMap (fun i => ws[i]?) ++ w1 u)[i]?) = (wn u).map some) (hpn : va_nd pm = true)
    (kk : ∀ (u : S) (H1 : Heap) (locs1 : List Loc), va_P D classes (wn u) H1 → va_D A0 (wn u) → va_S A0 H0 H1 locs1 → W p l e R s m args below meth c H1 locs1 (cells + mc) (slots + ms) Q (F0 m (pc + 3) ls (.long r :: rest))) : W p l e R s m args below meth c H locs cells slots Q (F0 m pc ls st0) := by
  have hFc := va_free (wc := wc) hD hS hA isC hC
  refine va_calll hr hS (fun q _ h => hFc q h) hFc (fun r1 u t H1 locs1 ht _ hw hB _ hk1 hS1 => ?_)
  obtain ⟨hP1, hD1⟩ := hB
  rw [ht] at hP1
  subst hw
  obtain ⟨hP2, hD2⟩ := kc_join hP hD isC isR pm hC hR hn hdis (hp u) hpn hk1 hFc hP1 hD1
  exact kk u H1 locs1 hP2 hD2 hS1
theorem kc_callv {w1 wn : S → va_W} (hr : va_Run p l e R s m args below meth c H locs cells slots mc ms (F0 m pc ls st0) rest (kc_Pv D w1 (va_A wc H.size) a) (va_A wc H.size)) (hP : va_P D classes ws H) (hD : va_D A0 ws) (hS : va_S A0 H0 H locs) (hA : ∀ q, H0.size ≤ q → A0 q) (isC isR pm : List Nat) (hC : isC.map (fun i => ws[i]?) = wc.map some) (hR : isR.map (fun i => ws[i]?) = (isR.filterMap (fun i => ws[i]?)).map some) (hn : va_nd isR = true) (hdis : ∀ i ∈ isR, i ∉ isC)
    (hp : ∀ u, pm.map (fun i => (isR.filterMap (fun i => ws[i]?) ++ w1 u)[i]?) = (wn u).map some) (hpn : va_nd pm = true)
    (kk : ∀ (u : S) (H1 : Heap) (locs1 : List Loc), va_P D classes (wn u) H1 → va_D A0 (wn u) → va_S A0 H0 H1 locs1 → W p l e R s m args below meth c H1 locs1 (cells + mc) (slots + ms) Q (F0 m (pc + 3) ls rest)) : W p l e R s m args below meth c H locs cells slots Q (F0 m pc ls st0) := by
  have hFc := va_free (wc := wc) hD hS hA isC hC
  refine va_callv hr hS (fun q _ h => hFc q h) hFc (fun u t H1 locs1 ht _ hw hB _ hk1 hS1 => ?_)
  obtain ⟨hP1, hD1⟩ := hB
  rw [ht] at hP1
  obtain ⟨hP2, hD2⟩ := kc_join hP hD isC isR pm hC hR hn hdis (hp u) hpn hk1 hFc hP1 hD1
  exact kk u H1 locs1 hP2 hD2 hS1
end KD
/-! the pure side: a value, or none where the machine itself would throw -/
def okb {α : Type} (b : Bool) (x : Option α) : Option α := match b with
  | true => x
  | false => none
theorem okb_s {α : Type} {b : Bool} {x : Option α} {r : α} (h : okb b x = some r) : b = true ∧ x = some r := by
  cases b with
  | true => exact ⟨rfl, h⟩
  | false => cases h
theorem okb_t {α : Type} {b : Bool} {x : Option α} (h : b = true) : okb b x = x := by subst h; rfl
def inb (i : Int32) (n : Nat) : Bool := !(decide (i < 0) || decide (n ≤ i.toNatClampNeg))
theorem inb_s {i : Int32} {n : Nat} (h : inb i n = true) : vp_in i n := by
  intro q
  unfold inb at h
  rcases q with q | q <;> simp [q] at h
def isb (v : Int32) : Bool := decide (v = 0) || decide (v = 1)
theorem isb_s {v : Int32} (h : isb v = true) : v = 0 ∨ v = 1 := by
  unfold isb at h
  simpa using h
theorem isb_n {v : Int32} (h : isb v = true) : narrow .boolean (.int v) = .int v ∧ fits .boolean (.int v) = true := by
  rcases isb_s h with e | e <;> subst e <;> exact ⟨rfl, rfl⟩
theorem ob_s {α β : Type} {a : Option α} {f : α → Option β} {r : β} (h : Option.bind a f = some r) : ∃ u, a = some u ∧ f u = some r := by
  cases a with
  | none => cases h
  | some u => exact ⟨u, rfl, h⟩
theorem it_t {α : Type} {c : Prop} [Decidable c] {a b : Option α} {r : α} (h : c) (q : (if c then a else b) = some r) : a = some r := by rw [if_pos h] at q; exact q
theorem it_f {α : Type} {c : Prop} [Decidable c] {a b : Option α} {r : α} (h : ¬ c) (q : (if c then a else b) = some r) : b = some r := by rw [if_neg h] at q; exact q
/-- a loop that may return: its way out goes on -/
def onS {ρ ε α : Type} (v : Sum ρ ε) (f : ρ → Option α) (k : ε → Option α) : Option α := match v with
  | .inl r => f r
  | .inr x => k x
theorem onS_l {ρ ε α : Type} {r : ρ} {f : ρ → Option α} {k : ε → Option α} {v : α} (h : onS (.inl r) f k = some v) : f r = some v := h
theorem onS_r {ρ ε α : Type} {x : ε} {f : ρ → Option α} {k : ε → Option α} {v : α} (h : onS (.inr x) f k = some v) : k x = some v := h
