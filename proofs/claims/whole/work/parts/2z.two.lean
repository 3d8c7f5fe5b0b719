/-! a call on one of two worlds that lie side by side -/
theorem ix_A {α : Type} (A B : List α) {n : Nat} (hA : A.length = n) : (List.range n).map (fun i => (A ++ B)[i]?) = A.map some := by
  apply List.ext_getElem?
  intro i
  rcases Nat.lt_or_ge i n with q | q
  · have h1 : A[i]? = some (A[i]'(by omega)) := List.getElem?_eq_getElem (by omega)
    rw [List.getElem?_map, List.getElem?_range q, List.getElem?_map, h1]
    show some ((A ++ B)[i]?) = _
    rw [List.getElem?_append_left (by omega), h1]
    rfl
  · rw [List.getElem?_eq_none (by simp; omega), List.getElem?_eq_none (by simp; omega)]
theorem ix_B {α : Type} (A B : List α) {n k : Nat} (hA : A.length = n) (hB : B.length = k) : ((List.range k).map (fun i => n + i)).map (fun i => (A ++ B)[i]?) = B.map some := by
  apply List.ext_getElem?
  intro i
  rcases Nat.lt_or_ge i k with q | q
  · have h1 : B[i]? = some (B[i]'(by omega)) := List.getElem?_eq_getElem (by omega)
    rw [List.getElem?_map, List.getElem?_map, List.getElem?_range q, List.getElem?_map, h1]
    show some ((A ++ B)[n + i]?) = _
    rw [List.getElem?_append_right (by omega), show n + i - A.length = i by omega, h1]
    rfl
  · rw [List.getElem?_eq_none (by simp; omega), List.getElem?_eq_none (by simp; omega)]
theorem tw_PA {D : va_G} {wA wB : va_W} {H : Heap} (hP : va_P D classes (wA ++ wB) H) : va_P D classes wA H := hP.sub (List.range wA.length) (kc_fm (ix_A wA wB rfl))
theorem tw_PB {D : va_G} {wA wB : va_W} {H : Heap} (hP : va_P D classes (wA ++ wB) H) : va_P D classes wB H := hP.sub ((List.range wB.length).map (fun i => wA.length + i)) (kc_fm (ix_B wA wB rfl rfl))
theorem tw_DA {A0 : Nat → Prop} {wA wB : va_W} (hlA : wA.length = 33) (hD : va_D A0 (wA ++ wB)) : va_D A0 wA := hD.sub (List.range 33) (by decide) (ix_A wA wB hlA)
theorem tw_DB {A0 : Nat → Prop} {wA wB : va_W} (hlA : wA.length = 33) (hlB : wB.length = 14) (hD : va_D A0 (wA ++ wB)) : va_D A0 wB := hD.sub ((List.range 14).map (fun i => 33 + i)) (by decide) (ix_B wA wB hlA hlB)
theorem tw_rest {α : Type} {is : List Nat} {ws w : List α} (h : is.map (fun i => ws[i]?) = w.map some) : is.map (fun i => ws[i]?) = (is.filterMap (fun i => ws[i]?)).map some := by
  rw [kc_fm h, h]
section TW
variable {p : Program} {l : Launch} {e : Env} {R : Room} {s : State} {m : MethodId} {args : Array Value} {below : List Frame} {meth : Method} {c : Code} {H H0 : Heap} {locs : List Loc} {cells slots mc ms : Nat} {Q : State → Prop} {D : va_G} {A0 : Nat → Prop} {pc : Nat} {ls : Array Slot} {st0 rest : List Value} {a : Array Value} {S : Type} {wA wB : va_W}
theorem tw_iA {r : Int32} {w1 : S → va_W} (hlA : wA.length = 33) (hlB : wB.length = 14) (hl1 : ∀ u, (w1 u).length = 33) (hr : va_Run p l e R s m args below meth c H locs cells slots mc ms (F0 m pc ls st0) rest (kc_Pi D w1 r (va_A wA H.size) a) (va_A wA H.size)) (hP : va_P D classes (wA ++ wB) H) (hD : va_D A0 (wA ++ wB)) (hS : va_S A0 H0 H locs) (hA : ∀ q, H0.size ≤ q → A0 q)
    (kk : ∀ (u : S) (H1 : Heap) (locs1 : List Loc), va_P D classes (w1 u ++ wB) H1 → va_D A0 (w1 u ++ wB) → va_S A0 H0 H1 locs1 → W p l e R s m args below meth c H1 locs1 (cells + mc) (slots + ms) Q (F0 m (pc + 3) ls (.int r :: rest))) : W p l e R s m args below meth c H locs cells slots Q (F0 m pc ls st0) :=
  kc_calli (wn := fun u => w1 u ++ wB) hr hP hD hS hA (List.range 33) ((List.range 14).map (fun i => 33 + i)) (((List.range 33).map (fun i => 14 + i)) ++ List.range 14) (ix_A wA wB hlA) (tw_rest (ix_B wA wB hlA hlB)) (by decide) (by decide) (fun u => by
    rw [kc_fm (ix_B wA wB hlA hlB), List.map_append, ix_B wB (w1 u) hlB (hl1 u), ix_A wB (w1 u) hlB, List.map_append]) (by decide) kk
theorem tw_lA {r : Int64} {w1 : S → va_W} (hlA : wA.length = 33) (hlB : wB.length = 14) (hl1 : ∀ u, (w1 u).length = 33) (hr : va_Run p l e R s m args below meth c H locs cells slots mc ms (F0 m pc ls st0) rest (kc_Pl D w1 r (va_A wA H.size) a) (va_A wA H.size)) (hP : va_P D classes (wA ++ wB) H) (hD : va_D A0 (wA ++ wB)) (hS : va_S A0 H0 H locs) (hA : ∀ q, H0.size ≤ q → A0 q)
    (kk : ∀ (u : S) (H1 : Heap) (locs1 : List Loc), va_P D classes (w1 u ++ wB) H1 → va_D A0 (w1 u ++ wB) → va_S A0 H0 H1 locs1 → W p l e R s m args below meth c H1 locs1 (cells + mc) (slots + ms) Q (F0 m (pc + 3) ls (.long r :: rest))) : W p l e R s m args below meth c H locs cells slots Q (F0 m pc ls st0) :=
  kc_calll (wn := fun u => w1 u ++ wB) hr hP hD hS hA (List.range 33) ((List.range 14).map (fun i => 33 + i)) (((List.range 33).map (fun i => 14 + i)) ++ List.range 14) (ix_A wA wB hlA) (tw_rest (ix_B wA wB hlA hlB)) (by decide) (by decide) (fun u => by
    rw [kc_fm (ix_B wA wB hlA hlB), List.map_append, ix_B wB (w1 u) hlB (hl1 u), ix_A wB (w1 u) hlB, List.map_append]) (by decide) kk
theorem tw_iB {r : Int32} {w1 : S → va_W} (hlA : wA.length = 33) (hlB : wB.length = 14) (hl1 : ∀ u, (w1 u).length = 14) (hr : va_Run p l e R s m args below meth c H locs cells slots mc ms (F0 m pc ls st0) rest (kc_Pi D w1 r (va_A wB H.size) a) (va_A wB H.size)) (hP : va_P D classes (wA ++ wB) H) (hD : va_D A0 (wA ++ wB)) (hS : va_S A0 H0 H locs) (hA : ∀ q, H0.size ≤ q → A0 q)
    (kk : ∀ (u : S) (H1 : Heap) (locs1 : List Loc), va_P D classes (wA ++ w1 u) H1 → va_D A0 (wA ++ w1 u) → va_S A0 H0 H1 locs1 → W p l e R s m args below meth c H1 locs1 (cells + mc) (slots + ms) Q (F0 m (pc + 3) ls (.int r :: rest))) : W p l e R s m args below meth c H locs cells slots Q (F0 m pc ls st0) :=
  kc_calli (wn := fun u => wA ++ w1 u) hr hP hD hS hA ((List.range 14).map (fun i => 33 + i)) (List.range 33) (List.range 33 ++ (List.range 14).map (fun i => 33 + i)) (ix_B wA wB hlA hlB) (tw_rest (ix_A wA wB hlA)) (by decide) (by decide) (fun u => by
    rw [kc_fm (ix_A wA wB hlA), List.map_append, ix_A wA (w1 u) hlA, ix_B wA (w1 u) hlA (hl1 u), List.map_append]) (by decide) kk
theorem tw_lB {r : Int64} {w1 : S → va_W} (hlA : wA.length = 33) (hlB : wB.length = 14) (hl1 : ∀ u, (w1 u).length = 14) (hr : va_Run p l e R s m args below meth c H locs cells slots mc ms (F0 m pc ls st0) rest (kc_Pl D w1 r (va_A wB H.size) a) (va_A wB H.size)) (hP : va_P D classes (wA ++ wB) H) (hD : va_D A0 (wA ++ wB)) (hS : va_S A0 H0 H locs) (hA : ∀ q, H0.size ≤ q → A0 q)
    (kk : ∀ (u : S) (H1 : Heap) (locs1 : List Loc), va_P D classes (wA ++ w1 u) H1 → va_D A0 (wA ++ w1 u) → va_S A0 H0 H1 locs1 → W p l e R s m args below meth c H1 locs1 (cells + mc) (slots + ms) Q (F0 m (pc + 3) ls (.long r :: rest))) : W p l e R s m args below meth c H locs cells slots Q (F0 m pc ls st0) :=
  kc_calll (wn := fun u => wA ++ w1 u) hr hP hD hS hA ((List.range 14).map (fun i => 33 + i)) (List.range 33) (List.range 33 ++ (List.range 14).map (fun i => 33 + i)) (ix_B wA wB hlA hlB) (tw_rest (ix_A wA wB hlA)) (by decide) (by decide) (fun u => by
    rw [kc_fm (ix_A wA wB hlA), List.map_append, ix_A wA (w1 u) hlA, ix_B wA (w1 u) hlA (hl1 u), List.map_append]) (by decide) kk
end TW
theorem pot_cl {cl kk a b : Nat} (h : cl + b ≤ 60) (hp : kk + a ≤ b) : cl + kk + 0 + a ≤ 60 := by omega
theorem pot_cl0 {cl kk a b : Nat} (h : cl + b ≤ 60) (hp : kk + a ≤ b) : cl + 0 + 0 + a ≤ 60 := by omega
theorem pot_sl {sl kk a b K M : Nat} (h : sl + b * K ≤ M) (hp : kk + a ≤ b) : sl + kk * K + 0 + a * K ≤ M := by
  rw [Nat.add_zero, Nat.add_assoc, ← Nat.add_mul]
  exact Nat.le_trans (Nat.add_le_add_left (Nat.mul_le_mul_right _ hp) sl) h
theorem pot_sl0 {sl kk a b K M : Nat} (h : sl + b * K ≤ M) (hp : kk + a ≤ b) : sl + 0 + 0 + a * K ≤ M := by
  simp only [Nat.add_zero]
  exact Nat.le_trans (Nat.add_le_add_left (Nat.mul_le_mul_right _ (Nat.le_trans (Nat.le_add_left a kk) hp)) sl) h
theorem rm_s {sl kk a b K M T : Nat} (h : sl + b * K ≤ M) (hp : kk + a ≤ b) (hT : M ≤ T) : sl + kk * K ≤ T := Nat.le_trans (Nat.le_trans (Nat.add_le_add_left (Nat.mul_le_mul_right _ (Nat.le_trans (Nat.le_add_right kk a) hp)) sl) h) hT
theorem rm_s0 {sl kk a b K M T : Nat} (h : sl + b * K ≤ M) (hp : kk + a ≤ b) (hT : M ≤ T) : sl + kk * K + 0 ≤ T := rm_s h hp hT
