/-! the law from its entry -/
theorem kc_lt4 {j : Nat} (hj : j < 7) : defaultValue (tyX4 j) = vp_V [.null, .null, .null, .null, .null, .int 0, .int 0] j := by
  match j, hj with
  | 0, _ => rfl
  | 1, _ => rfl
  | 2, _ => rfl
  | 3, _ => rfl
  | 4, _ => rfl
  | 5, _ => rfl
  | 6, _ => rfl
  | j + 7, h => exact absurd h (by omega)
section TV
variable {p : Program} {l : Launch} {e : Env} {R : Room} {s : State} {m : MethodId} {args : Array Value} {below : List Frame} {meth : Method} {c : Code} {H H0 : Heap} {locs : List Loc} {cells slots mc ms : Nat} {Q : State → Prop} {D : va_G} {A0 : Nat → Prop} {pc : Nat} {ls : Array Slot} {st0 rest : List Value} {a : Array Value} {S : Type} {wA wB : va_W}
theorem tw_vB {na nb nd : Nat} {w1 : S → va_W} (hlA : wA.length = na) (hlB : wB.length = nb) (hl1 : ∀ u, (w1 u).length = nd) (h1 : va_nd (List.range na) = true) (h2 : ∀ i ∈ List.range na, i ∉ (List.range nb).map (fun i => na + i)) (h3 : va_nd (List.range na ++ (List.range nd).map (fun i => na + i)) = true) (hr : va_Run p l e R s m args below meth c H locs cells slots mc ms (F0 m pc ls st0) rest (kc_Pv D w1 (va_A wB H.size) a) (va_A wB H.size)) (hP : va_P D classes (wA ++ wB) H) (hD : va_D A0 (wA ++ wB)) (hS : va_S A0 H0 H locs) (hA : ∀ q, H0.size ≤ q → A0 q)
    (kk : ∀ (u : S) (H1 : Heap) (locs1 : List Loc), va_P D classes (wA ++ w1 u) H1 → va_D A0 (wA ++ w1 u) → va_S A0 H0 H1 locs1 → W p l e R s m args below meth c H1 locs1 (cells + mc) (slots + ms) Q (F0 m (pc + 3) ls rest)) : W p l e R s m args below meth c H locs cells slots Q (F0 m pc ls st0) :=
  kc_callv (wn := fun u => wA ++ w1 u) hr hP hD hS hA ((List.range nb).map (fun i => na + i)) (List.range na) (List.range na ++ (List.range nd).map (fun i => na + i)) (ix_B wA wB hlA hlB) (tw_rest (ix_A wA wB hlA)) h1 h2 (fun u => by
    rw [kc_fm (ix_A wA wB hlA), List.map_append, ix_A wA (w1 u) hlA, ix_B wA (w1 u) hlA (hl1 u), List.map_append]) h3 kk
theorem tw_DBg {na nb : Nat} (hlA : wA.length = na) (hlB : wB.length = nb) (h : va_nd ((List.range nb).map (fun i => na + i)) = true) (hD : va_D A0 (wA ++ wB)) : va_D A0 wB := hD.sub ((List.range nb).map (fun i => na + i)) h (ix_B wA wB hlA hlB)
end TV
theorem ty_P {s : State} {args : Array Value} {ty : FieldType} (h : (Cond.arrayClass ty).before args s = true) (hty : ∀ C, ty ≠ .object C) : ∃ cA, ArrOfT s cA ty ∧ va_RA s cA ty := by
  obtain ⟨cA, kA, comp, h1, h2, h3⟩ := Cond.arrayClass_spec h
  refine ⟨cA, fun n z => ⟨fun k h => (by cases h), kA, h2, comp, h3⟩, ?_⟩
  cases ty with
  | object C => exact absurd rfl (hty C)
  | _ => exact h1
theorem ty_O {s : State} {args : Array Value} {C : String} (h : (Cond.arrayOver (.object C)).before args s = true) : ∃ cA, ArrOfT s cA (.object C) ∧ va_RA s cA (.object C) := by
  obtain ⟨comp, cA, kA, h1, h2, h3, h4, h5⟩ := Cond.arrayOver_spec h
  exact ⟨cA, fun n z => ⟨fun k h => (by cases h), kA, h3, comp, h4⟩, kA, comp, h3, h4, h1, h5⟩
theorem ty_A {s : State} {ty : FieldType} (h : va_AOA ty s) : ∃ cA, ArrOfT s cA (.array ty) ∧ va_RA s cA (.array ty) := by
  obtain ⟨comp, cA, kA, h1, h2, h3, h4, h5⟩ := aoa_spec h
  exact ⟨cA, fun n z => ⟨fun k h => (by cases h), kA, h3, comp, h4⟩, h5⟩
theorem inv_0 {v : Int32 × Int32 × Int32 × Int32 × Int32 × Int32 × (Nat → Int32) × (Nat → Int32) × (Nat → Int32)} {w : Int32 × Int32 × Int32 × Int32 × Int32 × Int32 × Int32 × Int32 × (Nat → Int32) × (Nat → Int32) × (Nat → Int32) × (Nat → Int32) × (Nat → Int32) × (Nat → Int32) × (Nat → Int32) × (Nat → Int32)} (hv : GRD 4 4 3 false v.1 v.2.1 v.2.2.1 v.2.2.2.1 v.2.2.2.2.1 v.2.2.2.2.2.1 v.2.2.2.2.2.2.1 v.2.2.2.2.2.2.2.1 v.2.2.2.2.2.2.2.2) (hw : REF 4 4 3 false w.1 w.2.1 w.2.2.1 w.2.2.2.1 w.2.2.2.2.1 w.2.2.2.2.2.2.2.2.1 w.2.2.2.2.2.2.2.2.2.1 w.2.2.2.2.2.2.2.2.2.2.1 w.2.2.2.2.2.2.2.2.2.2.2.1 w.2.2.2.2.2.2.2.2.2.2.2.2.1 w.2.2.2.2.2.2.2.2.2.2.2.2.2.1 w.2.2.2.2.2.2.2.2.2.2.2.2.2.2.1) (h1 : w.2.2.2.2.2.2.1 = nI 0) (h2 : w.2.2.2.2.2.2.2.1 = nI (kyM 4 4 emp)) : Inv 4194304 (0 : Int32) (0 : Int32) (fun _ => 1) (fun _ => 0) (fun _ => 0) (fun _ _ => 0) (0 : Int32) (0 : Int32) (0 : Int32) (0 : Int32) (0 : Int32) (0 : Int32) (fun _ => 0) (fun _ => 0) (fun _ => 0) (fun _ _ => 0) 0 (fun _ => 0) (0 : Int32) (fun _ => 0) (fun _ => 0) (fun _ => 0) (0 : Int32) (fun _ => 0) (fun _ => 0) (fun _ => 0) v.1 v.2.1 v.2.2.1 v.2.2.2.1 v.2.2.2.2.1 v.2.2.2.2.2.1 v.2.2.2.2.2.2.1 v.2.2.2.2.2.2.2.1 v.2.2.2.2.2.2.2.2 w.1 w.2.1 w.2.2.1 w.2.2.2.1 (0 : Int32) w.2.2.2.2.1 w.2.2.2.2.2.1 w.2.2.2.2.2.2.1 w.2.2.2.2.2.2.2.1 (0 : Int32) w.2.2.2.2.2.2.2.2.1 w.2.2.2.2.2.2.2.2.2.1 w.2.2.2.2.2.2.2.2.2.2.1 w.2.2.2.2.2.2.2.2.2.2.2.1 w.2.2.2.2.2.2.2.2.2.2.2.2.1 w.2.2.2.2.2.2.2.2.2.2.2.2.2.1 w.2.2.2.2.2.2.2.2.2.2.2.2.2.2.1 w.2.2.2.2.2.2.2.2.2.2.2.2.2.2.2 (fun _ => 0) (upd (upd (upd (upd (fun _ => 0) (0 : Int32).toNatClampNeg (-1 : Int32)) (1 : Int32).toNatClampNeg (-1 : Int32)) (2 : Int32).toNatClampNeg (-1 : Int32)) (3 : Int32).toNatClampNeg (-1 : Int32)) (fun _ => 0) (fun _ => 0) (fun _ => 0) := by
  refine ⟨4, 4, 3, false, 0, 0, fun _ => 0, by decide, hv, hw, ⟨fun i hi => absurd hi (Nat.not_lt_zero i), ⟨rfl, fun i hi => absurd hi (Nat.not_lt_zero i), ⟨?_, ?_⟩, fun x hx => rfl⟩, h1, fun i hi => absurd hi (Nat.not_lt_zero i), h2⟩, ⟨by decide, Or.inl rfl⟩, fun s hs => Or.inl ⟨(show ¬ (1 : Int32) = 0 by decide), ?_⟩, rfl, rfl, by decide, rfl⟩
  · show (0 : Int32) = nI (mk 4 emp false)
    rw [mk_emp]
    rfl
  · show (0 : Int32) = nI (mk 4 emp true)
    rw [mk_emp]
    rfl
  · rcases (show s = 0 ∨ s = 1 ∨ s = 2 ∨ s = 3 by omega) with e | e | e | e <;> subst e <;> decide
set_option maxHeartbeats 8000000 in
set_option maxRecDepth 100000 in
theorem whole_start {p : Program} {e : Env} {s : State} {m : MethodId} {below : List Frame} {meth : Method} {c : Code} (l : Launch) {b L : Nat} {xs : Nat → Int32} (hL : L ≤ 3072) (C0 : lw_At p s m meth c b L xs) : W p l e room_1 s m #[Value.ref b] below meth c s.heap [] 0 0 (lw_Z below #[Value.ref b] s) (entryFrame m ([Value.ref b] : List Value).toArray 4) := by
  obtain ⟨hx, hb, hr, hml, hown, hts, hX, hbl, hlocks, hgv⟩ := C0
  have hA : ∀ q : Nat, s.heap.size ≤ q → (fun q : Nat => s.heap.size ≤ q) q := fun _ h => h
  have htb : ∀ w ∈ kc_TB, w.before #[Value.ref b] s = true := fun w hw => hts w (kc_tbl hw)
  have hNW : kc_NW s := ⟨va_Nw.of rfl (hts _ (List.mem_of_getElem? (i := 272) (by decide +kernel))), va_Nw.of rfl (hts _ (List.mem_of_getElem? (i := 442) (by decide +kernel))), va_Nw.of rfl (hts _ (List.mem_of_getElem? (i := 525) (by decide +kernel)))⟩
  have hMk : kc_Mk s := ⟨va_AO.of (hts (.arrayOver (.object RX2)) (List.mem_of_getElem? (i := 203) (by decide +kernel))), hts (.arrayOver (.array .int)) (List.mem_of_getElem? (i := 135) (by decide +kernel))⟩
  obtain ⟨k0, i0, hKn0⟩ := u_known (C := RX0) (T := TX0) (N := 5) (n := 5) htb iX0 (htb _ wd_175)
  obtain ⟨k1, i1, hKn1⟩ := u_known (C := RX1) (T := TX1) (N := 9) (n := 9) htb iX1 (htb _ wd_59)
  obtain ⟨k2, i2, hKn2⟩ := u_known (C := RX2) (T := TX2) (N := 4) (n := 4) htb iX2 (htb _ wd_204)
  obtain ⟨k3, i3, hKn3⟩ := u_known (C := RX3) (T := TX3) (N := 12) (n := 12) htb iX3 (htb _ wd_129)
  obtain ⟨k4, i4, hKn4⟩ := u_known (C := RX4) (T := TX4) (N := 7) (n := 7) htb iX4 (htb _ wd_51)
  obtain ⟨k5, i5, hKn5⟩ := u_known (C := RX5) (T := TX5) (N := 23) (n := 23) htb iX5 (htb _ wd_567)
  obtain ⟨t0, ht0⟩ := ty_P (htb _ wd_104) (fun C h => by cases h)
  obtain ⟨t1, ht1⟩ := ty_P (htb _ wd_710) (fun C h => by cases h)
  obtain ⟨t2, ht2⟩ := ty_P (htb _ wd_173) (fun C h => by cases h)
  obtain ⟨t3, ht3⟩ := ty_O (C := RX2) (hts (.arrayOver (.object RX2)) (List.mem_of_getElem? (i := 203) (by decide +kernel)))
  obtain ⟨t4, ht4⟩ := ty_A hMk.2
  obtain ⟨D, hKc⟩ : ∃ D : va_G, ∀ (k : Nat) (q : vw_C), classes[k]? = some q → u_Kn s q.1 q.2.1 q.2.2 (D.1 k) (D.2 k) := by
    refine ⟨(fun k => if k = 0 then k0 else if k = 1 then k1 else if k = 2 then k2 else if k = 3 then k3 else if k = 4 then k4 else k5, fun k => if k = 0 then i0 else if k = 1 then i1 else if k = 2 then i2 else if k = 3 then i3 else if k = 4 then i4 else i5), ?_⟩
    intro k q hq
    match k, hq with
    | 0, hq => cases hq; exact hKn0
    | 1, hq => cases hq; exact hKn1
    | 2, hq => cases hq; exact hKn2
    | 3, hq => cases hq; exact hKn3
    | 4, hq => cases hq; exact hKn4
    | 5, hq => cases hq; exact hKn5
    | k + 6, hq => simp [classes] at hq
  obtain ⟨cx, hT⟩ : ∃ cx : Nat → ClassId, ∀ (k : Nat) (q : ClassId × FieldType), (kc_TY cx)[k]? = some q → ArrOfT s q.1 q.2 ∧ va_RA s q.1 q.2 := by
    refine ⟨fun k => if k = 0 then t0 else if k = 1 then t1 else if k = 2 then t2 else if k = 3 then t3 else t4, ?_⟩
    intro k q hq
    match k, hq with
    | 0, hq => cases hq; exact ht0
    | 1, hq => cases hq; exact ht1
    | 2, hq => cases hq; exact ht2
    | 3, hq => cases hq; exact ht3
    | 4, hq => cases hq; exact ht4
    | k + 5, hq => simp [kc_TY] at hq
  have hK : va_K D classes (kc_TY cx) s := ⟨hKc, hT⟩
  have hS : va_S (fun q : Nat => s.heap.size ≤ q) s.heap s.heap [] := va_S.rf
  have hP : va_P D classes [] s.heap := fun k q h => by simp at h
  have hD : va_D (fun q : Nat => s.heap.size ≤ q) [] := ⟨fun i j p q h => by simp at h, fun k q h => by simp at h⟩
  have hl := lv_entry ([.ref b]) (n := 4) (Nat.le_of_ble_eq_true rfl)
  rw [lg_entry_eq]
  generalize (lg_sl ([.ref b]) ++ List.replicate (4 - (lg_sl ([.ref b])).length) Slot.unset).toArray = ls at hl ⊢
  have hl : lv_has ls 4 [(0, .ref b)] := hl
  obtain ⟨v, hv, hv2⟩ := c_tell (w := 4) (h := 4) (k := 3) (by decide) false (fun _ => 0) (fun _ => 0) (fun _ => 0)
  obtain ⟨w, hw, hw2, hw3, hw4⟩ := m_begin (w := 4) (h := 4) (k := 3) (by decide) false 0 (fun _ => 0) (fun _ => 0) (fun _ => 0) (fun _ => 0) (fun _ => 0) (fun _ => 0) (fun _ => 0) (fun _ => 0) (fun _ => 0)
  refine va_new (ci := 4) (fs := [.null, .null, .null, .null, .null, .int 0, .int 0]) (C := RX4) (T := TX4) (N := 7) hx hb htb iX4 tyX4 tyX4_ok hown (htb _ wd_50) (htb _ wd_51) (htb _ wd_40) hK hP hD hS hA rfl (fun j hj => kc_lt4 hj) (Nat.le_of_ble_eq_true rfl) (Nat.le_of_ble_eq_true rfl) dL_law_0 (fun h0 H hP hD hS => ?_)
  refine lv_dup hx hb dL_law_3 rfl ?_
  refine tw_vB (na := 0) (nb := 1) (nd := 33) (wA := []) (wB := [(h0, .inr (4, [.null, .null, .null, .null, .null, .int 0, .int 0]))]) rfl rfl (fun _ => rfl) (by decide) (by decide) (by decide) (va_runI (As := []) (rest := [.ref h0]) ⟨hx, hb, hml, hown, htb⟩ (metX4_init l D cx h0 4194304 H.size v hv) ⟨callB_of 0 htb (kc_gI wd_54) rfl rfl rfl (htb _ wd_40) (htb _ wd_52) (by decide +kernel) ⟨Nat.le_of_ble_eq_true rfl, Nat.le_of_ble_eq_true rfl⟩, rfl, htb _ wd_53⟩ ⟨kc_blindC _ _ _ _ _, kc_preC _ hK hNW hMk (tw_PB (wA := []) hP) (tw_DBg (wA := []) (na := 0) (nb := 1) rfl rfl (by decide) hD)⟩ rfl rfl hl.1 rfl (lv_room (Nat.le_of_ble_eq_true rfl)) dL_law_4 ⟨Nat.le_of_ble_eq_true rfl, Nat.le_of_ble_eq_true rfl⟩) hP hD hS hA (fun u H locs hP hD hS => ?_)
  have hP : va_P D classes (wX cx (ltab (h0 :: u.1 0)) (ltab (u.1 1)) (ltab (u.1 2)) (ltab (u.1 3)) u.2.1 u.2.2 (ltab (u.1 4)) (ltab (u.1 5)) (ltab (u.1 4) 0) (ltab (u.1 5) 0) (ltab (u.1 6)) (0 : Int32) (0 : Int32) (fun _ => 1) (fun _ => 0) (fun _ => 0) (fun _ _ => 0) (0 : Int32) (0 : Int32) (0 : Int32) (0 : Int32) (0 : Int32) (0 : Int32) (fun _ => 0) (fun _ => 0) (fun _ => 0) (fun _ _ => 0) 0 (fun _ => 0) (0 : Int32) (fun _ => 0) (fun _ => 0) (fun _ => 0) (0 : Int32) (fun _ => 0) (fun _ => 0) (fun _ => 0) v.1 v.2.1 v.2.2.1 v.2.2.2.1 v.2.2.2.2.1 v.2.2.2.2.2.1 v.2.2.2.2.2.2.1 v.2.2.2.2.2.2.2.1 v.2.2.2.2.2.2.2.2) H := hP
  have hD : va_D (fun q : Nat => s.heap.size ≤ q) (wX cx (ltab (h0 :: u.1 0)) (ltab (u.1 1)) (ltab (u.1 2)) (ltab (u.1 3)) u.2.1 u.2.2 (ltab (u.1 4)) (ltab (u.1 5)) (ltab (u.1 4) 0) (ltab (u.1 5) 0) (ltab (u.1 6)) (0 : Int32) (0 : Int32) (fun _ => 1) (fun _ => 0) (fun _ => 0) (fun _ _ => 0) (0 : Int32) (0 : Int32) (0 : Int32) (0 : Int32) (0 : Int32) (0 : Int32) (fun _ => 0) (fun _ => 0) (fun _ => 0) (fun _ _ => 0) 0 (fun _ => 0) (0 : Int32) (fun _ => 0) (fun _ => 0) (fun _ => 0) (0 : Int32) (fun _ => 0) (fun _ => 0) (fun _ => 0) v.1 v.2.1 v.2.2.1 v.2.2.2.1 v.2.2.2.2.1 v.2.2.2.2.2.1 v.2.2.2.2.2.2.1 v.2.2.2.2.2.2.2.1 v.2.2.2.2.2.2.2.2) := hD
  refine lv_astore_n (lv' := [(1, .ref h0), (0, .ref b)]) hx hb dL_law_7 rfl hl (by decide) rfl (fun ls hl => ?_)
  refine va_new (ci := 5) (fs := [.int 0, .int 0, .int 0, .int 0, .int 0, .int 0, .null, .null, .null, .null, .null, .null, .null, .null, .int 0, .int 0, .null, .int 0, .null, .null, .null, .null, .int 0]) (C := RX5) (T := TX5) (N := 23) hx hb htb iX5 tyX5 tyX5_ok hown (htb _ wd_566) (htb _ wd_567) (htb _ wd_46) hK hP hD hS hA rfl (fun j hj => kc_lt5 hj) (Nat.le_of_ble_eq_true rfl) (Nat.le_of_ble_eq_true rfl) dL_law_8 (fun h8 H hP hD hS => ?_)
  refine lv_dup hx hb dL_law_11 rfl ?_
  refine tw_vB (na := 33) (nb := 1) (nd := 14) (wA := (wX cx (ltab (h0 :: u.1 0)) (ltab (u.1 1)) (ltab (u.1 2)) (ltab (u.1 3)) u.2.1 u.2.2 (ltab (u.1 4)) (ltab (u.1 5)) (ltab (u.1 4) 0) (ltab (u.1 5) 0) (ltab (u.1 6)) (0 : Int32) (0 : Int32) (fun _ => 1) (fun _ => 0) (fun _ => 0) (fun _ _ => 0) (0 : Int32) (0 : Int32) (0 : Int32) (0 : Int32) (0 : Int32) (0 : Int32) (fun _ => 0) (fun _ => 0) (fun _ => 0) (fun _ _ => 0) 0 (fun _ => 0) (0 : Int32) (fun _ => 0) (fun _ => 0) (fun _ => 0) (0 : Int32) (fun _ => 0) (fun _ => 0) (fun _ => 0) v.1 v.2.1 v.2.2.1 v.2.2.2.1 v.2.2.2.2.1 v.2.2.2.2.2.1 v.2.2.2.2.2.2.1 v.2.2.2.2.2.2.2.1 v.2.2.2.2.2.2.2.2)) (wB := [(h8, .inr (5, [.int 0, .int 0, .int 0, .int 0, .int 0, .int 0, .null, .null, .null, .null, .null, .null, .null, .null, .int 0, .int 0, .null, .int 0, .null, .null, .null, .null, .int 0]))]) rfl rfl (fun _ => rfl) (by decide) (by decide) (by decide) (va_runI (As := []) (rest := [.ref h8]) ⟨hx, hb, hml, hown, htb⟩ (metX5_init l D cx h8 4194304 H.size w hw) ⟨callB_of 0 htb (kc_gI wd_570) rfl rfl rfl (htb _ wd_46) (htb _ wd_568) (by decide +kernel) ⟨Nat.le_of_ble_eq_true rfl, Nat.le_of_ble_eq_true rfl⟩, rfl, htb _ wd_569⟩ ⟨kc_blindC _ _ _ _ _, kc_preC _ hK hNW hMk (tw_PB hP) (tw_DBg (na := 33) (nb := 1) rfl rfl (by decide) hD)⟩ rfl rfl hl.1 rfl (lv_room (Nat.le_of_ble_eq_true rfl)) dL_law_12 ⟨Nat.le_of_ble_eq_true rfl, Nat.le_of_ble_eq_true rfl⟩) hP hD hS hA (fun u2 H locs hP hD hS => ?_)
  have hP : va_P D classes ((wX cx (ltab (h0 :: u.1 0)) (ltab (u.1 1)) (ltab (u.1 2)) (ltab (u.1 3)) u.2.1 u.2.2 (ltab (u.1 4)) (ltab (u.1 5)) (ltab (u.1 4) 0) (ltab (u.1 5) 0) (ltab (u.1 6)) (0 : Int32) (0 : Int32) (fun _ => 1) (fun _ => 0) (fun _ => 0) (fun _ _ => 0) (0 : Int32) (0 : Int32) (0 : Int32) (0 : Int32) (0 : Int32) (0 : Int32) (fun _ => 0) (fun _ => 0) (fun _ => 0) (fun _ _ => 0) 0 (fun _ => 0) (0 : Int32) (fun _ => 0) (fun _ => 0) (fun _ => 0) (0 : Int32) (fun _ => 0) (fun _ => 0) (fun _ => 0) v.1 v.2.1 v.2.2.1 v.2.2.2.1 v.2.2.2.2.1 v.2.2.2.2.2.1 v.2.2.2.2.2.2.1 v.2.2.2.2.2.2.2.1 v.2.2.2.2.2.2.2.2) ++ (wM cx (ltab (h8 :: u2)) w.1 w.2.1 w.2.2.1 w.2.2.2.1 (0 : Int32) w.2.2.2.2.1 w.2.2.2.2.2.1 w.2.2.2.2.2.2.1 w.2.2.2.2.2.2.2.1 (0 : Int32) w.2.2.2.2.2.2.2.2.1 w.2.2.2.2.2.2.2.2.2.1 w.2.2.2.2.2.2.2.2.2.2.1 w.2.2.2.2.2.2.2.2.2.2.2.1 w.2.2.2.2.2.2.2.2.2.2.2.2.1 w.2.2.2.2.2.2.2.2.2.2.2.2.2.1 w.2.2.2.2.2.2.2.2.2.2.2.2.2.2.1 w.2.2.2.2.2.2.2.2.2.2.2.2.2.2.2 (fun _ => 0) (upd (upd (upd (upd (fun _ => 0) (0 : Int32).toNatClampNeg (-1 : Int32)) (1 : Int32).toNatClampNeg (-1 : Int32)) (2 : Int32).toNatClampNeg (-1 : Int32)) (3 : Int32).toNatClampNeg (-1 : Int32)) (fun _ => 0) (fun _ => 0) (fun _ => 0))) H := hP
  have hD : va_D (fun q : Nat => s.heap.size ≤ q) ((wX cx (ltab (h0 :: u.1 0)) (ltab (u.1 1)) (ltab (u.1 2)) (ltab (u.1 3)) u.2.1 u.2.2 (ltab (u.1 4)) (ltab (u.1 5)) (ltab (u.1 4) 0) (ltab (u.1 5) 0) (ltab (u.1 6)) (0 : Int32) (0 : Int32) (fun _ => 1) (fun _ => 0) (fun _ => 0) (fun _ _ => 0) (0 : Int32) (0 : Int32) (0 : Int32) (0 : Int32) (0 : Int32) (0 : Int32) (fun _ => 0) (fun _ => 0) (fun _ => 0) (fun _ _ => 0) 0 (fun _ => 0) (0 : Int32) (fun _ => 0) (fun _ => 0) (fun _ => 0) (0 : Int32) (fun _ => 0) (fun _ => 0) (fun _ => 0) v.1 v.2.1 v.2.2.1 v.2.2.2.1 v.2.2.2.2.1 v.2.2.2.2.2.1 v.2.2.2.2.2.2.1 v.2.2.2.2.2.2.2.1 v.2.2.2.2.2.2.2.2) ++ (wM cx (ltab (h8 :: u2)) w.1 w.2.1 w.2.2.1 w.2.2.2.1 (0 : Int32) w.2.2.2.2.1 w.2.2.2.2.2.1 w.2.2.2.2.2.2.1 w.2.2.2.2.2.2.2.1 (0 : Int32) w.2.2.2.2.2.2.2.2.1 w.2.2.2.2.2.2.2.2.2.1 w.2.2.2.2.2.2.2.2.2.2.1 w.2.2.2.2.2.2.2.2.2.2.2.1 w.2.2.2.2.2.2.2.2.2.2.2.2.1 w.2.2.2.2.2.2.2.2.2.2.2.2.2.1 w.2.2.2.2.2.2.2.2.2.2.2.2.2.2.1 w.2.2.2.2.2.2.2.2.2.2.2.2.2.2.2 (fun _ => 0) (upd (upd (upd (upd (fun _ => 0) (0 : Int32).toNatClampNeg (-1 : Int32)) (1 : Int32).toNatClampNeg (-1 : Int32)) (2 : Int32).toNatClampNeg (-1 : Int32)) (3 : Int32).toNatClampNeg (-1 : Int32)) (fun _ => 0) (fun _ => 0) (fun _ => 0))) := hD
  refine lv_astore_n (lv' := [(2, .ref h8), (1, .ref h0), (0, .ref b)]) hx hb dL_law_15 rfl hl (by decide) rfl (fun ls hl => ?_)
  refine lv_iconst (v := (0 : Int32)) hx hb dL_law_16 (by decide) ?_
  refine lv_istore_n (lv' := [(3, .int (0 : Int32)), (2, .ref h8), (1, .ref h0), (0, .ref b)]) hx hb dL_law_17 rfl hl (by decide) rfl (fun ls hl => ?_)
  have hI := inv_0 hv2 hw2 hw3 hw4
  refine W.widen (k := 47) (n := 2098085) (Nat.le_of_ble_eq_true rfl) (Nat.le_of_ble_eq_true rfl) ?_
  exact lw_loop hx hb hml hown htb hNW hK hX hbl rfl hr hlocks hL (L + 1) 0 (by omega) (by omega) (ltab (h0 :: u.1 0)) (ltab (u.1 1)) (ltab (u.1 2)) (ltab (u.1 3)) u.2.1 u.2.2 (ltab (u.1 4)) (ltab (u.1 5)) (ltab (u.1 6)) (ltab (h8 :: u2)) (0 : Int32) (0 : Int32) (fun _ => 1) (fun _ => 0) (fun _ => 0) (fun _ _ => 0) (0 : Int32) (0 : Int32) (0 : Int32) (0 : Int32) (0 : Int32) (0 : Int32) (fun _ => 0) (fun _ => 0) (fun _ => 0) (fun _ _ => 0) 0 (fun _ => 0) (0 : Int32) (fun _ => 0) (fun _ => 0) (fun _ => 0) (0 : Int32) (fun _ => 0) (fun _ => 0) (fun _ => 0) v.1 v.2.1 v.2.2.1 v.2.2.2.1 v.2.2.2.2.1 v.2.2.2.2.2.1 v.2.2.2.2.2.2.1 v.2.2.2.2.2.2.2.1 v.2.2.2.2.2.2.2.2 w.1 w.2.1 w.2.2.1 w.2.2.2.1 (0 : Int32) w.2.2.2.2.1 w.2.2.2.2.2.1 w.2.2.2.2.2.2.1 w.2.2.2.2.2.2.2.1 (0 : Int32) w.2.2.2.2.2.2.2.2.1 w.2.2.2.2.2.2.2.2.2.1 w.2.2.2.2.2.2.2.2.2.2.1 w.2.2.2.2.2.2.2.2.2.2.2.1 w.2.2.2.2.2.2.2.2.2.2.2.2.1 w.2.2.2.2.2.2.2.2.2.2.2.2.2.1 w.2.2.2.2.2.2.2.2.2.2.2.2.2.2.1 w.2.2.2.2.2.2.2.2.2.2.2.2.2.2.2 (fun _ => 0) (upd (upd (upd (upd (fun _ => 0) (0 : Int32).toNatClampNeg (-1 : Int32)) (1 : Int32).toNatClampNeg (-1 : Int32)) (2 : Int32).toNatClampNeg (-1 : Int32)) (3 : Int32).toNatClampNeg (-1 : Int32)) (fun _ => 0) (fun _ => 0) (fun _ => 0) 47 2098085 H locs ls hI (by decide) (by decide) hP hD hS (lv_sub hl [3, 2, 1, 0] rfl)
