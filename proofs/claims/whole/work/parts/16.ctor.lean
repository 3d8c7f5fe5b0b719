/-! constructors -/
def ad4 (a b c d : Nat) : Nat → Nat
  | 0 => a
  | 1 => b
  | 2 => c
  | _ => d
def ltab (l : List Nat) (i : Nat) : Nat := l.getD i 0
theorem kc_lt0 {j : Nat} (hj : j < 5) : defaultValue (tyX0 j) = vp_V [.null, .null, .null, .null, .int 0] j := by
  match j, hj with
  | 0, _ => rfl
  | 1, _ => rfl
  | 2, _ => rfl
  | 3, _ => rfl
  | 4, _ => rfl
  | j + 5, h => exact absurd h (by omega)
theorem kc_lt1 {j : Nat} (hj : j < 9) : defaultValue (tyX1 j) = vp_V [.int 0, .int 0, .int 0, .int 0, .int 0, .int 0, .null, .null, .null] j := by
  match j, hj with
  | 0, _ => rfl
  | 1, _ => rfl
  | 2, _ => rfl
  | 3, _ => rfl
  | 4, _ => rfl
  | 5, _ => rfl
  | 6, _ => rfl
  | 7, _ => rfl
  | 8, _ => rfl
  | j + 9, h => exact absurd h (by omega)
theorem kc_lt2 {j : Nat} (hj : j < 4) : defaultValue (tyX2 j) = vp_V [.int 0, .int 0, .int 0, .null] j := by
  match j, hj with
  | 0, _ => rfl
  | 1, _ => rfl
  | 2, _ => rfl
  | 3, _ => rfl
  | j + 4, h => exact absurd h (by omega)
theorem kc_lt3 {j : Nat} (hj : j < 12) : defaultValue (tyX3 j) = vp_V [.null, .null, .null, .null, .null, .null, .int 0, .int 0, .int 0, .int 0, .int 0, .int 0] j := by
  match j, hj with
  | 0, _ => rfl
  | 1, _ => rfl
  | 2, _ => rfl
  | 3, _ => rfl
  | 4, _ => rfl
  | 5, _ => rfl
  | 6, _ => rfl
  | 7, _ => rfl
  | 8, _ => rfl
  | 9, _ => rfl
  | 10, _ => rfl
  | 11, _ => rfl
  | j + 12, h => exact absurd h (by omega)
theorem kc_lt5 {j : Nat} (hj : j < 23) : defaultValue (tyX5 j) = vp_V [.int 0, .int 0, .int 0, .int 0, .int 0, .int 0, .null, .null, .null, .null, .null, .null, .null, .null, .int 0, .int 0, .null, .int 0, .null, .null, .null, .null, .int 0] j := by
  match j, hj with
  | 0, _ => rfl
  | 1, _ => rfl
  | 2, _ => rfl
  | 3, _ => rfl
  | 4, _ => rfl
  | 5, _ => rfl
  | 6, _ => rfl
  | 7, _ => rfl
  | 8, _ => rfl
  | 9, _ => rfl
  | 10, _ => rfl
  | 11, _ => rfl
  | 12, _ => rfl
  | 13, _ => rfl
  | 14, _ => rfl
  | 15, _ => rfl
  | 16, _ => rfl
  | 17, _ => rfl
  | 18, _ => rfl
  | 19, _ => rfl
  | 20, _ => rfl
  | 21, _ => rfl
  | 22, _ => rfl
  | j + 23, h => exact absurd h (by omega)
section KG
variable {p : Program} {l : Launch} {e : Env} {R : Room} {s : State} {m : MethodId} {args : Array Value} {below : List Frame} {meth : Method} {c : Code} {H H0 : Heap} {locs : List Loc} {cells slots mc ms : Nat} {Q : State → Prop} {D : va_G} {A0 : Nat → Prop} {pc : Nat} {ls : Array Slot} {rest : List Value} {ws : va_W} {cc : ByteArray}
theorem kc_newi (cx : Nat → ClassId) (hexec : p.tables.exec = Jvm.exec) (hb : c.code = cc) (harr : (Cond.arrayClass .int).before args s = true) (hK : va_K D classes (kc_TY cx) s) (hP : va_P D classes ws H) (hD : va_D A0 ws) (hS : va_S A0 H0 H locs) (hA : ∀ q, H0.size ≤ q → A0 q) {n : Int32} (hn : ¬ n < 0) (hbytes : n.toNatClampNeg * 4 ≤ 536870912) (hcells : cells + 1 ≤ R.cells) (hslots : slots + n.toNatClampNeg ≤ R.slots) (hdg : decode cc pc = .ok (.newarray .int, 2))
    (kk : ∀ (q : Nat) (H1 : Heap), va_P D classes (ws ++ [(q, .inl (cx 0, n.toNatClampNeg, .inl (fun _ => 0)))]) H1 → va_D A0 (ws ++ [(q, .inl (cx 0, n.toNatClampNeg, .inl (fun _ => 0)))]) → va_S A0 H0 H1 locs → W p l e R s m args below meth c H1 locs (cells + 1) (slots + n.toNatClampNeg) Q (F0 m (pc + 2) ls (.ref q :: rest))) : W p l e R s m args below meth c H locs cells slots Q (F0 m pc ls (.int n :: rest)) := by
  refine va_newa (atype := .int) (ty := .int) (a0 := (n.toNatClampNeg, .inl (fun _ => 0))) hexec hb harr rfl hK hP hD hS hA (fun cA => rfl) hn rfl hbytes hcells hslots hdg (fun q cA H1 hK1 hP1 hD1 hS1 => ?_)
  have e1 : s.vm.findClass ("[" ++ FieldType.int.toString) = some cA := (hK1.2 5 (cA, .int) rfl).2
  have e2 : s.vm.findClass ("[" ++ FieldType.int.toString) = some (cx 0) := (hK.2 0 (cx 0, .int) rfl).2
  have e3 : cA = cx 0 := Option.some.inj (e1.symm.trans e2)
  subst e3
  exact kk q H1 hP1 hD1 hS1
theorem kc_newb (cx : Nat → ClassId) (hexec : p.tables.exec = Jvm.exec) (hb : c.code = cc) (harr : (Cond.arrayClass .byte).before args s = true) (hK : va_K D classes (kc_TY cx) s) (hP : va_P D classes ws H) (hD : va_D A0 ws) (hS : va_S A0 H0 H locs) (hA : ∀ q, H0.size ≤ q → A0 q) {n : Int32} (hn : ¬ n < 0) (hbytes : n.toNatClampNeg * 1 ≤ 536870912) (hcells : cells + 1 ≤ R.cells) (hslots : slots + n.toNatClampNeg ≤ R.slots) (hdg : decode cc pc = .ok (.newarray .byte, 2))
    (kk : ∀ (q : Nat) (H1 : Heap), va_P D classes (ws ++ [(q, .inl (cx 1, n.toNatClampNeg, .inl (fun _ => 0)))]) H1 → va_D A0 (ws ++ [(q, .inl (cx 1, n.toNatClampNeg, .inl (fun _ => 0)))]) → va_S A0 H0 H1 locs → W p l e R s m args below meth c H1 locs (cells + 1) (slots + n.toNatClampNeg) Q (F0 m (pc + 2) ls (.ref q :: rest))) : W p l e R s m args below meth c H locs cells slots Q (F0 m pc ls (.int n :: rest)) := by
  refine va_newa (atype := .byte) (ty := .byte) (a0 := (n.toNatClampNeg, .inl (fun _ => 0))) hexec hb harr rfl hK hP hD hS hA (fun cA => rfl) hn rfl hbytes hcells hslots hdg (fun q cA H1 hK1 hP1 hD1 hS1 => ?_)
  have e1 : s.vm.findClass ("[" ++ FieldType.byte.toString) = some cA := (hK1.2 5 (cA, .byte) rfl).2
  have e2 : s.vm.findClass ("[" ++ FieldType.byte.toString) = some (cx 1) := (hK.2 1 (cx 1, .byte) rfl).2
  have e3 : cA = cx 1 := Option.some.inj (e1.symm.trans e2)
  subst e3
  exact kk q H1 hP1 hD1 hS1
end KG
abbrev rmX1_init : Room := { frames := 1, cells := 3, slots := 336, locals := 20 }
set_option maxHeartbeats 8000000 in
set_option maxRecDepth 100000 in
theorem metX1_init (l : Launch) (D : va_G) (cx : Nat → ClassId) (h0 sz : Nat) : Met l yX1_init (.code yX1_init cX1_init 1 none :: kc_TB) rmX1_init (kc_Pre D cx [(h0, .inr (1, [.int 0, .int 0, .int 0, .int 0, .int 0, .int 0, .null, .null, .null]))] [.ref h0] sz) (kc_Pv D (fun u : Nat × Nat × Nat => (wG cx (ad4 h0 u.1 u.2.1 u.2.2) 0 0 0 0 0 0 (fun _ => 0) (fun _ => 0) (fun _ => 0))) (va_A [(h0, .inr (1, [.int 0, .int 0, .int 0, .int 0, .int 0, .int 0, .null, .null, .null]))] sz)) 3 336 (va_A [(h0, .inr (1, [.int 0, .int 0, .int 0, .int 0, .int 0, .int 0, .null, .null, .null]))] sz) := by
  refine kc_entry (Qc := fun A => (kc_Pv D (fun u : Nat × Nat × Nat => (wG cx (ad4 h0 u.1 u.2.1 u.2.2) 0 0 0 0 0 0 (fun _ => 0) (fun _ => 0) (fun _ => 0))) A)) (by decide) (Nat.le_of_ble_eq_true rfl) ?_
  intro p e s m below meth c A hx hb hr hk hml hown hin hts hN hK hP hD hS hA ls hl
  have hown : s.vm.findClass RX1 = some m.cls := hown
  have hin : meth.name = "<init>" := hin
  have hl : lv_has ls 1 [(0, .ref h0)] := hl
  refine lv_aload_n hx hb dX1_init_0 rfl (lv_at hl 0 rfl) ?_
  refine W.objInit hx hb hown (hts _ wd_63) (hts _ wd_56) (hts _ wd_57) rfl (by rw [hml]; exact hl.1) rfl dX1_init_1 (Nat.le_of_ble_eq_true rfl) (Nat.le_of_ble_eq_true rfl) ?_
  refine W.eq (g2 := F0 m 4 ls []) rfl ?_
  refine lv_aload_n hx hb dX1_init_4 rfl (lv_at hl 0 rfl) ?_
  refine lv_bipush (v := (64 : Int32)) hx hb dX1_init_5 (by decide) ?_
  refine kc_newi cx hx hb (hts _ wd_104) hK hP hD hS hA (n := (64 : Int32)) (by decide) (by decide) (Nat.le_of_ble_eq_true rfl) (Nat.le_of_ble_eq_true rfl) dX1_init_7 (fun q7 H hP hD hS => ?_)
  have hP : va_P D classes [(h0, .inr (1, [.int 0, .int 0, .int 0, .int 0, .int 0, .int 0, .null, .null, .null])), (q7, .inl (cx 0, 64, .inl (fun _ => 0)))] H := hP
  have hD : va_D A [(h0, .inr (1, [.int 0, .int 0, .int 0, .int 0, .int 0, .int 0, .null, .null, .null])), (q7, .inl (cx 0, 64, .inl (fun _ => 0)))] := hD
  refine W.widen (k := 1) (n := 64) (Nat.le_of_ble_eq_true rfl) (Nat.le_of_ble_eq_true rfl) ?_
  refine va_putF (D := D) (ci := 1) (v := .ref q7) (ty := .array .int) (C := RX1) (T := TX1) (N := 9) hx hb hts iX1 tyX1 tyX1_ok nmX1 hown hK hP hD hS 0 rfl rfl 6 (by decide) (hts _ wd_82) (fun _ h9 => h9) rfl hin rfl (by decide +kernel) rfl rfl (Nat.le_of_ble_eq_true rfl) dX1_init_9 (fun H locs hP hD hS => ?_)
  have hP : va_P D classes [(h0, .inr (1, [.int 0, .int 0, .int 0, .int 0, .int 0, .int 0, .ref q7, .null, .null])), (q7, .inl (cx 0, 64, .inl (fun _ => 0)))] H := hP
  have hD : va_D A [(h0, .inr (1, [.int 0, .int 0, .int 0, .int 0, .int 0, .int 0, .ref q7, .null, .null])), (q7, .inl (cx 0, 64, .inl (fun _ => 0)))] := hD
  refine lv_aload_n hx hb dX1_init_12 rfl (lv_at hl 0 rfl) ?_
  refine lv_sipush (v := (256 : Int32)) hx hb dX1_init_13 (by decide) ?_
  refine kc_newi cx hx hb (hts _ wd_104) hK hP hD hS hA (n := (256 : Int32)) (by decide) (by decide) (Nat.le_of_ble_eq_true rfl) (Nat.le_of_ble_eq_true rfl) dX1_init_16 (fun q16 H hP hD hS => ?_)
  have hP : va_P D classes [(h0, .inr (1, [.int 0, .int 0, .int 0, .int 0, .int 0, .int 0, .ref q7, .null, .null])), (q7, .inl (cx 0, 64, .inl (fun _ => 0))), (q16, .inl (cx 0, 256, .inl (fun _ => 0)))] H := hP
  have hD : va_D A [(h0, .inr (1, [.int 0, .int 0, .int 0, .int 0, .int 0, .int 0, .ref q7, .null, .null])), (q7, .inl (cx 0, 64, .inl (fun _ => 0))), (q16, .inl (cx 0, 256, .inl (fun _ => 0)))] := hD
  refine W.widen (k := 2) (n := 320) (Nat.le_of_ble_eq_true rfl) (Nat.le_of_ble_eq_true rfl) ?_
  refine va_putF (D := D) (ci := 1) (v := .ref q16) (ty := .array .int) (C := RX1) (T := TX1) (N := 9) hx hb hts iX1 tyX1 tyX1_ok nmX1 hown hK hP hD hS 0 rfl rfl 7 (by decide) (hts _ wd_83) (fun _ h9 => h9) rfl hin rfl (by decide +kernel) rfl rfl (Nat.le_of_ble_eq_true rfl) dX1_init_18 (fun H locs hP hD hS => ?_)
  have hP : va_P D classes [(h0, .inr (1, [.int 0, .int 0, .int 0, .int 0, .int 0, .int 0, .ref q7, .ref q16, .null])), (q7, .inl (cx 0, 64, .inl (fun _ => 0))), (q16, .inl (cx 0, 256, .inl (fun _ => 0)))] H := hP
  have hD : va_D A [(h0, .inr (1, [.int 0, .int 0, .int 0, .int 0, .int 0, .int 0, .ref q7, .ref q16, .null])), (q7, .inl (cx 0, 64, .inl (fun _ => 0))), (q16, .inl (cx 0, 256, .inl (fun _ => 0)))] := hD
  refine lv_aload_n hx hb dX1_init_21 rfl (lv_at hl 0 rfl) ?_
  refine lv_bipush (v := (16 : Int32)) hx hb dX1_init_22 (by decide) ?_
  refine kc_newi cx hx hb (hts _ wd_104) hK hP hD hS hA (n := (16 : Int32)) (by decide) (by decide) (Nat.le_of_ble_eq_true rfl) (Nat.le_of_ble_eq_true rfl) dX1_init_24 (fun q24 H hP hD hS => ?_)
  have hP : va_P D classes [(h0, .inr (1, [.int 0, .int 0, .int 0, .int 0, .int 0, .int 0, .ref q7, .ref q16, .null])), (q7, .inl (cx 0, 64, .inl (fun _ => 0))), (q16, .inl (cx 0, 256, .inl (fun _ => 0))), (q24, .inl (cx 0, 16, .inl (fun _ => 0)))] H := hP
  have hD : va_D A [(h0, .inr (1, [.int 0, .int 0, .int 0, .int 0, .int 0, .int 0, .ref q7, .ref q16, .null])), (q7, .inl (cx 0, 64, .inl (fun _ => 0))), (q16, .inl (cx 0, 256, .inl (fun _ => 0))), (q24, .inl (cx 0, 16, .inl (fun _ => 0)))] := hD
  refine W.widen (k := 3) (n := 336) (Nat.le_of_ble_eq_true rfl) (Nat.le_of_ble_eq_true rfl) ?_
  refine va_putF (D := D) (ci := 1) (v := .ref q24) (ty := .array .int) (C := RX1) (T := TX1) (N := 9) hx hb hts iX1 tyX1 tyX1_ok nmX1 hown hK hP hD hS 0 rfl rfl 8 (by decide) (hts _ wd_84) (fun _ h9 => h9) rfl hin rfl (by decide +kernel) rfl rfl (Nat.le_of_ble_eq_true rfl) dX1_init_26 (fun H locs hP hD hS => ?_)
  have hP : va_P D classes [(h0, .inr (1, [.int 0, .int 0, .int 0, .int 0, .int 0, .int 0, .ref q7, .ref q16, .ref q24])), (q7, .inl (cx 0, 64, .inl (fun _ => 0))), (q16, .inl (cx 0, 256, .inl (fun _ => 0))), (q24, .inl (cx 0, 16, .inl (fun _ => 0)))] H := hP
  have hD : va_D A [(h0, .inr (1, [.int 0, .int 0, .int 0, .int 0, .int 0, .int 0, .ref q7, .ref q16, .ref q24])), (q7, .inl (cx 0, 64, .inl (fun _ => 0))), (q16, .inl (cx 0, 256, .inl (fun _ => 0))), (q24, .inl (cx 0, 16, .inl (fun _ => 0)))] := hD
  have hP9 : va_P D classes (wG cx (ad4 h0 (q7, q16, q24).1 (q7, q16, q24).2.1 (q7, q16, q24).2.2) 0 0 0 0 0 0 (fun _ => 0) (fun _ => 0) (fun _ => 0)) H := hP.sub [0, 1, 2, 3] rfl
  have hD9 : va_D A (wG cx (ad4 h0 (q7, q16, q24).1 (q7, q16, q24).2.1 (q7, q16, q24).2.2) 0 0 0 0 0 0 (fun _ => 0) (fun _ => 0) (fun _ => 0)) := hD.sub [0, 1, 2, 3] (by decide) rfl
  exact kc_vret (w := fun u => _) (q7, q16, q24) hx hb hr hk hP9 hD9 hS dX1_init_29
abbrev rmX0_init : Room := { frames := 1, cells := 3, slots := 25, locals := 20 }
set_option maxHeartbeats 8000000 in
set_option maxRecDepth 100000 in
theorem metX0_init (l : Launch) (D : va_G) (cx : Nat → ClassId) (h0 g0 sz : Nat) : Met l yX0_init (.code yX0_init cX0_init 2 none :: kc_TB) rmX0_init (kc_Pre D cx [(h0, .inr (0, [.null, .null, .null, .null, .int 0]))] [.ref h0, .ref g0] sz) (kc_Pv D (fun u : Nat × Nat × Nat => ([(h0, .inr (0, [.ref g0, .ref u.1, .ref u.2.1, .ref u.2.2, .int 0])), (u.1, .inl (cx 0, 16, .inl (fun _ => 0))), (u.2.1, .inl (cx 0, 2, .inl (fun _ => 0))), (u.2.2, .inl (cx 0, 7, .inl (fun _ => 0)))] : va_W)) (va_A [(h0, .inr (0, [.null, .null, .null, .null, .int 0]))] sz)) 3 25 (va_A [(h0, .inr (0, [.null, .null, .null, .null, .int 0]))] sz) := by
  refine kc_entry (Qc := fun A => (kc_Pv D (fun u : Nat × Nat × Nat => ([(h0, .inr (0, [.ref g0, .ref u.1, .ref u.2.1, .ref u.2.2, .int 0])), (u.1, .inl (cx 0, 16, .inl (fun _ => 0))), (u.2.1, .inl (cx 0, 2, .inl (fun _ => 0))), (u.2.2, .inl (cx 0, 7, .inl (fun _ => 0)))] : va_W)) A)) (by decide) (Nat.le_of_ble_eq_true rfl) ?_
  intro p e s m below meth c A hx hb hr hk hml hown hin hts hN hK hP hD hS hA ls hl
  have hown : s.vm.findClass RX0 = some m.cls := hown
  have hin : meth.name = "<init>" := hin
  have hl : lv_has ls 2 [(0, .ref h0), (1, .ref g0)] := hl
  refine lv_aload_n hx hb dX0_init_0 rfl (lv_at hl 0 rfl) ?_
  refine W.objInit hx hb hown (hts _ wd_179) (hts _ wd_56) (hts _ wd_57) rfl (by rw [hml]; exact hl.1) rfl dX0_init_1 (Nat.le_of_ble_eq_true rfl) (Nat.le_of_ble_eq_true rfl) ?_
  refine W.eq (g2 := F0 m 4 ls []) rfl ?_
  refine lv_aload_n hx hb dX0_init_4 rfl (lv_at hl 0 rfl) ?_
  refine lv_bipush (v := (16 : Int32)) hx hb dX0_init_5 (by decide) ?_
  refine kc_newi cx hx hb (hts _ wd_104) hK hP hD hS hA (n := (16 : Int32)) (by decide) (by decide) (Nat.le_of_ble_eq_true rfl) (Nat.le_of_ble_eq_true rfl) dX0_init_7 (fun q7 H hP hD hS => ?_)
  have hP : va_P D classes [(h0, .inr (0, [.null, .null, .null, .null, .int 0])), (q7, .inl (cx 0, 16, .inl (fun _ => 0)))] H := hP
  have hD : va_D A [(h0, .inr (0, [.null, .null, .null, .null, .int 0])), (q7, .inl (cx 0, 16, .inl (fun _ => 0)))] := hD
  refine W.widen (k := 1) (n := 16) (Nat.le_of_ble_eq_true rfl) (Nat.le_of_ble_eq_true rfl) ?_
  refine va_putF (D := D) (ci := 0) (v := .ref q7) (ty := .array .int) (C := RX0) (T := TX0) (N := 5) hx hb hts iX0 tyX0 tyX0_ok nmX0 hown hK hP hD hS 0 rfl rfl 1 (by decide) (hts _ wd_181) (fun _ h9 => h9) rfl hin rfl (by decide +kernel) rfl rfl (Nat.le_of_ble_eq_true rfl) dX0_init_9 (fun H locs hP hD hS => ?_)
  have hP : va_P D classes [(h0, .inr (0, [.null, .ref q7, .null, .null, .int 0])), (q7, .inl (cx 0, 16, .inl (fun _ => 0)))] H := hP
  have hD : va_D A [(h0, .inr (0, [.null, .ref q7, .null, .null, .int 0])), (q7, .inl (cx 0, 16, .inl (fun _ => 0)))] := hD
  refine lv_aload_n hx hb dX0_init_12 rfl (lv_at hl 0 rfl) ?_
  refine lv_iconst (v := (2 : Int32)) hx hb dX0_init_13 (by decide) ?_
  refine kc_newi cx hx hb (hts _ wd_104) hK hP hD hS hA (n := (2 : Int32)) (by decide) (by decide) (Nat.le_of_ble_eq_true rfl) (Nat.le_of_ble_eq_true rfl) dX0_init_14 (fun q14 H hP hD hS => ?_)
  have hP : va_P D classes [(h0, .inr (0, [.null, .ref q7, .null, .null, .int 0])), (q7, .inl (cx 0, 16, .inl (fun _ => 0))), (q14, .inl (cx 0, 2, .inl (fun _ => 0)))] H := hP
  have hD : va_D A [(h0, .inr (0, [.null, .ref q7, .null, .null, .int 0])), (q7, .inl (cx 0, 16, .inl (fun _ => 0))), (q14, .inl (cx 0, 2, .inl (fun _ => 0)))] := hD
  refine W.widen (k := 2) (n := 18) (Nat.le_of_ble_eq_true rfl) (Nat.le_of_ble_eq_true rfl) ?_
  refine va_putF (D := D) (ci := 0) (v := .ref q14) (ty := .array .int) (C := RX0) (T := TX0) (N := 5) hx hb hts iX0 tyX0 tyX0_ok nmX0 hown hK hP hD hS 0 rfl rfl 2 (by decide) (hts _ wd_184) (fun _ h9 => h9) rfl hin rfl (by decide +kernel) rfl rfl (Nat.le_of_ble_eq_true rfl) dX0_init_16 (fun H locs hP hD hS => ?_)
  have hP : va_P D classes [(h0, .inr (0, [.null, .ref q7, .ref q14, .null, .int 0])), (q7, .inl (cx 0, 16, .inl (fun _ => 0))), (q14, .inl (cx 0, 2, .inl (fun _ => 0)))] H := hP
  have hD : va_D A [(h0, .inr (0, [.null, .ref q7, .ref q14, .null, .int 0])), (q7, .inl (cx 0, 16, .inl (fun _ => 0))), (q14, .inl (cx 0, 2, .inl (fun _ => 0)))] := hD
  refine lv_aload_n hx hb dX0_init_19 rfl (lv_at hl 0 rfl) ?_
  refine lv_bipush (v := (7 : Int32)) hx hb dX0_init_20 (by decide) ?_
  refine kc_newi cx hx hb (hts _ wd_104) hK hP hD hS hA (n := (7 : Int32)) (by decide) (by decide) (Nat.le_of_ble_eq_true rfl) (Nat.le_of_ble_eq_true rfl) dX0_init_22 (fun q22 H hP hD hS => ?_)
  have hP : va_P D classes [(h0, .inr (0, [.null, .ref q7, .ref q14, .null, .int 0])), (q7, .inl (cx 0, 16, .inl (fun _ => 0))), (q14, .inl (cx 0, 2, .inl (fun _ => 0))), (q22, .inl (cx 0, 7, .inl (fun _ => 0)))] H := hP
  have hD : va_D A [(h0, .inr (0, [.null, .ref q7, .ref q14, .null, .int 0])), (q7, .inl (cx 0, 16, .inl (fun _ => 0))), (q14, .inl (cx 0, 2, .inl (fun _ => 0))), (q22, .inl (cx 0, 7, .inl (fun _ => 0)))] := hD
  refine W.widen (k := 3) (n := 25) (Nat.le_of_ble_eq_true rfl) (Nat.le_of_ble_eq_true rfl) ?_
  refine va_putF (D := D) (ci := 0) (v := .ref q22) (ty := .array .int) (C := RX0) (T := TX0) (N := 5) hx hb hts iX0 tyX0 tyX0_ok nmX0 hown hK hP hD hS 0 rfl rfl 3 (by decide) (hts _ wd_187) (fun _ h9 => h9) rfl hin rfl (by decide +kernel) rfl rfl (Nat.le_of_ble_eq_true rfl) dX0_init_24 (fun H locs hP hD hS => ?_)
  have hP : va_P D classes [(h0, .inr (0, [.null, .ref q7, .ref q14, .ref q22, .int 0])), (q7, .inl (cx 0, 16, .inl (fun _ => 0))), (q14, .inl (cx 0, 2, .inl (fun _ => 0))), (q22, .inl (cx 0, 7, .inl (fun _ => 0)))] H := hP
  have hD : va_D A [(h0, .inr (0, [.null, .ref q7, .ref q14, .ref q22, .int 0])), (q7, .inl (cx 0, 16, .inl (fun _ => 0))), (q14, .inl (cx 0, 2, .inl (fun _ => 0))), (q22, .inl (cx 0, 7, .inl (fun _ => 0)))] := hD
  refine lv_aload_n hx hb dX0_init_27 rfl (lv_at hl 0 rfl) ?_
  refine lv_aload_n hx hb dX0_init_28 rfl (lv_at hl 1 rfl) ?_
  refine va_putF (D := D) (ci := 0) (v := .ref g0) (ty := .object "DropRows$Grid") (C := RX0) (T := TX0) (N := 5) hx hb hts iX0 tyX0 tyX0_ok nmX0 hown hK hP hD hS 0 rfl rfl 0 (by decide) (hts _ wd_180) (fun _ h9 => h9) rfl hin rfl (by decide +kernel) rfl rfl (Nat.le_of_ble_eq_true rfl) dX0_init_29 (fun H locs hP hD hS => ?_)
  have hP : va_P D classes [(h0, .inr (0, [.ref g0, .ref q7, .ref q14, .ref q22, .int 0])), (q7, .inl (cx 0, 16, .inl (fun _ => 0))), (q14, .inl (cx 0, 2, .inl (fun _ => 0))), (q22, .inl (cx 0, 7, .inl (fun _ => 0)))] H := hP
  have hD : va_D A [(h0, .inr (0, [.ref g0, .ref q7, .ref q14, .ref q22, .int 0])), (q7, .inl (cx 0, 16, .inl (fun _ => 0))), (q14, .inl (cx 0, 2, .inl (fun _ => 0))), (q22, .inl (cx 0, 7, .inl (fun _ => 0)))] := hD
  have hP9 : va_P D classes ([(h0, .inr (0, [.ref g0, .ref (q7, q14, q22).1, .ref (q7, q14, q22).2.1, .ref (q7, q14, q22).2.2, .int 0])), ((q7, q14, q22).1, .inl (cx 0, 16, .inl (fun _ => 0))), ((q7, q14, q22).2.1, .inl (cx 0, 2, .inl (fun _ => 0))), ((q7, q14, q22).2.2, .inl (cx 0, 7, .inl (fun _ => 0)))] : va_W) H := hP.sub [0, 1, 2, 3] rfl
  have hD9 : va_D A ([(h0, .inr (0, [.ref g0, .ref (q7, q14, q22).1, .ref (q7, q14, q22).2.1, .ref (q7, q14, q22).2.2, .int 0])), ((q7, q14, q22).1, .inl (cx 0, 16, .inl (fun _ => 0))), ((q7, q14, q22).2.1, .inl (cx 0, 2, .inl (fun _ => 0))), ((q7, q14, q22).2.2, .inl (cx 0, 7, .inl (fun _ => 0)))] : va_W) := hD.sub [0, 1, 2, 3] (by decide) rfl
  exact kc_vret (w := fun u => _) (q7, q14, q22) hx hb hr hk hP9 hD9 hS dX0_init_32
abbrev rmX2_init : Room := { frames := 1, cells := 1, slots := 20, locals := 20 }
set_option maxHeartbeats 8000000 in
set_option maxRecDepth 100000 in
theorem metX2_init (l : Launch) (D : va_G) (cx : Nat → ClassId) (h0 sz : Nat) : Met l yX2_init (.code yX2_init cX2_init 1 none :: kc_TB) rmX2_init (kc_Pre D cx [(h0, .inr (2, [.int 0, .int 0, .int 0, .null]))] [.ref h0] sz) (kc_Pv D (fun u : Nat => ([(h0, .inr (2, [.int 1, .int 0, .int 0, .ref u])), (u, .inl (cx 0, 20, .inl (fun _ => 0)))] : va_W)) (va_A [(h0, .inr (2, [.int 0, .int 0, .int 0, .null]))] sz)) 1 20 (va_A [(h0, .inr (2, [.int 0, .int 0, .int 0, .null]))] sz) := by
  refine kc_entry (Qc := fun A => (kc_Pv D (fun u : Nat => ([(h0, .inr (2, [.int 1, .int 0, .int 0, .ref u])), (u, .inl (cx 0, 20, .inl (fun _ => 0)))] : va_W)) A)) (by decide) (Nat.le_of_ble_eq_true rfl) ?_
  intro p e s m below meth c A hx hb hr hk hml hown hin hts hN hK hP hD hS hA ls hl
  have hown : s.vm.findClass RX2 = some m.cls := hown
  have hin : meth.name = "<init>" := hin
  have hl : lv_has ls 1 [(0, .ref h0)] := hl
  refine lv_aload_n hx hb dX2_init_0 rfl (lv_at hl 0 rfl) ?_
  refine W.objInit hx hb hown (hts _ wd_208) (hts _ wd_56) (hts _ wd_57) rfl (by rw [hml]; exact hl.1) rfl dX2_init_1 (Nat.le_of_ble_eq_true rfl) (Nat.le_of_ble_eq_true rfl) ?_
  refine W.eq (g2 := F0 m 4 ls []) rfl ?_
  refine lv_aload_n hx hb dX2_init_4 rfl (lv_at hl 0 rfl) ?_
  refine lv_iconst (v := (1 : Int32)) hx hb dX2_init_5 (by decide) ?_
  refine va_put (D := D) (ci := 2) (v := .int 1) (ty := .boolean) (C := RX2) (T := TX2) (N := 4) hx hb hts iX2 tyX2 tyX2_ok nmX2 hown hK hP hD hS 0 rfl rfl 0 (by decide) (hts _ wd_209) (fun _ h9 => h9) rfl (by decide +kernel) rfl rfl (Nat.le_of_ble_eq_true rfl) dX2_init_6 (fun H locs hP hD hS => ?_)
  have hP : va_P D classes [(h0, .inr (2, [.int 1, .int 0, .int 0, .null]))] H := hP
  have hD : va_D A [(h0, .inr (2, [.int 1, .int 0, .int 0, .null]))] := hD
  refine lv_aload_n hx hb dX2_init_9 rfl (lv_at hl 0 rfl) ?_
  refine lv_bipush (v := (20 : Int32)) hx hb dX2_init_10 (by decide) ?_
  refine kc_newi cx hx hb (hts _ wd_104) hK hP hD hS hA (n := (20 : Int32)) (by decide) (by decide) (Nat.le_of_ble_eq_true rfl) (Nat.le_of_ble_eq_true rfl) dX2_init_12 (fun q12 H hP hD hS => ?_)
  have hP : va_P D classes [(h0, .inr (2, [.int 1, .int 0, .int 0, .null])), (q12, .inl (cx 0, 20, .inl (fun _ => 0)))] H := hP
  have hD : va_D A [(h0, .inr (2, [.int 1, .int 0, .int 0, .null])), (q12, .inl (cx 0, 20, .inl (fun _ => 0)))] := hD
  refine W.widen (k := 1) (n := 20) (Nat.le_of_ble_eq_true rfl) (Nat.le_of_ble_eq_true rfl) ?_
  refine va_putF (D := D) (ci := 2) (v := .ref q12) (ty := .array .int) (C := RX2) (T := TX2) (N := 4) hx hb hts iX2 tyX2 tyX2_ok nmX2 hown hK hP hD hS 0 rfl rfl 3 (by decide) (hts _ wd_215) (fun _ h9 => h9) rfl hin rfl (by decide +kernel) rfl rfl (Nat.le_of_ble_eq_true rfl) dX2_init_14 (fun H locs hP hD hS => ?_)
  have hP : va_P D classes [(h0, .inr (2, [.int 1, .int 0, .int 0, .ref q12])), (q12, .inl (cx 0, 20, .inl (fun _ => 0)))] H := hP
  have hD : va_D A [(h0, .inr (2, [.int 1, .int 0, .int 0, .ref q12])), (q12, .inl (cx 0, 20, .inl (fun _ => 0)))] := hD
  have hP9 : va_P D classes ([(h0, .inr (2, [.int 1, .int 0, .int 0, .ref q12])), (q12, .inl (cx 0, 20, .inl (fun _ => 0)))] : va_W) H := hP.sub [0, 1] rfl
  have hD9 : va_D A ([(h0, .inr (2, [.int 1, .int 0, .int 0, .ref q12])), (q12, .inl (cx 0, 20, .inl (fun _ => 0)))] : va_W) := hD.sub [0, 1] (by decide) rfl
  exact kc_vret (w := fun u => _) q12 hx hb hr hk hP9 hD9 hS dX2_init_17
