/-! walks, written by program: what a method answers and leaves, as a function; its contract -/
abbrev rmX4_isWithin : Room := { frames := 0, cells := 0, slots := 0, locals := 0 }
set_option maxHeartbeats 4000000 in
set_option maxRecDepth 100000 in
theorem metX4_isWithin (l : Launch) (D : va_G) (cx : Nat → ClassId)   (x0 : Int32) (x1 : Int32) (x2 : Int32) (N : Nat) (sz : Nat) (v : Int32) (hf : fX4_isWithin N x0 x1 x2 = some v) : Met l yX4_isWithin (.code yX4_isWithin cX4_isWithin 3 (some .boolean) :: kc_TB) rmX4_isWithin (kc_Pre D cx ([] : va_W) [.int x0, .int x1, .int x2] sz) (kc_Pi D (fun _ : Unit => ([] : va_W)) v (va_A ([] : va_W) sz)) 0 0 (va_A ([] : va_W) sz) := by
  refine kc_entry (Qc := fun A => (kc_Pi D (fun _ : Unit => ([] : va_W)) v A)) (by decide) (Nat.le_of_ble_eq_true rfl) ?_
  intro p e s m below meth c A hx hb hr hk hml hown hin hts hN hK hP hD hS hA ls hl
  have hown : s.vm.findClass RX4 = some m.cls := hown
  have hl : lv_has ls 3 [(0, .int x0), (1, .int x1), (2, .int x2)] := hl
  unfold fX4_isWithin at hf
  have hP : va_P D classes ([] : va_W) s.heap := hP
  obtain ⟨H, hH⟩ : ∃ H, H = s.heap := ⟨_, rfl⟩
  obtain ⟨locs, hL⟩ : ∃ locs : List Loc, locs = [] := ⟨_, rfl⟩
  have hS : va_S A s.heap H locs := by rw [hH, hL]; exact hS
  have hP : va_P D classes ([] : va_W) H := by rw [hH]; exact hP
  suffices hW : W p l e rmX4_isWithin s m ([.int x0, .int x1, .int x2] : List Value).toArray below meth c H locs 0 0 (MQ below (kc_Pi D (fun _ : Unit => ([] : va_W)) v A) ([.int x0, .int x1, .int x2] : List Value).toArray s 0 0 A) (F0 m 0 ls []) by rw [hH, hL] at hW; exact hW
  clear hH hL
  refine lv_iload_n hx hb dX4_isWithin_0 rfl (lv_at hl 0 rfl) ?_
  refine lv_iload_n hx hb dX4_isWithin_1 rfl (lv_at hl 1 rfl) ?_
  refine lv_icmp_lt (tgt := 14) hx hb dX4_isWithin_2 (by decide) (fun c3 => ?_) (fun c3 => ?_)
  · replace hf := it_t c3 hf
    refine lv_iconst (v := (0 : Int32)) hx hb dX4_isWithin_14 (by decide) ?_
    obtain rfl := Option.some.inj hf
    exact kc_zret () hx hb hr hk hP hD hS rfl rfl dX4_isWithin_15
  · replace hf := it_f c3 hf
    refine lv_iload_n hx hb dX4_isWithin_5 rfl (lv_at hl 0 rfl) ?_
    refine lv_iload_n hx hb dX4_isWithin_6 rfl (lv_at hl 2 rfl) ?_
    refine lv_icmp_gt (tgt := 14) hx hb dX4_isWithin_7 (by decide) (fun c4 => ?_) (fun c4 => ?_)
    · replace hf := it_t c4 hf
      refine lv_iconst (v := (0 : Int32)) hx hb dX4_isWithin_14 (by decide) ?_
      obtain rfl := Option.some.inj hf
      exact kc_zret () hx hb hr hk hP hD hS rfl rfl dX4_isWithin_15
    · replace hf := it_f c4 hf
      refine lv_iconst (v := (1 : Int32)) hx hb dX4_isWithin_10 (by decide) ?_
      refine lv_goto (tgt := 15) hx hb dX4_isWithin_11 (by decide) ?_
      obtain rfl := Option.some.inj hf
      exact kc_zret () hx hb hr hk hP hD hS rfl rfl dX4_isWithin_15
abbrev rmJ7_fill_53178 : Room := { frames := 0, cells := 0, slots := 0, locals := 0 }
set_option maxHeartbeats 4000000 in
set_option maxRecDepth 100000 in
theorem metJ7_fill_53178 (l : Launch) (D : va_G) (cx : Nat → ClassId) (a1 : Nat) (fn : Nat) (ff : Nat → Int32) (x1 : Int32) (N : Nat) (sz : Nat) (v : (Nat → Int32)) (hf : fJ7_fill_53178 N fn ff x1 = some v) : Met l yJ7_fill_53178 (.code yJ7_fill_53178 cJ7_fill_53178 4 none :: kc_TB) rmJ7_fill_53178 (kc_Pre D cx (wI cx a1 fn ff) [.ref a1, .int x1] sz) (kc_Pv D (fun _ : Unit => (wI cx a1 fn v)) (va_A (wI cx a1 fn ff) sz)) 0 0 (va_A (wI cx a1 fn ff) sz) := by
  refine kc_entry (Qc := fun A => (kc_Pv D (fun _ : Unit => (wI cx a1 fn v)) A)) (by decide) (Nat.le_of_ble_eq_true rfl) ?_
  intro p e s m below meth c A hx hb hr hk hml hown hin hts hN hK hP hD hS hA ls hl
  have hown : s.vm.findClass RJ7 = some m.cls := hown
  have hl : lv_has ls 4 [(0, .ref (a1)), (1, .int x1)] := hl
  unfold fJ7_fill_53178 at hf
  have hP : va_P D classes (wI cx a1 fn ff) s.heap := hP
  obtain ⟨H, hH⟩ : ∃ H, H = s.heap := ⟨_, rfl⟩
  obtain ⟨locs, hL⟩ : ∃ locs : List Loc, locs = [] := ⟨_, rfl⟩
  have hS : va_S A s.heap H locs := by rw [hH, hL]; exact hS
  have hP : va_P D classes (wI cx a1 fn ff) H := by rw [hH]; exact hP
  suffices hW : W p l e rmJ7_fill_53178 s m ([.ref a1, .int x1] : List Value).toArray below meth c H locs 0 0 (MQ below (kc_Pv D (fun _ : Unit => (wI cx a1 fn v)) A) ([.ref a1, .int x1] : List Value).toArray s 0 0 A) (F0 m 0 ls []) by rw [hH, hL] at hW; exact hW
  clear hH hL
  refine lv_iconst (v := (0 : Int32)) hx hb dJ7_fill_53178_0 (by decide) ?_
  refine lv_istore_n (lv' := [(2, .int (0 : Int32)), (0, .ref (a1)), (1, .int x1)]) hx hb dJ7_fill_53178_1 rfl hl (by decide) rfl (fun ls hl => ?_)
  refine lv_aload_n hx hb dJ7_fill_53178_2 rfl (lv_at hl 1 rfl) ?_
  refine va_alen (D := D) hx hb hK hP 0 0 rfl rfl rfl dJ7_fill_53178_3 ?_
  refine lv_istore_n (lv' := [(3, .int (Int32.ofNat fn)), (2, .int (0 : Int32)), (0, .ref (a1)), (1, .int x1)]) hx hb dJ7_fill_53178_4 rfl hl (by decide) rfl (fun ls hl => ?_)
  have L5 : ∀ (ct : Nat) (ff : Nat → Int32) (x2 : Int32) (v5 : (Nat → Int32)), fJ7_fill_53178_L5 N fn x1 (Int32.ofNat fn) ct ff x2 = some v5 → ∀ (H : Heap) (locs : List Loc) (ls : Array Slot), va_P D classes (wI cx a1 fn ff) H → va_D A (wI cx a1 fn ff) → va_S A s.heap H locs → lv_has ls 4 [(0, .ref (a1)), (1, .int x1), (2, .int x2), (3, .int (Int32.ofNat fn))] → (∀ (H : Heap) (locs : List Loc) (ls : Array Slot), va_P D classes (wI cx a1 fn v5) H → va_D A (wI cx a1 fn v5) → va_S A s.heap H locs → lv_has ls 4 [] → W p l e rmJ7_fill_53178 s m ([.ref a1, .int x1] : List Value).toArray below meth c H locs 0 0 (MQ below (kc_Pv D (fun _ : Unit => (wI cx a1 fn v)) A) ([.ref a1, .int x1] : List Value).toArray s 0 0 A) (F0 m 20 ls [])) → W p l e rmJ7_fill_53178 s m ([.ref a1, .int x1] : List Value).toArray below meth c H locs 0 0 (MQ below (kc_Pv D (fun _ : Unit => (wI cx a1 fn v)) A) ([.ref a1, .int x1] : List Value).toArray s 0 0 A) (F0 m 5 ls []) := by
    intro ct
    induction ct with
    | zero =>
      intro ff x2 v5 hf
      exact absurd (show (none : Option ((Nat → Int32))) = some v5 from hf) (fun q => by cases q)
    | succ ct ih =>
      intro ff x2 v5 hf H locs ls hP hD hS hl hE
      rw [fJ7_fill_53178_L5] at hf
      refine lv_iload_n hx hb dJ7_fill_53178_5 rfl (lv_at hl 2 rfl) ?_
      refine lv_iload_n hx hb dJ7_fill_53178_6 rfl (lv_at hl 3 rfl) ?_
      refine lv_icmp_ge (tgt := 20) hx hb dJ7_fill_53178_7 (by decide) (fun c3 => ?_) (fun c3 => ?_)
      · replace hf := it_t c3 hf
        obtain rfl := Option.some.inj hf
        exact hE H locs ls hP hD hS (lv_sub hl [] rfl)
      · replace hf := it_f c3 hf
        refine lv_aload_n hx hb dJ7_fill_53178_10 rfl (lv_at hl 0 rfl) ?_
        refine lv_iload_n hx hb dJ7_fill_53178_11 rfl (lv_at hl 2 rfl) ?_
        refine lv_iload_n hx hb dJ7_fill_53178_12 rfl (lv_at hl 1 rfl) ?_
        obtain ⟨hz, hf⟩ := okb_s hf
        refine va_iast (D := D) hx hb hK hP hD hS 0 0 rfl rfl (inb_s hz) dJ7_fill_53178_13 (fun H locs hP hD hS => ?_)
        have hP : va_P D classes (wI cx a1 fn (upd ff x2.toNatClampNeg x1)) H := hP
        have hD : va_D A (wI cx a1 fn (upd ff x2.toNatClampNeg x1)) := hD
        refine lv_iinc (v := (x2 + (1 : Int32))) (lv' := [(2, .int (x2 + (1 : Int32))), (0, .ref (a1)), (1, .int x1), (3, .int (Int32.ofNat fn))]) hx hb dJ7_fill_53178_14 hl (k := 2) rfl rfl (by decide) rfl (fun ls hl => ?_)
        refine lv_goto (tgt := 5) hx hb dJ7_fill_53178_17 (by decide) ?_
        exact ih (upd ff x2.toNatClampNeg x1) (x2 + (1 : Int32)) _ hf H locs ls hP hD hS (lv_sub hl [1, 2, 0, 3] rfl) hE
  obtain ⟨u4, hg, hf⟩ := ob_s hf
  refine L5 _ ff (0 : Int32) u4 hg H locs ls hP hD hS (lv_sub hl [2, 3, 1, 0] rfl) (fun H locs ls hP hD hS hl => ?_)
  obtain rfl := Option.some.inj hf
  exact kc_vret () hx hb hr hk hP hD hS dJ7_fill_53178_20
abbrev rmJ6_bitCount_0f7a4 : Room := { frames := 0, cells := 0, slots := 0, locals := 0 }
set_option maxHeartbeats 4000000 in
set_option maxRecDepth 100000 in
theorem metJ6_bitCount_0f7a4 (l : Launch) (D : va_G) (cx : Nat → ClassId)   (x0 : Int32) (N : Nat) (sz : Nat) (v : Int32) (hf : fJ6_bitCount_0f7a4 N x0 = some v) : Met l yJ6_bitCount_0f7a4 (.code yJ6_bitCount_0f7a4 cJ6_bitCount_0f7a4 1 (some .int) :: kc_TB) rmJ6_bitCount_0f7a4 (kc_Pre D cx ([] : va_W) [.int x0] sz) (kc_Pi D (fun _ : Unit => ([] : va_W)) v (va_A ([] : va_W) sz)) 0 0 (va_A ([] : va_W) sz) := by
  refine kc_entry (Qc := fun A => (kc_Pi D (fun _ : Unit => ([] : va_W)) v A)) (by decide) (Nat.le_of_ble_eq_true rfl) ?_
  intro p e s m below meth c A hx hb hr hk hml hown hin hts hN hK hP hD hS hA ls hl
  have hown : s.vm.findClass RJ6 = some m.cls := hown
  have hl : lv_has ls 1 [(0, .int x0)] := hl
  unfold fJ6_bitCount_0f7a4 at hf
  have hP : va_P D classes ([] : va_W) s.heap := hP
  obtain ⟨H, hH⟩ : ∃ H, H = s.heap := ⟨_, rfl⟩
  obtain ⟨locs, hL⟩ : ∃ locs : List Loc, locs = [] := ⟨_, rfl⟩
  have hS : va_S A s.heap H locs := by rw [hH, hL]; exact hS
  have hP : va_P D classes ([] : va_W) H := by rw [hH]; exact hP
  suffices hW : W p l e rmJ6_bitCount_0f7a4 s m ([.int x0] : List Value).toArray below meth c H locs 0 0 (MQ below (kc_Pi D (fun _ : Unit => ([] : va_W)) v A) ([.int x0] : List Value).toArray s 0 0 A) (F0 m 0 ls []) by rw [hH, hL] at hW; exact hW
  clear hH hL
  refine lv_iload_n hx hb dJ6_bitCount_0f7a4_0 rfl (lv_at hl 0 rfl) ?_
  refine lv_iload_n hx hb dJ6_bitCount_0f7a4_1 rfl (lv_at hl 0 rfl) ?_
  refine lv_iconst (v := (1 : Int32)) hx hb dJ6_bitCount_0f7a4_2 (by decide) ?_
  refine lv_iushr hx hb dJ6_bitCount_0f7a4_3 rfl ?_
  refine lv_ldcw hx hb hown (hts _ wd_349) dJ6_bitCount_0f7a4_4 ?_
  refine lv_iand hx hb dJ6_bitCount_0f7a4_7 ?_
  refine lv_isub hx hb dJ6_bitCount_0f7a4_8 ?_
  refine lv_istore_n (lv' := [(0, .int (x0 - ((x0.toUInt32 >>> ((1 : Int32).toUInt32 &&& Int32.toUInt32 31)).toInt32 &&& (1431655765 : Int32))))]) hx hb dJ6_bitCount_0f7a4_9 rfl hl (by decide) rfl (fun ls hl => ?_)
  refine lv_iload_n hx hb dJ6_bitCount_0f7a4_10 rfl (lv_at hl 0 rfl) ?_
  refine lv_ldcw hx hb hown (hts _ wd_350) dJ6_bitCount_0f7a4_11 ?_
  refine lv_iand hx hb dJ6_bitCount_0f7a4_14 ?_
  refine lv_iload_n hx hb dJ6_bitCount_0f7a4_15 rfl (lv_at hl 0 rfl) ?_
  refine lv_iconst (v := (2 : Int32)) hx hb dJ6_bitCount_0f7a4_16 (by decide) ?_
  refine lv_iushr hx hb dJ6_bitCount_0f7a4_17 rfl ?_
  refine lv_ldcw hx hb hown (hts _ wd_350) dJ6_bitCount_0f7a4_18 ?_
  refine lv_iand hx hb dJ6_bitCount_0f7a4_21 ?_
  refine lv_iadd hx hb dJ6_bitCount_0f7a4_22 ?_
  refine lv_istore_n (lv' := [(0, .int (((x0 - ((x0.toUInt32 >>> ((1 : Int32).toUInt32 &&& Int32.toUInt32 31)).toInt32 &&& (1431655765 : Int32))) &&& (858993459 : Int32)) + (((x0 - ((x0.toUInt32 >>> ((1 : Int32).toUInt32 &&& Int32.toUInt32 31)).toInt32 &&& (1431655765 : Int32))).toUInt32 >>> ((2 : Int32).toUInt32 &&& Int32.toUInt32 31)).toInt32 &&& (858993459 : Int32))))]) hx hb dJ6_bitCount_0f7a4_23 rfl hl (by decide) rfl (fun ls hl => ?_)
  refine lv_iload_n hx hb dJ6_bitCount_0f7a4_24 rfl (lv_at hl 0 rfl) ?_
  refine lv_iload_n hx hb dJ6_bitCount_0f7a4_25 rfl (lv_at hl 0 rfl) ?_
  refine lv_iconst (v := (4 : Int32)) hx hb dJ6_bitCount_0f7a4_26 (by decide) ?_
  refine lv_iushr hx hb dJ6_bitCount_0f7a4_27 rfl ?_
  refine lv_iadd hx hb dJ6_bitCount_0f7a4_28 ?_
  refine lv_ldcw hx hb hown (hts _ wd_351) dJ6_bitCount_0f7a4_29 ?_
  refine lv_iand hx hb dJ6_bitCount_0f7a4_32 ?_
  refine lv_istore_n (lv' := [(0, .int (((((x0 - ((x0.toUInt32 >>> ((1 : Int32).toUInt32 &&& Int32.toUInt32 31)).toInt32 &&& (1431655765 : Int32))) &&& (858993459 : Int32)) + (((x0 - ((x0.toUInt32 >>> ((1 : Int32).toUInt32 &&& Int32.toUInt32 31)).toInt32 &&& (1431655765 : Int32))).toUInt32 >>> ((2 : Int32).toUInt32 &&& Int32.toUInt32 31)).toInt32 &&& (858993459 : Int32))) + ((((x0 - ((x0.toUInt32 >>> ((1 : Int32).toUInt32 &&& Int32.toUInt32 31)).toInt32 &&& (1431655765 : Int32))) &&& (858993459 : Int32)) + (((x0 - ((x0.toUInt32 >>> ((1 : Int32).toUInt32 &&& Int32.toUInt32 31)).toInt32 &&& (1431655765 : Int32))).toUInt32 >>> ((2 : Int32).toUInt32 &&& Int32.toUInt32 31)).toInt32 &&& (858993459 : Int32))).toUInt32 >>> ((4 : Int32).toUInt32 &&& Int32.toUInt32 31)).toInt32) &&& (252645135 : Int32)))]) hx hb dJ6_bitCount_0f7a4_33 rfl hl (by decide) rfl (fun ls hl => ?_)
  refine lv_iload_n hx hb dJ6_bitCount_0f7a4_34 rfl (lv_at hl 0 rfl) ?_
  refine lv_iload_n hx hb dJ6_bitCount_0f7a4_35 rfl (lv_at hl 0 rfl) ?_
  refine lv_bipush (v := (8 : Int32)) hx hb dJ6_bitCount_0f7a4_36 (by decide) ?_
  refine lv_iushr hx hb dJ6_bitCount_0f7a4_38 rfl ?_
  refine lv_iadd hx hb dJ6_bitCount_0f7a4_39 ?_
  refine lv_istore_n (lv' := [(0, .int ((((((x0 - ((x0.toUInt32 >>> ((1 : Int32).toUInt32 &&& Int32.toUInt32 31)).toInt32 &&& (1431655765 : Int32))) &&& (858993459 : Int32)) + (((x0 - ((x0.toUInt32 >>> ((1 : Int32).toUInt32 &&& Int32.toUInt32 31)).toInt32 &&& (1431655765 : Int32))).toUInt32 >>> ((2 : Int32).toUInt32 &&& Int32.toUInt32 31)).toInt32 &&& (858993459 : Int32))) + ((((x0 - ((x0.toUInt32 >>> ((1 : Int32).toUInt32 &&& Int32.toUInt32 31)).toInt32 &&& (1431655765 : Int32))) &&& (858993459 : Int32)) + (((x0 - ((x0.toUInt32 >>> ((1 : Int32).toUInt32 &&& Int32.toUInt32 31)).toInt32 &&& (1431655765 : Int32))).toUInt32 >>> ((2 : Int32).toUInt32 &&& Int32.toUInt32 31)).toInt32 &&& (858993459 : Int32))).toUInt32 >>> ((4 : Int32).toUInt32 &&& Int32.toUInt32 31)).toInt32) &&& (252645135 : Int32)) + ((((((x0 - ((x0.toUInt32 >>> ((1 : Int32).toUInt32 &&& Int32.toUInt32 31)).toInt32 &&& (1431655765 : Int32))) &&& (858993459 : Int32)) + (((x0 - ((x0.toUInt32 >>> ((1 : Int32).toUInt32 &&& Int32.toUInt32 31)).toInt32 &&& (1431655765 : Int32))).toUInt32 >>> ((2 : Int32).toUInt32 &&& Int32.toUInt32 31)).toInt32 &&& (858993459 : Int32))) + ((((x0 - ((x0.toUInt32 >>> ((1 : Int32).toUInt32 &&& Int32.toUInt32 31)).toInt32 &&& (1431655765 : Int32))) &&& (858993459 : Int32)) + (((x0 - ((x0.toUInt32 >>> ((1 : Int32).toUInt32 &&& Int32.toUInt32 31)).toInt32 &&& (1431655765 : Int32))).toUInt32 >>> ((2 : Int32).toUInt32 &&& Int32.toUInt32 31)).toInt32 &&& (858993459 : Int32))).toUInt32 >>> ((4 : Int32).toUInt32 &&& Int32.toUInt32 31)).toInt32) &&& (252645135 : Int32)).toUInt32 >>> ((8 : Int32).toUInt32 &&& Int32.toUInt32 31)).toInt32))]) hx hb dJ6_bitCount_0f7a4_40 rfl hl (by decide) rfl (fun ls hl => ?_)
  refine lv_iload_n hx hb dJ6_bitCount_0f7a4_41 rfl (lv_at hl 0 rfl) ?_
  refine lv_iload_n hx hb dJ6_bitCount_0f7a4_42 rfl (lv_at hl 0 rfl) ?_
  refine lv_bipush (v := (16 : Int32)) hx hb dJ6_bitCount_0f7a4_43 (by decide) ?_
  refine lv_iushr hx hb dJ6_bitCount_0f7a4_45 rfl ?_
  refine lv_iadd hx hb dJ6_bitCount_0f7a4_46 ?_
  refine lv_istore_n (lv' := [(0, .int (((((((x0 - ((x0.toUInt32 >>> ((1 : Int32).toUInt32 &&& Int32.toUInt32 31)).toInt32 &&& (1431655765 : Int32))) &&& (858993459 : Int32)) + (((x0 - ((x0.toUInt32 >>> ((1 : Int32).toUInt32 &&& Int32.toUInt32 31)).toInt32 &&& (1431655765 : Int32))).toUInt32 >>> ((2 : Int32).toUInt32 &&& Int32.toUInt32 31)).toInt32 &&& (858993459 : Int32))) + ((((x0 - ((x0.toUInt32 >>> ((1 : Int32).toUInt32 &&& Int32.toUInt32 31)).toInt32 &&& (1431655765 : Int32))) &&& (858993459 : Int32)) + (((x0 - ((x0.toUInt32 >>> ((1 : Int32).toUInt32 &&& Int32.toUInt32 31)).toInt32 &&& (1431655765 : Int32))).toUInt32 >>> ((2 : Int32).toUInt32 &&& Int32.toUInt32 31)).toInt32 &&& (858993459 : Int32))).toUInt32 >>> ((4 : Int32).toUInt32 &&& Int32.toUInt32 31)).toInt32) &&& (252645135 : Int32)) + ((((((x0 - ((x0.toUInt32 >>> ((1 : Int32).toUInt32 &&& Int32.toUInt32 31)).toInt32 &&& (1431655765 : Int32))) &&& (858993459 : Int32)) + (((x0 - ((x0.toUInt32 >>> ((1 : Int32).toUInt32 &&& Int32.toUInt32 31)).toInt32 &&& (1431655765 : Int32))).toUInt32 >>> ((2 : Int32).toUInt32 &&& Int32.toUInt32 31)).toInt32 &&& (858993459 : Int32))) + ((((x0 - ((x0.toUInt32 >>> ((1 : Int32).toUInt32 &&& Int32.toUInt32 31)).toInt32 &&& (1431655765 : Int32))) &&& (858993459 : Int32)) + (((x0 - ((x0.toUInt32 >>> ((1 : Int32).toUInt32 &&& Int32.toUInt32 31)).toInt32 &&& (1431655765 : Int32))).toUInt32 >>> ((2 : Int32).toUInt32 &&& Int32.toUInt32 31)).toInt32 &&& (858993459 : Int32))).toUInt32 >>> ((4 : Int32).toUInt32 &&& Int32.toUInt32 31)).toInt32) &&& (252645135 : Int32)).toUInt32 >>> ((8 : Int32).toUInt32 &&& Int32.toUInt32 31)).toInt32) + (((((((x0 - ((x0.toUInt32 >>> ((1 : Int32).toUInt32 &&& Int32.toUInt32 31)).toInt32 &&& (1431655765 : Int32))) &&& (858993459 : Int32)) + (((x0 - ((x0.toUInt32 >>> ((1 : Int32).toUInt32 &&& Int32.toUInt32 31)).toInt32 &&& (1431655765 : Int32))).toUInt32 >>> ((2 : Int32).toUInt32 &&& Int32.toUInt32 31)).toInt32 &&& (858993459 : Int32))) + ((((x0 - ((x0.toUInt32 >>> ((1 : Int32).toUInt32 &&& Int32.toUInt32 31)).toInt32 &&& (1431655765 : Int32))) &&& (858993459 : Int32)) + (((x0 - ((x0.toUInt32 >>> ((1 : Int32).toUInt32 &&& Int32.toUInt32 31)).toInt32 &&& (1431655765 : Int32))).toUInt32 >>> ((2 : Int32).toUInt32 &&& Int32.toUInt32 31)).toInt32 &&& (858993459 : Int32))).toUInt32 >>> ((4 : Int32).toUInt32 &&& Int32.toUInt32 31)).toInt32) &&& (252645135 : Int32)) + ((((((x0 - ((x0.toUInt32 >>> ((1 : Int32).toUInt32 &&& Int32.toUInt32 31)).toInt32 &&& (1431655765 : Int32))) &&& (858993459 : Int32)) + (((x0 - ((x0.toUInt32 >>> ((1 : Int32).toUInt32 &&& Int32.toUInt32 31)).toInt32 &&& (1431655765 : Int32))).toUInt32 >>> ((2 : Int32).toUInt32 &&& Int32.toUInt32 31)).toInt32 &&& (858993459 : Int32))) + ((((x0 - ((x0.toUInt32 >>> ((1 : Int32).toUInt32 &&& Int32.toUInt32 31)).toInt32 &&& (1431655765 : Int32))) &&& (858993459 : Int32)) + (((x0 - ((x0.toUInt32 >>> ((1 : Int32).toUInt32 &&& Int32.toUInt32 31)).toInt32 &&& (1431655765 : Int32))).toUInt32 >>> ((2 : Int32).toUInt32 &&& Int32.toUInt32 31)).toInt32 &&& (858993459 : Int32))).toUInt32 >>> ((4 : Int32).toUInt32 &&& Int32.toUInt32 31)).toInt32) &&& (252645135 : Int32)).toUInt32 >>> ((8 : Int32).toUInt32 &&& Int32.toUInt32 31)).toInt32).toUInt32 >>> ((16 : Int32).toUInt32 &&& Int32.toUInt32 31)).toInt32))]) hx hb dJ6_bitCount_0f7a4_47 rfl hl (by decide) rfl (fun ls hl => ?_)
  refine lv_iload_n hx hb dJ6_bitCount_0f7a4_48 rfl (lv_at hl 0 rfl) ?_
  refine lv_bipush (v := (63 : Int32)) hx hb dJ6_bitCount_0f7a4_49 (by decide) ?_
  refine lv_iand hx hb dJ6_bitCount_0f7a4_51 ?_
  obtain rfl := Option.some.inj hf
  exact kc_iret () hx hb hr hk hP hD hS rfl dJ6_bitCount_0f7a4_52
abbrev rmX1_beside : Room := { frames := 0, cells := 0, slots := 0, locals := 0 }
set_option maxHeartbeats 4000000 in
set_option maxRecDepth 100000 in
theorem metX1_beside (l : Launch) (D : va_G) (cx : Nat → ClassId) (aG : Nat → Nat) (gw : Int32) (gh : Int32) (gk : Int32) (gq : Int32) (gr : Int32) (gj : Int32) (gR : Nat → Int32) (gT : Nat → Int32) (gC : Nat → Int32) (x1 : Int32) (x2 : Int32) (N : Nat) (sz : Nat) (v : Int32) (hf : fX1_beside N gw gj x1 x2 = some v) : Met l yX1_beside (.code yX1_beside cX1_beside 4 (some .int) :: kc_TB) rmX1_beside (kc_Pre D cx (wG cx aG gw gh gk gq gr gj gR gT gC) [.ref (aG 0), .int x1, .int x2] sz) (kc_Pi D (fun _ : Unit => (wG cx aG gw gh gk gq gr gj gR gT gC)) v (va_A (wG cx aG gw gh gk gq gr gj gR gT gC) sz)) 0 0 (va_A (wG cx aG gw gh gk gq gr gj gR gT gC) sz) := by
  refine kc_entry (Qc := fun A => (kc_Pi D (fun _ : Unit => (wG cx aG gw gh gk gq gr gj gR gT gC)) v A)) (by decide) (Nat.le_of_ble_eq_true rfl) ?_
  intro p e s m below meth c A hx hb hr hk hml hown hin hts hN hK hP hD hS hA ls hl
  have hown : s.vm.findClass RX1 = some m.cls := hown
  have hl : lv_has ls 4 [(0, .ref (aG 0)), (1, .int x1), (2, .int x2)] := hl
  unfold fX1_beside at hf
  have hP : va_P D classes (wG cx aG gw gh gk gq gr gj gR gT gC) s.heap := hP
  obtain ⟨H, hH⟩ : ∃ H, H = s.heap := ⟨_, rfl⟩
  obtain ⟨locs, hL⟩ : ∃ locs : List Loc, locs = [] := ⟨_, rfl⟩
  have hS : va_S A s.heap H locs := by rw [hH, hL]; exact hS
  have hP : va_P D classes (wG cx aG gw gh gk gq gr gj gR gT gC) H := by rw [hH]; exact hP
  suffices hW : W p l e rmX1_beside s m ([.ref (aG 0), .int x1, .int x2] : List Value).toArray below meth c H locs 0 0 (MQ below (kc_Pi D (fun _ : Unit => (wG cx aG gw gh gk gq gr gj gR gT gC)) v A) ([.ref (aG 0), .int x1, .int x2] : List Value).toArray s 0 0 A) (F0 m 0 ls []) by rw [hH, hL] at hW; exact hW
  clear hH hL
  refine lv_iload_n hx hb dX1_beside_0 rfl (lv_at hl 1 rfl) ?_
  refine lv_iload_n hx hb dX1_beside_1 rfl (lv_at hl 2 rfl) ?_
  refine lv_iadd hx hb dX1_beside_2 ?_
  refine lv_istore_n (lv' := [(3, .int (x1 + x2)), (0, .ref (aG 0)), (1, .int x1), (2, .int x2)]) hx hb dX1_beside_3 rfl hl (by decide) rfl (fun ls hl => ?_)
  refine lv_aload_n hx hb dX1_beside_4 rfl (lv_at hl 1 rfl) ?_
  refine va_get (D := D) (ci := 1) (v := .int gj) (C := RX1) (T := TX1) (N := 9) hx hb hts iX1 hown hK hP 0 rfl rfl 5 (by decide) (hts _ wd_80) (fun _ h9 => h9) rfl dX1_beside_5 ?_
  refine lv_if_ne (tgt := 13) hx hb dX1_beside_8 (by decide) (fun c4 => ?_) (fun c4 => ?_)
  · replace hf := it_f c4 hf
    refine lv_iload_n hx hb dX1_beside_13 rfl (lv_at hl 0 rfl) ?_
    refine lv_if_ge (tgt := 24) hx hb dX1_beside_14 (by decide) (fun c5 => ?_) (fun c5 => ?_)
    · replace hf := it_t c5 hf
      refine lv_iload_n hx hb dX1_beside_24 rfl (lv_at hl 0 rfl) ?_
      refine lv_aload_n hx hb dX1_beside_25 rfl (lv_at hl 1 rfl) ?_
      refine va_get (D := D) (ci := 1) (v := .int gw) (C := RX1) (T := TX1) (N := 9) hx hb hts iX1 hown hK hP 0 rfl rfl 0 (by decide) (hts _ wd_64) (fun _ h9 => h9) rfl dX1_beside_26 ?_
      refine lv_icmp_lt (tgt := 36) hx hb dX1_beside_29 (by decide) (fun c6 => ?_) (fun c6 => ?_)
      · replace hf := it_t c6 hf
        refine lv_iload_n hx hb dX1_beside_36 rfl (lv_at hl 0 rfl) ?_
        obtain rfl := Option.some.inj hf
        exact kc_iret () hx hb hr hk hP hD hS rfl dX1_beside_37
      · replace hf := it_f c6 hf
        refine lv_iconst (v := (0 : Int32)) hx hb dX1_beside_32 (by decide) ?_
        refine lv_goto (tgt := 37) hx hb dX1_beside_33 (by decide) ?_
        obtain rfl := Option.some.inj hf
        exact kc_iret () hx hb hr hk hP hD hS rfl dX1_beside_37
    · replace hf := it_f c5 hf
      refine lv_aload_n hx hb dX1_beside_17 rfl (lv_at hl 1 rfl) ?_
      refine va_get (D := D) (ci := 1) (v := .int gw) (C := RX1) (T := TX1) (N := 9) hx hb hts iX1 hown hK hP 0 rfl rfl 0 (by decide) (hts _ wd_64) (fun _ h9 => h9) rfl dX1_beside_18 ?_
      refine lv_iconst (v := (1 : Int32)) hx hb dX1_beside_21 (by decide) ?_
      refine lv_isub hx hb dX1_beside_22 ?_
      obtain rfl := Option.some.inj hf
      exact kc_iret () hx hb hr hk hP hD hS rfl dX1_beside_23
  · replace hf := it_t c4 hf
    refine lv_iload_n hx hb dX1_beside_11 rfl (lv_at hl 0 rfl) ?_
    obtain rfl := Option.some.inj hf
    exact kc_iret () hx hb hr hk hP hD hS rfl dX1_beside_12
abbrev rmX1_rowFrom : Room := { frames := 1, cells := 0, slots := 0, locals := 23 }
set_option maxHeartbeats 4000000 in
set_option maxRecDepth 100000 in
theorem metX1_rowFrom (l : Launch) (D : va_G) (cx : Nat → ClassId) (aG : Nat → Nat) (gw : Int32) (gh : Int32) (gk : Int32) (gq : Int32) (gr : Int32) (gj : Int32) (gR : Nat → Int32) (gT : Nat → Int32) (gC : Nat → Int32) (x1 : Int32) (x2 : Int32) (x3 : Int32) (x4 : Int32) (N : Nat) (sz : Nat) (v : Int32) (hf : fX1_rowFrom N gw gh gk gj x1 x2 x3 x4 = some v) : Met l yX1_rowFrom (.code yX1_rowFrom cX1_rowFrom 10 (some .int) :: kc_TB) rmX1_rowFrom (kc_Pre D cx (wG cx aG gw gh gk gq gr gj gR gT gC) [.ref (aG 0), .int x1, .int x2, .int x3, .int x4] sz) (kc_Pi D (fun _ : Unit => (wG cx aG gw gh gk gq gr gj gR gT gC)) v (va_A (wG cx aG gw gh gk gq gr gj gR gT gC) sz)) 0 0 (va_A (wG cx aG gw gh gk gq gr gj gR gT gC) sz) := by
  refine kc_entry (Qc := fun A => (kc_Pi D (fun _ : Unit => (wG cx aG gw gh gk gq gr gj gR gT gC)) v A)) (by decide) (Nat.le_of_ble_eq_true rfl) ?_
  intro p e s m below meth c A hx hb hr hk hml hown hin hts hN hK hP hD hS hA ls hl
  have hown : s.vm.findClass RX1 = some m.cls := hown
  have hl : lv_has ls 10 [(0, .ref (aG 0)), (1, .int x1), (2, .int x2), (3, .int x3), (4, .int x4)] := hl
  unfold fX1_rowFrom at hf
  have hP : va_P D classes (wG cx aG gw gh gk gq gr gj gR gT gC) s.heap := hP
  obtain ⟨H, hH⟩ : ∃ H, H = s.heap := ⟨_, rfl⟩
  obtain ⟨locs, hL⟩ : ∃ locs : List Loc, locs = [] := ⟨_, rfl⟩
  have hS : va_S A s.heap H locs := by rw [hH, hL]; exact hS
  have hP : va_P D classes (wG cx aG gw gh gk gq gr gj gR gT gC) H := by rw [hH]; exact hP
  suffices hW : W p l e rmX1_rowFrom s m ([.ref (aG 0), .int x1, .int x2, .int x3, .int x4] : List Value).toArray below meth c H locs 0 0 (MQ below (kc_Pi D (fun _ : Unit => (wG cx aG gw gh gk gq gr gj gR gT gC)) v A) ([.ref (aG 0), .int x1, .int x2, .int x3, .int x4] : List Value).toArray s 0 0 A) (F0 m 0 ls []) by rw [hH, hL] at hW; exact hW
  clear hH hL
  refine lv_iconst (v := (0 : Int32)) hx hb dX1_rowFrom_0 (by decide) ?_
  refine lv_istore (lv' := [(5, .int (0 : Int32)), (0, .ref (aG 0)), (1, .int x1), (2, .int x2), (3, .int x3), (4, .int x4)]) hx hb dX1_rowFrom_1 hl (by decide) rfl (fun ls hl => ?_)
  refine lv_iload_n hx hb dX1_rowFrom_3 rfl (lv_at hl 2 rfl) ?_
  refine lv_istore (lv' := [(6, .int x1), (5, .int (0 : Int32)), (0, .ref (aG 0)), (1, .int x1), (2, .int x2), (3, .int x3), (4, .int x4)]) hx hb dX1_rowFrom_4 hl (by decide) rfl (fun ls hl => ?_)
  refine lv_iload_n hx hb dX1_rowFrom_6 rfl (lv_at hl 4 rfl) ?_
  refine lv_istore (lv' := [(7, .int x2), (6, .int x1), (5, .int (0 : Int32)), (0, .ref (aG 0)), (1, .int x1), (2, .int x2), (3, .int x3), (4, .int x4)]) hx hb dX1_rowFrom_7 hl (by decide) rfl (fun ls hl => ?_)
  refine lv_iconst (v := (0 : Int32)) hx hb dX1_rowFrom_9 (by decide) ?_
  refine lv_istore (lv' := [(8, .int (0 : Int32)), (7, .int x2), (6, .int x1), (5, .int (0 : Int32)), (0, .ref (aG 0)), (1, .int x1), (2, .int x2), (3, .int x3), (4, .int x4)]) hx hb dX1_rowFrom_10 hl (by decide) rfl (fun ls hl => ?_)
  have L12 : ∀ (ct : Nat) (x5 : Int32) (x6 : Int32) (x7 : Int32) (x8 : Int32) (v12 : (Int32) ⊕ (Int32)), fX1_rowFrom_L12 N gw gh gk gj x3 x4 ct x5 x6 x7 x8 = some v12 → ∀ (H : Heap) (locs : List Loc) (ls : Array Slot), va_P D classes (wG cx aG gw gh gk gq gr gj gR gT gC) H → va_D A (wG cx aG gw gh gk gq gr gj gR gT gC) → va_S A s.heap H locs → lv_has ls 10 [(0, .ref (aG 0)), (3, .int x3), (4, .int x4), (5, .int x5), (6, .int x6), (7, .int x7), (8, .int x8)] → (∀ (e12 : Int32), v12 = .inr e12 → ∀ (H : Heap) (locs : List Loc) (ls : Array Slot), va_P D classes (wG cx aG gw gh gk gq gr gj gR gT gC) H → va_D A (wG cx aG gw gh gk gq gr gj gR gT gC) → va_S A s.heap H locs → lv_has ls 10 [(5, .int e12)] → W p l e rmX1_rowFrom s m ([.ref (aG 0), .int x1, .int x2, .int x3, .int x4] : List Value).toArray below meth c H locs 0 0 (MQ below (kc_Pi D (fun _ : Unit => (wG cx aG gw gh gk gq gr gj gR gT gC)) v A) ([.ref (aG 0), .int x1, .int x2, .int x3, .int x4] : List Value).toArray s 0 0 A) (F0 m 99 ls [])) → (∀ (r12 : Int32), v12 = .inl r12 → ∀ (pc : Nat) (H : Heap) (locs : List Loc) (ls : Array Slot), va_P D classes (wG cx aG gw gh gk gq gr gj gR gT gC) H → va_D A (wG cx aG gw gh gk gq gr gj gR gT gC) → va_S A s.heap H locs → decode cX1_rowFrom pc = .ok (.ireturn, 1) → W p l e rmX1_rowFrom s m ([.ref (aG 0), .int x1, .int x2, .int x3, .int x4] : List Value).toArray below meth c H locs 0 0 (MQ below (kc_Pi D (fun _ : Unit => (wG cx aG gw gh gk gq gr gj gR gT gC)) v A) ([.ref (aG 0), .int x1, .int x2, .int x3, .int x4] : List Value).toArray s 0 0 A) (F0 m pc ls [.int r12])) → W p l e rmX1_rowFrom s m ([.ref (aG 0), .int x1, .int x2, .int x3, .int x4] : List Value).toArray below meth c H locs 0 0 (MQ below (kc_Pi D (fun _ : Unit => (wG cx aG gw gh gk gq gr gj gR gT gC)) v A) ([.ref (aG 0), .int x1, .int x2, .int x3, .int x4] : List Value).toArray s 0 0 A) (F0 m 12 ls []) := by
    intro ct
    induction ct with
    | zero =>
      intro x5 x6 x7 x8 v12 hf
      exact absurd (show (none : Option ((Int32) ⊕ (Int32))) = some v12 from hf) (fun q => by cases q)
    | succ ct ih =>
      intro x5 x6 x7 x8 v12 hf H locs ls hP hD hS hl hE hR
      rw [fX1_rowFrom_L12] at hf
      refine lv_iload hx hb dX1_rowFrom_12 (lv_at hl 6 rfl) ?_
      refine lv_aload_n hx hb dX1_rowFrom_14 rfl (lv_at hl 0 rfl) ?_
      refine va_get (D := D) (ci := 1) (v := .int gk) (C := RX1) (T := TX1) (N := 9) hx hb hts iX1 hown hK hP 0 rfl rfl 2 (by decide) (hts _ wd_72) (fun _ h9 => h9) rfl dX1_rowFrom_15 ?_
      refine lv_icmp_ge (tgt := 99) hx hb dX1_rowFrom_18 (by decide) (fun c13 => ?_) (fun c13 => ?_)
      · replace hf := it_t c13 hf
        obtain rfl := Option.some.inj hf
        exact hE _ rfl H locs ls hP hD hS (lv_sub hl [3] rfl)
      · replace hf := it_f c13 hf
        refine lv_iload hx hb dX1_rowFrom_21 (lv_at hl 4 rfl) ?_
        refine lv_if_lt (tgt := 44) hx hb dX1_rowFrom_23 (by decide) (fun c14 => ?_) (fun c14 => ?_)
        · replace hf := it_t c14 hf
          refine lv_iconst (v := (0 : Int32)) hx hb dX1_rowFrom_44 (by decide) ?_
          obtain rfl := Option.some.inj hf
          exact hR _ rfl _ H locs ls hP hD hS dX1_rowFrom_45
        · replace hf := it_f c14 hf
          refine lv_iload hx hb dX1_rowFrom_26 (lv_at hl 4 rfl) ?_
          refine lv_aload_n hx hb dX1_rowFrom_28 rfl (lv_at hl 0 rfl) ?_
          refine va_get (D := D) (ci := 1) (v := .int gw) (C := RX1) (T := TX1) (N := 9) hx hb hts iX1 hown hK hP 0 rfl rfl 0 (by decide) (hts _ wd_64) (fun _ h9 => h9) rfl dX1_rowFrom_29 ?_
          refine lv_icmp_ge (tgt := 44) hx hb dX1_rowFrom_32 (by decide) (fun c15 => ?_) (fun c15 => ?_)
          · replace hf := it_t c15 hf
            refine lv_iconst (v := (0 : Int32)) hx hb dX1_rowFrom_44 (by decide) ?_
            obtain rfl := Option.some.inj hf
            exact hR _ rfl _ H locs ls hP hD hS dX1_rowFrom_45
          · replace hf := it_f c15 hf
            refine lv_iload hx hb dX1_rowFrom_35 (lv_at hl 5 rfl) ?_
            refine lv_aload_n hx hb dX1_rowFrom_37 rfl (lv_at hl 0 rfl) ?_
            refine va_get (D := D) (ci := 1) (v := .int gh) (C := RX1) (T := TX1) (N := 9) hx hb hts iX1 hown hK hP 0 rfl rfl 1 (by decide) (hts _ wd_68) (fun _ h9 => h9) rfl dX1_rowFrom_38 ?_
            refine lv_icmp_lt (tgt := 46) hx hb dX1_rowFrom_41 (by decide) (fun c16 => ?_) (fun c16 => ?_)
            · replace hf := it_t c16 hf
              refine lv_iconst (v := (1 : Int32)) hx hb dX1_rowFrom_46 (by decide) ?_
              refine lv_aload_n hx hb dX1_rowFrom_47 rfl (lv_at hl 0 rfl) ?_
              refine va_get (D := D) (ci := 1) (v := .int gw) (C := RX1) (T := TX1) (N := 9) hx hb hts iX1 hown hK hP 0 rfl rfl 0 (by decide) (hts _ wd_64) (fun _ h9 => h9) rfl dX1_rowFrom_48 ?_
              refine lv_iload hx hb dX1_rowFrom_51 (lv_at hl 5 rfl) ?_
              refine lv_imul hx hb dX1_rowFrom_53 ?_
              refine lv_iload hx hb dX1_rowFrom_54 (lv_at hl 4 rfl) ?_
              refine lv_iadd hx hb dX1_rowFrom_56 ?_
              refine lv_ishl hx hb dX1_rowFrom_57 ?_
              refine lv_istore (lv' := [(9, .int ((1 : Int32) <<< (((gw * x7) + x6) &&& 31))), (0, .ref (aG 0)), (3, .int x3), (4, .int x4), (5, .int x5), (6, .int x6), (7, .int x7), (8, .int x8)]) hx hb dX1_rowFrom_58 hl (by decide) rfl (fun ls hl => ?_)
              refine lv_iload hx hb dX1_rowFrom_60 (lv_at hl 4 rfl) ?_
              refine lv_iload hx hb dX1_rowFrom_62 (lv_at hl 0 rfl) ?_
              refine lv_iand hx hb dX1_rowFrom_64 ?_
              refine lv_if_eq (tgt := 70) hx hb dX1_rowFrom_65 (by decide) (fun c17 => ?_) (fun c17 => ?_)
              · replace hf := it_t c17 hf
                refine lv_iload hx hb dX1_rowFrom_70 (lv_at hl 4 rfl) ?_
                refine lv_iload hx hb dX1_rowFrom_72 (lv_at hl 0 rfl) ?_
                refine lv_ior hx hb dX1_rowFrom_74 ?_
                refine lv_istore (lv' := [(5, .int (x5 ||| ((1 : Int32) <<< (((gw * x7) + x6) &&& 31)))), (9, .int ((1 : Int32) <<< (((gw * x7) + x6) &&& 31))), (0, .ref (aG 0)), (3, .int x3), (4, .int x4), (6, .int x6), (7, .int x7), (8, .int x8)]) hx hb dX1_rowFrom_75 hl (by decide) rfl (fun ls hl => ?_)
                refine lv_aload_n hx hb dX1_rowFrom_77 rfl (lv_at hl 2 rfl) ?_
                refine lv_iload hx hb dX1_rowFrom_78 (lv_at hl 5 rfl) ?_
                refine lv_iload_n hx hb dX1_rowFrom_80 rfl (lv_at hl 3 rfl) ?_
                obtain ⟨u18, hg, hf⟩ := ob_s hf
                refine kc_calli (wn := fun _ => (wG cx aG gw gh gk gq gr gj gR gT gC)) (va_runV (As := [.int x6, .int x3]) (rest := []) ⟨hx, hb, hml, hown, hts⟩ (metX1_beside l D cx aG gw gh gk gq gr gj gR gT gC x6 x3 N H.size u18 hg) ⟨callB_of 2 hts (kc_gI wd_119) rfl rfl rfl (hts _ wd_41) (hts _ wd_116) (by decide +kernel) ⟨Nat.le_of_ble_eq_true rfl, Nat.le_of_ble_eq_true rfl⟩, hts _ wd_118, hts _ wd_1⟩ ⟨kc_blind _ _ _ _ _, va_recv hK hP (ci := 1) (q0 := 0) rfl rfl, kc_pre _ hK hN (hP.sub [0, 1, 2, 3] rfl) (hD.sub [0, 1, 2, 3] (by decide) rfl)⟩ rfl rfl hl.1 rfl (lv_room (Nat.le_of_ble_eq_true rfl)) dX1_rowFrom_81 ⟨Nat.zero_le _, Nat.zero_le _⟩) hP hD hS hA [0, 1, 2, 3] [] [0, 1, 2, 3] rfl rfl (by decide) (by decide) (fun _ => rfl) (by decide) (fun _ H locs hP hD hS => ?_)
                have hP : va_P D classes (wG cx aG gw gh gk gq gr gj gR gT gC) H := hP
                have hD : va_D A (wG cx aG gw gh gk gq gr gj gR gT gC) := hD
                refine lv_istore (lv' := [(6, .int u18), (5, .int (x5 ||| ((1 : Int32) <<< (((gw * x7) + x6) &&& 31)))), (9, .int ((1 : Int32) <<< (((gw * x7) + x6) &&& 31))), (0, .ref (aG 0)), (3, .int x3), (4, .int x4), (7, .int x7), (8, .int x8)]) hx hb dX1_rowFrom_84 hl (by decide) rfl (fun ls hl => ?_)
                refine lv_iload hx hb dX1_rowFrom_86 (lv_at hl 6 rfl) ?_
                refine lv_iload hx hb dX1_rowFrom_88 (lv_at hl 5 rfl) ?_
                refine lv_iadd hx hb dX1_rowFrom_90 ?_
                refine lv_istore (lv' := [(7, .int (x7 + x4)), (6, .int u18), (5, .int (x5 ||| ((1 : Int32) <<< (((gw * x7) + x6) &&& 31)))), (9, .int ((1 : Int32) <<< (((gw * x7) + x6) &&& 31))), (0, .ref (aG 0)), (3, .int x3), (4, .int x4), (8, .int x8)]) hx hb dX1_rowFrom_91 hl (by decide) rfl (fun ls hl => ?_)
                refine lv_iinc (v := (x8 + (1 : Int32))) (lv' := [(8, .int (x8 + (1 : Int32))), (7, .int (x7 + x4)), (6, .int u18), (5, .int (x5 ||| ((1 : Int32) <<< (((gw * x7) + x6) &&& 31)))), (9, .int ((1 : Int32) <<< (((gw * x7) + x6) &&& 31))), (0, .ref (aG 0)), (3, .int x3), (4, .int x4)]) hx hb dX1_rowFrom_93 hl (k := 7) rfl rfl (by decide) rfl (fun ls hl => ?_)
                refine lv_goto (tgt := 12) hx hb dX1_rowFrom_96 (by decide) ?_
                exact ih (x5 ||| ((1 : Int32) <<< (((gw * x7) + x6) &&& 31))) u18 (x7 + x4) (x8 + (1 : Int32)) _ hf H locs ls hP hD hS (lv_sub hl [5, 6, 7, 3, 2, 1, 0] rfl) hE hR
              · replace hf := it_f c17 hf
                refine lv_iconst (v := (0 : Int32)) hx hb dX1_rowFrom_68 (by decide) ?_
                obtain rfl := Option.some.inj hf
                exact hR _ rfl _ H locs ls hP hD hS dX1_rowFrom_69
            · replace hf := it_f c16 hf
              refine lv_iconst (v := (0 : Int32)) hx hb dX1_rowFrom_44 (by decide) ?_
              obtain rfl := Option.some.inj hf
              exact hR _ rfl _ H locs ls hP hD hS dX1_rowFrom_45
  obtain ⟨u19, hg, hf⟩ := ob_s hf
  refine L12 _ (0 : Int32) x1 x2 (0 : Int32) u19 hg H locs ls hP hD hS (lv_sub hl [4, 7, 8, 3, 2, 1, 0] rfl) (fun e20 ee H locs ls hP hD hS hl => ?_) (fun r21 ee pc H locs ls hP hD hS hd => ?_)
  · subst ee
    replace hf := onS_r hf
    refine lv_iload hx hb dX1_rowFrom_99 (lv_at hl 0 rfl) ?_
    obtain rfl := Option.some.inj hf
    exact kc_iret () hx hb hr hk hP hD hS rfl dX1_rowFrom_101
  · subst ee
    replace hf := onS_l hf
    obtain rfl := Option.some.inj hf
    exact kc_iret () hx hb hr hk hP hD hS rfl hd
abbrev rmX1_isRow : Room := { frames := 0, cells := 0, slots := 0, locals := 0 }
set_option maxHeartbeats 4000000 in
set_option maxRecDepth 100000 in
theorem metX1_isRow (l : Launch) (D : va_G) (cx : Nat → ClassId) (aG : Nat → Nat) (gw : Int32) (gh : Int32) (gk : Int32) (gq : Int32) (gr : Int32) (gj : Int32) (gR : Nat → Int32) (gT : Nat → Int32) (gC : Nat → Int32) (x1 : Int32) (N : Nat) (sz : Nat) (v : Int32) (hf : fX1_isRow N gr gR x1 = some v) : Met l yX1_isRow (.code yX1_isRow cX1_isRow 3 (some .boolean) :: kc_TB) rmX1_isRow (kc_Pre D cx (wG cx aG gw gh gk gq gr gj gR gT gC) [.ref (aG 0), .int x1] sz) (kc_Pi D (fun _ : Unit => (wG cx aG gw gh gk gq gr gj gR gT gC)) v (va_A (wG cx aG gw gh gk gq gr gj gR gT gC) sz)) 0 0 (va_A (wG cx aG gw gh gk gq gr gj gR gT gC) sz) := by
  refine kc_entry (Qc := fun A => (kc_Pi D (fun _ : Unit => (wG cx aG gw gh gk gq gr gj gR gT gC)) v A)) (by decide) (Nat.le_of_ble_eq_true rfl) ?_
  intro p e s m below meth c A hx hb hr hk hml hown hin hts hN hK hP hD hS hA ls hl
  have hown : s.vm.findClass RX1 = some m.cls := hown
  have hl : lv_has ls 3 [(0, .ref (aG 0)), (1, .int x1)] := hl
  unfold fX1_isRow at hf
  have hP : va_P D classes (wG cx aG gw gh gk gq gr gj gR gT gC) s.heap := hP
  obtain ⟨H, hH⟩ : ∃ H, H = s.heap := ⟨_, rfl⟩
  obtain ⟨locs, hL⟩ : ∃ locs : List Loc, locs = [] := ⟨_, rfl⟩
  have hS : va_S A s.heap H locs := by rw [hH, hL]; exact hS
  have hP : va_P D classes (wG cx aG gw gh gk gq gr gj gR gT gC) H := by rw [hH]; exact hP
  suffices hW : W p l e rmX1_isRow s m ([.ref (aG 0), .int x1] : List Value).toArray below meth c H locs 0 0 (MQ below (kc_Pi D (fun _ : Unit => (wG cx aG gw gh gk gq gr gj gR gT gC)) v A) ([.ref (aG 0), .int x1] : List Value).toArray s 0 0 A) (F0 m 0 ls []) by rw [hH, hL] at hW; exact hW
  clear hH hL
  refine lv_iconst (v := (0 : Int32)) hx hb dX1_isRow_0 (by decide) ?_
  refine lv_istore_n (lv' := [(2, .int (0 : Int32)), (0, .ref (aG 0)), (1, .int x1)]) hx hb dX1_isRow_1 rfl hl (by decide) rfl (fun ls hl => ?_)
  have L2 : ∀ (ct : Nat) (x2 : Int32) (v2 : (Int32) ⊕ (Unit)), fX1_isRow_L2 N gr gR x1 ct x2 = some v2 → ∀ (H : Heap) (locs : List Loc) (ls : Array Slot), va_P D classes (wG cx aG gw gh gk gq gr gj gR gT gC) H → va_D A (wG cx aG gw gh gk gq gr gj gR gT gC) → va_S A s.heap H locs → lv_has ls 3 [(0, .ref (aG 0)), (1, .int x1), (2, .int x2)] → (∀ (e2 : Unit), v2 = .inr e2 → ∀ (H : Heap) (locs : List Loc) (ls : Array Slot), va_P D classes (wG cx aG gw gh gk gq gr gj gR gT gC) H → va_D A (wG cx aG gw gh gk gq gr gj gR gT gC) → va_S A s.heap H locs → lv_has ls 3 [] → W p l e rmX1_isRow s m ([.ref (aG 0), .int x1] : List Value).toArray below meth c H locs 0 0 (MQ below (kc_Pi D (fun _ : Unit => (wG cx aG gw gh gk gq gr gj gR gT gC)) v A) ([.ref (aG 0), .int x1] : List Value).toArray s 0 0 A) (F0 m 28 ls [])) → (∀ (r2 : Int32), v2 = .inl r2 → ∀ (pc : Nat) (H : Heap) (locs : List Loc) (ls : Array Slot), narrow .boolean (.int r2) = .int r2 → va_P D classes (wG cx aG gw gh gk gq gr gj gR gT gC) H → va_D A (wG cx aG gw gh gk gq gr gj gR gT gC) → va_S A s.heap H locs → decode cX1_isRow pc = .ok (.ireturn, 1) → W p l e rmX1_isRow s m ([.ref (aG 0), .int x1] : List Value).toArray below meth c H locs 0 0 (MQ below (kc_Pi D (fun _ : Unit => (wG cx aG gw gh gk gq gr gj gR gT gC)) v A) ([.ref (aG 0), .int x1] : List Value).toArray s 0 0 A) (F0 m pc ls [.int r2])) → W p l e rmX1_isRow s m ([.ref (aG 0), .int x1] : List Value).toArray below meth c H locs 0 0 (MQ below (kc_Pi D (fun _ : Unit => (wG cx aG gw gh gk gq gr gj gR gT gC)) v A) ([.ref (aG 0), .int x1] : List Value).toArray s 0 0 A) (F0 m 2 ls []) := by
    intro ct
    induction ct with
    | zero =>
      intro x2 v2 hf
      exact absurd (show (none : Option ((Int32) ⊕ (Unit))) = some v2 from hf) (fun q => by cases q)
    | succ ct ih =>
      intro x2 v2 hf H locs ls hP hD hS hl hE hR
      rw [fX1_isRow_L2] at hf
      refine lv_iload_n hx hb dX1_isRow_2 rfl (lv_at hl 2 rfl) ?_
      refine lv_aload_n hx hb dX1_isRow_3 rfl (lv_at hl 0 rfl) ?_
      refine va_get (D := D) (ci := 1) (v := .int gr) (C := RX1) (T := TX1) (N := 9) hx hb hts iX1 hown hK hP 0 rfl rfl 4 (by decide) (hts _ wd_78) (fun _ h9 => h9) rfl dX1_isRow_4 ?_
      refine lv_icmp_ge (tgt := 28) hx hb dX1_isRow_7 (by decide) (fun c5 => ?_) (fun c5 => ?_)
      · replace hf := it_t c5 hf
        obtain rfl := Option.some.inj hf
        exact hE _ rfl H locs ls hP hD hS (lv_sub hl [] rfl)
      · replace hf := it_f c5 hf
        refine lv_aload_n hx hb dX1_isRow_10 rfl (lv_at hl 0 rfl) ?_
        refine va_get (D := D) (ci := 1) (v := .ref (aG 1)) (C := RX1) (T := TX1) (N := 9) hx hb hts iX1 hown hK hP 0 rfl rfl 6 (by decide) (hts _ wd_82) (fun _ h9 => h9) rfl dX1_isRow_11 ?_
        refine lv_iload_n hx hb dX1_isRow_14 rfl (lv_at hl 2 rfl) ?_
        obtain ⟨hz, hf⟩ := okb_s hf
        refine va_iald (D := D) hx hb hK hP 1 0 rfl rfl (inb_s hz) dX1_isRow_15 ?_
        refine lv_iload_n hx hb dX1_isRow_16 rfl (lv_at hl 1 rfl) ?_
        refine lv_icmp_ne (tgt := 22) hx hb dX1_isRow_17 (by decide) (fun c6 => ?_) (fun c6 => ?_)
        · replace hf := it_f c6 hf
          refine lv_iinc (v := (x2 + (1 : Int32))) (lv' := [(2, .int (x2 + (1 : Int32))), (0, .ref (aG 0)), (1, .int x1)]) hx hb dX1_isRow_22 hl (k := 2) rfl rfl (by decide) rfl (fun ls hl => ?_)
          refine lv_goto (tgt := 2) hx hb dX1_isRow_25 (by decide) ?_
          exact ih (x2 + (1 : Int32)) _ hf H locs ls hP hD hS (lv_sub hl [1, 2, 0] rfl) hE hR
        · replace hf := it_t c6 hf
          refine lv_iconst (v := (1 : Int32)) hx hb dX1_isRow_20 (by decide) ?_
          obtain rfl := Option.some.inj hf
          exact hR _ rfl _ H locs ls rfl hP hD hS dX1_isRow_21
  obtain ⟨u7, hg, hf⟩ := ob_s hf
  refine L2 _ (0 : Int32) u7 hg H locs ls hP hD hS (lv_sub hl [1, 2, 0] rfl) (fun e8 ee H locs ls hP hD hS hl => ?_) (fun r9 ee pc H locs ls hz hP hD hS hd => ?_)
  · subst ee
    replace hf := onS_r hf
    refine lv_iconst (v := (0 : Int32)) hx hb dX1_isRow_28 (by decide) ?_
    obtain rfl := Option.some.inj hf
    exact kc_zret () hx hb hr hk hP hD hS rfl rfl dX1_isRow_29
  · subst ee
    replace hf := onS_l hf
    obtain rfl := Option.some.inj hf
    exact kc_zret () hx hb hr hk hP hD hS rfl hz hd
abbrev rmX1_addRow : Room := { frames := 1, cells := 0, slots := 0, locals := 22 }
set_option maxHeartbeats 4000000 in
set_option maxRecDepth 100000 in
theorem metX1_addRow (l : Launch) (D : va_G) (cx : Nat → ClassId) (aG : Nat → Nat) (gw : Int32) (gh : Int32) (gk : Int32) (gq : Int32) (gr : Int32) (gj : Int32) (gR : Nat → Int32) (gT : Nat → Int32) (gC : Nat → Int32) (x1 : Int32) (N : Nat) (sz : Nat) (v : Int32 × (Nat → Int32) × (Nat → Int32) × (Nat → Int32)) (hf : fX1_addRow N gq gr gR gT gC x1 = some v) : Met l yX1_addRow (.code yX1_addRow cX1_addRow 3 none :: kc_TB) rmX1_addRow (kc_Pre D cx (wG cx aG gw gh gk gq gr gj gR gT gC) [.ref (aG 0), .int x1] sz) (kc_Pv D (fun _ : Unit => (wG cx aG gw gh gk gq v.1 gj v.2.1 v.2.2.1 v.2.2.2)) (va_A (wG cx aG gw gh gk gq gr gj gR gT gC) sz)) 0 0 (va_A (wG cx aG gw gh gk gq gr gj gR gT gC) sz) := by
  refine kc_entry (Qc := fun A => (kc_Pv D (fun _ : Unit => (wG cx aG gw gh gk gq v.1 gj v.2.1 v.2.2.1 v.2.2.2)) A)) (by decide) (Nat.le_of_ble_eq_true rfl) ?_
  intro p e s m below meth c A hx hb hr hk hml hown hin hts hN hK hP hD hS hA ls hl
  have hown : s.vm.findClass RX1 = some m.cls := hown
  have hl : lv_has ls 3 [(0, .ref (aG 0)), (1, .int x1)] := hl
  unfold fX1_addRow at hf
  have hP : va_P D classes (wG cx aG gw gh gk gq gr gj gR gT gC) s.heap := hP
  obtain ⟨H, hH⟩ : ∃ H, H = s.heap := ⟨_, rfl⟩
  obtain ⟨locs, hL⟩ : ∃ locs : List Loc, locs = [] := ⟨_, rfl⟩
  have hS : va_S A s.heap H locs := by rw [hH, hL]; exact hS
  have hP : va_P D classes (wG cx aG gw gh gk gq gr gj gR gT gC) H := by rw [hH]; exact hP
  suffices hW : W p l e rmX1_addRow s m ([.ref (aG 0), .int x1] : List Value).toArray below meth c H locs 0 0 (MQ below (kc_Pv D (fun _ : Unit => (wG cx aG gw gh gk gq v.1 gj v.2.1 v.2.2.1 v.2.2.2)) A) ([.ref (aG 0), .int x1] : List Value).toArray s 0 0 A) (F0 m 0 ls []) by rw [hH, hL] at hW; exact hW
  clear hH hL
  refine lv_iload_n hx hb dX1_addRow_0 rfl (lv_at hl 1 rfl) ?_
  refine lv_if_eq (tgt := 24) hx hb dX1_addRow_1 (by decide) (fun c8 => ?_) (fun c8 => ?_)
  · replace hf := it_t c8 hf
    obtain rfl := Option.some.inj hf
    exact kc_vret () hx hb hr hk hP hD hS dX1_addRow_24
  · replace hf := it_f c8 hf
    refine lv_aload_n hx hb dX1_addRow_4 rfl (lv_at hl 0 rfl) ?_
    refine lv_iload_n hx hb dX1_addRow_5 rfl (lv_at hl 1 rfl) ?_
    obtain ⟨u9, hg, hf⟩ := ob_s hf
    refine kc_calli (wn := fun _ => (wG cx aG gw gh gk gq gr gj gR gT gC)) (va_runV (As := [.int x1]) (rest := []) ⟨hx, hb, hml, hown, hts⟩ (metX1_isRow l D cx aG gw gh gk gq gr gj gR gT gC x1 N H.size u9 hg) ⟨callB_of 1 hts (kc_gI wd_127) rfl rfl rfl (hts _ wd_41) (hts _ wd_124) (by decide +kernel) ⟨Nat.le_of_ble_eq_true rfl, Nat.le_of_ble_eq_true rfl⟩, hts _ wd_126, hts _ wd_3⟩ ⟨kc_blind _ _ _ _ _, va_recv hK hP (ci := 1) (q0 := 0) rfl rfl, kc_pre _ hK hN (hP.sub [0, 1, 2, 3] rfl) (hD.sub [0, 1, 2, 3] (by decide) rfl)⟩ rfl rfl hl.1 rfl (lv_room (Nat.le_of_ble_eq_true rfl)) dX1_addRow_6 ⟨Nat.zero_le _, Nat.zero_le _⟩) hP hD hS hA [0, 1, 2, 3] [] [0, 1, 2, 3] rfl rfl (by decide) (by decide) (fun _ => rfl) (by decide) (fun _ H locs hP hD hS => ?_)
    have hP : va_P D classes (wG cx aG gw gh gk gq gr gj gR gT gC) H := hP
    have hD : va_D A (wG cx aG gw gh gk gq gr gj gR gT gC) := hD
    refine lv_if_ne (tgt := 24) hx hb dX1_addRow_9 (by decide) (fun c10 => ?_) (fun c10 => ?_)
    · replace hf := it_f c10 hf
      obtain rfl := Option.some.inj hf
      exact kc_vret () hx hb hr hk hP hD hS dX1_addRow_24
    · replace hf := it_t c10 hf
      refine lv_aload_n hx hb dX1_addRow_12 rfl (lv_at hl 0 rfl) ?_
      refine va_get (D := D) (ci := 1) (v := .int gr) (C := RX1) (T := TX1) (N := 9) hx hb hts iX1 hown hK hP 0 rfl rfl 4 (by decide) (hts _ wd_78) (fun _ h9 => h9) rfl dX1_addRow_13 ?_
      refine lv_aload_n hx hb dX1_addRow_16 rfl (lv_at hl 0 rfl) ?_
      refine va_get (D := D) (ci := 1) (v := .ref (aG 1)) (C := RX1) (T := TX1) (N := 9) hx hb hts iX1 hown hK hP 0 rfl rfl 6 (by decide) (hts _ wd_82) (fun _ h9 => h9) rfl dX1_addRow_17 ?_
      refine va_alen (D := D) hx hb hK hP 1 0 rfl rfl rfl dX1_addRow_20 ?_
      refine lv_icmp_lt (tgt := 25) hx hb dX1_addRow_21 (by decide) (fun c11 => ?_) (fun c11 => ?_)
      · replace hf := it_t c11 hf
        refine lv_aload_n hx hb dX1_addRow_25 rfl (lv_at hl 0 rfl) ?_
        refine va_get (D := D) (ci := 1) (v := .ref (aG 1)) (C := RX1) (T := TX1) (N := 9) hx hb hts iX1 hown hK hP 0 rfl rfl 6 (by decide) (hts _ wd_82) (fun _ h9 => h9) rfl dX1_addRow_26 ?_
        refine lv_aload_n hx hb dX1_addRow_29 rfl (lv_at hl 0 rfl) ?_
        refine va_get (D := D) (ci := 1) (v := .int gr) (C := RX1) (T := TX1) (N := 9) hx hb hts iX1 hown hK hP 0 rfl rfl 4 (by decide) (hts _ wd_78) (fun _ h9 => h9) rfl dX1_addRow_30 ?_
        refine lv_iload_n hx hb dX1_addRow_33 rfl (lv_at hl 1 rfl) ?_
        obtain ⟨hz, hf⟩ := okb_s hf
        refine va_iast (D := D) hx hb hK hP hD hS 1 0 rfl rfl (inb_s hz) dX1_addRow_34 (fun H locs hP hD hS => ?_)
        have hP : va_P D classes (wG cx aG gw gh gk gq gr gj (upd gR gr.toNatClampNeg x1) gT gC) H := hP
        have hD : va_D A (wG cx aG gw gh gk gq gr gj (upd gR gr.toNatClampNeg x1) gT gC) := hD
        refine lv_aload_n hx hb dX1_addRow_35 rfl (lv_at hl 0 rfl) ?_
        refine lv_dup hx hb dX1_addRow_36 rfl ?_
        refine va_get (D := D) (ci := 1) (v := .int gr) (C := RX1) (T := TX1) (N := 9) hx hb hts iX1 hown hK hP 0 rfl rfl 4 (by decide) (hts _ wd_78) (fun _ h9 => h9) rfl dX1_addRow_37 ?_
        refine lv_iconst (v := (1 : Int32)) hx hb dX1_addRow_40 (by decide) ?_
        refine lv_iadd hx hb dX1_addRow_41 ?_
        refine va_put (D := D) (ci := 1) (v := .int (gr + (1 : Int32))) (ty := .int) (C := RX1) (T := TX1) (N := 9) hx hb hts iX1 tyX1 tyX1_ok nmX1 hown hK hP hD hS 0 rfl rfl 4 (by decide) (hts _ wd_78) (fun _ h9 => h9) rfl (by decide +kernel) rfl rfl (Nat.le_of_ble_eq_true rfl) dX1_addRow_42 (fun H locs hP hD hS => ?_)
        have hP : va_P D classes (wG cx aG gw gh gk gq (gr + (1 : Int32)) gj (upd gR gr.toNatClampNeg x1) gT gC) H := hP
        have hD : va_D A (wG cx aG gw gh gk gq (gr + (1 : Int32)) gj (upd gR gr.toNatClampNeg x1) gT gC) := hD
        refine lv_iconst (v := (0 : Int32)) hx hb dX1_addRow_45 (by decide) ?_
        refine lv_istore_n (lv' := [(2, .int (0 : Int32)), (0, .ref (aG 0)), (1, .int x1)]) hx hb dX1_addRow_46 rfl hl (by decide) rfl (fun ls hl => ?_)
        have L47 : ∀ (ct : Nat) (gT : Nat → Int32) (gC : Nat → Int32) (x2 : Int32) (v47 : (Nat → Int32) × (Nat → Int32)), fX1_addRow_L47 N gq x1 ct gT gC x2 = some v47 → ∀ (H : Heap) (locs : List Loc) (ls : Array Slot), va_P D classes (wG cx aG gw gh gk gq (gr + (1 : Int32)) gj (upd gR gr.toNatClampNeg x1) gT gC) H → va_D A (wG cx aG gw gh gk gq (gr + (1 : Int32)) gj (upd gR gr.toNatClampNeg x1) gT gC) → va_S A s.heap H locs → lv_has ls 3 [(0, .ref (aG 0)), (1, .int x1), (2, .int x2)] → (∀ (H : Heap) (locs : List Loc) (ls : Array Slot), va_P D classes (wG cx aG gw gh gk gq (gr + (1 : Int32)) gj (upd gR gr.toNatClampNeg x1) v47.1 v47.2) H → va_D A (wG cx aG gw gh gk gq (gr + (1 : Int32)) gj (upd gR gr.toNatClampNeg x1) v47.1 v47.2) → va_S A s.heap H locs → lv_has ls 3 [] → W p l e rmX1_addRow s m ([.ref (aG 0), .int x1] : List Value).toArray below meth c H locs 0 0 (MQ below (kc_Pv D (fun _ : Unit => (wG cx aG gw gh gk gq v.1 gj v.2.1 v.2.2.1 v.2.2.2)) A) ([.ref (aG 0), .int x1] : List Value).toArray s 0 0 A) (F0 m 107 ls [])) → W p l e rmX1_addRow s m ([.ref (aG 0), .int x1] : List Value).toArray below meth c H locs 0 0 (MQ below (kc_Pv D (fun _ : Unit => (wG cx aG gw gh gk gq v.1 gj v.2.1 v.2.2.1 v.2.2.2)) A) ([.ref (aG 0), .int x1] : List Value).toArray s 0 0 A) (F0 m 47 ls []) := by
          intro ct
          induction ct with
          | zero =>
            intro gT gC x2 v47 hf
            exact absurd (show (none : Option ((Nat → Int32) × (Nat → Int32))) = some v47 from hf) (fun q => by cases q)
          | succ ct ih =>
            intro gT gC x2 v47 hf H locs ls hP hD hS hl hE
            rw [fX1_addRow_L47] at hf
            refine lv_iload_n hx hb dX1_addRow_47 rfl (lv_at hl 2 rfl) ?_
            refine lv_aload_n hx hb dX1_addRow_48 rfl (lv_at hl 0 rfl) ?_
            refine va_get (D := D) (ci := 1) (v := .int gq) (C := RX1) (T := TX1) (N := 9) hx hb hts iX1 hown hK hP 0 rfl rfl 3 (by decide) (hts _ wd_74) (fun _ h9 => h9) rfl dX1_addRow_49 ?_
            refine lv_icmp_ge (tgt := 107) hx hb dX1_addRow_52 (by decide) (fun c15 => ?_) (fun c15 => ?_)
            · replace hf := it_t c15 hf
              obtain rfl := Option.some.inj hf
              exact hE H locs ls hP hD hS (lv_sub hl [] rfl)
            · replace hf := it_f c15 hf
              refine lv_iload_n hx hb dX1_addRow_55 rfl (lv_at hl 1 rfl) ?_
              refine lv_iload_n hx hb dX1_addRow_56 rfl (lv_at hl 2 rfl) ?_
              refine lv_ishr hx hb dX1_addRow_57 ?_
              refine lv_iconst (v := (1 : Int32)) hx hb dX1_addRow_58 (by decide) ?_
              refine lv_iand hx hb dX1_addRow_59 ?_
              refine lv_if_eq (tgt := 101) hx hb dX1_addRow_60 (by decide) (fun c16 => ?_) (fun c16 => ?_)
              · replace hf := it_t c16 hf
                refine lv_iinc (v := (x2 + (1 : Int32))) (lv' := [(2, .int (x2 + (1 : Int32))), (0, .ref (aG 0)), (1, .int x1)]) hx hb dX1_addRow_101 hl (k := 2) rfl rfl (by decide) rfl (fun ls hl => ?_)
                refine lv_goto (tgt := 47) hx hb dX1_addRow_104 (by decide) ?_
                exact ih gT gC (x2 + (1 : Int32)) _ hf H locs ls hP hD hS (lv_sub hl [1, 2, 0] rfl) hE
              · replace hf := it_f c16 hf
                refine lv_aload_n hx hb dX1_addRow_63 rfl (lv_at hl 0 rfl) ?_
                refine va_get (D := D) (ci := 1) (v := .ref (aG 3)) (C := RX1) (T := TX1) (N := 9) hx hb hts iX1 hown hK hP 0 rfl rfl 8 (by decide) (hts _ wd_84) (fun _ h9 => h9) rfl dX1_addRow_64 ?_
                refine lv_iload_n hx hb dX1_addRow_67 rfl (lv_at hl 2 rfl) ?_
                obtain ⟨hz, hf⟩ := okb_s hf
                refine va_iald (D := D) hx hb hK hP 3 0 rfl rfl (inb_s hz) dX1_addRow_68 ?_
                refine lv_bipush (v := (16 : Int32)) hx hb dX1_addRow_69 (by decide) ?_
                refine lv_icmp_ge (tgt := 101) hx hb dX1_addRow_71 (by decide) (fun c17 => ?_) (fun c17 => ?_)
                · replace hf := it_t c17 hf
                  refine lv_iinc (v := (x2 + (1 : Int32))) (lv' := [(2, .int (x2 + (1 : Int32))), (0, .ref (aG 0)), (1, .int x1)]) hx hb dX1_addRow_101 hl (k := 2) rfl rfl (by decide) rfl (fun ls hl => ?_)
                  refine lv_goto (tgt := 47) hx hb dX1_addRow_104 (by decide) ?_
                  exact ih gT gC (x2 + (1 : Int32)) _ hf H locs ls hP hD hS (lv_sub hl [1, 2, 0] rfl) hE
                · replace hf := it_f c17 hf
                  refine lv_aload_n hx hb dX1_addRow_74 rfl (lv_at hl 0 rfl) ?_
                  refine va_get (D := D) (ci := 1) (v := .ref (aG 2)) (C := RX1) (T := TX1) (N := 9) hx hb hts iX1 hown hK hP 0 rfl rfl 7 (by decide) (hts _ wd_83) (fun _ h9 => h9) rfl dX1_addRow_75 ?_
                  refine lv_iload_n hx hb dX1_addRow_78 rfl (lv_at hl 2 rfl) ?_
                  refine lv_bipush (v := (16 : Int32)) hx hb dX1_addRow_79 (by decide) ?_
                  refine lv_imul hx hb dX1_addRow_81 ?_
                  refine lv_aload_n hx hb dX1_addRow_82 rfl (lv_at hl 0 rfl) ?_
                  refine va_get (D := D) (ci := 1) (v := .ref (aG 3)) (C := RX1) (T := TX1) (N := 9) hx hb hts iX1 hown hK hP 0 rfl rfl 8 (by decide) (hts _ wd_84) (fun _ h9 => h9) rfl dX1_addRow_83 ?_
                  refine lv_iload_n hx hb dX1_addRow_86 rfl (lv_at hl 2 rfl) ?_
                  obtain ⟨hz, hf⟩ := okb_s hf
                  refine va_iald (D := D) hx hb hK hP 3 0 rfl rfl (inb_s hz) dX1_addRow_87 ?_
                  refine lv_iadd hx hb dX1_addRow_88 ?_
                  refine lv_iload_n hx hb dX1_addRow_89 rfl (lv_at hl 1 rfl) ?_
                  obtain ⟨hz, hf⟩ := okb_s hf
                  refine va_iast (D := D) hx hb hK hP hD hS 2 0 rfl rfl (inb_s hz) dX1_addRow_90 (fun H locs hP hD hS => ?_)
                  have hP : va_P D classes (wG cx aG gw gh gk gq (gr + (1 : Int32)) gj (upd gR gr.toNatClampNeg x1) (upd gT ((x2 * (16 : Int32)) + (gC x2.toNatClampNeg)).toNatClampNeg x1) gC) H := hP
                  have hD : va_D A (wG cx aG gw gh gk gq (gr + (1 : Int32)) gj (upd gR gr.toNatClampNeg x1) (upd gT ((x2 * (16 : Int32)) + (gC x2.toNatClampNeg)).toNatClampNeg x1) gC) := hD
                  refine lv_aload_n hx hb dX1_addRow_91 rfl (lv_at hl 0 rfl) ?_
                  refine va_get (D := D) (ci := 1) (v := .ref (aG 3)) (C := RX1) (T := TX1) (N := 9) hx hb hts iX1 hown hK hP 0 rfl rfl 8 (by decide) (hts _ wd_84) (fun _ h9 => h9) rfl dX1_addRow_92 ?_
                  refine lv_iload_n hx hb dX1_addRow_95 rfl (lv_at hl 2 rfl) ?_
                  refine lv_dup2_11 hx hb dX1_addRow_96 rfl rfl ?_
                  obtain ⟨hz, hf⟩ := okb_s hf
                  refine va_iald (D := D) hx hb hK hP 3 0 rfl rfl (inb_s hz) dX1_addRow_97 ?_
                  refine lv_iconst (v := (1 : Int32)) hx hb dX1_addRow_98 (by decide) ?_
                  refine lv_iadd hx hb dX1_addRow_99 ?_
                  obtain ⟨hz, hf⟩ := okb_s hf
                  refine va_iast (D := D) hx hb hK hP hD hS 3 0 rfl rfl (inb_s hz) dX1_addRow_100 (fun H locs hP hD hS => ?_)
                  have hP : va_P D classes (wG cx aG gw gh gk gq (gr + (1 : Int32)) gj (upd gR gr.toNatClampNeg x1) (upd gT ((x2 * (16 : Int32)) + (gC x2.toNatClampNeg)).toNatClampNeg x1) (upd gC x2.toNatClampNeg ((gC x2.toNatClampNeg) + (1 : Int32)))) H := hP
                  have hD : va_D A (wG cx aG gw gh gk gq (gr + (1 : Int32)) gj (upd gR gr.toNatClampNeg x1) (upd gT ((x2 * (16 : Int32)) + (gC x2.toNatClampNeg)).toNatClampNeg x1) (upd gC x2.toNatClampNeg ((gC x2.toNatClampNeg) + (1 : Int32)))) := hD
                  refine lv_iinc (v := (x2 + (1 : Int32))) (lv' := [(2, .int (x2 + (1 : Int32))), (0, .ref (aG 0)), (1, .int x1)]) hx hb dX1_addRow_101 hl (k := 2) rfl rfl (by decide) rfl (fun ls hl => ?_)
                  refine lv_goto (tgt := 47) hx hb dX1_addRow_104 (by decide) ?_
                  exact ih (upd gT ((x2 * (16 : Int32)) + (gC x2.toNatClampNeg)).toNatClampNeg x1) (upd gC x2.toNatClampNeg ((gC x2.toNatClampNeg) + (1 : Int32))) (x2 + (1 : Int32)) _ hf H locs ls hP hD hS (lv_sub hl [1, 2, 0] rfl) hE
        obtain ⟨u18, hg, hf⟩ := ob_s hf
        refine L47 _ gT gC (0 : Int32) u18 hg H locs ls hP hD hS (lv_sub hl [1, 2, 0] rfl) (fun H locs ls hP hD hS hl => ?_)
        obtain rfl := Option.some.inj hf
        exact kc_vret () hx hb hr hk hP hD hS dX1_addRow_107
      · replace hf := it_f c11 hf
        obtain rfl := Option.some.inj hf
        exact kc_vret () hx hb hr hk hP hD hS dX1_addRow_24
abbrev rmX1_tell : Room := { frames := 2, cells := 0, slots := 0, locals := 52 }
set_option maxHeartbeats 4000000 in
set_option maxRecDepth 100000 in
theorem metX1_tell (l : Launch) (D : va_G) (cx : Nat → ClassId) (aG : Nat → Nat) (gw : Int32) (gh : Int32) (gk : Int32) (gq : Int32) (gr : Int32) (gj : Int32) (gR : Nat → Int32) (gT : Nat → Int32) (gC : Nat → Int32) (x1 : Int32) (x2 : Int32) (x3 : Int32) (x4 : Int32) (N : Nat) (sz : Nat) (v : Int32 × Int32 × Int32 × Int32 × Int32 × Int32 × (Nat → Int32) × (Nat → Int32) × (Nat → Int32)) (hf : fX1_tell N gR gT gC x1 x2 x3 x4 = some v) : Met l yX1_tell (.code yX1_tell cX1_tell 7 none :: kc_TB) rmX1_tell (kc_Pre D cx (wG cx aG gw gh gk gq gr gj gR gT gC) [.ref (aG 0), .int x1, .int x2, .int x3, .int x4] sz) (kc_Pv D (fun _ : Unit => (wG cx aG v.1 v.2.1 v.2.2.1 v.2.2.2.1 v.2.2.2.2.1 v.2.2.2.2.2.1 v.2.2.2.2.2.2.1 v.2.2.2.2.2.2.2.1 v.2.2.2.2.2.2.2.2)) (va_A (wG cx aG gw gh gk gq gr gj gR gT gC) sz)) 0 0 (va_A (wG cx aG gw gh gk gq gr gj gR gT gC) sz) := by
  refine kc_entry (Qc := fun A => (kc_Pv D (fun _ : Unit => (wG cx aG v.1 v.2.1 v.2.2.1 v.2.2.2.1 v.2.2.2.2.1 v.2.2.2.2.2.1 v.2.2.2.2.2.2.1 v.2.2.2.2.2.2.2.1 v.2.2.2.2.2.2.2.2)) A)) (by decide) (Nat.le_of_ble_eq_true rfl) ?_
  intro p e s m below meth c A hx hb hr hk hml hown hin hts hN hK hP hD hS hA ls hl
  have hown : s.vm.findClass RX1 = some m.cls := hown
  have hl : lv_has ls 7 [(0, .ref (aG 0)), (1, .int x1), (2, .int x2), (3, .int x3), (4, .int x4)] := hl
  unfold fX1_tell at hf
  have hP : va_P D classes (wG cx aG gw gh gk gq gr gj gR gT gC) s.heap := hP
  obtain ⟨H, hH⟩ : ∃ H, H = s.heap := ⟨_, rfl⟩
  obtain ⟨locs, hL⟩ : ∃ locs : List Loc, locs = [] := ⟨_, rfl⟩
  have hS : va_S A s.heap H locs := by rw [hH, hL]; exact hS
  have hP : va_P D classes (wG cx aG gw gh gk gq gr gj gR gT gC) H := by rw [hH]; exact hP
  suffices hW : W p l e rmX1_tell s m ([.ref (aG 0), .int x1, .int x2, .int x3, .int x4] : List Value).toArray below meth c H locs 0 0 (MQ below (kc_Pv D (fun _ : Unit => (wG cx aG v.1 v.2.1 v.2.2.1 v.2.2.2.1 v.2.2.2.2.1 v.2.2.2.2.2.1 v.2.2.2.2.2.2.1 v.2.2.2.2.2.2.2.1 v.2.2.2.2.2.2.2.2)) A) ([.ref (aG 0), .int x1, .int x2, .int x3, .int x4] : List Value).toArray s 0 0 A) (F0 m 0 ls []) by rw [hH, hL] at hW; exact hW
  clear hH hL
  refine lv_aload_n hx hb dX1_tell_0 rfl (lv_at hl 0 rfl) ?_
  refine lv_iload_n hx hb dX1_tell_1 rfl (lv_at hl 1 rfl) ?_
  refine va_put (D := D) (ci := 1) (v := .int x1) (ty := .int) (C := RX1) (T := TX1) (N := 9) hx hb hts iX1 tyX1 tyX1_ok nmX1 hown hK hP hD hS 0 rfl rfl 0 (by decide) (hts _ wd_64) (fun _ h9 => h9) rfl (by decide +kernel) rfl rfl (Nat.le_of_ble_eq_true rfl) dX1_tell_2 (fun H locs hP hD hS => ?_)
  have hP : va_P D classes (wG cx aG x1 gh gk gq gr gj gR gT gC) H := hP
  have hD : va_D A (wG cx aG x1 gh gk gq gr gj gR gT gC) := hD
  refine lv_aload_n hx hb dX1_tell_5 rfl (lv_at hl 0 rfl) ?_
  refine lv_iload_n hx hb dX1_tell_6 rfl (lv_at hl 2 rfl) ?_
  refine va_put (D := D) (ci := 1) (v := .int x2) (ty := .int) (C := RX1) (T := TX1) (N := 9) hx hb hts iX1 tyX1 tyX1_ok nmX1 hown hK hP hD hS 0 rfl rfl 1 (by decide) (hts _ wd_68) (fun _ h9 => h9) rfl (by decide +kernel) rfl rfl (Nat.le_of_ble_eq_true rfl) dX1_tell_7 (fun H locs hP hD hS => ?_)
  have hP : va_P D classes (wG cx aG x1 x2 gk gq gr gj gR gT gC) H := hP
  have hD : va_D A (wG cx aG x1 x2 gk gq gr gj gR gT gC) := hD
  refine lv_aload_n hx hb dX1_tell_10 rfl (lv_at hl 0 rfl) ?_
  refine lv_iload_n hx hb dX1_tell_11 rfl (lv_at hl 3 rfl) ?_
  refine va_put (D := D) (ci := 1) (v := .int x3) (ty := .int) (C := RX1) (T := TX1) (N := 9) hx hb hts iX1 tyX1 tyX1_ok nmX1 hown hK hP hD hS 0 rfl rfl 2 (by decide) (hts _ wd_72) (fun _ h9 => h9) rfl (by decide +kernel) rfl rfl (Nat.le_of_ble_eq_true rfl) dX1_tell_12 (fun H locs hP hD hS => ?_)
  have hP : va_P D classes (wG cx aG x1 x2 x3 gq gr gj gR gT gC) H := hP
  have hD : va_D A (wG cx aG x1 x2 x3 gq gr gj gR gT gC) := hD
  refine lv_aload_n hx hb dX1_tell_15 rfl (lv_at hl 0 rfl) ?_
  refine lv_iload hx hb dX1_tell_16 (lv_at hl 4 rfl) ?_
  obtain ⟨hz, hf⟩ := okb_s hf
  refine va_put (D := D) (ci := 1) (v := .int x4) (ty := .boolean) (C := RX1) (T := TX1) (N := 9) hx hb hts iX1 tyX1 tyX1_ok nmX1 hown hK hP hD hS 0 rfl rfl 5 (by decide) (hts _ wd_80) (fun _ h9 => h9) rfl (by decide +kernel) (isb_n hz).1 (isb_n hz).2 (Nat.le_of_ble_eq_true rfl) dX1_tell_18 (fun H locs hP hD hS => ?_)
  have hP : va_P D classes (wG cx aG x1 x2 x3 gq gr x4 gR gT gC) H := hP
  have hD : va_D A (wG cx aG x1 x2 x3 gq gr x4 gR gT gC) := hD
  refine lv_aload_n hx hb dX1_tell_21 rfl (lv_at hl 0 rfl) ?_
  refine lv_iload_n hx hb dX1_tell_22 rfl (lv_at hl 1 rfl) ?_
  refine lv_iload_n hx hb dX1_tell_23 rfl (lv_at hl 2 rfl) ?_
  refine lv_imul hx hb dX1_tell_24 ?_
  refine va_put (D := D) (ci := 1) (v := .int (x1 * x2)) (ty := .int) (C := RX1) (T := TX1) (N := 9) hx hb hts iX1 tyX1 tyX1_ok nmX1 hown hK hP hD hS 0 rfl rfl 3 (by decide) (hts _ wd_74) (fun _ h9 => h9) rfl (by decide +kernel) rfl rfl (Nat.le_of_ble_eq_true rfl) dX1_tell_25 (fun H locs hP hD hS => ?_)
  have hP : va_P D classes (wG cx aG x1 x2 x3 (x1 * x2) gr x4 gR gT gC) H := hP
  have hD : va_D A (wG cx aG x1 x2 x3 (x1 * x2) gr x4 gR gT gC) := hD
  refine lv_aload_n hx hb dX1_tell_28 rfl (lv_at hl 0 rfl) ?_
  refine lv_iconst (v := (0 : Int32)) hx hb dX1_tell_29 (by decide) ?_
  refine va_put (D := D) (ci := 1) (v := .int (0 : Int32)) (ty := .int) (C := RX1) (T := TX1) (N := 9) hx hb hts iX1 tyX1 tyX1_ok nmX1 hown hK hP hD hS 0 rfl rfl 4 (by decide) (hts _ wd_78) (fun _ h9 => h9) rfl (by decide +kernel) rfl rfl (Nat.le_of_ble_eq_true rfl) dX1_tell_30 (fun H locs hP hD hS => ?_)
  have hP : va_P D classes (wG cx aG x1 x2 x3 (x1 * x2) (0 : Int32) x4 gR gT gC) H := hP
  have hD : va_D A (wG cx aG x1 x2 x3 (x1 * x2) (0 : Int32) x4 gR gT gC) := hD
  refine lv_aload_n hx hb dX1_tell_33 rfl (lv_at hl 0 rfl) ?_
  refine va_get (D := D) (ci := 1) (v := .ref (aG 3)) (C := RX1) (T := TX1) (N := 9) hx hb hts iX1 hown hK hP 0 rfl rfl 8 (by decide) (hts _ wd_84) (fun _ h9 => h9) rfl dX1_tell_34 ?_
  refine lv_iconst (v := (0 : Int32)) hx hb dX1_tell_37 (by decide) ?_
  obtain ⟨u12, hg, hf⟩ := ob_s hf
  refine kc_callv (wn := fun _ => (wG cx aG x1 x2 x3 (x1 * x2) (0 : Int32) x4 gR gT u12)) (va_runS (As := [.ref (aG 3), .int (0 : Int32)]) (rest := []) ⟨hx, hb, hml, hown, hts⟩ (metJ7_fill_53178 l D cx (aG 3) 16 gC (0 : Int32) N H.size u12 hg) ⟨callB_of 2 hts (kc_gI wd_111) rfl rfl rfl (hts _ wd_42) (hts _ wd_109) (by decide +kernel) ⟨Nat.le_of_ble_eq_true rfl, Nat.le_of_ble_eq_true rfl⟩, hts _ wd_110⟩ ⟨kc_blind _ _ _ _ _, kc_pre _ hK hN (hP.sub [3] rfl) (hD.sub [3] (by decide) rfl)⟩ rfl rfl hl.1 rfl (lv_room (Nat.le_of_ble_eq_true rfl)) dX1_tell_38 ⟨Nat.zero_le _, Nat.zero_le _⟩) hP hD hS hA [3] [0, 1, 2] [0, 1, 2, 3] rfl rfl (by decide) (by decide) (fun _ => rfl) (by decide) (fun _ H locs hP hD hS => ?_)
  have hP : va_P D classes (wG cx aG x1 x2 x3 (x1 * x2) (0 : Int32) x4 gR gT u12) H := hP
  have hD : va_D A (wG cx aG x1 x2 x3 (x1 * x2) (0 : Int32) x4 gR gT u12) := hD
  refine lv_iconst (v := (0 : Int32)) hx hb dX1_tell_41 (by decide) ?_
  refine lv_istore (lv' := [(5, .int (0 : Int32)), (0, .ref (aG 0)), (1, .int x1), (2, .int x2), (3, .int x3), (4, .int x4)]) hx hb dX1_tell_42 hl (by decide) rfl (fun ls hl => ?_)
  have L44 : ∀ (ct : Nat) (gr : Int32) (gR : Nat → Int32) (gT : Nat → Int32) (gC : Nat → Int32) (x5 : Int32) (v44 : Int32 × (Nat → Int32) × (Nat → Int32) × (Nat → Int32)), fX1_tell_L44 N x1 x2 x3 (x1 * x2) x4 x1 x2 ct gr gR gT gC x5 = some v44 → ∀ (H : Heap) (locs : List Loc) (ls : Array Slot), va_P D classes (wG cx aG x1 x2 x3 (x1 * x2) gr x4 gR gT gC) H → va_D A (wG cx aG x1 x2 x3 (x1 * x2) gr x4 gR gT gC) → va_S A s.heap H locs → lv_has ls 7 [(0, .ref (aG 0)), (1, .int x1), (2, .int x2), (5, .int x5)] → (∀ (H : Heap) (locs : List Loc) (ls : Array Slot), va_P D classes (wG cx aG x1 x2 x3 (x1 * x2) v44.1 x4 v44.2.1 v44.2.2.1 v44.2.2.2) H → va_D A (wG cx aG x1 x2 x3 (x1 * x2) v44.1 x4 v44.2.1 v44.2.2.1 v44.2.2.2) → va_S A s.heap H locs → lv_has ls 7 [] → W p l e rmX1_tell s m ([.ref (aG 0), .int x1, .int x2, .int x3, .int x4] : List Value).toArray below meth c H locs 0 0 (MQ below (kc_Pv D (fun _ : Unit => (wG cx aG v.1 v.2.1 v.2.2.1 v.2.2.2.1 v.2.2.2.2.1 v.2.2.2.2.2.1 v.2.2.2.2.2.2.1 v.2.2.2.2.2.2.2.1 v.2.2.2.2.2.2.2.2)) A) ([.ref (aG 0), .int x1, .int x2, .int x3, .int x4] : List Value).toArray s 0 0 A) (F0 m 127 ls [])) → W p l e rmX1_tell s m ([.ref (aG 0), .int x1, .int x2, .int x3, .int x4] : List Value).toArray below meth c H locs 0 0 (MQ below (kc_Pv D (fun _ : Unit => (wG cx aG v.1 v.2.1 v.2.2.1 v.2.2.2.1 v.2.2.2.2.1 v.2.2.2.2.2.1 v.2.2.2.2.2.2.1 v.2.2.2.2.2.2.2.1 v.2.2.2.2.2.2.2.2)) A) ([.ref (aG 0), .int x1, .int x2, .int x3, .int x4] : List Value).toArray s 0 0 A) (F0 m 44 ls []) := by
    intro ct
    induction ct with
    | zero =>
      intro gr gR gT gC x5 v44 hf
      exact absurd (show (none : Option (Int32 × (Nat → Int32) × (Nat → Int32) × (Nat → Int32))) = some v44 from hf) (fun q => by cases q)
    | succ ct ih =>
      intro gr gR gT gC x5 v44 hf H locs ls hP hD hS hl hE
      rw [fX1_tell_L44] at hf
      refine lv_iload hx hb dX1_tell_44 (lv_at hl 3 rfl) ?_
      refine lv_iload_n hx hb dX1_tell_46 rfl (lv_at hl 2 rfl) ?_
      refine lv_icmp_ge (tgt := 127) hx hb dX1_tell_47 (by decide) (fun c33 => ?_) (fun c33 => ?_)
      · replace hf := it_t c33 hf
        obtain rfl := Option.some.inj hf
        exact hE H locs ls hP hD hS (lv_sub hl [] rfl)
      · replace hf := it_f c33 hf
        refine lv_iconst (v := (0 : Int32)) hx hb dX1_tell_50 (by decide) ?_
        refine lv_istore (lv' := [(6, .int (0 : Int32)), (0, .ref (aG 0)), (1, .int x1), (2, .int x2), (5, .int x5)]) hx hb dX1_tell_51 hl (by decide) rfl (fun ls hl => ?_)
        have L53 : ∀ (ct : Nat) (gr : Int32) (gR : Nat → Int32) (gT : Nat → Int32) (gC : Nat → Int32) (x6 : Int32) (v53 : Int32 × (Nat → Int32) × (Nat → Int32) × (Nat → Int32)), fX1_tell_L53 N x1 x2 x3 (x1 * x2) x4 x1 x5 ct gr gR gT gC x6 = some v53 → ∀ (H : Heap) (locs : List Loc) (ls : Array Slot), va_P D classes (wG cx aG x1 x2 x3 (x1 * x2) gr x4 gR gT gC) H → va_D A (wG cx aG x1 x2 x3 (x1 * x2) gr x4 gR gT gC) → va_S A s.heap H locs → lv_has ls 7 [(0, .ref (aG 0)), (1, .int x1), (2, .int x2), (5, .int x5), (6, .int x6)] → (∀ (H : Heap) (locs : List Loc) (ls : Array Slot), va_P D classes (wG cx aG x1 x2 x3 (x1 * x2) v53.1 x4 v53.2.1 v53.2.2.1 v53.2.2.2) H → va_D A (wG cx aG x1 x2 x3 (x1 * x2) v53.1 x4 v53.2.1 v53.2.2.1 v53.2.2.2) → va_S A s.heap H locs → lv_has ls 7 [(0, .ref (aG 0)), (1, .int x1), (2, .int x2), (5, .int x5)] → W p l e rmX1_tell s m ([.ref (aG 0), .int x1, .int x2, .int x3, .int x4] : List Value).toArray below meth c H locs 0 0 (MQ below (kc_Pv D (fun _ : Unit => (wG cx aG v.1 v.2.1 v.2.2.1 v.2.2.2.1 v.2.2.2.2.1 v.2.2.2.2.2.1 v.2.2.2.2.2.2.1 v.2.2.2.2.2.2.2.1 v.2.2.2.2.2.2.2.2)) A) ([.ref (aG 0), .int x1, .int x2, .int x3, .int x4] : List Value).toArray s 0 0 A) (F0 m 121 ls [])) → W p l e rmX1_tell s m ([.ref (aG 0), .int x1, .int x2, .int x3, .int x4] : List Value).toArray below meth c H locs 0 0 (MQ below (kc_Pv D (fun _ : Unit => (wG cx aG v.1 v.2.1 v.2.2.1 v.2.2.2.1 v.2.2.2.2.1 v.2.2.2.2.2.1 v.2.2.2.2.2.2.1 v.2.2.2.2.2.2.2.1 v.2.2.2.2.2.2.2.2)) A) ([.ref (aG 0), .int x1, .int x2, .int x3, .int x4] : List Value).toArray s 0 0 A) (F0 m 53 ls []) := by
          intro ct
          induction ct with
          | zero =>
            intro gr gR gT gC x6 v53 hf
            exact absurd (show (none : Option (Int32 × (Nat → Int32) × (Nat → Int32) × (Nat → Int32))) = some v53 from hf) (fun q => by cases q)
          | succ ct ih =>
            intro gr gR gT gC x6 v53 hf H locs ls hP hD hS hl hE
            rw [fX1_tell_L53] at hf
            refine lv_iload hx hb dX1_tell_53 (lv_at hl 4 rfl) ?_
            refine lv_iload_n hx hb dX1_tell_55 rfl (lv_at hl 1 rfl) ?_
            refine lv_icmp_ge (tgt := 121) hx hb dX1_tell_56 (by decide) (fun c34 => ?_) (fun c34 => ?_)
            · replace hf := it_t c34 hf
              obtain rfl := Option.some.inj hf
              exact hE H locs ls hP hD hS (lv_sub hl [0, 1, 2, 3] rfl)
            · replace hf := it_f c34 hf
              refine lv_aload_n hx hb dX1_tell_59 rfl (lv_at hl 0 rfl) ?_
              refine lv_aload_n hx hb dX1_tell_60 rfl (lv_at hl 0 rfl) ?_
              refine lv_iload hx hb dX1_tell_61 (lv_at hl 4 rfl) ?_
              refine lv_iload hx hb dX1_tell_63 (lv_at hl 3 rfl) ?_
              refine lv_iconst (v := (1 : Int32)) hx hb dX1_tell_65 (by decide) ?_
              refine lv_iconst (v := (0 : Int32)) hx hb dX1_tell_66 (by decide) ?_
              obtain ⟨u35, hg, hf⟩ := ob_s hf
              refine kc_calli (wn := fun _ => (wG cx aG x1 x2 x3 (x1 * x2) gr x4 gR gT gC)) (va_runV (As := [.int x6, .int x5, .int (1 : Int32), .int (0 : Int32)]) (rest := [.ref (aG 0)]) ⟨hx, hb, hml, hown, hts⟩ (metX1_rowFrom l D cx aG x1 x2 x3 (x1 * x2) gr x4 gR gT gC x6 x5 (1 : Int32) (0 : Int32) N H.size u35 hg) ⟨callB_of 4 hts (kc_gI wd_115) rfl rfl rfl (hts _ wd_41) (hts _ wd_112) (by decide +kernel) ⟨Nat.le_of_ble_eq_true rfl, Nat.le_of_ble_eq_true rfl⟩, hts _ wd_114, hts _ wd_0⟩ ⟨kc_blind _ _ _ _ _, va_recv hK hP (ci := 1) (q0 := 0) rfl rfl, kc_pre _ hK hN (hP.sub [0, 1, 2, 3] rfl) (hD.sub [0, 1, 2, 3] (by decide) rfl)⟩ rfl rfl hl.1 rfl (lv_room (Nat.le_of_ble_eq_true rfl)) dX1_tell_67 ⟨Nat.zero_le _, Nat.zero_le _⟩) hP hD hS hA [0, 1, 2, 3] [] [0, 1, 2, 3] rfl rfl (by decide) (by decide) (fun _ => rfl) (by decide) (fun _ H locs hP hD hS => ?_)
              have hP : va_P D classes (wG cx aG x1 x2 x3 (x1 * x2) gr x4 gR gT gC) H := hP
              have hD : va_D A (wG cx aG x1 x2 x3 (x1 * x2) gr x4 gR gT gC) := hD
              obtain ⟨u36, hg, hf⟩ := ob_s hf
              refine kc_callv (wn := fun _ => (wG cx aG x1 x2 x3 (x1 * x2) u36.1 x4 u36.2.1 u36.2.2.1 u36.2.2.2)) (va_runV (As := [.int u35]) (rest := []) ⟨hx, hb, hml, hown, hts⟩ (metX1_addRow l D cx aG x1 x2 x3 (x1 * x2) gr x4 gR gT gC u35 N H.size u36 hg) ⟨callB_of 1 hts (kc_gI wd_123) rfl rfl rfl (hts _ wd_41) (hts _ wd_120) (by decide +kernel) ⟨Nat.le_of_ble_eq_true rfl, Nat.le_of_ble_eq_true rfl⟩, hts _ wd_122, hts _ wd_2⟩ ⟨kc_blind _ _ _ _ _, va_recv hK hP (ci := 1) (q0 := 0) rfl rfl, kc_pre _ hK hN (hP.sub [0, 1, 2, 3] rfl) (hD.sub [0, 1, 2, 3] (by decide) rfl)⟩ rfl rfl hl.1 rfl (lv_room (Nat.le_of_ble_eq_true rfl)) dX1_tell_70 ⟨Nat.zero_le _, Nat.zero_le _⟩) hP hD hS hA [0, 1, 2, 3] [] [0, 1, 2, 3] rfl rfl (by decide) (by decide) (fun _ => rfl) (by decide) (fun _ H locs hP hD hS => ?_)
              have hP : va_P D classes (wG cx aG x1 x2 x3 (x1 * x2) u36.1 x4 u36.2.1 u36.2.2.1 u36.2.2.2) H := hP
              have hD : va_D A (wG cx aG x1 x2 x3 (x1 * x2) u36.1 x4 u36.2.1 u36.2.2.1 u36.2.2.2) := hD
              refine lv_aload_n hx hb dX1_tell_73 rfl (lv_at hl 0 rfl) ?_
              refine lv_aload_n hx hb dX1_tell_74 rfl (lv_at hl 0 rfl) ?_
              refine lv_iload hx hb dX1_tell_75 (lv_at hl 4 rfl) ?_
              refine lv_iload hx hb dX1_tell_77 (lv_at hl 3 rfl) ?_
              refine lv_iconst (v := (0 : Int32)) hx hb dX1_tell_79 (by decide) ?_
              refine lv_iconst (v := (1 : Int32)) hx hb dX1_tell_80 (by decide) ?_
              obtain ⟨u37, hg, hf⟩ := ob_s hf
              refine kc_calli (wn := fun _ => (wG cx aG x1 x2 x3 (x1 * x2) u36.1 x4 u36.2.1 u36.2.2.1 u36.2.2.2)) (va_runV (As := [.int x6, .int x5, .int (0 : Int32), .int (1 : Int32)]) (rest := [.ref (aG 0)]) ⟨hx, hb, hml, hown, hts⟩ (metX1_rowFrom l D cx aG x1 x2 x3 (x1 * x2) u36.1 x4 u36.2.1 u36.2.2.1 u36.2.2.2 x6 x5 (0 : Int32) (1 : Int32) N H.size u37 hg) ⟨callB_of 4 hts (kc_gI wd_115) rfl rfl rfl (hts _ wd_41) (hts _ wd_112) (by decide +kernel) ⟨Nat.le_of_ble_eq_true rfl, Nat.le_of_ble_eq_true rfl⟩, hts _ wd_114, hts _ wd_0⟩ ⟨kc_blind _ _ _ _ _, va_recv hK hP (ci := 1) (q0 := 0) rfl rfl, kc_pre _ hK hN (hP.sub [0, 1, 2, 3] rfl) (hD.sub [0, 1, 2, 3] (by decide) rfl)⟩ rfl rfl hl.1 rfl (lv_room (Nat.le_of_ble_eq_true rfl)) dX1_tell_81 ⟨Nat.zero_le _, Nat.zero_le _⟩) hP hD hS hA [0, 1, 2, 3] [] [0, 1, 2, 3] rfl rfl (by decide) (by decide) (fun _ => rfl) (by decide) (fun _ H locs hP hD hS => ?_)
              have hP : va_P D classes (wG cx aG x1 x2 x3 (x1 * x2) u36.1 x4 u36.2.1 u36.2.2.1 u36.2.2.2) H := hP
              have hD : va_D A (wG cx aG x1 x2 x3 (x1 * x2) u36.1 x4 u36.2.1 u36.2.2.1 u36.2.2.2) := hD
              obtain ⟨u38, hg, hf⟩ := ob_s hf
              refine kc_callv (wn := fun _ => (wG cx aG x1 x2 x3 (x1 * x2) u38.1 x4 u38.2.1 u38.2.2.1 u38.2.2.2)) (va_runV (As := [.int u37]) (rest := []) ⟨hx, hb, hml, hown, hts⟩ (metX1_addRow l D cx aG x1 x2 x3 (x1 * x2) u36.1 x4 u36.2.1 u36.2.2.1 u36.2.2.2 u37 N H.size u38 hg) ⟨callB_of 1 hts (kc_gI wd_123) rfl rfl rfl (hts _ wd_41) (hts _ wd_120) (by decide +kernel) ⟨Nat.le_of_ble_eq_true rfl, Nat.le_of_ble_eq_true rfl⟩, hts _ wd_122, hts _ wd_2⟩ ⟨kc_blind _ _ _ _ _, va_recv hK hP (ci := 1) (q0 := 0) rfl rfl, kc_pre _ hK hN (hP.sub [0, 1, 2, 3] rfl) (hD.sub [0, 1, 2, 3] (by decide) rfl)⟩ rfl rfl hl.1 rfl (lv_room (Nat.le_of_ble_eq_true rfl)) dX1_tell_84 ⟨Nat.zero_le _, Nat.zero_le _⟩) hP hD hS hA [0, 1, 2, 3] [] [0, 1, 2, 3] rfl rfl (by decide) (by decide) (fun _ => rfl) (by decide) (fun _ H locs hP hD hS => ?_)
              have hP : va_P D classes (wG cx aG x1 x2 x3 (x1 * x2) u38.1 x4 u38.2.1 u38.2.2.1 u38.2.2.2) H := hP
              have hD : va_D A (wG cx aG x1 x2 x3 (x1 * x2) u38.1 x4 u38.2.1 u38.2.2.1 u38.2.2.2) := hD
              refine lv_aload_n hx hb dX1_tell_87 rfl (lv_at hl 0 rfl) ?_
              refine lv_aload_n hx hb dX1_tell_88 rfl (lv_at hl 0 rfl) ?_
              refine lv_iload hx hb dX1_tell_89 (lv_at hl 4 rfl) ?_
              refine lv_iload hx hb dX1_tell_91 (lv_at hl 3 rfl) ?_
              refine lv_iconst (v := (1 : Int32)) hx hb dX1_tell_93 (by decide) ?_
              refine lv_iconst (v := (1 : Int32)) hx hb dX1_tell_94 (by decide) ?_
              obtain ⟨u39, hg, hf⟩ := ob_s hf
              refine kc_calli (wn := fun _ => (wG cx aG x1 x2 x3 (x1 * x2) u38.1 x4 u38.2.1 u38.2.2.1 u38.2.2.2)) (va_runV (As := [.int x6, .int x5, .int (1 : Int32), .int (1 : Int32)]) (rest := [.ref (aG 0)]) ⟨hx, hb, hml, hown, hts⟩ (metX1_rowFrom l D cx aG x1 x2 x3 (x1 * x2) u38.1 x4 u38.2.1 u38.2.2.1 u38.2.2.2 x6 x5 (1 : Int32) (1 : Int32) N H.size u39 hg) ⟨callB_of 4 hts (kc_gI wd_115) rfl rfl rfl (hts _ wd_41) (hts _ wd_112) (by decide +kernel) ⟨Nat.le_of_ble_eq_true rfl, Nat.le_of_ble_eq_true rfl⟩, hts _ wd_114, hts _ wd_0⟩ ⟨kc_blind _ _ _ _ _, va_recv hK hP (ci := 1) (q0 := 0) rfl rfl, kc_pre _ hK hN (hP.sub [0, 1, 2, 3] rfl) (hD.sub [0, 1, 2, 3] (by decide) rfl)⟩ rfl rfl hl.1 rfl (lv_room (Nat.le_of_ble_eq_true rfl)) dX1_tell_95 ⟨Nat.zero_le _, Nat.zero_le _⟩) hP hD hS hA [0, 1, 2, 3] [] [0, 1, 2, 3] rfl rfl (by decide) (by decide) (fun _ => rfl) (by decide) (fun _ H locs hP hD hS => ?_)
              have hP : va_P D classes (wG cx aG x1 x2 x3 (x1 * x2) u38.1 x4 u38.2.1 u38.2.2.1 u38.2.2.2) H := hP
              have hD : va_D A (wG cx aG x1 x2 x3 (x1 * x2) u38.1 x4 u38.2.1 u38.2.2.1 u38.2.2.2) := hD
              obtain ⟨u40, hg, hf⟩ := ob_s hf
              refine kc_callv (wn := fun _ => (wG cx aG x1 x2 x3 (x1 * x2) u40.1 x4 u40.2.1 u40.2.2.1 u40.2.2.2)) (va_runV (As := [.int u39]) (rest := []) ⟨hx, hb, hml, hown, hts⟩ (metX1_addRow l D cx aG x1 x2 x3 (x1 * x2) u38.1 x4 u38.2.1 u38.2.2.1 u38.2.2.2 u39 N H.size u40 hg) ⟨callB_of 1 hts (kc_gI wd_123) rfl rfl rfl (hts _ wd_41) (hts _ wd_120) (by decide +kernel) ⟨Nat.le_of_ble_eq_true rfl, Nat.le_of_ble_eq_true rfl⟩, hts _ wd_122, hts _ wd_2⟩ ⟨kc_blind _ _ _ _ _, va_recv hK hP (ci := 1) (q0 := 0) rfl rfl, kc_pre _ hK hN (hP.sub [0, 1, 2, 3] rfl) (hD.sub [0, 1, 2, 3] (by decide) rfl)⟩ rfl rfl hl.1 rfl (lv_room (Nat.le_of_ble_eq_true rfl)) dX1_tell_98 ⟨Nat.zero_le _, Nat.zero_le _⟩) hP hD hS hA [0, 1, 2, 3] [] [0, 1, 2, 3] rfl rfl (by decide) (by decide) (fun _ => rfl) (by decide) (fun _ H locs hP hD hS => ?_)
              have hP : va_P D classes (wG cx aG x1 x2 x3 (x1 * x2) u40.1 x4 u40.2.1 u40.2.2.1 u40.2.2.2) H := hP
              have hD : va_D A (wG cx aG x1 x2 x3 (x1 * x2) u40.1 x4 u40.2.1 u40.2.2.1 u40.2.2.2) := hD
              refine lv_aload_n hx hb dX1_tell_101 rfl (lv_at hl 0 rfl) ?_
              refine lv_aload_n hx hb dX1_tell_102 rfl (lv_at hl 0 rfl) ?_
              refine lv_iload hx hb dX1_tell_103 (lv_at hl 4 rfl) ?_
              refine lv_iload hx hb dX1_tell_105 (lv_at hl 3 rfl) ?_
              refine lv_iconst (v := (-1 : Int32)) hx hb dX1_tell_107 (by decide) ?_
              refine lv_iconst (v := (1 : Int32)) hx hb dX1_tell_108 (by decide) ?_
              obtain ⟨u41, hg, hf⟩ := ob_s hf
              refine kc_calli (wn := fun _ => (wG cx aG x1 x2 x3 (x1 * x2) u40.1 x4 u40.2.1 u40.2.2.1 u40.2.2.2)) (va_runV (As := [.int x6, .int x5, .int (-1 : Int32), .int (1 : Int32)]) (rest := [.ref (aG 0)]) ⟨hx, hb, hml, hown, hts⟩ (metX1_rowFrom l D cx aG x1 x2 x3 (x1 * x2) u40.1 x4 u40.2.1 u40.2.2.1 u40.2.2.2 x6 x5 (-1 : Int32) (1 : Int32) N H.size u41 hg) ⟨callB_of 4 hts (kc_gI wd_115) rfl rfl rfl (hts _ wd_41) (hts _ wd_112) (by decide +kernel) ⟨Nat.le_of_ble_eq_true rfl, Nat.le_of_ble_eq_true rfl⟩, hts _ wd_114, hts _ wd_0⟩ ⟨kc_blind _ _ _ _ _, va_recv hK hP (ci := 1) (q0 := 0) rfl rfl, kc_pre _ hK hN (hP.sub [0, 1, 2, 3] rfl) (hD.sub [0, 1, 2, 3] (by decide) rfl)⟩ rfl rfl hl.1 rfl (lv_room (Nat.le_of_ble_eq_true rfl)) dX1_tell_109 ⟨Nat.zero_le _, Nat.zero_le _⟩) hP hD hS hA [0, 1, 2, 3] [] [0, 1, 2, 3] rfl rfl (by decide) (by decide) (fun _ => rfl) (by decide) (fun _ H locs hP hD hS => ?_)
              have hP : va_P D classes (wG cx aG x1 x2 x3 (x1 * x2) u40.1 x4 u40.2.1 u40.2.2.1 u40.2.2.2) H := hP
              have hD : va_D A (wG cx aG x1 x2 x3 (x1 * x2) u40.1 x4 u40.2.1 u40.2.2.1 u40.2.2.2) := hD
              obtain ⟨u42, hg, hf⟩ := ob_s hf
              refine kc_callv (wn := fun _ => (wG cx aG x1 x2 x3 (x1 * x2) u42.1 x4 u42.2.1 u42.2.2.1 u42.2.2.2)) (va_runV (As := [.int u41]) (rest := []) ⟨hx, hb, hml, hown, hts⟩ (metX1_addRow l D cx aG x1 x2 x3 (x1 * x2) u40.1 x4 u40.2.1 u40.2.2.1 u40.2.2.2 u41 N H.size u42 hg) ⟨callB_of 1 hts (kc_gI wd_123) rfl rfl rfl (hts _ wd_41) (hts _ wd_120) (by decide +kernel) ⟨Nat.le_of_ble_eq_true rfl, Nat.le_of_ble_eq_true rfl⟩, hts _ wd_122, hts _ wd_2⟩ ⟨kc_blind _ _ _ _ _, va_recv hK hP (ci := 1) (q0 := 0) rfl rfl, kc_pre _ hK hN (hP.sub [0, 1, 2, 3] rfl) (hD.sub [0, 1, 2, 3] (by decide) rfl)⟩ rfl rfl hl.1 rfl (lv_room (Nat.le_of_ble_eq_true rfl)) dX1_tell_112 ⟨Nat.zero_le _, Nat.zero_le _⟩) hP hD hS hA [0, 1, 2, 3] [] [0, 1, 2, 3] rfl rfl (by decide) (by decide) (fun _ => rfl) (by decide) (fun _ H locs hP hD hS => ?_)
              have hP : va_P D classes (wG cx aG x1 x2 x3 (x1 * x2) u42.1 x4 u42.2.1 u42.2.2.1 u42.2.2.2) H := hP
              have hD : va_D A (wG cx aG x1 x2 x3 (x1 * x2) u42.1 x4 u42.2.1 u42.2.2.1 u42.2.2.2) := hD
              refine lv_iinc (v := (x6 + (1 : Int32))) (lv' := [(6, .int (x6 + (1 : Int32))), (0, .ref (aG 0)), (1, .int x1), (2, .int x2), (5, .int x5)]) hx hb dX1_tell_115 hl (k := 4) rfl rfl (by decide) rfl (fun ls hl => ?_)
              refine lv_goto (tgt := 53) hx hb dX1_tell_118 (by decide) ?_
              exact ih u42.1 u42.2.1 u42.2.2.1 u42.2.2.2 (x6 + (1 : Int32)) _ hf H locs ls hP hD hS (lv_sub hl [1, 2, 3, 4, 0] rfl) hE
        obtain ⟨u43, hg, hf⟩ := ob_s hf
        refine L53 _ gr gR gT gC (0 : Int32) u43 hg H locs ls hP hD hS (lv_sub hl [1, 2, 3, 4, 0] rfl) (fun H locs ls hP hD hS hl => ?_)
        refine lv_iinc (v := (x5 + (1 : Int32))) (lv' := [(5, .int (x5 + (1 : Int32))), (0, .ref (aG 0)), (1, .int x1), (2, .int x2)]) hx hb dX1_tell_121 hl (k := 3) rfl rfl (by decide) rfl (fun ls hl => ?_)
        refine lv_goto (tgt := 44) hx hb dX1_tell_124 (by decide) ?_
        exact ih u43.1 u43.2.1 u43.2.2.1 u43.2.2.2 (x5 + (1 : Int32)) _ hf H locs ls hP hD hS (lv_sub hl [1, 2, 3, 0] rfl) hE
  obtain ⟨u44, hg, hf⟩ := ob_s hf
  refine L44 _ (0 : Int32) gR gT u12 (0 : Int32) u44 hg H locs ls hP hD hS (lv_sub hl [1, 2, 3, 0] rfl) (fun H locs ls hP hD hS hl => ?_)
  obtain rfl := Option.some.inj hf
  exact kc_vret () hx hb hr hk hP hD hS dX1_tell_127
abbrev rmX1_hasRow : Room := { frames := 0, cells := 0, slots := 0, locals := 0 }
set_option maxHeartbeats 4000000 in
set_option maxRecDepth 100000 in
theorem metX1_hasRow (l : Launch) (D : va_G) (cx : Nat → ClassId) (aG : Nat → Nat) (gw : Int32) (gh : Int32) (gk : Int32) (gq : Int32) (gr : Int32) (gj : Int32) (gR : Nat → Int32) (gT : Nat → Int32) (gC : Nat → Int32) (x1 : Int32) (N : Nat) (sz : Nat) (v : Int32) (hf : fX1_hasRow N gr gR x1 = some v) : Met l yX1_hasRow (.code yX1_hasRow cX1_hasRow 3 (some .boolean) :: kc_TB) rmX1_hasRow (kc_Pre D cx (wG cx aG gw gh gk gq gr gj gR gT gC) [.ref (aG 0), .int x1] sz) (kc_Pi D (fun _ : Unit => (wG cx aG gw gh gk gq gr gj gR gT gC)) v (va_A (wG cx aG gw gh gk gq gr gj gR gT gC) sz)) 0 0 (va_A (wG cx aG gw gh gk gq gr gj gR gT gC) sz) := by
  refine kc_entry (Qc := fun A => (kc_Pi D (fun _ : Unit => (wG cx aG gw gh gk gq gr gj gR gT gC)) v A)) (by decide) (Nat.le_of_ble_eq_true rfl) ?_
  intro p e s m below meth c A hx hb hr hk hml hown hin hts hN hK hP hD hS hA ls hl
  have hown : s.vm.findClass RX1 = some m.cls := hown
  have hl : lv_has ls 3 [(0, .ref (aG 0)), (1, .int x1)] := hl
  unfold fX1_hasRow at hf
  have hP : va_P D classes (wG cx aG gw gh gk gq gr gj gR gT gC) s.heap := hP
  obtain ⟨H, hH⟩ : ∃ H, H = s.heap := ⟨_, rfl⟩
  obtain ⟨locs, hL⟩ : ∃ locs : List Loc, locs = [] := ⟨_, rfl⟩
  have hS : va_S A s.heap H locs := by rw [hH, hL]; exact hS
  have hP : va_P D classes (wG cx aG gw gh gk gq gr gj gR gT gC) H := by rw [hH]; exact hP
  suffices hW : W p l e rmX1_hasRow s m ([.ref (aG 0), .int x1] : List Value).toArray below meth c H locs 0 0 (MQ below (kc_Pi D (fun _ : Unit => (wG cx aG gw gh gk gq gr gj gR gT gC)) v A) ([.ref (aG 0), .int x1] : List Value).toArray s 0 0 A) (F0 m 0 ls []) by rw [hH, hL] at hW; exact hW
  clear hH hL
  refine lv_iconst (v := (0 : Int32)) hx hb dX1_hasRow_0 (by decide) ?_
  refine lv_istore_n (lv' := [(2, .int (0 : Int32)), (0, .ref (aG 0)), (1, .int x1)]) hx hb dX1_hasRow_1 rfl hl (by decide) rfl (fun ls hl => ?_)
  have L2 : ∀ (ct : Nat) (x2 : Int32) (v2 : (Int32) ⊕ (Unit)), fX1_hasRow_L2 N gr gR x1 ct x2 = some v2 → ∀ (H : Heap) (locs : List Loc) (ls : Array Slot), va_P D classes (wG cx aG gw gh gk gq gr gj gR gT gC) H → va_D A (wG cx aG gw gh gk gq gr gj gR gT gC) → va_S A s.heap H locs → lv_has ls 3 [(0, .ref (aG 0)), (1, .int x1), (2, .int x2)] → (∀ (e2 : Unit), v2 = .inr e2 → ∀ (H : Heap) (locs : List Loc) (ls : Array Slot), va_P D classes (wG cx aG gw gh gk gq gr gj gR gT gC) H → va_D A (wG cx aG gw gh gk gq gr gj gR gT gC) → va_S A s.heap H locs → lv_has ls 3 [] → W p l e rmX1_hasRow s m ([.ref (aG 0), .int x1] : List Value).toArray below meth c H locs 0 0 (MQ below (kc_Pi D (fun _ : Unit => (wG cx aG gw gh gk gq gr gj gR gT gC)) v A) ([.ref (aG 0), .int x1] : List Value).toArray s 0 0 A) (F0 m 35 ls [])) → (∀ (r2 : Int32), v2 = .inl r2 → ∀ (pc : Nat) (H : Heap) (locs : List Loc) (ls : Array Slot), narrow .boolean (.int r2) = .int r2 → va_P D classes (wG cx aG gw gh gk gq gr gj gR gT gC) H → va_D A (wG cx aG gw gh gk gq gr gj gR gT gC) → va_S A s.heap H locs → decode cX1_hasRow pc = .ok (.ireturn, 1) → W p l e rmX1_hasRow s m ([.ref (aG 0), .int x1] : List Value).toArray below meth c H locs 0 0 (MQ below (kc_Pi D (fun _ : Unit => (wG cx aG gw gh gk gq gr gj gR gT gC)) v A) ([.ref (aG 0), .int x1] : List Value).toArray s 0 0 A) (F0 m pc ls [.int r2])) → W p l e rmX1_hasRow s m ([.ref (aG 0), .int x1] : List Value).toArray below meth c H locs 0 0 (MQ below (kc_Pi D (fun _ : Unit => (wG cx aG gw gh gk gq gr gj gR gT gC)) v A) ([.ref (aG 0), .int x1] : List Value).toArray s 0 0 A) (F0 m 2 ls []) := by
    intro ct
    induction ct with
    | zero =>
      intro x2 v2 hf
      exact absurd (show (none : Option ((Int32) ⊕ (Unit))) = some v2 from hf) (fun q => by cases q)
    | succ ct ih =>
      intro x2 v2 hf H locs ls hP hD hS hl hE hR
      rw [fX1_hasRow_L2] at hf
      refine lv_iload_n hx hb dX1_hasRow_2 rfl (lv_at hl 2 rfl) ?_
      refine lv_aload_n hx hb dX1_hasRow_3 rfl (lv_at hl 0 rfl) ?_
      refine va_get (D := D) (ci := 1) (v := .int gr) (C := RX1) (T := TX1) (N := 9) hx hb hts iX1 hown hK hP 0 rfl rfl 4 (by decide) (hts _ wd_78) (fun _ h9 => h9) rfl dX1_hasRow_4 ?_
      refine lv_icmp_ge (tgt := 35) hx hb dX1_hasRow_7 (by decide) (fun c5 => ?_) (fun c5 => ?_)
      · replace hf := it_t c5 hf
        obtain rfl := Option.some.inj hf
        exact hE _ rfl H locs ls hP hD hS (lv_sub hl [] rfl)
      · replace hf := it_f c5 hf
        refine lv_iload_n hx hb dX1_hasRow_10 rfl (lv_at hl 1 rfl) ?_
        refine lv_aload_n hx hb dX1_hasRow_11 rfl (lv_at hl 0 rfl) ?_
        refine va_get (D := D) (ci := 1) (v := .ref (aG 1)) (C := RX1) (T := TX1) (N := 9) hx hb hts iX1 hown hK hP 0 rfl rfl 6 (by decide) (hts _ wd_82) (fun _ h9 => h9) rfl dX1_hasRow_12 ?_
        refine lv_iload_n hx hb dX1_hasRow_15 rfl (lv_at hl 2 rfl) ?_
        obtain ⟨hz, hf⟩ := okb_s hf
        refine va_iald (D := D) hx hb hK hP 1 0 rfl rfl (inb_s hz) dX1_hasRow_16 ?_
        refine lv_iand hx hb dX1_hasRow_17 ?_
        refine lv_aload_n hx hb dX1_hasRow_18 rfl (lv_at hl 0 rfl) ?_
        refine va_get (D := D) (ci := 1) (v := .ref (aG 1)) (C := RX1) (T := TX1) (N := 9) hx hb hts iX1 hown hK hP 0 rfl rfl 6 (by decide) (hts _ wd_82) (fun _ h9 => h9) rfl dX1_hasRow_19 ?_
        refine lv_iload_n hx hb dX1_hasRow_22 rfl (lv_at hl 2 rfl) ?_
        obtain ⟨hz, hf⟩ := okb_s hf
        refine va_iald (D := D) hx hb hK hP 1 0 rfl rfl (inb_s hz) dX1_hasRow_23 ?_
        refine lv_icmp_ne (tgt := 29) hx hb dX1_hasRow_24 (by decide) (fun c6 => ?_) (fun c6 => ?_)
        · replace hf := it_f c6 hf
          refine lv_iinc (v := (x2 + (1 : Int32))) (lv' := [(2, .int (x2 + (1 : Int32))), (0, .ref (aG 0)), (1, .int x1)]) hx hb dX1_hasRow_29 hl (k := 2) rfl rfl (by decide) rfl (fun ls hl => ?_)
          refine lv_goto (tgt := 2) hx hb dX1_hasRow_32 (by decide) ?_
          exact ih (x2 + (1 : Int32)) _ hf H locs ls hP hD hS (lv_sub hl [1, 2, 0] rfl) hE hR
        · replace hf := it_t c6 hf
          refine lv_iconst (v := (1 : Int32)) hx hb dX1_hasRow_27 (by decide) ?_
          obtain rfl := Option.some.inj hf
          exact hR _ rfl _ H locs ls rfl hP hD hS dX1_hasRow_28
  obtain ⟨u7, hg, hf⟩ := ob_s hf
  refine L2 _ (0 : Int32) u7 hg H locs ls hP hD hS (lv_sub hl [1, 2, 0] rfl) (fun e8 ee H locs ls hP hD hS hl => ?_) (fun r9 ee pc H locs ls hz hP hD hS hd => ?_)
  · subst ee
    replace hf := onS_r hf
    refine lv_iconst (v := (0 : Int32)) hx hb dX1_hasRow_35 (by decide) ?_
    obtain rfl := Option.some.inj hf
    exact kc_zret () hx hb hr hk hP hD hS rfl rfl dX1_hasRow_36
  · subst ee
    replace hf := onS_l hf
    obtain rfl := Option.some.inj hf
    exact kc_zret () hx hb hr hk hP hD hS rfl hz hd
abbrev rmX1_hasRowThrough : Room := { frames := 0, cells := 0, slots := 0, locals := 0 }
set_option maxHeartbeats 4000000 in
set_option maxRecDepth 100000 in
theorem metX1_hasRowThrough (l : Launch) (D : va_G) (cx : Nat → ClassId) (aG : Nat → Nat) (gw : Int32) (gh : Int32) (gk : Int32) (gq : Int32) (gr : Int32) (gj : Int32) (gR : Nat → Int32) (gT : Nat → Int32) (gC : Nat → Int32) (x1 : Int32) (x2 : Int32) (N : Nat) (sz : Nat) (v : Int32) (hf : fX1_hasRowThrough N gT gC x1 x2 = some v) : Met l yX1_hasRowThrough (.code yX1_hasRowThrough cX1_hasRowThrough 7 (some .boolean) :: kc_TB) rmX1_hasRowThrough (kc_Pre D cx (wG cx aG gw gh gk gq gr gj gR gT gC) [.ref (aG 0), .int x1, .int x2] sz) (kc_Pi D (fun _ : Unit => (wG cx aG gw gh gk gq gr gj gR gT gC)) v (va_A (wG cx aG gw gh gk gq gr gj gR gT gC) sz)) 0 0 (va_A (wG cx aG gw gh gk gq gr gj gR gT gC) sz) := by
  refine kc_entry (Qc := fun A => (kc_Pi D (fun _ : Unit => (wG cx aG gw gh gk gq gr gj gR gT gC)) v A)) (by decide) (Nat.le_of_ble_eq_true rfl) ?_
  intro p e s m below meth c A hx hb hr hk hml hown hin hts hN hK hP hD hS hA ls hl
  have hown : s.vm.findClass RX1 = some m.cls := hown
  have hl : lv_has ls 7 [(0, .ref (aG 0)), (1, .int x1), (2, .int x2)] := hl
  unfold fX1_hasRowThrough at hf
  have hP : va_P D classes (wG cx aG gw gh gk gq gr gj gR gT gC) s.heap := hP
  obtain ⟨H, hH⟩ : ∃ H, H = s.heap := ⟨_, rfl⟩
  obtain ⟨locs, hL⟩ : ∃ locs : List Loc, locs = [] := ⟨_, rfl⟩
  have hS : va_S A s.heap H locs := by rw [hH, hL]; exact hS
  have hP : va_P D classes (wG cx aG gw gh gk gq gr gj gR gT gC) H := by rw [hH]; exact hP
  suffices hW : W p l e rmX1_hasRowThrough s m ([.ref (aG 0), .int x1, .int x2] : List Value).toArray below meth c H locs 0 0 (MQ below (kc_Pi D (fun _ : Unit => (wG cx aG gw gh gk gq gr gj gR gT gC)) v A) ([.ref (aG 0), .int x1, .int x2] : List Value).toArray s 0 0 A) (F0 m 0 ls []) by rw [hH, hL] at hW; exact hW
  clear hH hL
  refine lv_iload_n hx hb dX1_hasRowThrough_0 rfl (lv_at hl 1 rfl) ?_
  refine lv_if_lt (tgt := 10) hx hb dX1_hasRowThrough_1 (by decide) (fun c5 => ?_) (fun c5 => ?_)
  · replace hf := it_t c5 hf
    refine lv_iconst (v := (0 : Int32)) hx hb dX1_hasRowThrough_10 (by decide) ?_
    obtain rfl := Option.some.inj hf
    exact kc_zret () hx hb hr hk hP hD hS rfl rfl dX1_hasRowThrough_11
  · replace hf := it_f c5 hf
    refine lv_iload_n hx hb dX1_hasRowThrough_4 rfl (lv_at hl 1 rfl) ?_
    refine lv_bipush (v := (16 : Int32)) hx hb dX1_hasRowThrough_5 (by decide) ?_
    refine lv_icmp_lt (tgt := 12) hx hb dX1_hasRowThrough_7 (by decide) (fun c6 => ?_) (fun c6 => ?_)
    · replace hf := it_t c6 hf
      refine lv_iload_n hx hb dX1_hasRowThrough_12 rfl (lv_at hl 1 rfl) ?_
      refine lv_bipush (v := (16 : Int32)) hx hb dX1_hasRowThrough_13 (by decide) ?_
      refine lv_imul hx hb dX1_hasRowThrough_15 ?_
      refine lv_istore_n (lv' := [(3, .int (x1 * (16 : Int32))), (0, .ref (aG 0)), (1, .int x1), (2, .int x2)]) hx hb dX1_hasRowThrough_16 rfl hl (by decide) rfl (fun ls hl => ?_)
      refine lv_iload_n hx hb dX1_hasRowThrough_17 rfl (lv_at hl 0 rfl) ?_
      refine lv_aload_n hx hb dX1_hasRowThrough_18 rfl (lv_at hl 1 rfl) ?_
      refine va_get (D := D) (ci := 1) (v := .ref (aG 3)) (C := RX1) (T := TX1) (N := 9) hx hb hts iX1 hown hK hP 0 rfl rfl 8 (by decide) (hts _ wd_84) (fun _ h9 => h9) rfl dX1_hasRowThrough_19 ?_
      refine lv_iload_n hx hb dX1_hasRowThrough_22 rfl (lv_at hl 2 rfl) ?_
      obtain ⟨hz, hf⟩ := okb_s hf
      refine va_iald (D := D) hx hb hK hP 3 0 rfl rfl (inb_s hz) dX1_hasRowThrough_23 ?_
      refine lv_iadd hx hb dX1_hasRowThrough_24 ?_
      refine lv_istore (lv' := [(4, .int ((x1 * (16 : Int32)) + (gC x1.toNatClampNeg))), (3, .int (x1 * (16 : Int32))), (0, .ref (aG 0)), (1, .int x1), (2, .int x2)]) hx hb dX1_hasRowThrough_25 hl (by decide) rfl (fun ls hl => ?_)
      refine lv_iload_n hx hb dX1_hasRowThrough_27 rfl (lv_at hl 1 rfl) ?_
      refine lv_istore (lv' := [(5, .int (x1 * (16 : Int32))), (4, .int ((x1 * (16 : Int32)) + (gC x1.toNatClampNeg))), (3, .int (x1 * (16 : Int32))), (0, .ref (aG 0)), (1, .int x1), (2, .int x2)]) hx hb dX1_hasRowThrough_28 hl (by decide) rfl (fun ls hl => ?_)
      have L30 : ∀ (ct : Nat) (x5 : Int32) (v30 : (Int32) ⊕ (Unit)), fX1_hasRowThrough_L30 N gT x2 ((x1 * (16 : Int32)) + (gC x1.toNatClampNeg)) ct x5 = some v30 → ∀ (H : Heap) (locs : List Loc) (ls : Array Slot), va_P D classes (wG cx aG gw gh gk gq gr gj gR gT gC) H → va_D A (wG cx aG gw gh gk gq gr gj gR gT gC) → va_S A s.heap H locs → lv_has ls 7 [(0, .ref (aG 0)), (2, .int x2), (4, .int ((x1 * (16 : Int32)) + (gC x1.toNatClampNeg))), (5, .int x5)] → (∀ (e30 : Unit), v30 = .inr e30 → ∀ (H : Heap) (locs : List Loc) (ls : Array Slot), va_P D classes (wG cx aG gw gh gk gq gr gj gR gT gC) H → va_D A (wG cx aG gw gh gk gq gr gj gR gT gC) → va_S A s.heap H locs → lv_has ls 7 [] → W p l e rmX1_hasRowThrough s m ([.ref (aG 0), .int x1, .int x2] : List Value).toArray below meth c H locs 0 0 (MQ below (kc_Pi D (fun _ : Unit => (wG cx aG gw gh gk gq gr gj gR gT gC)) v A) ([.ref (aG 0), .int x1, .int x2] : List Value).toArray s 0 0 A) (F0 m 63 ls [])) → (∀ (r30 : Int32), v30 = .inl r30 → ∀ (pc : Nat) (H : Heap) (locs : List Loc) (ls : Array Slot), narrow .boolean (.int r30) = .int r30 → va_P D classes (wG cx aG gw gh gk gq gr gj gR gT gC) H → va_D A (wG cx aG gw gh gk gq gr gj gR gT gC) → va_S A s.heap H locs → decode cX1_hasRowThrough pc = .ok (.ireturn, 1) → W p l e rmX1_hasRowThrough s m ([.ref (aG 0), .int x1, .int x2] : List Value).toArray below meth c H locs 0 0 (MQ below (kc_Pi D (fun _ : Unit => (wG cx aG gw gh gk gq gr gj gR gT gC)) v A) ([.ref (aG 0), .int x1, .int x2] : List Value).toArray s 0 0 A) (F0 m pc ls [.int r30])) → W p l e rmX1_hasRowThrough s m ([.ref (aG 0), .int x1, .int x2] : List Value).toArray below meth c H locs 0 0 (MQ below (kc_Pi D (fun _ : Unit => (wG cx aG gw gh gk gq gr gj gR gT gC)) v A) ([.ref (aG 0), .int x1, .int x2] : List Value).toArray s 0 0 A) (F0 m 30 ls []) := by
        intro ct
        induction ct with
        | zero =>
          intro x5 v30 hf
          exact absurd (show (none : Option ((Int32) ⊕ (Unit))) = some v30 from hf) (fun q => by cases q)
        | succ ct ih =>
          intro x5 v30 hf H locs ls hP hD hS hl hE hR
          rw [fX1_hasRowThrough_L30] at hf
          refine lv_iload hx hb dX1_hasRowThrough_30 (lv_at hl 3 rfl) ?_
          refine lv_iload hx hb dX1_hasRowThrough_32 (lv_at hl 2 rfl) ?_
          refine lv_icmp_ge (tgt := 63) hx hb dX1_hasRowThrough_34 (by decide) (fun c9 => ?_) (fun c9 => ?_)
          · replace hf := it_t c9 hf
            obtain rfl := Option.some.inj hf
            exact hE _ rfl H locs ls hP hD hS (lv_sub hl [] rfl)
          · replace hf := it_f c9 hf
            refine lv_aload_n hx hb dX1_hasRowThrough_37 rfl (lv_at hl 0 rfl) ?_
            refine va_get (D := D) (ci := 1) (v := .ref (aG 2)) (C := RX1) (T := TX1) (N := 9) hx hb hts iX1 hown hK hP 0 rfl rfl 7 (by decide) (hts _ wd_83) (fun _ h9 => h9) rfl dX1_hasRowThrough_38 ?_
            refine lv_iload hx hb dX1_hasRowThrough_41 (lv_at hl 3 rfl) ?_
            obtain ⟨hz, hf⟩ := okb_s hf
            refine va_iald (D := D) hx hb hK hP 2 0 rfl rfl (inb_s hz) dX1_hasRowThrough_43 ?_
            refine lv_istore (lv' := [(6, .int (gT x5.toNatClampNeg)), (0, .ref (aG 0)), (2, .int x2), (4, .int ((x1 * (16 : Int32)) + (gC x1.toNatClampNeg))), (5, .int x5)]) hx hb dX1_hasRowThrough_44 hl (by decide) rfl (fun ls hl => ?_)
            refine lv_iload_n hx hb dX1_hasRowThrough_46 rfl (lv_at hl 2 rfl) ?_
            refine lv_iload hx hb dX1_hasRowThrough_47 (lv_at hl 0 rfl) ?_
            refine lv_iand hx hb dX1_hasRowThrough_49 ?_
            refine lv_iload hx hb dX1_hasRowThrough_50 (lv_at hl 0 rfl) ?_
            refine lv_icmp_ne (tgt := 57) hx hb dX1_hasRowThrough_52 (by decide) (fun c10 => ?_) (fun c10 => ?_)
            · replace hf := it_f c10 hf
              refine lv_iinc (v := (x5 + (1 : Int32))) (lv' := [(5, .int (x5 + (1 : Int32))), (6, .int (gT x5.toNatClampNeg)), (0, .ref (aG 0)), (2, .int x2), (4, .int ((x1 * (16 : Int32)) + (gC x1.toNatClampNeg)))]) hx hb dX1_hasRowThrough_57 hl (k := 4) rfl rfl (by decide) rfl (fun ls hl => ?_)
              refine lv_goto (tgt := 30) hx hb dX1_hasRowThrough_60 (by decide) ?_
              exact ih (x5 + (1 : Int32)) _ hf H locs ls hP hD hS (lv_sub hl [2, 3, 4, 0] rfl) hE hR
            · replace hf := it_t c10 hf
              refine lv_iconst (v := (1 : Int32)) hx hb dX1_hasRowThrough_55 (by decide) ?_
              obtain rfl := Option.some.inj hf
              exact hR _ rfl _ H locs ls rfl hP hD hS dX1_hasRowThrough_56
      obtain ⟨u11, hg, hf⟩ := ob_s hf
      refine L30 _ (x1 * (16 : Int32)) u11 hg H locs ls hP hD hS (lv_sub hl [3, 5, 1, 0] rfl) (fun e12 ee H locs ls hP hD hS hl => ?_) (fun r13 ee pc H locs ls hz hP hD hS hd => ?_)
      · subst ee
        replace hf := onS_r hf
        refine lv_iconst (v := (0 : Int32)) hx hb dX1_hasRowThrough_63 (by decide) ?_
        obtain rfl := Option.some.inj hf
        exact kc_zret () hx hb hr hk hP hD hS rfl rfl dX1_hasRowThrough_64
      · subst ee
        replace hf := onS_l hf
        obtain rfl := Option.some.inj hf
        exact kc_zret () hx hb hr hk hP hD hS rfl hz hd
    · replace hf := it_f c6 hf
      refine lv_iconst (v := (0 : Int32)) hx hb dX1_hasRowThrough_10 (by decide) ?_
      obtain rfl := Option.some.inj hf
      exact kc_zret () hx hb hr hk hP hD hS rfl rfl dX1_hasRowThrough_11
abbrev rmX1_rowsWithout : Room := { frames := 0, cells := 0, slots := 0, locals := 0 }
set_option maxHeartbeats 4000000 in
set_option maxRecDepth 100000 in
theorem metX1_rowsWithout (l : Launch) (D : va_G) (cx : Nat → ClassId) (aG : Nat → Nat) (gw : Int32) (gh : Int32) (gk : Int32) (gq : Int32) (gr : Int32) (gj : Int32) (gR : Nat → Int32) (gT : Nat → Int32) (gC : Nat → Int32) (x1 : Int32) (N : Nat) (sz : Nat) (v : Int32) (hf : fX1_rowsWithout N gr gR x1 = some v) : Met l yX1_rowsWithout (.code yX1_rowsWithout cX1_rowsWithout 4 (some .int) :: kc_TB) rmX1_rowsWithout (kc_Pre D cx (wG cx aG gw gh gk gq gr gj gR gT gC) [.ref (aG 0), .int x1] sz) (kc_Pi D (fun _ : Unit => (wG cx aG gw gh gk gq gr gj gR gT gC)) v (va_A (wG cx aG gw gh gk gq gr gj gR gT gC) sz)) 0 0 (va_A (wG cx aG gw gh gk gq gr gj gR gT gC) sz) := by
  refine kc_entry (Qc := fun A => (kc_Pi D (fun _ : Unit => (wG cx aG gw gh gk gq gr gj gR gT gC)) v A)) (by decide) (Nat.le_of_ble_eq_true rfl) ?_
  intro p e s m below meth c A hx hb hr hk hml hown hin hts hN hK hP hD hS hA ls hl
  have hown : s.vm.findClass RX1 = some m.cls := hown
  have hl : lv_has ls 4 [(0, .ref (aG 0)), (1, .int x1)] := hl
  unfold fX1_rowsWithout at hf
  have hP : va_P D classes (wG cx aG gw gh gk gq gr gj gR gT gC) s.heap := hP
  obtain ⟨H, hH⟩ : ∃ H, H = s.heap := ⟨_, rfl⟩
  obtain ⟨locs, hL⟩ : ∃ locs : List Loc, locs = [] := ⟨_, rfl⟩
  have hS : va_S A s.heap H locs := by rw [hH, hL]; exact hS
  have hP : va_P D classes (wG cx aG gw gh gk gq gr gj gR gT gC) H := by rw [hH]; exact hP
  suffices hW : W p l e rmX1_rowsWithout s m ([.ref (aG 0), .int x1] : List Value).toArray below meth c H locs 0 0 (MQ below (kc_Pi D (fun _ : Unit => (wG cx aG gw gh gk gq gr gj gR gT gC)) v A) ([.ref (aG 0), .int x1] : List Value).toArray s 0 0 A) (F0 m 0 ls []) by rw [hH, hL] at hW; exact hW
  clear hH hL
  refine lv_iconst (v := (0 : Int32)) hx hb dX1_rowsWithout_0 (by decide) ?_
  refine lv_istore_n (lv' := [(2, .int (0 : Int32)), (0, .ref (aG 0)), (1, .int x1)]) hx hb dX1_rowsWithout_1 rfl hl (by decide) rfl (fun ls hl => ?_)
  refine lv_iconst (v := (0 : Int32)) hx hb dX1_rowsWithout_2 (by decide) ?_
  refine lv_istore_n (lv' := [(3, .int (0 : Int32)), (2, .int (0 : Int32)), (0, .ref (aG 0)), (1, .int x1)]) hx hb dX1_rowsWithout_3 rfl hl (by decide) rfl (fun ls hl => ?_)
  have L4 : ∀ (ct : Nat) (x2 : Int32) (x3 : Int32) (v4 : Int32), fX1_rowsWithout_L4 N gr gR x1 ct x2 x3 = some v4 → ∀ (H : Heap) (locs : List Loc) (ls : Array Slot), va_P D classes (wG cx aG gw gh gk gq gr gj gR gT gC) H → va_D A (wG cx aG gw gh gk gq gr gj gR gT gC) → va_S A s.heap H locs → lv_has ls 4 [(0, .ref (aG 0)), (1, .int x1), (2, .int x2), (3, .int x3)] → (∀ (H : Heap) (locs : List Loc) (ls : Array Slot), va_P D classes (wG cx aG gw gh gk gq gr gj gR gT gC) H → va_D A (wG cx aG gw gh gk gq gr gj gR gT gC) → va_S A s.heap H locs → lv_has ls 4 [(2, .int v4)] → W p l e rmX1_rowsWithout s m ([.ref (aG 0), .int x1] : List Value).toArray below meth c H locs 0 0 (MQ below (kc_Pi D (fun _ : Unit => (wG cx aG gw gh gk gq gr gj gR gT gC)) v A) ([.ref (aG 0), .int x1] : List Value).toArray s 0 0 A) (F0 m 32 ls [])) → W p l e rmX1_rowsWithout s m ([.ref (aG 0), .int x1] : List Value).toArray below meth c H locs 0 0 (MQ below (kc_Pi D (fun _ : Unit => (wG cx aG gw gh gk gq gr gj gR gT gC)) v A) ([.ref (aG 0), .int x1] : List Value).toArray s 0 0 A) (F0 m 4 ls []) := by
    intro ct
    induction ct with
    | zero =>
      intro x2 x3 v4 hf
      exact absurd (show (none : Option (Int32)) = some v4 from hf) (fun q => by cases q)
    | succ ct ih =>
      intro x2 x3 v4 hf H locs ls hP hD hS hl hE
      rw [fX1_rowsWithout_L4] at hf
      refine lv_iload_n hx hb dX1_rowsWithout_4 rfl (lv_at hl 3 rfl) ?_
      refine lv_aload_n hx hb dX1_rowsWithout_5 rfl (lv_at hl 0 rfl) ?_
      refine va_get (D := D) (ci := 1) (v := .int gr) (C := RX1) (T := TX1) (N := 9) hx hb hts iX1 hown hK hP 0 rfl rfl 4 (by decide) (hts _ wd_78) (fun _ h9 => h9) rfl dX1_rowsWithout_6 ?_
      refine lv_icmp_ge (tgt := 32) hx hb dX1_rowsWithout_9 (by decide) (fun c5 => ?_) (fun c5 => ?_)
      · replace hf := it_t c5 hf
        obtain rfl := Option.some.inj hf
        exact hE H locs ls hP hD hS (lv_sub hl [2] rfl)
      · replace hf := it_f c5 hf
        refine lv_iload_n hx hb dX1_rowsWithout_12 rfl (lv_at hl 1 rfl) ?_
        refine lv_aload_n hx hb dX1_rowsWithout_13 rfl (lv_at hl 0 rfl) ?_
        refine va_get (D := D) (ci := 1) (v := .ref (aG 1)) (C := RX1) (T := TX1) (N := 9) hx hb hts iX1 hown hK hP 0 rfl rfl 6 (by decide) (hts _ wd_82) (fun _ h9 => h9) rfl dX1_rowsWithout_14 ?_
        refine lv_iload_n hx hb dX1_rowsWithout_17 rfl (lv_at hl 3 rfl) ?_
        obtain ⟨hz, hf⟩ := okb_s hf
        refine va_iald (D := D) hx hb hK hP 1 0 rfl rfl (inb_s hz) dX1_rowsWithout_18 ?_
        refine lv_iand hx hb dX1_rowsWithout_19 ?_
        refine lv_if_ne (tgt := 26) hx hb dX1_rowsWithout_20 (by decide) (fun c6 => ?_) (fun c6 => ?_)
        · replace hf := it_f c6 hf
          refine lv_iinc (v := (x3 + (1 : Int32))) (lv' := [(3, .int (x3 + (1 : Int32))), (0, .ref (aG 0)), (1, .int x1), (2, .int x2)]) hx hb dX1_rowsWithout_26 hl (k := 3) rfl rfl (by decide) rfl (fun ls hl => ?_)
          refine lv_goto (tgt := 4) hx hb dX1_rowsWithout_29 (by decide) ?_
          exact ih x2 (x3 + (1 : Int32)) _ hf H locs ls hP hD hS (lv_sub hl [1, 2, 3, 0] rfl) hE
        · replace hf := it_t c6 hf
          refine lv_iinc (v := (x2 + (1 : Int32))) (lv' := [(2, .int (x2 + (1 : Int32))), (0, .ref (aG 0)), (1, .int x1), (3, .int x3)]) hx hb dX1_rowsWithout_23 hl (k := 2) rfl rfl (by decide) rfl (fun ls hl => ?_)
          refine lv_iinc (v := (x3 + (1 : Int32))) (lv' := [(3, .int (x3 + (1 : Int32))), (2, .int (x2 + (1 : Int32))), (0, .ref (aG 0)), (1, .int x1)]) hx hb dX1_rowsWithout_26 hl (k := 3) rfl rfl (by decide) rfl (fun ls hl => ?_)
          refine lv_goto (tgt := 4) hx hb dX1_rowsWithout_29 (by decide) ?_
          exact ih (x2 + (1 : Int32)) (x3 + (1 : Int32)) _ hf H locs ls hP hD hS (lv_sub hl [2, 3, 1, 0] rfl) hE
  obtain ⟨u7, hg, hf⟩ := ob_s hf
  refine L4 _ (0 : Int32) (0 : Int32) u7 hg H locs ls hP hD hS (lv_sub hl [2, 3, 1, 0] rfl) (fun H locs ls hP hD hS hl => ?_)
  refine lv_iload_n hx hb dX1_rowsWithout_32 rfl (lv_at hl 0 rfl) ?_
  obtain rfl := Option.some.inj hf
  exact kc_iret () hx hb hr hk hP hD hS rfl dX1_rowsWithout_33
abbrev rmX1_comesAhead : Room := { frames := 0, cells := 0, slots := 0, locals := 0 }
set_option maxHeartbeats 4000000 in
set_option maxRecDepth 100000 in
theorem metX1_comesAhead (l : Launch) (D : va_G) (cx : Nat → ClassId)   (x0 : Int32) (x1 : Int32) (N : Nat) (sz : Nat) (v : Int32) (hf : fX1_comesAhead N x0 x1 = some v) : Met l yX1_comesAhead (.code yX1_comesAhead cX1_comesAhead 3 (some .boolean) :: kc_TB) rmX1_comesAhead (kc_Pre D cx ([] : va_W) [.int x0, .int x1] sz) (kc_Pi D (fun _ : Unit => ([] : va_W)) v (va_A ([] : va_W) sz)) 0 0 (va_A ([] : va_W) sz) := by
  refine kc_entry (Qc := fun A => (kc_Pi D (fun _ : Unit => ([] : va_W)) v A)) (by decide) (Nat.le_of_ble_eq_true rfl) ?_
  intro p e s m below meth c A hx hb hr hk hml hown hin hts hN hK hP hD hS hA ls hl
  have hown : s.vm.findClass RX1 = some m.cls := hown
  have hl : lv_has ls 3 [(0, .int x0), (1, .int x1)] := hl
  unfold fX1_comesAhead at hf
  have hP : va_P D classes ([] : va_W) s.heap := hP
  obtain ⟨H, hH⟩ : ∃ H, H = s.heap := ⟨_, rfl⟩
  obtain ⟨locs, hL⟩ : ∃ locs : List Loc, locs = [] := ⟨_, rfl⟩
  have hS : va_S A s.heap H locs := by rw [hH, hL]; exact hS
  have hP : va_P D classes ([] : va_W) H := by rw [hH]; exact hP
  suffices hW : W p l e rmX1_comesAhead s m ([.int x0, .int x1] : List Value).toArray below meth c H locs 0 0 (MQ below (kc_Pi D (fun _ : Unit => ([] : va_W)) v A) ([.int x0, .int x1] : List Value).toArray s 0 0 A) (F0 m 0 ls []) by rw [hH, hL] at hW; exact hW
  clear hH hL
  refine lv_iload_n hx hb dX1_comesAhead_0 rfl (lv_at hl 0 rfl) ?_
  refine lv_iload_n hx hb dX1_comesAhead_1 rfl (lv_at hl 1 rfl) ?_
  refine lv_ixor hx hb dX1_comesAhead_2 ?_
  refine lv_istore_n (lv' := [(2, .int (x0 ^^^ x1)), (0, .int x0), (1, .int x1)]) hx hb dX1_comesAhead_3 rfl hl (by decide) rfl (fun ls hl => ?_)
  refine lv_iload_n hx hb dX1_comesAhead_4 rfl (lv_at hl 1 rfl) ?_
  refine lv_iload_n hx hb dX1_comesAhead_5 rfl (lv_at hl 0 rfl) ?_
  refine lv_iand hx hb dX1_comesAhead_6 ?_
  refine lv_iload_n hx hb dX1_comesAhead_7 rfl (lv_at hl 0 rfl) ?_
  refine lv_ineg hx hb dX1_comesAhead_8 ?_
  refine lv_iand hx hb dX1_comesAhead_9 ?_
  refine lv_if_eq (tgt := 17) hx hb dX1_comesAhead_10 (by decide) (fun c2 => ?_) (fun c2 => ?_)
  · replace hf := it_t c2 hf
    refine lv_iconst (v := (0 : Int32)) hx hb dX1_comesAhead_17 (by decide) ?_
    obtain rfl := Option.some.inj hf
    exact kc_zret () hx hb hr hk hP hD hS rfl rfl dX1_comesAhead_18
  · replace hf := it_f c2 hf
    refine lv_iconst (v := (1 : Int32)) hx hb dX1_comesAhead_13 (by decide) ?_
    refine lv_goto (tgt := 18) hx hb dX1_comesAhead_14 (by decide) ?_
    obtain rfl := Option.some.inj hf
    exact kc_zret () hx hb hr hk hP hD hS rfl rfl dX1_comesAhead_18
abbrev rmX1_firstRowOf : Room := { frames := 1, cells := 0, slots := 0, locals := 22 }
set_option maxHeartbeats 4000000 in
set_option maxRecDepth 100000 in
theorem metX1_firstRowOf (l : Launch) (D : va_G) (cx : Nat → ClassId) (aG : Nat → Nat) (gw : Int32) (gh : Int32) (gk : Int32) (gq : Int32) (gr : Int32) (gj : Int32) (gR : Nat → Int32) (gT : Nat → Int32) (gC : Nat → Int32) (x1 : Int32) (N : Nat) (sz : Nat) (v : Int32) (hf : fX1_firstRowOf N gr gR x1 = some v) : Met l yX1_firstRowOf (.code yX1_firstRowOf cX1_firstRowOf 4 (some .int) :: kc_TB) rmX1_firstRowOf (kc_Pre D cx (wG cx aG gw gh gk gq gr gj gR gT gC) [.ref (aG 0), .int x1] sz) (kc_Pi D (fun _ : Unit => (wG cx aG gw gh gk gq gr gj gR gT gC)) v (va_A (wG cx aG gw gh gk gq gr gj gR gT gC) sz)) 0 0 (va_A (wG cx aG gw gh gk gq gr gj gR gT gC) sz) := by
  refine kc_entry (Qc := fun A => (kc_Pi D (fun _ : Unit => (wG cx aG gw gh gk gq gr gj gR gT gC)) v A)) (by decide) (Nat.le_of_ble_eq_true rfl) ?_
  intro p e s m below meth c A hx hb hr hk hml hown hin hts hN hK hP hD hS hA ls hl
  have hown : s.vm.findClass RX1 = some m.cls := hown
  have hl : lv_has ls 4 [(0, .ref (aG 0)), (1, .int x1)] := hl
  unfold fX1_firstRowOf at hf
  have hP : va_P D classes (wG cx aG gw gh gk gq gr gj gR gT gC) s.heap := hP
  obtain ⟨H, hH⟩ : ∃ H, H = s.heap := ⟨_, rfl⟩
  obtain ⟨locs, hL⟩ : ∃ locs : List Loc, locs = [] := ⟨_, rfl⟩
  have hS : va_S A s.heap H locs := by rw [hH, hL]; exact hS
  have hP : va_P D classes (wG cx aG gw gh gk gq gr gj gR gT gC) H := by rw [hH]; exact hP
  suffices hW : W p l e rmX1_firstRowOf s m ([.ref (aG 0), .int x1] : List Value).toArray below meth c H locs 0 0 (MQ below (kc_Pi D (fun _ : Unit => (wG cx aG gw gh gk gq gr gj gR gT gC)) v A) ([.ref (aG 0), .int x1] : List Value).toArray s 0 0 A) (F0 m 0 ls []) by rw [hH, hL] at hW; exact hW
  clear hH hL
  refine lv_iconst (v := (0 : Int32)) hx hb dX1_firstRowOf_0 (by decide) ?_
  refine lv_istore_n (lv' := [(2, .int (0 : Int32)), (0, .ref (aG 0)), (1, .int x1)]) hx hb dX1_firstRowOf_1 rfl hl (by decide) rfl (fun ls hl => ?_)
  refine lv_iconst (v := (0 : Int32)) hx hb dX1_firstRowOf_2 (by decide) ?_
  refine lv_istore_n (lv' := [(3, .int (0 : Int32)), (2, .int (0 : Int32)), (0, .ref (aG 0)), (1, .int x1)]) hx hb dX1_firstRowOf_3 rfl hl (by decide) rfl (fun ls hl => ?_)
  have L4 : ∀ (ct : Nat) (x2 : Int32) (x3 : Int32) (v4 : Int32), fX1_firstRowOf_L4 N gr gR x1 ct x2 x3 = some v4 → ∀ (H : Heap) (locs : List Loc) (ls : Array Slot), va_P D classes (wG cx aG gw gh gk gq gr gj gR gT gC) H → va_D A (wG cx aG gw gh gk gq gr gj gR gT gC) → va_S A s.heap H locs → lv_has ls 4 [(0, .ref (aG 0)), (1, .int x1), (2, .int x2), (3, .int x3)] → (∀ (H : Heap) (locs : List Loc) (ls : Array Slot), va_P D classes (wG cx aG gw gh gk gq gr gj gR gT gC) H → va_D A (wG cx aG gw gh gk gq gr gj gR gT gC) → va_S A s.heap H locs → lv_has ls 4 [(2, .int v4)] → W p l e rmX1_firstRowOf s m ([.ref (aG 0), .int x1] : List Value).toArray below meth c H locs 0 0 (MQ below (kc_Pi D (fun _ : Unit => (wG cx aG gw gh gk gq gr gj gR gT gC)) v A) ([.ref (aG 0), .int x1] : List Value).toArray s 0 0 A) (F0 m 59 ls [])) → W p l e rmX1_firstRowOf s m ([.ref (aG 0), .int x1] : List Value).toArray below meth c H locs 0 0 (MQ below (kc_Pi D (fun _ : Unit => (wG cx aG gw gh gk gq gr gj gR gT gC)) v A) ([.ref (aG 0), .int x1] : List Value).toArray s 0 0 A) (F0 m 4 ls []) := by
    intro ct
    induction ct with
    | zero =>
      intro x2 x3 v4 hf
      exact absurd (show (none : Option (Int32)) = some v4 from hf) (fun q => by cases q)
    | succ ct ih =>
      intro x2 x3 v4 hf H locs ls hP hD hS hl hE
      rw [fX1_firstRowOf_L4] at hf
      refine lv_iload_n hx hb dX1_firstRowOf_4 rfl (lv_at hl 3 rfl) ?_
      refine lv_aload_n hx hb dX1_firstRowOf_5 rfl (lv_at hl 0 rfl) ?_
      refine va_get (D := D) (ci := 1) (v := .int gr) (C := RX1) (T := TX1) (N := 9) hx hb hts iX1 hown hK hP 0 rfl rfl 4 (by decide) (hts _ wd_78) (fun _ h9 => h9) rfl dX1_firstRowOf_6 ?_
      refine lv_icmp_ge (tgt := 59) hx hb dX1_firstRowOf_9 (by decide) (fun c11 => ?_) (fun c11 => ?_)
      · replace hf := it_t c11 hf
        obtain rfl := Option.some.inj hf
        exact hE H locs ls hP hD hS (lv_sub hl [2] rfl)
      · replace hf := it_f c11 hf
        refine lv_iload_n hx hb dX1_firstRowOf_12 rfl (lv_at hl 1 rfl) ?_
        refine lv_aload_n hx hb dX1_firstRowOf_13 rfl (lv_at hl 0 rfl) ?_
        refine va_get (D := D) (ci := 1) (v := .ref (aG 1)) (C := RX1) (T := TX1) (N := 9) hx hb hts iX1 hown hK hP 0 rfl rfl 6 (by decide) (hts _ wd_82) (fun _ h9 => h9) rfl dX1_firstRowOf_14 ?_
        refine lv_iload_n hx hb dX1_firstRowOf_17 rfl (lv_at hl 3 rfl) ?_
        obtain ⟨hz, hf⟩ := okb_s hf
        refine va_iald (D := D) hx hb hK hP 1 0 rfl rfl (inb_s hz) dX1_firstRowOf_18 ?_
        refine lv_iand hx hb dX1_firstRowOf_19 ?_
        refine lv_aload_n hx hb dX1_firstRowOf_20 rfl (lv_at hl 0 rfl) ?_
        refine va_get (D := D) (ci := 1) (v := .ref (aG 1)) (C := RX1) (T := TX1) (N := 9) hx hb hts iX1 hown hK hP 0 rfl rfl 6 (by decide) (hts _ wd_82) (fun _ h9 => h9) rfl dX1_firstRowOf_21 ?_
        refine lv_iload_n hx hb dX1_firstRowOf_24 rfl (lv_at hl 3 rfl) ?_
        obtain ⟨hz, hf⟩ := okb_s hf
        refine va_iald (D := D) hx hb hK hP 1 0 rfl rfl (inb_s hz) dX1_firstRowOf_25 ?_
        refine lv_icmp_ne (tgt := 53) hx hb dX1_firstRowOf_26 (by decide) (fun c12 => ?_) (fun c12 => ?_)
        · replace hf := it_f c12 hf
          refine lv_iinc (v := (x3 + (1 : Int32))) (lv' := [(3, .int (x3 + (1 : Int32))), (0, .ref (aG 0)), (1, .int x1), (2, .int x2)]) hx hb dX1_firstRowOf_53 hl (k := 3) rfl rfl (by decide) rfl (fun ls hl => ?_)
          refine lv_goto (tgt := 4) hx hb dX1_firstRowOf_56 (by decide) ?_
          exact ih x2 (x3 + (1 : Int32)) _ hf H locs ls hP hD hS (lv_sub hl [1, 2, 3, 0] rfl) hE
        · replace hf := it_t c12 hf
          refine lv_iload_n hx hb dX1_firstRowOf_29 rfl (lv_at hl 2 rfl) ?_
          refine lv_if_eq (tgt := 46) hx hb dX1_firstRowOf_30 (by decide) (fun c13 => ?_) (fun c13 => ?_)
          · replace hf := it_t c13 hf
            refine lv_aload_n hx hb dX1_firstRowOf_46 rfl (lv_at hl 0 rfl) ?_
            refine va_get (D := D) (ci := 1) (v := .ref (aG 1)) (C := RX1) (T := TX1) (N := 9) hx hb hts iX1 hown hK hP 0 rfl rfl 6 (by decide) (hts _ wd_82) (fun _ h9 => h9) rfl dX1_firstRowOf_47 ?_
            refine lv_iload_n hx hb dX1_firstRowOf_50 rfl (lv_at hl 3 rfl) ?_
            obtain ⟨hz, hf⟩ := okb_s hf
            refine va_iald (D := D) hx hb hK hP 1 0 rfl rfl (inb_s hz) dX1_firstRowOf_51 ?_
            refine lv_istore_n (lv' := [(2, .int (gR x3.toNatClampNeg)), (0, .ref (aG 0)), (1, .int x1), (3, .int x3)]) hx hb dX1_firstRowOf_52 rfl hl (by decide) rfl (fun ls hl => ?_)
            refine lv_iinc (v := (x3 + (1 : Int32))) (lv' := [(3, .int (x3 + (1 : Int32))), (2, .int (gR x3.toNatClampNeg)), (0, .ref (aG 0)), (1, .int x1)]) hx hb dX1_firstRowOf_53 hl (k := 3) rfl rfl (by decide) rfl (fun ls hl => ?_)
            refine lv_goto (tgt := 4) hx hb dX1_firstRowOf_56 (by decide) ?_
            exact ih (gR x3.toNatClampNeg) (x3 + (1 : Int32)) _ hf H locs ls hP hD hS (lv_sub hl [2, 3, 1, 0] rfl) hE
          · replace hf := it_f c13 hf
            refine lv_aload_n hx hb dX1_firstRowOf_33 rfl (lv_at hl 0 rfl) ?_
            refine va_get (D := D) (ci := 1) (v := .ref (aG 1)) (C := RX1) (T := TX1) (N := 9) hx hb hts iX1 hown hK hP 0 rfl rfl 6 (by decide) (hts _ wd_82) (fun _ h9 => h9) rfl dX1_firstRowOf_34 ?_
            refine lv_iload_n hx hb dX1_firstRowOf_37 rfl (lv_at hl 3 rfl) ?_
            obtain ⟨hz, hf⟩ := okb_s hf
            refine va_iald (D := D) hx hb hK hP 1 0 rfl rfl (inb_s hz) dX1_firstRowOf_38 ?_
            refine lv_iload_n hx hb dX1_firstRowOf_39 rfl (lv_at hl 2 rfl) ?_
            obtain ⟨u14, hg, hf⟩ := ob_s hf
            refine kc_calli (wn := fun _ => (wG cx aG gw gh gk gq gr gj gR gT gC)) (va_runS (As := [.int (gR x3.toNatClampNeg), .int x2]) (rest := []) ⟨hx, hb, hml, hown, hts⟩ (metX1_comesAhead l D cx   (gR x3.toNatClampNeg) x2 N H.size u14 hg) ⟨callB_of 2 hts (kc_gI wd_342) rfl rfl rfl (hts _ wd_41) (hts _ wd_340) (by decide +kernel) ⟨Nat.le_of_ble_eq_true rfl, Nat.le_of_ble_eq_true rfl⟩, hts _ wd_341⟩ ⟨kc_blind _ _ _ _ _, kc_pre _ hK hN (hP.sub [] rfl) (hD.sub [] (by decide) rfl)⟩ rfl rfl hl.1 rfl (lv_room (Nat.le_of_ble_eq_true rfl)) dX1_firstRowOf_40 ⟨Nat.zero_le _, Nat.zero_le _⟩) hP hD hS hA [] [0, 1, 2, 3] [0, 1, 2, 3] rfl rfl (by decide) (by decide) (fun _ => rfl) (by decide) (fun _ H locs hP hD hS => ?_)
            have hP : va_P D classes (wG cx aG gw gh gk gq gr gj gR gT gC) H := hP
            have hD : va_D A (wG cx aG gw gh gk gq gr gj gR gT gC) := hD
            refine lv_if_eq (tgt := 53) hx hb dX1_firstRowOf_43 (by decide) (fun c15 => ?_) (fun c15 => ?_)
            · replace hf := it_t c15 hf
              refine lv_iinc (v := (x3 + (1 : Int32))) (lv' := [(3, .int (x3 + (1 : Int32))), (0, .ref (aG 0)), (1, .int x1), (2, .int x2)]) hx hb dX1_firstRowOf_53 hl (k := 3) rfl rfl (by decide) rfl (fun ls hl => ?_)
              refine lv_goto (tgt := 4) hx hb dX1_firstRowOf_56 (by decide) ?_
              exact ih x2 (x3 + (1 : Int32)) _ hf H locs ls hP hD hS (lv_sub hl [1, 2, 3, 0] rfl) hE
            · replace hf := it_f c15 hf
              refine lv_aload_n hx hb dX1_firstRowOf_46 rfl (lv_at hl 0 rfl) ?_
              refine va_get (D := D) (ci := 1) (v := .ref (aG 1)) (C := RX1) (T := TX1) (N := 9) hx hb hts iX1 hown hK hP 0 rfl rfl 6 (by decide) (hts _ wd_82) (fun _ h9 => h9) rfl dX1_firstRowOf_47 ?_
              refine lv_iload_n hx hb dX1_firstRowOf_50 rfl (lv_at hl 3 rfl) ?_
              obtain ⟨hz, hf⟩ := okb_s hf
              refine va_iald (D := D) hx hb hK hP 1 0 rfl rfl (inb_s hz) dX1_firstRowOf_51 ?_
              refine lv_istore_n (lv' := [(2, .int (gR x3.toNatClampNeg)), (0, .ref (aG 0)), (1, .int x1), (3, .int x3)]) hx hb dX1_firstRowOf_52 rfl hl (by decide) rfl (fun ls hl => ?_)
              refine lv_iinc (v := (x3 + (1 : Int32))) (lv' := [(3, .int (x3 + (1 : Int32))), (2, .int (gR x3.toNatClampNeg)), (0, .ref (aG 0)), (1, .int x1)]) hx hb dX1_firstRowOf_53 hl (k := 3) rfl rfl (by decide) rfl (fun ls hl => ?_)
              refine lv_goto (tgt := 4) hx hb dX1_firstRowOf_56 (by decide) ?_
              exact ih (gR x3.toNatClampNeg) (x3 + (1 : Int32)) _ hf H locs ls hP hD hS (lv_sub hl [2, 3, 1, 0] rfl) hE
  obtain ⟨u16, hg, hf⟩ := ob_s hf
  refine L4 _ (0 : Int32) (0 : Int32) u16 hg H locs ls hP hD hS (lv_sub hl [2, 3, 1, 0] rfl) (fun H locs ls hP hD hS hl => ?_)
  refine lv_iload_n hx hb dX1_firstRowOf_59 rfl (lv_at hl 0 rfl) ?_
  obtain rfl := Option.some.inj hf
  exact kc_iret () hx hb hr hk hP hD hS rfl dX1_firstRowOf_60
abbrev rmX1_imageOf : Room := { frames := 0, cells := 0, slots := 0, locals := 0 }
set_option maxHeartbeats 4000000 in
set_option maxRecDepth 100000 in
theorem metX1_imageOf (l : Launch) (D : va_G) (cx : Nat → ClassId) (aG : Nat → Nat) (gw : Int32) (gh : Int32) (gk : Int32) (gq : Int32) (gr : Int32) (gj : Int32) (gR : Nat → Int32) (gT : Nat → Int32) (gC : Nat → Int32) (x1 : Int32) (N : Nat) (sz : Nat) (v : Int32) (hf : fX1_imageOf N gw x1 = some v) : Met l yX1_imageOf (.code yX1_imageOf cX1_imageOf 3 (some .int) :: kc_TB) rmX1_imageOf (kc_Pre D cx (wG cx aG gw gh gk gq gr gj gR gT gC) [.ref (aG 0), .int x1] sz) (kc_Pi D (fun _ : Unit => (wG cx aG gw gh gk gq gr gj gR gT gC)) v (va_A (wG cx aG gw gh gk gq gr gj gR gT gC) sz)) 0 0 (va_A (wG cx aG gw gh gk gq gr gj gR gT gC) sz) := by
  refine kc_entry (Qc := fun A => (kc_Pi D (fun _ : Unit => (wG cx aG gw gh gk gq gr gj gR gT gC)) v A)) (by decide) (Nat.le_of_ble_eq_true rfl) ?_
  intro p e s m below meth c A hx hb hr hk hml hown hin hts hN hK hP hD hS hA ls hl
  have hown : s.vm.findClass RX1 = some m.cls := hown
  have hl : lv_has ls 3 [(0, .ref (aG 0)), (1, .int x1)] := hl
  unfold fX1_imageOf at hf
  have hP : va_P D classes (wG cx aG gw gh gk gq gr gj gR gT gC) s.heap := hP
  obtain ⟨H, hH⟩ : ∃ H, H = s.heap := ⟨_, rfl⟩
  obtain ⟨locs, hL⟩ : ∃ locs : List Loc, locs = [] := ⟨_, rfl⟩
  have hS : va_S A s.heap H locs := by rw [hH, hL]; exact hS
  have hP : va_P D classes (wG cx aG gw gh gk gq gr gj gR gT gC) H := by rw [hH]; exact hP
  suffices hW : W p l e rmX1_imageOf s m ([.ref (aG 0), .int x1] : List Value).toArray below meth c H locs 0 0 (MQ below (kc_Pi D (fun _ : Unit => (wG cx aG gw gh gk gq gr gj gR gT gC)) v A) ([.ref (aG 0), .int x1] : List Value).toArray s 0 0 A) (F0 m 0 ls []) by rw [hH, hL] at hW; exact hW
  clear hH hL
  refine lv_aload_n hx hb dX1_imageOf_0 rfl (lv_at hl 0 rfl) ?_
  refine va_get (D := D) (ci := 1) (v := .int gw) (C := RX1) (T := TX1) (N := 9) hx hb hts iX1 hown hK hP 0 rfl rfl 0 (by decide) (hts _ wd_64) (fun _ h9 => h9) rfl dX1_imageOf_1 ?_
  refine lv_iconst (v := (1 : Int32)) hx hb dX1_imageOf_4 (by decide) ?_
  refine lv_icmp_ge (tgt := 12) hx hb dX1_imageOf_5 (by decide) (fun c2 => ?_) (fun c2 => ?_)
  · replace hf := it_t c2 hf
    refine lv_iload_n hx hb dX1_imageOf_12 rfl (lv_at hl 1 rfl) ?_
    refine lv_aload_n hx hb dX1_imageOf_13 rfl (lv_at hl 0 rfl) ?_
    refine va_get (D := D) (ci := 1) (v := .int gw) (C := RX1) (T := TX1) (N := 9) hx hb hts iX1 hown hK hP 0 rfl rfl 0 (by decide) (hts _ wd_64) (fun _ h9 => h9) rfl dX1_imageOf_14 ?_
    obtain ⟨hz, hf⟩ := okb_s hf
    refine lv_irem hx hb dX1_imageOf_17 (by simpa using hz) ?_
    refine lv_istore_n (lv' := [(2, .int (x1 - x1 / gw * gw)), (0, .ref (aG 0)), (1, .int x1)]) hx hb dX1_imageOf_18 rfl hl (by decide) rfl (fun ls hl => ?_)
    refine lv_iload_n hx hb dX1_imageOf_19 rfl (lv_at hl 2 rfl) ?_
    refine lv_iload_n hx hb dX1_imageOf_20 rfl (lv_at hl 0 rfl) ?_
    refine lv_isub hx hb dX1_imageOf_21 ?_
    refine lv_aload_n hx hb dX1_imageOf_22 rfl (lv_at hl 1 rfl) ?_
    refine va_get (D := D) (ci := 1) (v := .int gw) (C := RX1) (T := TX1) (N := 9) hx hb hts iX1 hown hK hP 0 rfl rfl 0 (by decide) (hts _ wd_64) (fun _ h9 => h9) rfl dX1_imageOf_23 ?_
    refine lv_iconst (v := (1 : Int32)) hx hb dX1_imageOf_26 (by decide) ?_
    refine lv_isub hx hb dX1_imageOf_27 ?_
    refine lv_iload_n hx hb dX1_imageOf_28 rfl (lv_at hl 0 rfl) ?_
    refine lv_isub hx hb dX1_imageOf_29 ?_
    refine lv_iadd hx hb dX1_imageOf_30 ?_
    obtain rfl := Option.some.inj hf
    exact kc_iret () hx hb hr hk hP hD hS rfl dX1_imageOf_31
  · replace hf := it_f c2 hf
    refine lv_iconst (v := (0 : Int32)) hx hb dX1_imageOf_8 (by decide) ?_
    refine lv_goto (tgt := 18) hx hb dX1_imageOf_9 (by decide) ?_
    refine lv_istore_n (lv' := [(2, .int (0 : Int32)), (0, .ref (aG 0)), (1, .int x1)]) hx hb dX1_imageOf_18 rfl hl (by decide) rfl (fun ls hl => ?_)
    refine lv_iload_n hx hb dX1_imageOf_19 rfl (lv_at hl 2 rfl) ?_
    refine lv_iload_n hx hb dX1_imageOf_20 rfl (lv_at hl 0 rfl) ?_
    refine lv_isub hx hb dX1_imageOf_21 ?_
    refine lv_aload_n hx hb dX1_imageOf_22 rfl (lv_at hl 1 rfl) ?_
    refine va_get (D := D) (ci := 1) (v := .int gw) (C := RX1) (T := TX1) (N := 9) hx hb hts iX1 hown hK hP 0 rfl rfl 0 (by decide) (hts _ wd_64) (fun _ h9 => h9) rfl dX1_imageOf_23 ?_
    refine lv_iconst (v := (1 : Int32)) hx hb dX1_imageOf_26 (by decide) ?_
    refine lv_isub hx hb dX1_imageOf_27 ?_
    refine lv_iload_n hx hb dX1_imageOf_28 rfl (lv_at hl 0 rfl) ?_
    refine lv_isub hx hb dX1_imageOf_29 ?_
    refine lv_iadd hx hb dX1_imageOf_30 ?_
    obtain rfl := Option.some.inj hf
    exact kc_iret () hx hb hr hk hP hD hS rfl dX1_imageOf_31
