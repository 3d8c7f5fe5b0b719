/-! walks, written by program: what a method answers and leaves, as a function; its contract -/
abbrev rmX2_renew : Room := { frames := 1, cells := 0, slots := 0, locals := 23 }
set_option maxHeartbeats 4000000 in
set_option maxRecDepth 100000 in
theorem metX2_renew (l : Launch) (D : va_G) (cx : Nat → ClassId) (aH : Nat → Nat) (ql : Int32) (qf : Int32) (qz : Int32) (qi : Nat → Int32) (x1 : Int32) (x2 : Int32) (N : Nat) (sz : Nat) (v : Int32 × Int32 × Int32 × (Nat → Int32)) (hf : fX2_renew N qi x1 x2 = some v) : Met l yX2_renew (.code yX2_renew cX2_renew 3 none :: kc_TB) rmX2_renew (kc_Pre D cx (wH cx aH ql qf qz qi) [.ref (aH 0), .int x1, .int x2] sz) (kc_Pv D (fun _ : Unit => (wH cx aH v.1 v.2.1 v.2.2.1 v.2.2.2)) (va_A (wH cx aH ql qf qz qi) sz)) 0 0 (va_A (wH cx aH ql qf qz qi) sz) := by
  refine kc_entry (Qc := fun A => (kc_Pv D (fun _ : Unit => (wH cx aH v.1 v.2.1 v.2.2.1 v.2.2.2)) A)) (by decide) (Nat.le_of_ble_eq_true rfl) ?_
  intro p e s m below meth c A hx hb hr hk hml hown hin hts hN hK hP hD hS hA ls hl
  have hown : s.vm.findClass RX2 = some m.cls := hown
  have hl : lv_has ls 3 [(0, .ref (aH 0)), (1, .int x1), (2, .int x2)] := hl
  unfold fX2_renew at hf
  have hP : va_P D classes (wH cx aH ql qf qz qi) s.heap := hP
  obtain ⟨H, hH⟩ : ∃ H, H = s.heap := ⟨_, rfl⟩
  obtain ⟨locs, hL⟩ : ∃ locs : List Loc, locs = [] := ⟨_, rfl⟩
  have hS : va_S A s.heap H locs := by rw [hH, hL]; exact hS
  have hP : va_P D classes (wH cx aH ql qf qz qi) H := by rw [hH]; exact hP
  suffices hW : W p l e rmX2_renew s m ([.ref (aH 0), .int x1, .int x2] : List Value).toArray below meth c H locs 0 0 (MQ below (kc_Pv D (fun _ : Unit => (wH cx aH v.1 v.2.1 v.2.2.1 v.2.2.2)) A) ([.ref (aH 0), .int x1, .int x2] : List Value).toArray s 0 0 A) (F0 m 0 ls []) by rw [hH, hL] at hW; exact hW
  clear hH hL
  refine lv_aload_n hx hb dX2_renew_0 rfl (lv_at hl 0 rfl) ?_
  refine lv_iconst (v := (0 : Int32)) hx hb dX2_renew_1 (by decide) ?_
  refine va_put (D := D) (ci := 2) (v := .int (0 : Int32)) (ty := .boolean) (C := RX2) (T := TX2) (N := 4) hx hb hts iX2 tyX2 tyX2_ok nmX2 hown hK hP hD hS 0 rfl rfl 0 (by decide) (hts _ wd_209) (fun _ h9 => h9) rfl (by decide +kernel) rfl rfl (Nat.le_of_ble_eq_true rfl) dX2_renew_2 (fun H locs hP hD hS => ?_)
  have hP : va_P D classes (wH cx aH (0 : Int32) qf qz qi) H := hP
  have hD : va_D A (wH cx aH (0 : Int32) qf qz qi) := hD
  refine lv_aload_n hx hb dX2_renew_5 rfl (lv_at hl 0 rfl) ?_
  refine lv_iload_n hx hb dX2_renew_6 rfl (lv_at hl 1 rfl) ?_
  refine va_put (D := D) (ci := 2) (v := .int x1) (ty := .int) (C := RX2) (T := TX2) (N := 4) hx hb hts iX2 tyX2 tyX2_ok nmX2 hown hK hP hD hS 0 rfl rfl 1 (by decide) (hts _ wd_211) (fun _ h9 => h9) rfl (by decide +kernel) rfl rfl (Nat.le_of_ble_eq_true rfl) dX2_renew_7 (fun H locs hP hD hS => ?_)
  have hP : va_P D classes (wH cx aH (0 : Int32) x1 qz qi) H := hP
  have hD : va_D A (wH cx aH (0 : Int32) x1 qz qi) := hD
  refine lv_aload_n hx hb dX2_renew_10 rfl (lv_at hl 0 rfl) ?_
  refine lv_iload_n hx hb dX2_renew_11 rfl (lv_at hl 2 rfl) ?_
  refine va_put (D := D) (ci := 2) (v := .int x2) (ty := .int) (C := RX2) (T := TX2) (N := 4) hx hb hts iX2 tyX2 tyX2_ok nmX2 hown hK hP hD hS 0 rfl rfl 2 (by decide) (hts _ wd_213) (fun _ h9 => h9) rfl (by decide +kernel) rfl rfl (Nat.le_of_ble_eq_true rfl) dX2_renew_12 (fun H locs hP hD hS => ?_)
  have hP : va_P D classes (wH cx aH (0 : Int32) x1 x2 qi) H := hP
  have hD : va_D A (wH cx aH (0 : Int32) x1 x2 qi) := hD
  refine lv_aload_n hx hb dX2_renew_15 rfl (lv_at hl 0 rfl) ?_
  refine va_get (D := D) (ci := 2) (v := .ref (aH 1)) (C := RX2) (T := TX2) (N := 4) hx hb hts iX2 hown hK hP 0 rfl rfl 3 (by decide) (hts _ wd_215) (fun _ h9 => h9) rfl dX2_renew_16 ?_
  refine lv_iconst (v := (0 : Int32)) hx hb dX2_renew_19 (by decide) ?_
  obtain ⟨u2, hg, hf⟩ := ob_s hf
  refine kc_callv (wn := fun _ => (wH cx aH (0 : Int32) x1 x2 u2)) (va_runS (As := [.ref (aH 1), .int (0 : Int32)]) (rest := []) ⟨hx, hb, hml, hown, hts⟩ (metJ7_fill_53178 l D cx (aH 1) 20 qi (0 : Int32) N H.size u2 hg) ⟨callB_of 2 hts (kc_gI wd_111) rfl rfl rfl (hts _ wd_42) (hts _ wd_512) (by decide +kernel) ⟨Nat.le_of_ble_eq_true rfl, Nat.le_of_ble_eq_true rfl⟩, hts _ wd_110⟩ ⟨kc_blind _ _ _ _ _, kc_pre _ hK hN (hP.sub [1] rfl) (hD.sub [1] (by decide) rfl)⟩ rfl rfl hl.1 rfl (lv_room (Nat.le_of_ble_eq_true rfl)) dX2_renew_20 ⟨Nat.zero_le _, Nat.zero_le _⟩) hP hD hS hA [1] [0] [0, 1] rfl rfl (by decide) (by decide) (fun _ => rfl) (by decide) (fun _ H locs hP hD hS => ?_)
  have hP : va_P D classes (wH cx aH (0 : Int32) x1 x2 u2) H := hP
  have hD : va_D A (wH cx aH (0 : Int32) x1 x2 u2) := hD
  obtain rfl := Option.some.inj hf
  exact kc_vret () hx hb hr hk hP hD hS dX2_renew_23
abbrev rmX2_findingAt : Room := { frames := 1, cells := 0, slots := 0, locals := 22 }
set_option maxHeartbeats 4000000 in
set_option maxRecDepth 100000 in
theorem metX2_findingAt (l : Launch) (D : va_G) (cx : Nat → ClassId) (aH : Nat → Nat) (ql : Int32) (qf : Int32) (qz : Int32) (qi : Nat → Int32) (x1 : Int32) (x2 : Int32) (N : Nat) (sz : Nat) (v : Int32) (hf : fX2_findingAt N ql qf qz x1 x2 = some v) : Met l yX2_findingAt (.code yX2_findingAt cX2_findingAt 3 (some .int) :: kc_TB) rmX2_findingAt (kc_Pre D cx (wH cx aH ql qf qz qi) [.ref (aH 0), .int x1, .int x2] sz) (kc_Pi D (fun _ : Unit => (wH cx aH ql qf qz qi)) v (va_A (wH cx aH ql qf qz qi) sz)) 0 0 (va_A (wH cx aH ql qf qz qi) sz) := by
  refine kc_entry (Qc := fun A => (kc_Pi D (fun _ : Unit => (wH cx aH ql qf qz qi)) v A)) (by decide) (Nat.le_of_ble_eq_true rfl) ?_
  intro p e s m below meth c A hx hb hr hk hml hown hin hts hN hK hP hD hS hA ls hl
  have hown : s.vm.findClass RX2 = some m.cls := hown
  have hl : lv_has ls 3 [(0, .ref (aH 0)), (1, .int x1), (2, .int x2)] := hl
  unfold fX2_findingAt at hf
  have hP : va_P D classes (wH cx aH ql qf qz qi) s.heap := hP
  obtain ⟨H, hH⟩ : ∃ H, H = s.heap := ⟨_, rfl⟩
  obtain ⟨locs, hL⟩ : ∃ locs : List Loc, locs = [] := ⟨_, rfl⟩
  have hS : va_S A s.heap H locs := by rw [hH, hL]; exact hS
  have hP : va_P D classes (wH cx aH ql qf qz qi) H := by rw [hH]; exact hP
  suffices hW : W p l e rmX2_findingAt s m ([.ref (aH 0), .int x1, .int x2] : List Value).toArray below meth c H locs 0 0 (MQ below (kc_Pi D (fun _ : Unit => (wH cx aH ql qf qz qi)) v A) ([.ref (aH 0), .int x1, .int x2] : List Value).toArray s 0 0 A) (F0 m 0 ls []) by rw [hH, hL] at hW; exact hW
  clear hH hL
  refine lv_aload_n hx hb dX2_findingAt_0 rfl (lv_at hl 0 rfl) ?_
  refine va_get (D := D) (ci := 2) (v := .int ql) (C := RX2) (T := TX2) (N := 4) hx hb hts iX2 hown hK hP 0 rfl rfl 0 (by decide) (hts _ wd_209) (fun _ h9 => h9) rfl dX2_findingAt_1 ?_
  refine lv_if_eq (tgt := 9) hx hb dX2_findingAt_4 (by decide) (fun c5 => ?_) (fun c5 => ?_)
  · replace hf := it_t c5 hf
    refine lv_aload_n hx hb dX2_findingAt_9 rfl (lv_at hl 0 rfl) ?_
    refine va_get (D := D) (ci := 2) (v := .int qf) (C := RX2) (T := TX2) (N := 4) hx hb hts iX2 hown hK hP 0 rfl rfl 1 (by decide) (hts _ wd_211) (fun _ h9 => h9) rfl dX2_findingAt_10 ?_
    refine lv_iload_n hx hb dX2_findingAt_13 rfl (lv_at hl 1 rfl) ?_
    refine lv_icmp_eq (tgt := 19) hx hb dX2_findingAt_14 (by decide) (fun c6 => ?_) (fun c6 => ?_)
    · replace hf := it_t c6 hf
      refine lv_iload_n hx hb dX2_findingAt_19 rfl (lv_at hl 2 rfl) ?_
      refine lv_iconst (v := (0 : Int32)) hx hb dX2_findingAt_20 (by decide) ?_
      refine lv_aload_n hx hb dX2_findingAt_21 rfl (lv_at hl 0 rfl) ?_
      refine va_get (D := D) (ci := 2) (v := .int qz) (C := RX2) (T := TX2) (N := 4) hx hb hts iX2 hown hK hP 0 rfl rfl 2 (by decide) (hts _ wd_213) (fun _ h9 => h9) rfl dX2_findingAt_22 ?_
      refine lv_iconst (v := (1 : Int32)) hx hb dX2_findingAt_25 (by decide) ?_
      refine lv_isub hx hb dX2_findingAt_26 ?_
      obtain ⟨u7, hg, hf⟩ := ob_s hf
      refine kc_calli (wn := fun _ => (wH cx aH ql qf qz qi)) (va_runSN (As := [.int x2, .int (0 : Int32), .int (qz - (1 : Int32))]) (rest := []) ⟨hx, hb, hml, hown, hts⟩ (metX4_isWithin l D cx   x2 (0 : Int32) (qz - (1 : Int32)) N H.size u7 hg) ⟨va_cnB 3 hts (kc_gI wd_254) rfl rfl rfl hN.2.2 (hts _ wd_40) (by decide +kernel) ⟨Nat.le_of_ble_eq_true rfl, Nat.le_of_ble_eq_true rfl⟩, hts _ wd_253, trivial⟩ ⟨kc_blind _ _ _ _ _, kc_pre _ hK hN (hP.sub [] rfl) (hD.sub [] (by decide) rfl)⟩ rfl rfl hl.1 rfl (lv_room (Nat.le_of_ble_eq_true rfl)) dX2_findingAt_27 ⟨Nat.zero_le _, Nat.zero_le _⟩) hP hD hS hA [] [0, 1] [0, 1] rfl rfl (by decide) (by decide) (fun _ => rfl) (by decide) (fun _ H locs hP hD hS => ?_)
      have hP : va_P D classes (wH cx aH ql qf qz qi) H := hP
      have hD : va_D A (wH cx aH ql qf qz qi) := hD
      refine lv_if_eq (tgt := 37) hx hb dX2_findingAt_30 (by decide) (fun c8 => ?_) (fun c8 => ?_)
      · replace hf := it_t c8 hf
        refine lv_iconst (v := (2 : Int32)) hx hb dX2_findingAt_37 (by decide) ?_
        obtain rfl := Option.some.inj hf
        exact kc_iret () hx hb hr hk hP hD hS rfl dX2_findingAt_38
      · replace hf := it_f c8 hf
        refine lv_iconst (v := (0 : Int32)) hx hb dX2_findingAt_33 (by decide) ?_
        refine lv_goto (tgt := 38) hx hb dX2_findingAt_34 (by decide) ?_
        obtain rfl := Option.some.inj hf
        exact kc_iret () hx hb hr hk hP hD hS rfl dX2_findingAt_38
    · replace hf := it_f c6 hf
      refine lv_iconst (v := (3 : Int32)) hx hb dX2_findingAt_17 (by decide) ?_
      obtain rfl := Option.some.inj hf
      exact kc_iret () hx hb hr hk hP hD hS rfl dX2_findingAt_18
  · replace hf := it_f c5 hf
    refine lv_iconst (v := (1 : Int32)) hx hb dX2_findingAt_7 (by decide) ?_
    obtain rfl := Option.some.inj hf
    exact kc_iret () hx hb hr hk hP hD hS rfl dX2_findingAt_8
abbrev rmX2_hasPart : Room := { frames := 0, cells := 0, slots := 0, locals := 0 }
set_option maxHeartbeats 4000000 in
set_option maxRecDepth 100000 in
theorem metX2_hasPart (l : Launch) (D : va_G) (cx : Nat → ClassId) (aH : Nat → Nat) (ql : Int32) (qf : Int32) (qz : Int32) (qi : Nat → Int32) (x1 : Int32) (x2 : Int32) (N : Nat) (sz : Nat) (v : Int32) (hf : fX2_hasPart N qz x1 x2 = some v) : Met l yX2_hasPart (.code yX2_hasPart cX2_hasPart 3 (some .boolean) :: kc_TB) rmX2_hasPart (kc_Pre D cx (wH cx aH ql qf qz qi) [.ref (aH 0), .int x1, .int x2] sz) (kc_Pi D (fun _ : Unit => (wH cx aH ql qf qz qi)) v (va_A (wH cx aH ql qf qz qi) sz)) 0 0 (va_A (wH cx aH ql qf qz qi) sz) := by
  refine kc_entry (Qc := fun A => (kc_Pi D (fun _ : Unit => (wH cx aH ql qf qz qi)) v A)) (by decide) (Nat.le_of_ble_eq_true rfl) ?_
  intro p e s m below meth c A hx hb hr hk hml hown hin hts hN hK hP hD hS hA ls hl
  have hown : s.vm.findClass RX2 = some m.cls := hown
  have hl : lv_has ls 3 [(0, .ref (aH 0)), (1, .int x1), (2, .int x2)] := hl
  unfold fX2_hasPart at hf
  have hP : va_P D classes (wH cx aH ql qf qz qi) s.heap := hP
  obtain ⟨H, hH⟩ : ∃ H, H = s.heap := ⟨_, rfl⟩
  obtain ⟨locs, hL⟩ : ∃ locs : List Loc, locs = [] := ⟨_, rfl⟩
  have hS : va_S A s.heap H locs := by rw [hH, hL]; exact hS
  have hP : va_P D classes (wH cx aH ql qf qz qi) H := by rw [hH]; exact hP
  suffices hW : W p l e rmX2_hasPart s m ([.ref (aH 0), .int x1, .int x2] : List Value).toArray below meth c H locs 0 0 (MQ below (kc_Pi D (fun _ : Unit => (wH cx aH ql qf qz qi)) v A) ([.ref (aH 0), .int x1, .int x2] : List Value).toArray s 0 0 A) (F0 m 0 ls []) by rw [hH, hL] at hW; exact hW
  clear hH hL
  refine lv_iload_n hx hb dX2_hasPart_0 rfl (lv_at hl 2 rfl) ?_
  refine lv_if_lt (tgt := 30) hx hb dX2_hasPart_1 (by decide) (fun c5 => ?_) (fun c5 => ?_)
  · replace hf := it_t c5 hf
    refine lv_iconst (v := (0 : Int32)) hx hb dX2_hasPart_30 (by decide) ?_
    obtain rfl := Option.some.inj hf
    exact kc_zret () hx hb hr hk hP hD hS rfl rfl dX2_hasPart_31
  · replace hf := it_f c5 hf
    refine lv_iload_n hx hb dX2_hasPart_4 rfl (lv_at hl 2 rfl) ?_
    refine lv_aload_n hx hb dX2_hasPart_5 rfl (lv_at hl 0 rfl) ?_
    refine va_get (D := D) (ci := 2) (v := .int qz) (C := RX2) (T := TX2) (N := 4) hx hb hts iX2 hown hK hP 0 rfl rfl 2 (by decide) (hts _ wd_213) (fun _ h9 => h9) rfl dX2_hasPart_6 ?_
    refine lv_icmp_gt (tgt := 30) hx hb dX2_hasPart_9 (by decide) (fun c6 => ?_) (fun c6 => ?_)
    · replace hf := it_t c6 hf
      refine lv_iconst (v := (0 : Int32)) hx hb dX2_hasPart_30 (by decide) ?_
      obtain rfl := Option.some.inj hf
      exact kc_zret () hx hb hr hk hP hD hS rfl rfl dX2_hasPart_31
    · replace hf := it_f c6 hf
      refine lv_iload_n hx hb dX2_hasPart_12 rfl (lv_at hl 1 rfl) ?_
      refine lv_if_lt (tgt := 30) hx hb dX2_hasPart_13 (by decide) (fun c7 => ?_) (fun c7 => ?_)
      · replace hf := it_t c7 hf
        refine lv_iconst (v := (0 : Int32)) hx hb dX2_hasPart_30 (by decide) ?_
        obtain rfl := Option.some.inj hf
        exact kc_zret () hx hb hr hk hP hD hS rfl rfl dX2_hasPart_31
      · replace hf := it_f c7 hf
        refine lv_iload_n hx hb dX2_hasPart_16 rfl (lv_at hl 1 rfl) ?_
        refine lv_aload_n hx hb dX2_hasPart_17 rfl (lv_at hl 0 rfl) ?_
        refine va_get (D := D) (ci := 2) (v := .int qz) (C := RX2) (T := TX2) (N := 4) hx hb hts iX2 hown hK hP 0 rfl rfl 2 (by decide) (hts _ wd_213) (fun _ h9 => h9) rfl dX2_hasPart_18 ?_
        refine lv_iload_n hx hb dX2_hasPart_21 rfl (lv_at hl 2 rfl) ?_
        refine lv_isub hx hb dX2_hasPart_22 ?_
        refine lv_icmp_gt (tgt := 30) hx hb dX2_hasPart_23 (by decide) (fun c8 => ?_) (fun c8 => ?_)
        · replace hf := it_t c8 hf
          refine lv_iconst (v := (0 : Int32)) hx hb dX2_hasPart_30 (by decide) ?_
          obtain rfl := Option.some.inj hf
          exact kc_zret () hx hb hr hk hP hD hS rfl rfl dX2_hasPart_31
        · replace hf := it_f c8 hf
          refine lv_iconst (v := (1 : Int32)) hx hb dX2_hasPart_26 (by decide) ?_
          refine lv_goto (tgt := 31) hx hb dX2_hasPart_27 (by decide) ?_
          obtain rfl := Option.some.inj hf
          exact kc_zret () hx hb hr hk hP hD hS rfl rfl dX2_hasPart_31
abbrev rmX2_store : Room := { frames := 0, cells := 0, slots := 0, locals := 0 }
set_option maxHeartbeats 4000000 in
set_option maxRecDepth 100000 in
theorem metX2_store (l : Launch) (D : va_G) (cx : Nat → ClassId) (aH : Nat → Nat) (ql : Int32) (qf : Int32) (qz : Int32) (qi : Nat → Int32) (x1 : Int32) (x2 : Int32) (N : Nat) (sz : Nat) (v : (Nat → Int32)) (hf : fX2_store N qf qi x1 x2 = some v) : Met l yX2_store (.code yX2_store cX2_store 3 none :: kc_TB) rmX2_store (kc_Pre D cx (wH cx aH ql qf qz qi) [.ref (aH 0), .int x1, .int x2] sz) (kc_Pv D (fun _ : Unit => (wH cx aH ql qf qz v)) (va_A (wH cx aH ql qf qz qi) sz)) 0 0 (va_A (wH cx aH ql qf qz qi) sz) := by
  refine kc_entry (Qc := fun A => (kc_Pv D (fun _ : Unit => (wH cx aH ql qf qz v)) A)) (by decide) (Nat.le_of_ble_eq_true rfl) ?_
  intro p e s m below meth c A hx hb hr hk hml hown hin hts hN hK hP hD hS hA ls hl
  have hown : s.vm.findClass RX2 = some m.cls := hown
  have hl : lv_has ls 3 [(0, .ref (aH 0)), (1, .int x1), (2, .int x2)] := hl
  unfold fX2_store at hf
  have hP : va_P D classes (wH cx aH ql qf qz qi) s.heap := hP
  obtain ⟨H, hH⟩ : ∃ H, H = s.heap := ⟨_, rfl⟩
  obtain ⟨locs, hL⟩ : ∃ locs : List Loc, locs = [] := ⟨_, rfl⟩
  have hS : va_S A s.heap H locs := by rw [hH, hL]; exact hS
  have hP : va_P D classes (wH cx aH ql qf qz qi) H := by rw [hH]; exact hP
  suffices hW : W p l e rmX2_store s m ([.ref (aH 0), .int x1, .int x2] : List Value).toArray below meth c H locs 0 0 (MQ below (kc_Pv D (fun _ : Unit => (wH cx aH ql qf qz v)) A) ([.ref (aH 0), .int x1, .int x2] : List Value).toArray s 0 0 A) (F0 m 0 ls []) by rw [hH, hL] at hW; exact hW
  clear hH hL
  refine lv_aload_n hx hb dX2_store_0 rfl (lv_at hl 0 rfl) ?_
  refine va_get (D := D) (ci := 2) (v := .int qf) (C := RX2) (T := TX2) (N := 4) hx hb hts iX2 hown hK hP 0 rfl rfl 1 (by decide) (hts _ wd_211) (fun _ h9 => h9) rfl dX2_store_1 ?_
  refine lv_if_ne (tgt := 18) hx hb dX2_store_4 (by decide) (fun c3 => ?_) (fun c3 => ?_)
  · replace hf := it_f c3 hf
    refine lv_aload_n hx hb dX2_store_18 rfl (lv_at hl 0 rfl) ?_
    refine va_get (D := D) (ci := 2) (v := .int qf) (C := RX2) (T := TX2) (N := 4) hx hb hts iX2 hown hK hP 0 rfl rfl 1 (by decide) (hts _ wd_211) (fun _ h9 => h9) rfl dX2_store_19 ?_
    refine lv_iconst (v := (1 : Int32)) hx hb dX2_store_22 (by decide) ?_
    refine lv_icmp_ne (tgt := 37) hx hb dX2_store_23 (by decide) (fun c4 => ?_) (fun c4 => ?_)
    · replace hf := it_f c4 hf
      refine lv_aload_n hx hb dX2_store_37 rfl (lv_at hl 0 rfl) ?_
      refine va_get (D := D) (ci := 2) (v := .ref (aH 1)) (C := RX2) (T := TX2) (N := 4) hx hb hts iX2 hown hK hP 0 rfl rfl 3 (by decide) (hts _ wd_215) (fun _ h9 => h9) rfl dX2_store_38 ?_
      refine lv_iload_n hx hb dX2_store_41 rfl (lv_at hl 1 rfl) ?_
      refine lv_iload_n hx hb dX2_store_42 rfl (lv_at hl 2 rfl) ?_
      obtain ⟨hz, hf⟩ := okb_s hf
      refine va_iast (D := D) hx hb hK hP hD hS 1 0 rfl rfl (inb_s hz) dX2_store_43 (fun H locs hP hD hS => ?_)
      have hP : va_P D classes (wH cx aH ql qf qz (upd qi x1.toNatClampNeg x2)) H := hP
      have hD : va_D A (wH cx aH ql qf qz (upd qi x1.toNatClampNeg x2)) := hD
      obtain rfl := Option.some.inj hf
      exact kc_vret () hx hb hr hk hP hD hS dX2_store_44
    · replace hf := it_t c4 hf
      refine lv_aload_n hx hb dX2_store_26 rfl (lv_at hl 0 rfl) ?_
      refine va_get (D := D) (ci := 2) (v := .ref (aH 1)) (C := RX2) (T := TX2) (N := 4) hx hb hts iX2 hown hK hP 0 rfl rfl 3 (by decide) (hts _ wd_215) (fun _ h9 => h9) rfl dX2_store_27 ?_
      refine lv_iload_n hx hb dX2_store_30 rfl (lv_at hl 1 rfl) ?_
      refine lv_iload_n hx hb dX2_store_31 rfl (lv_at hl 2 rfl) ?_
      refine lv_i2s hx hb dX2_store_32 rfl ?_
      obtain ⟨hz, hf⟩ := okb_s hf
      refine va_iast (D := D) hx hb hK hP hD hS 1 0 rfl rfl (inb_s hz) dX2_store_33 (fun H locs hP hD hS => ?_)
      have hP : va_P D classes (wH cx aH ql qf qz (upd qi x1.toNatClampNeg x2.toInt16.toInt32)) H := hP
      have hD : va_D A (wH cx aH ql qf qz (upd qi x1.toNatClampNeg x2.toInt16.toInt32)) := hD
      refine lv_goto (tgt := 44) hx hb dX2_store_34 (by decide) ?_
      obtain rfl := Option.some.inj hf
      exact kc_vret () hx hb hr hk hP hD hS dX2_store_44
  · replace hf := it_t c3 hf
    refine lv_aload_n hx hb dX2_store_7 rfl (lv_at hl 0 rfl) ?_
    refine va_get (D := D) (ci := 2) (v := .ref (aH 1)) (C := RX2) (T := TX2) (N := 4) hx hb hts iX2 hown hK hP 0 rfl rfl 3 (by decide) (hts _ wd_215) (fun _ h9 => h9) rfl dX2_store_8 ?_
    refine lv_iload_n hx hb dX2_store_11 rfl (lv_at hl 1 rfl) ?_
    refine lv_iload_n hx hb dX2_store_12 rfl (lv_at hl 2 rfl) ?_
    refine lv_i2b hx hb dX2_store_13 rfl ?_
    obtain ⟨hz, hf⟩ := okb_s hf
    refine va_iast (D := D) hx hb hK hP hD hS 1 0 rfl rfl (inb_s hz) dX2_store_14 (fun H locs hP hD hS => ?_)
    have hP : va_P D classes (wH cx aH ql qf qz (upd qi x1.toNatClampNeg x2.toInt8.toInt32)) H := hP
    have hD : va_D A (wH cx aH ql qf qz (upd qi x1.toNatClampNeg x2.toInt8.toInt32)) := hD
    refine lv_goto (tgt := 44) hx hb dX2_store_15 (by decide) ?_
    obtain rfl := Option.some.inj hf
    exact kc_vret () hx hb hr hk hP hD hS dX2_store_44
