/-! walks, written by program: what a method answers and leaves, as a function; its contract -/
abbrev rmX0_clear : Room := { frames := 1, cells := 0, slots := 0, locals := 23 }
set_option maxHeartbeats 4000000 in
set_option maxRecDepth 100000 in
theorem metX0_clear (l : Launch) (D : va_G) (cx : Nat → ClassId) (aA : Nat → Nat) (aG : Nat → Nat) (mv : Int32) (mc : Nat → Int32) (mm : Nat → Int32) (mh : Nat → Int32) (gw : Int32) (gh : Int32) (gk : Int32) (gq : Int32) (gr : Int32) (gj : Int32) (gR : Nat → Int32) (gT : Nat → Int32) (gC : Nat → Int32)  (N : Nat) (sz : Nat) (v : Int32 × (Nat → Int32) × (Nat → Int32)) (hf : fX0_clear N mm mh = some v) : Met l yX0_clear (.code yX0_clear cX0_clear 1 none :: kc_TB) rmX0_clear (kc_Pre D cx (wA cx aA aG mv mc mm mh gw gh gk gq gr gj gR gT gC) [.ref (aA 0)] sz) (kc_Pv D (fun _ : Unit => (wA cx aA aG v.1 mc v.2.1 v.2.2 gw gh gk gq gr gj gR gT gC)) (va_A (wA cx aA aG mv mc mm mh gw gh gk gq gr gj gR gT gC) sz)) 0 0 (va_A (wA cx aA aG mv mc mm mh gw gh gk gq gr gj gR gT gC) sz) := by
  refine kc_entry (Qc := fun A => (kc_Pv D (fun _ : Unit => (wA cx aA aG v.1 mc v.2.1 v.2.2 gw gh gk gq gr gj gR gT gC)) A)) (by decide) (Nat.le_of_ble_eq_true rfl) ?_
  intro p e s m below meth c A hx hb hr hk hml hown hin hts hN hK hP hD hS hA ls hl
  have hown : s.vm.findClass RX0 = some m.cls := hown
  have hl : lv_has ls 1 [(0, .ref (aA 0))] := hl
  unfold fX0_clear at hf
  have hP : va_P D classes (wA cx aA aG mv mc mm mh gw gh gk gq gr gj gR gT gC) s.heap := hP
  obtain ⟨H, hH⟩ : ∃ H, H = s.heap := ⟨_, rfl⟩
  obtain ⟨locs, hL⟩ : ∃ locs : List Loc, locs = [] := ⟨_, rfl⟩
  have hS : va_S A s.heap H locs := by rw [hH, hL]; exact hS
  have hP : va_P D classes (wA cx aA aG mv mc mm mh gw gh gk gq gr gj gR gT gC) H := by rw [hH]; exact hP
  suffices hW : W p l e rmX0_clear s m ([.ref (aA 0)] : List Value).toArray below meth c H locs 0 0 (MQ below (kc_Pv D (fun _ : Unit => (wA cx aA aG v.1 mc v.2.1 v.2.2 gw gh gk gq gr gj gR gT gC)) A) ([.ref (aA 0)] : List Value).toArray s 0 0 A) (F0 m 0 ls []) by rw [hH, hL] at hW; exact hW
  clear hH hL
  refine lv_aload_n hx hb dX0_clear_0 rfl (lv_at hl 0 rfl) ?_
  refine lv_iconst (v := (0 : Int32)) hx hb dX0_clear_1 (by decide) ?_
  refine va_put (D := D) (ci := 0) (v := .int (0 : Int32)) (ty := .int) (C := RX0) (T := TX0) (N := 5) hx hb hts iX0 tyX0 tyX0_ok nmX0 hown hK hP hD hS 0 rfl rfl 4 (by decide) (hts _ wd_188) (fun _ h9 => h9) rfl (by decide +kernel) rfl rfl (Nat.le_of_ble_eq_true rfl) dX0_clear_2 (fun H locs hP hD hS => ?_)
  have hP : va_P D classes (wA cx aA aG (0 : Int32) mc mm mh gw gh gk gq gr gj gR gT gC) H := hP
  have hD : va_D A (wA cx aA aG (0 : Int32) mc mm mh gw gh gk gq gr gj gR gT gC) := hD
  refine lv_aload_n hx hb dX0_clear_5 rfl (lv_at hl 0 rfl) ?_
  refine va_get (D := D) (ci := 0) (v := .ref (aA 2)) (C := RX0) (T := TX0) (N := 5) hx hb hts iX0 hown hK hP 0 rfl rfl 2 (by decide) (hts _ wd_184) (fun _ h9 => h9) rfl dX0_clear_6 ?_
  refine lv_iconst (v := (0 : Int32)) hx hb dX0_clear_9 (by decide) ?_
  obtain ⟨u3, hg, hf⟩ := ob_s hf
  refine kc_callv (wn := fun _ => (wA cx aA aG (0 : Int32) mc u3 mh gw gh gk gq gr gj gR gT gC)) (va_runS (As := [.ref (aA 2), .int (0 : Int32)]) (rest := []) ⟨hx, hb, hml, hown, hts⟩ (metJ7_fill_53178 l D cx (aA 2) 2 mm (0 : Int32) N H.size u3 hg) ⟨callB_of 2 hts (kc_gI wd_111) rfl rfl rfl (hts _ wd_42) (hts _ wd_263) (by decide +kernel) ⟨Nat.le_of_ble_eq_true rfl, Nat.le_of_ble_eq_true rfl⟩, hts _ wd_110⟩ ⟨kc_blind _ _ _ _ _, kc_pre _ hK hN (hP.sub [2] rfl) (hD.sub [2] (by decide) rfl)⟩ rfl rfl hl.1 rfl (lv_room (Nat.le_of_ble_eq_true rfl)) dX0_clear_10 ⟨Nat.zero_le _, Nat.zero_le _⟩) hP hD hS hA [2] [0, 1, 3, 4, 5, 6, 7] [0, 1, 7, 2, 3, 4, 5, 6] rfl rfl (by decide) (by decide) (fun _ => rfl) (by decide) (fun _ H locs hP hD hS => ?_)
  have hP : va_P D classes (wA cx aA aG (0 : Int32) mc u3 mh gw gh gk gq gr gj gR gT gC) H := hP
  have hD : va_D A (wA cx aA aG (0 : Int32) mc u3 mh gw gh gk gq gr gj gR gT gC) := hD
  refine lv_aload_n hx hb dX0_clear_13 rfl (lv_at hl 0 rfl) ?_
  refine va_get (D := D) (ci := 0) (v := .ref (aA 3)) (C := RX0) (T := TX0) (N := 5) hx hb hts iX0 hown hK hP 0 rfl rfl 3 (by decide) (hts _ wd_187) (fun _ h9 => h9) rfl dX0_clear_14 ?_
  refine lv_iconst (v := (0 : Int32)) hx hb dX0_clear_17 (by decide) ?_
  obtain ⟨u4, hg, hf⟩ := ob_s hf
  refine kc_callv (wn := fun _ => (wA cx aA aG (0 : Int32) mc u3 u4 gw gh gk gq gr gj gR gT gC)) (va_runS (As := [.ref (aA 3), .int (0 : Int32)]) (rest := []) ⟨hx, hb, hml, hown, hts⟩ (metJ7_fill_53178 l D cx (aA 3) 7 mh (0 : Int32) N H.size u4 hg) ⟨callB_of 2 hts (kc_gI wd_111) rfl rfl rfl (hts _ wd_42) (hts _ wd_263) (by decide +kernel) ⟨Nat.le_of_ble_eq_true rfl, Nat.le_of_ble_eq_true rfl⟩, hts _ wd_110⟩ ⟨kc_blind _ _ _ _ _, kc_pre _ hK hN (hP.sub [3] rfl) (hD.sub [3] (by decide) rfl)⟩ rfl rfl hl.1 rfl (lv_room (Nat.le_of_ble_eq_true rfl)) dX0_clear_18 ⟨Nat.zero_le _, Nat.zero_le _⟩) hP hD hS hA [3] [0, 1, 2, 4, 5, 6, 7] [0, 1, 2, 7, 3, 4, 5, 6] rfl rfl (by decide) (by decide) (fun _ => rfl) (by decide) (fun _ H locs hP hD hS => ?_)
  have hP : va_P D classes (wA cx aA aG (0 : Int32) mc u3 u4 gw gh gk gq gr gj gR gT gC) H := hP
  have hD : va_D A (wA cx aA aG (0 : Int32) mc u3 u4 gw gh gk gq gr gj gR gT gC) := hD
  obtain rfl := Option.some.inj hf
  exact kc_vret () hx hb hr hk hP hD hS dX0_clear_21
abbrev rmX0_isOpen : Room := { frames := 1, cells := 0, slots := 0, locals := 22 }
set_option maxHeartbeats 4000000 in
set_option maxRecDepth 100000 in
theorem metX0_isOpen (l : Launch) (D : va_G) (cx : Nat → ClassId) (aA : Nat → Nat) (aG : Nat → Nat) (mv : Int32) (mc : Nat → Int32) (mm : Nat → Int32) (mh : Nat → Int32) (gw : Int32) (gh : Int32) (gk : Int32) (gq : Int32) (gr : Int32) (gj : Int32) (gR : Nat → Int32) (gT : Nat → Int32) (gC : Nat → Int32) (x1 : Int32) (N : Nat) (sz : Nat) (v : Int32) (hf : fX0_isOpen N mh gw gh x1 = some v) : Met l yX0_isOpen (.code yX0_isOpen cX0_isOpen 2 (some .boolean) :: kc_TB) rmX0_isOpen (kc_Pre D cx (wA cx aA aG mv mc mm mh gw gh gk gq gr gj gR gT gC) [.ref (aA 0), .int x1] sz) (kc_Pi D (fun _ : Unit => (wA cx aA aG mv mc mm mh gw gh gk gq gr gj gR gT gC)) v (va_A (wA cx aA aG mv mc mm mh gw gh gk gq gr gj gR gT gC) sz)) 0 0 (va_A (wA cx aA aG mv mc mm mh gw gh gk gq gr gj gR gT gC) sz) := by
  refine kc_entry (Qc := fun A => (kc_Pi D (fun _ : Unit => (wA cx aA aG mv mc mm mh gw gh gk gq gr gj gR gT gC)) v A)) (by decide) (Nat.le_of_ble_eq_true rfl) ?_
  intro p e s m below meth c A hx hb hr hk hml hown hin hts hN hK hP hD hS hA ls hl
  have hown : s.vm.findClass RX0 = some m.cls := hown
  have hl : lv_has ls 2 [(0, .ref (aA 0)), (1, .int x1)] := hl
  unfold fX0_isOpen at hf
  have hP : va_P D classes (wA cx aA aG mv mc mm mh gw gh gk gq gr gj gR gT gC) s.heap := hP
  obtain ⟨H, hH⟩ : ∃ H, H = s.heap := ⟨_, rfl⟩
  obtain ⟨locs, hL⟩ : ∃ locs : List Loc, locs = [] := ⟨_, rfl⟩
  have hS : va_S A s.heap H locs := by rw [hH, hL]; exact hS
  have hP : va_P D classes (wA cx aA aG mv mc mm mh gw gh gk gq gr gj gR gT gC) H := by rw [hH]; exact hP
  suffices hW : W p l e rmX0_isOpen s m ([.ref (aA 0), .int x1] : List Value).toArray below meth c H locs 0 0 (MQ below (kc_Pi D (fun _ : Unit => (wA cx aA aG mv mc mm mh gw gh gk gq gr gj gR gT gC)) v A) ([.ref (aA 0), .int x1] : List Value).toArray s 0 0 A) (F0 m 0 ls []) by rw [hH, hL] at hW; exact hW
  clear hH hL
  refine lv_iload_n hx hb dX0_isOpen_0 rfl (lv_at hl 1 rfl) ?_
  refine lv_iconst (v := (0 : Int32)) hx hb dX0_isOpen_1 (by decide) ?_
  refine lv_aload_n hx hb dX0_isOpen_2 rfl (lv_at hl 0 rfl) ?_
  refine va_get (D := D) (ci := 0) (v := .ref (aG 0)) (C := RX0) (T := TX0) (N := 5) hx hb hts iX0 hown hK hP 0 rfl rfl 0 (by decide) (hts _ wd_180) (fun _ h9 => h9) rfl dX0_isOpen_3 ?_
  refine va_get (D := D) (ci := 1) (v := .int gw) (C := RX1) (T := TX1) (N := 9) hx hb hts iX1 hown hK hP 4 rfl rfl 0 (by decide) (hts _ wd_66) (fun _ h9 => h9) rfl dX0_isOpen_6 ?_
  refine lv_iconst (v := (1 : Int32)) hx hb dX0_isOpen_9 (by decide) ?_
  refine lv_isub hx hb dX0_isOpen_10 ?_
  obtain ⟨u4, hg, hf⟩ := ob_s hf
  refine kc_calli (wn := fun _ => (wA cx aA aG mv mc mm mh gw gh gk gq gr gj gR gT gC)) (va_runSN (As := [.int x1, .int (0 : Int32), .int (gw - (1 : Int32))]) (rest := []) ⟨hx, hb, hml, hown, hts⟩ (metX4_isWithin l D cx   x1 (0 : Int32) (gw - (1 : Int32)) N H.size u4 hg) ⟨va_cnB 3 hts (kc_gI wd_254) rfl rfl rfl hN.1 (hts _ wd_40) (by decide +kernel) ⟨Nat.le_of_ble_eq_true rfl, Nat.le_of_ble_eq_true rfl⟩, hts _ wd_253, trivial⟩ ⟨kc_blind _ _ _ _ _, kc_pre _ hK hN (hP.sub [] rfl) (hD.sub [] (by decide) rfl)⟩ rfl rfl hl.1 rfl (lv_room (Nat.le_of_ble_eq_true rfl)) dX0_isOpen_11 ⟨Nat.zero_le _, Nat.zero_le _⟩) hP hD hS hA [] [0, 1, 2, 3, 4, 5, 6, 7] [0, 1, 2, 3, 4, 5, 6, 7] rfl rfl (by decide) (by decide) (fun _ => rfl) (by decide) (fun _ H locs hP hD hS => ?_)
  have hP : va_P D classes (wA cx aA aG mv mc mm mh gw gh gk gq gr gj gR gT gC) H := hP
  have hD : va_D A (wA cx aA aG mv mc mm mh gw gh gk gq gr gj gR gT gC) := hD
  refine lv_if_eq (tgt := 37) hx hb dX0_isOpen_14 (by decide) (fun c5 => ?_) (fun c5 => ?_)
  · replace hf := it_t c5 hf
    refine lv_iconst (v := (0 : Int32)) hx hb dX0_isOpen_37 (by decide) ?_
    obtain rfl := Option.some.inj hf
    exact kc_zret () hx hb hr hk hP hD hS rfl rfl dX0_isOpen_38
  · replace hf := it_f c5 hf
    refine lv_aload_n hx hb dX0_isOpen_17 rfl (lv_at hl 0 rfl) ?_
    refine va_get (D := D) (ci := 0) (v := .ref (aA 3)) (C := RX0) (T := TX0) (N := 5) hx hb hts iX0 hown hK hP 0 rfl rfl 3 (by decide) (hts _ wd_187) (fun _ h9 => h9) rfl dX0_isOpen_18 ?_
    refine lv_iload_n hx hb dX0_isOpen_21 rfl (lv_at hl 1 rfl) ?_
    obtain ⟨hz, hf⟩ := okb_s hf
    refine va_iald (D := D) hx hb hK hP 3 0 rfl rfl (inb_s hz) dX0_isOpen_22 ?_
    refine lv_aload_n hx hb dX0_isOpen_23 rfl (lv_at hl 0 rfl) ?_
    refine va_get (D := D) (ci := 0) (v := .ref (aG 0)) (C := RX0) (T := TX0) (N := 5) hx hb hts iX0 hown hK hP 0 rfl rfl 0 (by decide) (hts _ wd_180) (fun _ h9 => h9) rfl dX0_isOpen_24 ?_
    refine va_get (D := D) (ci := 1) (v := .int gh) (C := RX1) (T := TX1) (N := 9) hx hb hts iX1 hown hK hP 4 rfl rfl 1 (by decide) (hts _ wd_70) (fun _ h9 => h9) rfl dX0_isOpen_27 ?_
    refine lv_icmp_ge (tgt := 37) hx hb dX0_isOpen_30 (by decide) (fun c6 => ?_) (fun c6 => ?_)
    · replace hf := it_t c6 hf
      refine lv_iconst (v := (0 : Int32)) hx hb dX0_isOpen_37 (by decide) ?_
      obtain rfl := Option.some.inj hf
      exact kc_zret () hx hb hr hk hP hD hS rfl rfl dX0_isOpen_38
    · replace hf := it_f c6 hf
      refine lv_iconst (v := (1 : Int32)) hx hb dX0_isOpen_33 (by decide) ?_
      refine lv_goto (tgt := 38) hx hb dX0_isOpen_34 (by decide) ?_
      obtain rfl := Option.some.inj hf
      exact kc_zret () hx hb hr hk hP hD hS rfl rfl dX0_isOpen_38
abbrev rmX0_squareIn : Room := { frames := 0, cells := 0, slots := 0, locals := 0 }
set_option maxHeartbeats 4000000 in
set_option maxRecDepth 100000 in
theorem metX0_squareIn (l : Launch) (D : va_G) (cx : Nat → ClassId) (aA : Nat → Nat) (aG : Nat → Nat) (mv : Int32) (mc : Nat → Int32) (mm : Nat → Int32) (mh : Nat → Int32) (gw : Int32) (gh : Int32) (gk : Int32) (gq : Int32) (gr : Int32) (gj : Int32) (gR : Nat → Int32) (gT : Nat → Int32) (gC : Nat → Int32) (x1 : Int32) (N : Nat) (sz : Nat) (v : Int32) (hf : fX0_squareIn N mh gw x1 = some v) : Met l yX0_squareIn (.code yX0_squareIn cX0_squareIn 2 (some .int) :: kc_TB) rmX0_squareIn (kc_Pre D cx (wA cx aA aG mv mc mm mh gw gh gk gq gr gj gR gT gC) [.ref (aA 0), .int x1] sz) (kc_Pi D (fun _ : Unit => (wA cx aA aG mv mc mm mh gw gh gk gq gr gj gR gT gC)) v (va_A (wA cx aA aG mv mc mm mh gw gh gk gq gr gj gR gT gC) sz)) 0 0 (va_A (wA cx aA aG mv mc mm mh gw gh gk gq gr gj gR gT gC) sz) := by
  refine kc_entry (Qc := fun A => (kc_Pi D (fun _ : Unit => (wA cx aA aG mv mc mm mh gw gh gk gq gr gj gR gT gC)) v A)) (by decide) (Nat.le_of_ble_eq_true rfl) ?_
  intro p e s m below meth c A hx hb hr hk hml hown hin hts hN hK hP hD hS hA ls hl
  have hown : s.vm.findClass RX0 = some m.cls := hown
  have hl : lv_has ls 2 [(0, .ref (aA 0)), (1, .int x1)] := hl
  unfold fX0_squareIn at hf
  have hP : va_P D classes (wA cx aA aG mv mc mm mh gw gh gk gq gr gj gR gT gC) s.heap := hP
  obtain ⟨H, hH⟩ : ∃ H, H = s.heap := ⟨_, rfl⟩
  obtain ⟨locs, hL⟩ : ∃ locs : List Loc, locs = [] := ⟨_, rfl⟩
  have hS : va_S A s.heap H locs := by rw [hH, hL]; exact hS
  have hP : va_P D classes (wA cx aA aG mv mc mm mh gw gh gk gq gr gj gR gT gC) H := by rw [hH]; exact hP
  suffices hW : W p l e rmX0_squareIn s m ([.ref (aA 0), .int x1] : List Value).toArray below meth c H locs 0 0 (MQ below (kc_Pi D (fun _ : Unit => (wA cx aA aG mv mc mm mh gw gh gk gq gr gj gR gT gC)) v A) ([.ref (aA 0), .int x1] : List Value).toArray s 0 0 A) (F0 m 0 ls []) by rw [hH, hL] at hW; exact hW
  clear hH hL
  refine lv_aload_n hx hb dX0_squareIn_0 rfl (lv_at hl 0 rfl) ?_
  refine va_get (D := D) (ci := 0) (v := .ref (aG 0)) (C := RX0) (T := TX0) (N := 5) hx hb hts iX0 hown hK hP 0 rfl rfl 0 (by decide) (hts _ wd_180) (fun _ h9 => h9) rfl dX0_squareIn_1 ?_
  refine va_get (D := D) (ci := 1) (v := .int gw) (C := RX1) (T := TX1) (N := 9) hx hb hts iX1 hown hK hP 4 rfl rfl 0 (by decide) (hts _ wd_66) (fun _ h9 => h9) rfl dX0_squareIn_4 ?_
  refine lv_aload_n hx hb dX0_squareIn_7 rfl (lv_at hl 0 rfl) ?_
  refine va_get (D := D) (ci := 0) (v := .ref (aA 3)) (C := RX0) (T := TX0) (N := 5) hx hb hts iX0 hown hK hP 0 rfl rfl 3 (by decide) (hts _ wd_187) (fun _ h9 => h9) rfl dX0_squareIn_8 ?_
  refine lv_iload_n hx hb dX0_squareIn_11 rfl (lv_at hl 1 rfl) ?_
  obtain ⟨hz, hf⟩ := okb_s hf
  refine va_iald (D := D) hx hb hK hP 3 0 rfl rfl (inb_s hz) dX0_squareIn_12 ?_
  refine lv_imul hx hb dX0_squareIn_13 ?_
  refine lv_iload_n hx hb dX0_squareIn_14 rfl (lv_at hl 1 rfl) ?_
  refine lv_iadd hx hb dX0_squareIn_15 ?_
  obtain rfl := Option.some.inj hf
  exact kc_iret () hx hb hr hk hP hD hS rfl dX0_squareIn_16
abbrev rmX0_side : Room := { frames := 0, cells := 0, slots := 0, locals := 0 }
set_option maxHeartbeats 4000000 in
set_option maxRecDepth 100000 in
theorem metX0_side (l : Launch) (D : va_G) (cx : Nat → ClassId) (aA : Nat → Nat) (aG : Nat → Nat) (mv : Int32) (mc : Nat → Int32) (mm : Nat → Int32) (mh : Nat → Int32) (gw : Int32) (gh : Int32) (gk : Int32) (gq : Int32) (gr : Int32) (gj : Int32) (gR : Nat → Int32) (gT : Nat → Int32) (gC : Nat → Int32)  (N : Nat) (sz : Nat) (v : Int32) (hf : fX0_side N mv = some v) : Met l yX0_side (.code yX0_side cX0_side 1 (some .int) :: kc_TB) rmX0_side (kc_Pre D cx (wA cx aA aG mv mc mm mh gw gh gk gq gr gj gR gT gC) [.ref (aA 0)] sz) (kc_Pi D (fun _ : Unit => (wA cx aA aG mv mc mm mh gw gh gk gq gr gj gR gT gC)) v (va_A (wA cx aA aG mv mc mm mh gw gh gk gq gr gj gR gT gC) sz)) 0 0 (va_A (wA cx aA aG mv mc mm mh gw gh gk gq gr gj gR gT gC) sz) := by
  refine kc_entry (Qc := fun A => (kc_Pi D (fun _ : Unit => (wA cx aA aG mv mc mm mh gw gh gk gq gr gj gR gT gC)) v A)) (by decide) (Nat.le_of_ble_eq_true rfl) ?_
  intro p e s m below meth c A hx hb hr hk hml hown hin hts hN hK hP hD hS hA ls hl
  have hown : s.vm.findClass RX0 = some m.cls := hown
  have hl : lv_has ls 1 [(0, .ref (aA 0))] := hl
  unfold fX0_side at hf
  have hP : va_P D classes (wA cx aA aG mv mc mm mh gw gh gk gq gr gj gR gT gC) s.heap := hP
  obtain ⟨H, hH⟩ : ∃ H, H = s.heap := ⟨_, rfl⟩
  obtain ⟨locs, hL⟩ : ∃ locs : List Loc, locs = [] := ⟨_, rfl⟩
  have hS : va_S A s.heap H locs := by rw [hH, hL]; exact hS
  have hP : va_P D classes (wA cx aA aG mv mc mm mh gw gh gk gq gr gj gR gT gC) H := by rw [hH]; exact hP
  suffices hW : W p l e rmX0_side s m ([.ref (aA 0)] : List Value).toArray below meth c H locs 0 0 (MQ below (kc_Pi D (fun _ : Unit => (wA cx aA aG mv mc mm mh gw gh gk gq gr gj gR gT gC)) v A) ([.ref (aA 0)] : List Value).toArray s 0 0 A) (F0 m 0 ls []) by rw [hH, hL] at hW; exact hW
  clear hH hL
  refine lv_aload_n hx hb dX0_side_0 rfl (lv_at hl 0 rfl) ?_
  refine va_get (D := D) (ci := 0) (v := .int mv) (C := RX0) (T := TX0) (N := 5) hx hb hts iX0 hown hK hP 0 rfl rfl 4 (by decide) (hts _ wd_188) (fun _ h9 => h9) rfl dX0_side_1 ?_
  refine lv_iconst (v := (1 : Int32)) hx hb dX0_side_4 (by decide) ?_
  refine lv_iand hx hb dX0_side_5 ?_
  obtain rfl := Option.some.inj hf
  exact kc_iret () hx hb hr hk hP hD hS rfl dX0_side_6
abbrev rmX0_make : Room := { frames := 2, cells := 0, slots := 0, locals := 43 }
set_option maxHeartbeats 4000000 in
set_option maxRecDepth 100000 in
theorem metX0_make (l : Launch) (D : va_G) (cx : Nat → ClassId) (aA : Nat → Nat) (aG : Nat → Nat) (mv : Int32) (mc : Nat → Int32) (mm : Nat → Int32) (mh : Nat → Int32) (gw : Int32) (gh : Int32) (gk : Int32) (gq : Int32) (gr : Int32) (gj : Int32) (gR : Nat → Int32) (gT : Nat → Int32) (gC : Nat → Int32) (x1 : Int32) (N : Nat) (sz : Nat) (v : Int32 × Int32 × (Nat → Int32) × (Nat → Int32) × (Nat → Int32)) (hf : fX0_make N mv mc mm mh gw gh x1 = some v) : Met l yX0_make (.code yX0_make cX0_make 3 (some .int) :: kc_TB) rmX0_make (kc_Pre D cx (wA cx aA aG mv mc mm mh gw gh gk gq gr gj gR gT gC) [.ref (aA 0), .int x1] sz) (kc_Pi D (fun _ : Unit => (wA cx aA aG v.2.1 v.2.2.1 v.2.2.2.1 v.2.2.2.2 gw gh gk gq gr gj gR gT gC)) v.1 (va_A (wA cx aA aG mv mc mm mh gw gh gk gq gr gj gR gT gC) sz)) 0 0 (va_A (wA cx aA aG mv mc mm mh gw gh gk gq gr gj gR gT gC) sz) := by
  refine kc_entry (Qc := fun A => (kc_Pi D (fun _ : Unit => (wA cx aA aG v.2.1 v.2.2.1 v.2.2.2.1 v.2.2.2.2 gw gh gk gq gr gj gR gT gC)) v.1 A)) (by decide) (Nat.le_of_ble_eq_true rfl) ?_
  intro p e s m below meth c A hx hb hr hk hml hown hin hts hN hK hP hD hS hA ls hl
  have hown : s.vm.findClass RX0 = some m.cls := hown
  have hl : lv_has ls 3 [(0, .ref (aA 0)), (1, .int x1)] := hl
  unfold fX0_make at hf
  have hP : va_P D classes (wA cx aA aG mv mc mm mh gw gh gk gq gr gj gR gT gC) s.heap := hP
  obtain ⟨H, hH⟩ : ∃ H, H = s.heap := ⟨_, rfl⟩
  obtain ⟨locs, hL⟩ : ∃ locs : List Loc, locs = [] := ⟨_, rfl⟩
  have hS : va_S A s.heap H locs := by rw [hH, hL]; exact hS
  have hP : va_P D classes (wA cx aA aG mv mc mm mh gw gh gk gq gr gj gR gT gC) H := by rw [hH]; exact hP
  suffices hW : W p l e rmX0_make s m ([.ref (aA 0), .int x1] : List Value).toArray below meth c H locs 0 0 (MQ below (kc_Pi D (fun _ : Unit => (wA cx aA aG v.2.1 v.2.2.1 v.2.2.2.1 v.2.2.2.2 gw gh gk gq gr gj gR gT gC)) v.1 A) ([.ref (aA 0), .int x1] : List Value).toArray s 0 0 A) (F0 m 0 ls []) by rw [hH, hL] at hW; exact hW
  clear hH hL
  refine lv_aload_n hx hb dX0_make_0 rfl (lv_at hl 0 rfl) ?_
  refine lv_iload_n hx hb dX0_make_1 rfl (lv_at hl 1 rfl) ?_
  obtain ⟨u6, hg, hf⟩ := ob_s hf
  refine kc_calli (wn := fun _ => (wA cx aA aG mv mc mm mh gw gh gk gq gr gj gR gT gC)) (va_runV (As := [.int x1]) (rest := []) ⟨hx, hb, hml, hown, hts⟩ (metX0_isOpen l D cx aA aG mv mc mm mh gw gh gk gq gr gj gR gT gC x1 N H.size u6 hg) ⟨callB_of 1 hts (kc_gI wd_271) rfl rfl rfl (hts _ wd_44) (hts _ wd_293) (by decide +kernel) ⟨Nat.le_of_ble_eq_true rfl, Nat.le_of_ble_eq_true rfl⟩, hts _ wd_269, hts _ wd_270⟩ ⟨kc_blind _ _ _ _ _, va_recv hK hP (ci := 0) (q0 := 0) rfl rfl, kc_pre _ hK hN (hP.sub [0, 1, 2, 3, 4, 5, 6, 7] rfl) (hD.sub [0, 1, 2, 3, 4, 5, 6, 7] (by decide) rfl)⟩ rfl rfl hl.1 rfl (lv_room (Nat.le_of_ble_eq_true rfl)) dX0_make_2 ⟨Nat.zero_le _, Nat.zero_le _⟩) hP hD hS hA [0, 1, 2, 3, 4, 5, 6, 7] [] [0, 1, 2, 3, 4, 5, 6, 7] rfl rfl (by decide) (by decide) (fun _ => rfl) (by decide) (fun _ H locs hP hD hS => ?_)
  have hP : va_P D classes (wA cx aA aG mv mc mm mh gw gh gk gq gr gj gR gT gC) H := hP
  have hD : va_D A (wA cx aA aG mv mc mm mh gw gh gk gq gr gj gR gT gC) := hD
  refine lv_if_eq (tgt := 17) hx hb dX0_make_5 (by decide) (fun c7 => ?_) (fun c7 => ?_)
  · replace hf := it_t c7 hf
    refine lv_iconst (v := (-1 : Int32)) hx hb dX0_make_17 (by decide) ?_
    obtain rfl := Option.some.inj hf
    exact kc_iret () hx hb hr hk hP hD hS rfl dX0_make_18
  · replace hf := it_f c7 hf
    refine lv_aload_n hx hb dX0_make_8 rfl (lv_at hl 0 rfl) ?_
    refine va_get (D := D) (ci := 0) (v := .int mv) (C := RX0) (T := TX0) (N := 5) hx hb hts iX0 hown hK hP 0 rfl rfl 4 (by decide) (hts _ wd_188) (fun _ h9 => h9) rfl dX0_make_9 ?_
    refine lv_bipush (v := (16 : Int32)) hx hb dX0_make_12 (by decide) ?_
    refine lv_icmp_lt (tgt := 19) hx hb dX0_make_14 (by decide) (fun c8 => ?_) (fun c8 => ?_)
    · replace hf := it_t c8 hf
      refine lv_aload_n hx hb dX0_make_19 rfl (lv_at hl 0 rfl) ?_
      refine lv_iload_n hx hb dX0_make_20 rfl (lv_at hl 1 rfl) ?_
      obtain ⟨u9, hg, hf⟩ := ob_s hf
      refine kc_calli (wn := fun _ => (wA cx aA aG mv mc mm mh gw gh gk gq gr gj gR gT gC)) (va_runV (As := [.int x1]) (rest := []) ⟨hx, hb, hml, hown, hts⟩ (metX0_squareIn l D cx aA aG mv mc mm mh gw gh gk gq gr gj gR gT gC x1 N H.size u9 hg) ⟨callB_of 1 hts (kc_gI wd_297) rfl rfl rfl (hts _ wd_44) (hts _ wd_294) (by decide +kernel) ⟨Nat.le_of_ble_eq_true rfl, Nat.le_of_ble_eq_true rfl⟩, hts _ wd_296, hts _ wd_4⟩ ⟨kc_blind _ _ _ _ _, va_recv hK hP (ci := 0) (q0 := 0) rfl rfl, kc_pre _ hK hN (hP.sub [0, 1, 2, 3, 4, 5, 6, 7] rfl) (hD.sub [0, 1, 2, 3, 4, 5, 6, 7] (by decide) rfl)⟩ rfl rfl hl.1 rfl (lv_room (Nat.le_of_ble_eq_true rfl)) dX0_make_21 ⟨Nat.zero_le _, Nat.zero_le _⟩) hP hD hS hA [0, 1, 2, 3, 4, 5, 6, 7] [] [0, 1, 2, 3, 4, 5, 6, 7] rfl rfl (by decide) (by decide) (fun _ => rfl) (by decide) (fun _ H locs hP hD hS => ?_)
      have hP : va_P D classes (wA cx aA aG mv mc mm mh gw gh gk gq gr gj gR gT gC) H := hP
      have hD : va_D A (wA cx aA aG mv mc mm mh gw gh gk gq gr gj gR gT gC) := hD
      refine lv_istore_n (lv' := [(2, .int u9), (0, .ref (aA 0)), (1, .int x1)]) hx hb dX0_make_24 rfl hl (by decide) rfl (fun ls hl => ?_)
      refine lv_aload_n hx hb dX0_make_25 rfl (lv_at hl 1 rfl) ?_
      refine va_get (D := D) (ci := 0) (v := .ref (aA 2)) (C := RX0) (T := TX0) (N := 5) hx hb hts iX0 hown hK hP 0 rfl rfl 2 (by decide) (hts _ wd_184) (fun _ h9 => h9) rfl dX0_make_26 ?_
      refine lv_aload_n hx hb dX0_make_29 rfl (lv_at hl 1 rfl) ?_
      obtain ⟨u10, hg, hf⟩ := ob_s hf
      refine kc_calli (wn := fun _ => (wA cx aA aG mv mc mm mh gw gh gk gq gr gj gR gT gC)) (va_runV (As := []) (rest := [.ref (aA 2)]) ⟨hx, hb, hml, hown, hts⟩ (metX0_side l D cx aA aG mv mc mm mh gw gh gk gq gr gj gR gT gC  N H.size u10 hg) ⟨callB_of 0 hts (kc_gI wd_284) rfl rfl rfl (hts _ wd_44) (hts _ wd_281) (by decide +kernel) ⟨Nat.le_of_ble_eq_true rfl, Nat.le_of_ble_eq_true rfl⟩, hts _ wd_282, hts _ wd_283⟩ ⟨kc_blind _ _ _ _ _, va_recv hK hP (ci := 0) (q0 := 0) rfl rfl, kc_pre _ hK hN (hP.sub [0, 1, 2, 3, 4, 5, 6, 7] rfl) (hD.sub [0, 1, 2, 3, 4, 5, 6, 7] (by decide) rfl)⟩ rfl rfl hl.1 rfl (lv_room (Nat.le_of_ble_eq_true rfl)) dX0_make_30 ⟨Nat.zero_le _, Nat.zero_le _⟩) hP hD hS hA [0, 1, 2, 3, 4, 5, 6, 7] [] [0, 1, 2, 3, 4, 5, 6, 7] rfl rfl (by decide) (by decide) (fun _ => rfl) (by decide) (fun _ H locs hP hD hS => ?_)
      have hP : va_P D classes (wA cx aA aG mv mc mm mh gw gh gk gq gr gj gR gT gC) H := hP
      have hD : va_D A (wA cx aA aG mv mc mm mh gw gh gk gq gr gj gR gT gC) := hD
      refine lv_dup2_11 hx hb dX0_make_33 rfl rfl ?_
      obtain ⟨hz, hf⟩ := okb_s hf
      refine va_iald (D := D) hx hb hK hP 2 0 rfl rfl (inb_s hz) dX0_make_34 ?_
      refine lv_iconst (v := (1 : Int32)) hx hb dX0_make_35 (by decide) ?_
      refine lv_iload_n hx hb dX0_make_36 rfl (lv_at hl 0 rfl) ?_
      refine lv_ishl hx hb dX0_make_37 ?_
      refine lv_ior hx hb dX0_make_38 ?_
      obtain ⟨hz, hf⟩ := okb_s hf
      refine va_iast (D := D) hx hb hK hP hD hS 2 0 rfl rfl (inb_s hz) dX0_make_39 (fun H locs hP hD hS => ?_)
      have hP : va_P D classes (wA cx aA aG mv mc (upd mm u10.toNatClampNeg ((mm u10.toNatClampNeg) ||| ((1 : Int32) <<< (u9 &&& 31)))) mh gw gh gk gq gr gj gR gT gC) H := hP
      have hD : va_D A (wA cx aA aG mv mc (upd mm u10.toNatClampNeg ((mm u10.toNatClampNeg) ||| ((1 : Int32) <<< (u9 &&& 31)))) mh gw gh gk gq gr gj gR gT gC) := hD
      refine lv_aload_n hx hb dX0_make_40 rfl (lv_at hl 1 rfl) ?_
      refine va_get (D := D) (ci := 0) (v := .ref (aA 3)) (C := RX0) (T := TX0) (N := 5) hx hb hts iX0 hown hK hP 0 rfl rfl 3 (by decide) (hts _ wd_187) (fun _ h9 => h9) rfl dX0_make_41 ?_
      refine lv_iload_n hx hb dX0_make_44 rfl (lv_at hl 2 rfl) ?_
      refine lv_dup2_11 hx hb dX0_make_45 rfl rfl ?_
      obtain ⟨hz, hf⟩ := okb_s hf
      refine va_iald (D := D) hx hb hK hP 3 0 rfl rfl (inb_s hz) dX0_make_46 ?_
      refine lv_iconst (v := (1 : Int32)) hx hb dX0_make_47 (by decide) ?_
      refine lv_iadd hx hb dX0_make_48 ?_
      obtain ⟨hz, hf⟩ := okb_s hf
      refine va_iast (D := D) hx hb hK hP hD hS 3 0 rfl rfl (inb_s hz) dX0_make_49 (fun H locs hP hD hS => ?_)
      have hP : va_P D classes (wA cx aA aG mv mc (upd mm u10.toNatClampNeg ((mm u10.toNatClampNeg) ||| ((1 : Int32) <<< (u9 &&& 31)))) (upd mh x1.toNatClampNeg ((mh x1.toNatClampNeg) + (1 : Int32))) gw gh gk gq gr gj gR gT gC) H := hP
      have hD : va_D A (wA cx aA aG mv mc (upd mm u10.toNatClampNeg ((mm u10.toNatClampNeg) ||| ((1 : Int32) <<< (u9 &&& 31)))) (upd mh x1.toNatClampNeg ((mh x1.toNatClampNeg) + (1 : Int32))) gw gh gk gq gr gj gR gT gC) := hD
      refine lv_aload_n hx hb dX0_make_50 rfl (lv_at hl 1 rfl) ?_
      refine va_get (D := D) (ci := 0) (v := .ref (aA 1)) (C := RX0) (T := TX0) (N := 5) hx hb hts iX0 hown hK hP 0 rfl rfl 1 (by decide) (hts _ wd_181) (fun _ h9 => h9) rfl dX0_make_51 ?_
      refine lv_aload_n hx hb dX0_make_54 rfl (lv_at hl 1 rfl) ?_
      refine va_get (D := D) (ci := 0) (v := .int mv) (C := RX0) (T := TX0) (N := 5) hx hb hts iX0 hown hK hP 0 rfl rfl 4 (by decide) (hts _ wd_188) (fun _ h9 => h9) rfl dX0_make_55 ?_
      refine lv_iload_n hx hb dX0_make_58 rfl (lv_at hl 2 rfl) ?_
      obtain ⟨hz, hf⟩ := okb_s hf
      refine va_iast (D := D) hx hb hK hP hD hS 1 0 rfl rfl (inb_s hz) dX0_make_59 (fun H locs hP hD hS => ?_)
      have hP : va_P D classes (wA cx aA aG mv (upd mc mv.toNatClampNeg x1) (upd mm u10.toNatClampNeg ((mm u10.toNatClampNeg) ||| ((1 : Int32) <<< (u9 &&& 31)))) (upd mh x1.toNatClampNeg ((mh x1.toNatClampNeg) + (1 : Int32))) gw gh gk gq gr gj gR gT gC) H := hP
      have hD : va_D A (wA cx aA aG mv (upd mc mv.toNatClampNeg x1) (upd mm u10.toNatClampNeg ((mm u10.toNatClampNeg) ||| ((1 : Int32) <<< (u9 &&& 31)))) (upd mh x1.toNatClampNeg ((mh x1.toNatClampNeg) + (1 : Int32))) gw gh gk gq gr gj gR gT gC) := hD
      refine lv_aload_n hx hb dX0_make_60 rfl (lv_at hl 1 rfl) ?_
      refine lv_dup hx hb dX0_make_61 rfl ?_
      refine va_get (D := D) (ci := 0) (v := .int mv) (C := RX0) (T := TX0) (N := 5) hx hb hts iX0 hown hK hP 0 rfl rfl 4 (by decide) (hts _ wd_188) (fun _ h9 => h9) rfl dX0_make_62 ?_
      refine lv_iconst (v := (1 : Int32)) hx hb dX0_make_65 (by decide) ?_
      refine lv_iadd hx hb dX0_make_66 ?_
      refine va_put (D := D) (ci := 0) (v := .int (mv + (1 : Int32))) (ty := .int) (C := RX0) (T := TX0) (N := 5) hx hb hts iX0 tyX0 tyX0_ok nmX0 hown hK hP hD hS 0 rfl rfl 4 (by decide) (hts _ wd_188) (fun _ h9 => h9) rfl (by decide +kernel) rfl rfl (Nat.le_of_ble_eq_true rfl) dX0_make_67 (fun H locs hP hD hS => ?_)
      have hP : va_P D classes (wA cx aA aG (mv + (1 : Int32)) (upd mc mv.toNatClampNeg x1) (upd mm u10.toNatClampNeg ((mm u10.toNatClampNeg) ||| ((1 : Int32) <<< (u9 &&& 31)))) (upd mh x1.toNatClampNeg ((mh x1.toNatClampNeg) + (1 : Int32))) gw gh gk gq gr gj gR gT gC) H := hP
      have hD : va_D A (wA cx aA aG (mv + (1 : Int32)) (upd mc mv.toNatClampNeg x1) (upd mm u10.toNatClampNeg ((mm u10.toNatClampNeg) ||| ((1 : Int32) <<< (u9 &&& 31)))) (upd mh x1.toNatClampNeg ((mh x1.toNatClampNeg) + (1 : Int32))) gw gh gk gq gr gj gR gT gC) := hD
      refine lv_iload_n hx hb dX0_make_70 rfl (lv_at hl 0 rfl) ?_
      obtain rfl := Option.some.inj hf
      exact kc_iret () hx hb hr hk hP hD hS rfl dX0_make_71
    · replace hf := it_f c8 hf
      refine lv_iconst (v := (-1 : Int32)) hx hb dX0_make_17 (by decide) ?_
      obtain rfl := Option.some.inj hf
      exact kc_iret () hx hb hr hk hP hD hS rfl dX0_make_18
abbrev rmX0_unmake : Room := { frames := 1, cells := 0, slots := 0, locals := 21 }
set_option maxHeartbeats 4000000 in
set_option maxRecDepth 100000 in
theorem metX0_unmake (l : Launch) (D : va_G) (cx : Nat → ClassId) (aA : Nat → Nat) (aG : Nat → Nat) (mv : Int32) (mc : Nat → Int32) (mm : Nat → Int32) (mh : Nat → Int32) (gw : Int32) (gh : Int32) (gk : Int32) (gq : Int32) (gr : Int32) (gj : Int32) (gR : Nat → Int32) (gT : Nat → Int32) (gC : Nat → Int32)  (N : Nat) (sz : Nat) (v : Int32 × (Nat → Int32) × (Nat → Int32)) (hf : fX0_unmake N mv mc mm mh gw = some v) : Met l yX0_unmake (.code yX0_unmake cX0_unmake 2 none :: kc_TB) rmX0_unmake (kc_Pre D cx (wA cx aA aG mv mc mm mh gw gh gk gq gr gj gR gT gC) [.ref (aA 0)] sz) (kc_Pv D (fun _ : Unit => (wA cx aA aG v.1 mc v.2.1 v.2.2 gw gh gk gq gr gj gR gT gC)) (va_A (wA cx aA aG mv mc mm mh gw gh gk gq gr gj gR gT gC) sz)) 0 0 (va_A (wA cx aA aG mv mc mm mh gw gh gk gq gr gj gR gT gC) sz) := by
  refine kc_entry (Qc := fun A => (kc_Pv D (fun _ : Unit => (wA cx aA aG v.1 mc v.2.1 v.2.2 gw gh gk gq gr gj gR gT gC)) A)) (by decide) (Nat.le_of_ble_eq_true rfl) ?_
  intro p e s m below meth c A hx hb hr hk hml hown hin hts hN hK hP hD hS hA ls hl
  have hown : s.vm.findClass RX0 = some m.cls := hown
  have hl : lv_has ls 2 [(0, .ref (aA 0))] := hl
  unfold fX0_unmake at hf
  have hP : va_P D classes (wA cx aA aG mv mc mm mh gw gh gk gq gr gj gR gT gC) s.heap := hP
  obtain ⟨H, hH⟩ : ∃ H, H = s.heap := ⟨_, rfl⟩
  obtain ⟨locs, hL⟩ : ∃ locs : List Loc, locs = [] := ⟨_, rfl⟩
  have hS : va_S A s.heap H locs := by rw [hH, hL]; exact hS
  have hP : va_P D classes (wA cx aA aG mv mc mm mh gw gh gk gq gr gj gR gT gC) H := by rw [hH]; exact hP
  suffices hW : W p l e rmX0_unmake s m ([.ref (aA 0)] : List Value).toArray below meth c H locs 0 0 (MQ below (kc_Pv D (fun _ : Unit => (wA cx aA aG v.1 mc v.2.1 v.2.2 gw gh gk gq gr gj gR gT gC)) A) ([.ref (aA 0)] : List Value).toArray s 0 0 A) (F0 m 0 ls []) by rw [hH, hL] at hW; exact hW
  clear hH hL
  refine lv_aload_n hx hb dX0_unmake_0 rfl (lv_at hl 0 rfl) ?_
  refine va_get (D := D) (ci := 0) (v := .int mv) (C := RX0) (T := TX0) (N := 5) hx hb hts iX0 hown hK hP 0 rfl rfl 4 (by decide) (hts _ wd_188) (fun _ h9 => h9) rfl dX0_unmake_1 ?_
  refine lv_iconst (v := (1 : Int32)) hx hb dX0_unmake_4 (by decide) ?_
  refine lv_icmp_ge (tgt := 9) hx hb dX0_unmake_5 (by decide) (fun c4 => ?_) (fun c4 => ?_)
  · replace hf := it_t c4 hf
    refine lv_aload_n hx hb dX0_unmake_9 rfl (lv_at hl 0 rfl) ?_
    refine lv_dup hx hb dX0_unmake_10 rfl ?_
    refine va_get (D := D) (ci := 0) (v := .int mv) (C := RX0) (T := TX0) (N := 5) hx hb hts iX0 hown hK hP 0 rfl rfl 4 (by decide) (hts _ wd_188) (fun _ h9 => h9) rfl dX0_unmake_11 ?_
    refine lv_iconst (v := (1 : Int32)) hx hb dX0_unmake_14 (by decide) ?_
    refine lv_isub hx hb dX0_unmake_15 ?_
    refine va_put (D := D) (ci := 0) (v := .int (mv - (1 : Int32))) (ty := .int) (C := RX0) (T := TX0) (N := 5) hx hb hts iX0 tyX0 tyX0_ok nmX0 hown hK hP hD hS 0 rfl rfl 4 (by decide) (hts _ wd_188) (fun _ h9 => h9) rfl (by decide +kernel) rfl rfl (Nat.le_of_ble_eq_true rfl) dX0_unmake_16 (fun H locs hP hD hS => ?_)
    have hP : va_P D classes (wA cx aA aG (mv - (1 : Int32)) mc mm mh gw gh gk gq gr gj gR gT gC) H := hP
    have hD : va_D A (wA cx aA aG (mv - (1 : Int32)) mc mm mh gw gh gk gq gr gj gR gT gC) := hD
    refine lv_aload_n hx hb dX0_unmake_19 rfl (lv_at hl 0 rfl) ?_
    refine va_get (D := D) (ci := 0) (v := .ref (aA 1)) (C := RX0) (T := TX0) (N := 5) hx hb hts iX0 hown hK hP 0 rfl rfl 1 (by decide) (hts _ wd_181) (fun _ h9 => h9) rfl dX0_unmake_20 ?_
    refine lv_aload_n hx hb dX0_unmake_23 rfl (lv_at hl 0 rfl) ?_
    refine va_get (D := D) (ci := 0) (v := .int (mv - (1 : Int32))) (C := RX0) (T := TX0) (N := 5) hx hb hts iX0 hown hK hP 0 rfl rfl 4 (by decide) (hts _ wd_188) (fun _ h9 => h9) rfl dX0_unmake_24 ?_
    obtain ⟨hz, hf⟩ := okb_s hf
    refine va_iald (D := D) hx hb hK hP 1 0 rfl rfl (inb_s hz) dX0_unmake_27 ?_
    refine lv_istore_n (lv' := [(1, .int (mc (mv - (1 : Int32)).toNatClampNeg)), (0, .ref (aA 0))]) hx hb dX0_unmake_28 rfl hl (by decide) rfl (fun ls hl => ?_)
    refine lv_aload_n hx hb dX0_unmake_29 rfl (lv_at hl 1 rfl) ?_
    refine va_get (D := D) (ci := 0) (v := .ref (aA 3)) (C := RX0) (T := TX0) (N := 5) hx hb hts iX0 hown hK hP 0 rfl rfl 3 (by decide) (hts _ wd_187) (fun _ h9 => h9) rfl dX0_unmake_30 ?_
    refine lv_iload_n hx hb dX0_unmake_33 rfl (lv_at hl 0 rfl) ?_
    refine lv_dup2_11 hx hb dX0_unmake_34 rfl rfl ?_
    obtain ⟨hz, hf⟩ := okb_s hf
    refine va_iald (D := D) hx hb hK hP 3 0 rfl rfl (inb_s hz) dX0_unmake_35 ?_
    refine lv_iconst (v := (1 : Int32)) hx hb dX0_unmake_36 (by decide) ?_
    refine lv_isub hx hb dX0_unmake_37 ?_
    obtain ⟨hz, hf⟩ := okb_s hf
    refine va_iast (D := D) hx hb hK hP hD hS 3 0 rfl rfl (inb_s hz) dX0_unmake_38 (fun H locs hP hD hS => ?_)
    have hP : va_P D classes (wA cx aA aG (mv - (1 : Int32)) mc mm (upd mh (mc (mv - (1 : Int32)).toNatClampNeg).toNatClampNeg ((mh (mc (mv - (1 : Int32)).toNatClampNeg).toNatClampNeg) - (1 : Int32))) gw gh gk gq gr gj gR gT gC) H := hP
    have hD : va_D A (wA cx aA aG (mv - (1 : Int32)) mc mm (upd mh (mc (mv - (1 : Int32)).toNatClampNeg).toNatClampNeg ((mh (mc (mv - (1 : Int32)).toNatClampNeg).toNatClampNeg) - (1 : Int32))) gw gh gk gq gr gj gR gT gC) := hD
    refine lv_aload_n hx hb dX0_unmake_39 rfl (lv_at hl 1 rfl) ?_
    refine va_get (D := D) (ci := 0) (v := .ref (aA 2)) (C := RX0) (T := TX0) (N := 5) hx hb hts iX0 hown hK hP 0 rfl rfl 2 (by decide) (hts _ wd_184) (fun _ h9 => h9) rfl dX0_unmake_40 ?_
    refine lv_aload_n hx hb dX0_unmake_43 rfl (lv_at hl 1 rfl) ?_
    obtain ⟨u5, hg, hf⟩ := ob_s hf
    refine kc_calli (wn := fun _ => (wA cx aA aG (mv - (1 : Int32)) mc mm (upd mh (mc (mv - (1 : Int32)).toNatClampNeg).toNatClampNeg ((mh (mc (mv - (1 : Int32)).toNatClampNeg).toNatClampNeg) - (1 : Int32))) gw gh gk gq gr gj gR gT gC)) (va_runV (As := []) (rest := [.ref (aA 2)]) ⟨hx, hb, hml, hown, hts⟩ (metX0_side l D cx aA aG (mv - (1 : Int32)) mc mm (upd mh (mc (mv - (1 : Int32)).toNatClampNeg).toNatClampNeg ((mh (mc (mv - (1 : Int32)).toNatClampNeg).toNatClampNeg) - (1 : Int32))) gw gh gk gq gr gj gR gT gC  N H.size u5 hg) ⟨callB_of 0 hts (kc_gI wd_284) rfl rfl rfl (hts _ wd_44) (hts _ wd_281) (by decide +kernel) ⟨Nat.le_of_ble_eq_true rfl, Nat.le_of_ble_eq_true rfl⟩, hts _ wd_282, hts _ wd_283⟩ ⟨kc_blind _ _ _ _ _, va_recv hK hP (ci := 0) (q0 := 0) rfl rfl, kc_pre _ hK hN (hP.sub [0, 1, 2, 3, 4, 5, 6, 7] rfl) (hD.sub [0, 1, 2, 3, 4, 5, 6, 7] (by decide) rfl)⟩ rfl rfl hl.1 rfl (lv_room (Nat.le_of_ble_eq_true rfl)) dX0_unmake_44 ⟨Nat.zero_le _, Nat.zero_le _⟩) hP hD hS hA [0, 1, 2, 3, 4, 5, 6, 7] [] [0, 1, 2, 3, 4, 5, 6, 7] rfl rfl (by decide) (by decide) (fun _ => rfl) (by decide) (fun _ H locs hP hD hS => ?_)
    have hP : va_P D classes (wA cx aA aG (mv - (1 : Int32)) mc mm (upd mh (mc (mv - (1 : Int32)).toNatClampNeg).toNatClampNeg ((mh (mc (mv - (1 : Int32)).toNatClampNeg).toNatClampNeg) - (1 : Int32))) gw gh gk gq gr gj gR gT gC) H := hP
    have hD : va_D A (wA cx aA aG (mv - (1 : Int32)) mc mm (upd mh (mc (mv - (1 : Int32)).toNatClampNeg).toNatClampNeg ((mh (mc (mv - (1 : Int32)).toNatClampNeg).toNatClampNeg) - (1 : Int32))) gw gh gk gq gr gj gR gT gC) := hD
    refine lv_dup2_11 hx hb dX0_unmake_47 rfl rfl ?_
    obtain ⟨hz, hf⟩ := okb_s hf
    refine va_iald (D := D) hx hb hK hP 2 0 rfl rfl (inb_s hz) dX0_unmake_48 ?_
    refine lv_iconst (v := (1 : Int32)) hx hb dX0_unmake_49 (by decide) ?_
    refine lv_aload_n hx hb dX0_unmake_50 rfl (lv_at hl 1 rfl) ?_
    refine lv_iload_n hx hb dX0_unmake_51 rfl (lv_at hl 0 rfl) ?_
    obtain ⟨u6, hg, hf⟩ := ob_s hf
    refine kc_calli (wn := fun _ => (wA cx aA aG (mv - (1 : Int32)) mc mm (upd mh (mc (mv - (1 : Int32)).toNatClampNeg).toNatClampNeg ((mh (mc (mv - (1 : Int32)).toNatClampNeg).toNatClampNeg) - (1 : Int32))) gw gh gk gq gr gj gR gT gC)) (va_runV (As := [.int (mc (mv - (1 : Int32)).toNatClampNeg)]) (rest := [.int (1 : Int32), .int (mm u5.toNatClampNeg), .int u5, .ref (aA 2)]) ⟨hx, hb, hml, hown, hts⟩ (metX0_squareIn l D cx aA aG (mv - (1 : Int32)) mc mm (upd mh (mc (mv - (1 : Int32)).toNatClampNeg).toNatClampNeg ((mh (mc (mv - (1 : Int32)).toNatClampNeg).toNatClampNeg) - (1 : Int32))) gw gh gk gq gr gj gR gT gC (mc (mv - (1 : Int32)).toNatClampNeg) N H.size u6 hg) ⟨callB_of 1 hts (kc_gI wd_297) rfl rfl rfl (hts _ wd_44) (hts _ wd_294) (by decide +kernel) ⟨Nat.le_of_ble_eq_true rfl, Nat.le_of_ble_eq_true rfl⟩, hts _ wd_296, hts _ wd_4⟩ ⟨kc_blind _ _ _ _ _, va_recv hK hP (ci := 0) (q0 := 0) rfl rfl, kc_pre _ hK hN (hP.sub [0, 1, 2, 3, 4, 5, 6, 7] rfl) (hD.sub [0, 1, 2, 3, 4, 5, 6, 7] (by decide) rfl)⟩ rfl rfl hl.1 rfl (lv_room (Nat.le_of_ble_eq_true rfl)) dX0_unmake_52 ⟨Nat.zero_le _, Nat.zero_le _⟩) hP hD hS hA [0, 1, 2, 3, 4, 5, 6, 7] [] [0, 1, 2, 3, 4, 5, 6, 7] rfl rfl (by decide) (by decide) (fun _ => rfl) (by decide) (fun _ H locs hP hD hS => ?_)
    have hP : va_P D classes (wA cx aA aG (mv - (1 : Int32)) mc mm (upd mh (mc (mv - (1 : Int32)).toNatClampNeg).toNatClampNeg ((mh (mc (mv - (1 : Int32)).toNatClampNeg).toNatClampNeg) - (1 : Int32))) gw gh gk gq gr gj gR gT gC) H := hP
    have hD : va_D A (wA cx aA aG (mv - (1 : Int32)) mc mm (upd mh (mc (mv - (1 : Int32)).toNatClampNeg).toNatClampNeg ((mh (mc (mv - (1 : Int32)).toNatClampNeg).toNatClampNeg) - (1 : Int32))) gw gh gk gq gr gj gR gT gC) := hD
    refine lv_ishl hx hb dX0_unmake_55 ?_
    refine lv_iconst (v := (-1 : Int32)) hx hb dX0_unmake_56 (by decide) ?_
    refine lv_ixor hx hb dX0_unmake_57 ?_
    refine lv_iand hx hb dX0_unmake_58 ?_
    obtain ⟨hz, hf⟩ := okb_s hf
    refine va_iast (D := D) hx hb hK hP hD hS 2 0 rfl rfl (inb_s hz) dX0_unmake_59 (fun H locs hP hD hS => ?_)
    have hP : va_P D classes (wA cx aA aG (mv - (1 : Int32)) mc (upd mm u5.toNatClampNeg ((mm u5.toNatClampNeg) &&& (((1 : Int32) <<< (u6 &&& 31)) ^^^ (-1 : Int32)))) (upd mh (mc (mv - (1 : Int32)).toNatClampNeg).toNatClampNeg ((mh (mc (mv - (1 : Int32)).toNatClampNeg).toNatClampNeg) - (1 : Int32))) gw gh gk gq gr gj gR gT gC) H := hP
    have hD : va_D A (wA cx aA aG (mv - (1 : Int32)) mc (upd mm u5.toNatClampNeg ((mm u5.toNatClampNeg) &&& (((1 : Int32) <<< (u6 &&& 31)) ^^^ (-1 : Int32)))) (upd mh (mc (mv - (1 : Int32)).toNatClampNeg).toNatClampNeg ((mh (mc (mv - (1 : Int32)).toNatClampNeg).toNatClampNeg) - (1 : Int32))) gw gh gk gq gr gj gR gT gC) := hD
    obtain rfl := Option.some.inj hf
    exact kc_vret () hx hb hr hk hP hD hS dX0_unmake_60
  · replace hf := it_f c4 hf
    obtain rfl := Option.some.inj hf
    exact kc_vret () hx hb hr hk hP hD hS dX0_unmake_8
abbrev rmX0_state : Room := { frames := 1, cells := 0, slots := 0, locals := 22 }
set_option maxHeartbeats 4000000 in
set_option maxRecDepth 100000 in
theorem metX0_state (l : Launch) (D : va_G) (cx : Nat → ClassId) (aA : Nat → Nat) (aG : Nat → Nat) (mv : Int32) (mc : Nat → Int32) (mm : Nat → Int32) (mh : Nat → Int32) (gw : Int32) (gh : Int32) (gk : Int32) (gq : Int32) (gr : Int32) (gj : Int32) (gR : Nat → Int32) (gT : Nat → Int32) (gC : Nat → Int32)  (N : Nat) (sz : Nat) (v : Int32) (hf : fX0_state N mv mm gq gr gR = some v) : Met l yX0_state (.code yX0_state cX0_state 1 (some .int) :: kc_TB) rmX0_state (kc_Pre D cx (wA cx aA aG mv mc mm mh gw gh gk gq gr gj gR gT gC) [.ref (aA 0)] sz) (kc_Pi D (fun _ : Unit => (wA cx aA aG mv mc mm mh gw gh gk gq gr gj gR gT gC)) v (va_A (wA cx aA aG mv mc mm mh gw gh gk gq gr gj gR gT gC) sz)) 0 0 (va_A (wA cx aA aG mv mc mm mh gw gh gk gq gr gj gR gT gC) sz) := by
  refine kc_entry (Qc := fun A => (kc_Pi D (fun _ : Unit => (wA cx aA aG mv mc mm mh gw gh gk gq gr gj gR gT gC)) v A)) (by decide) (Nat.le_of_ble_eq_true rfl) ?_
  intro p e s m below meth c A hx hb hr hk hml hown hin hts hN hK hP hD hS hA ls hl
  have hown : s.vm.findClass RX0 = some m.cls := hown
  have hl : lv_has ls 1 [(0, .ref (aA 0))] := hl
  unfold fX0_state at hf
  have hP : va_P D classes (wA cx aA aG mv mc mm mh gw gh gk gq gr gj gR gT gC) s.heap := hP
  obtain ⟨H, hH⟩ : ∃ H, H = s.heap := ⟨_, rfl⟩
  obtain ⟨locs, hL⟩ : ∃ locs : List Loc, locs = [] := ⟨_, rfl⟩
  have hS : va_S A s.heap H locs := by rw [hH, hL]; exact hS
  have hP : va_P D classes (wA cx aA aG mv mc mm mh gw gh gk gq gr gj gR gT gC) H := by rw [hH]; exact hP
  suffices hW : W p l e rmX0_state s m ([.ref (aA 0)] : List Value).toArray below meth c H locs 0 0 (MQ below (kc_Pi D (fun _ : Unit => (wA cx aA aG mv mc mm mh gw gh gk gq gr gj gR gT gC)) v A) ([.ref (aA 0)] : List Value).toArray s 0 0 A) (F0 m 0 ls []) by rw [hH, hL] at hW; exact hW
  clear hH hL
  refine lv_aload_n hx hb dX0_state_0 rfl (lv_at hl 0 rfl) ?_
  refine va_get (D := D) (ci := 0) (v := .ref (aG 0)) (C := RX0) (T := TX0) (N := 5) hx hb hts iX0 hown hK hP 0 rfl rfl 0 (by decide) (hts _ wd_180) (fun _ h9 => h9) rfl dX0_state_1 ?_
  refine lv_aload_n hx hb dX0_state_4 rfl (lv_at hl 0 rfl) ?_
  refine va_get (D := D) (ci := 0) (v := .ref (aA 2)) (C := RX0) (T := TX0) (N := 5) hx hb hts iX0 hown hK hP 0 rfl rfl 2 (by decide) (hts _ wd_184) (fun _ h9 => h9) rfl dX0_state_5 ?_
  refine lv_iconst (v := (1 : Int32)) hx hb dX0_state_8 (by decide) ?_
  refine lv_aload_n hx hb dX0_state_9 rfl (lv_at hl 0 rfl) ?_
  obtain ⟨u5, hg, hf⟩ := ob_s hf
  refine kc_calli (wn := fun _ => (wA cx aA aG mv mc mm mh gw gh gk gq gr gj gR gT gC)) (va_runV (As := []) (rest := [.int (1 : Int32), .ref (aA 2), .ref (aG 0)]) ⟨hx, hb, hml, hown, hts⟩ (metX0_side l D cx aA aG mv mc mm mh gw gh gk gq gr gj gR gT gC  N H.size u5 hg) ⟨callB_of 0 hts (kc_gI wd_284) rfl rfl rfl (hts _ wd_44) (hts _ wd_281) (by decide +kernel) ⟨Nat.le_of_ble_eq_true rfl, Nat.le_of_ble_eq_true rfl⟩, hts _ wd_282, hts _ wd_283⟩ ⟨kc_blind _ _ _ _ _, va_recv hK hP (ci := 0) (q0 := 0) rfl rfl, kc_pre _ hK hN (hP.sub [0, 1, 2, 3, 4, 5, 6, 7] rfl) (hD.sub [0, 1, 2, 3, 4, 5, 6, 7] (by decide) rfl)⟩ rfl rfl hl.1 rfl (lv_room (Nat.le_of_ble_eq_true rfl)) dX0_state_10 ⟨Nat.zero_le _, Nat.zero_le _⟩) hP hD hS hA [0, 1, 2, 3, 4, 5, 6, 7] [] [0, 1, 2, 3, 4, 5, 6, 7] rfl rfl (by decide) (by decide) (fun _ => rfl) (by decide) (fun _ H locs hP hD hS => ?_)
  have hP : va_P D classes (wA cx aA aG mv mc mm mh gw gh gk gq gr gj gR gT gC) H := hP
  have hD : va_D A (wA cx aA aG mv mc mm mh gw gh gk gq gr gj gR gT gC) := hD
  refine lv_isub hx hb dX0_state_13 ?_
  obtain ⟨hz, hf⟩ := okb_s hf
  refine va_iald (D := D) hx hb hK hP 2 0 rfl rfl (inb_s hz) dX0_state_14 ?_
  obtain ⟨u6, hg, hf⟩ := ob_s hf
  refine kc_calli (wn := fun _ => (wA cx aA aG mv mc mm mh gw gh gk gq gr gj gR gT gC)) (va_runV (As := [.int (mm ((1 : Int32) - u5).toNatClampNeg)]) (rest := []) ⟨hx, hb, hml, hown, hts⟩ (metX1_hasRow l D cx aG gw gh gk gq gr gj gR gT gC (mm ((1 : Int32) - u5).toNatClampNeg) N H.size u6 hg) ⟨callB_of 1 hts (kc_gI wd_288) rfl rfl rfl (hts _ wd_41) (hts _ wd_285) (by decide +kernel) ⟨Nat.le_of_ble_eq_true rfl, Nat.le_of_ble_eq_true rfl⟩, hts _ wd_286, hts _ wd_287⟩ ⟨kc_blind _ _ _ _ _, va_recv hK hP (ci := 1) (q0 := 4) rfl rfl, kc_pre _ hK hN (hP.sub [4, 5, 6, 7] rfl) (hD.sub [4, 5, 6, 7] (by decide) rfl)⟩ rfl rfl hl.1 rfl (lv_room (Nat.le_of_ble_eq_true rfl)) dX0_state_15 ⟨Nat.zero_le _, Nat.zero_le _⟩) hP hD hS hA [4, 5, 6, 7] [0, 1, 2, 3] [0, 1, 2, 3, 4, 5, 6, 7] rfl rfl (by decide) (by decide) (fun _ => rfl) (by decide) (fun _ H locs hP hD hS => ?_)
  have hP : va_P D classes (wA cx aA aG mv mc mm mh gw gh gk gq gr gj gR gT gC) H := hP
  have hD : va_D A (wA cx aA aG mv mc mm mh gw gh gk gq gr gj gR gT gC) := hD
  refine lv_if_eq (tgt := 23) hx hb dX0_state_18 (by decide) (fun c7 => ?_) (fun c7 => ?_)
  · replace hf := it_t c7 hf
    refine lv_aload_n hx hb dX0_state_23 rfl (lv_at hl 0 rfl) ?_
    refine va_get (D := D) (ci := 0) (v := .int mv) (C := RX0) (T := TX0) (N := 5) hx hb hts iX0 hown hK hP 0 rfl rfl 4 (by decide) (hts _ wd_188) (fun _ h9 => h9) rfl dX0_state_24 ?_
    refine lv_aload_n hx hb dX0_state_27 rfl (lv_at hl 0 rfl) ?_
    refine va_get (D := D) (ci := 0) (v := .ref (aG 0)) (C := RX0) (T := TX0) (N := 5) hx hb hts iX0 hown hK hP 0 rfl rfl 0 (by decide) (hts _ wd_180) (fun _ h9 => h9) rfl dX0_state_28 ?_
    refine va_get (D := D) (ci := 1) (v := .int gq) (C := RX1) (T := TX1) (N := 9) hx hb hts iX1 hown hK hP 4 rfl rfl 3 (by decide) (hts _ wd_76) (fun _ h9 => h9) rfl dX0_state_31 ?_
    refine lv_icmp_lt (tgt := 41) hx hb dX0_state_34 (by decide) (fun c8 => ?_) (fun c8 => ?_)
    · replace hf := it_t c8 hf
      refine lv_iconst (v := (0 : Int32)) hx hb dX0_state_41 (by decide) ?_
      obtain rfl := Option.some.inj hf
      exact kc_iret () hx hb hr hk hP hD hS rfl dX0_state_42
    · replace hf := it_f c8 hf
      refine lv_iconst (v := (2 : Int32)) hx hb dX0_state_37 (by decide) ?_
      refine lv_goto (tgt := 42) hx hb dX0_state_38 (by decide) ?_
      obtain rfl := Option.some.inj hf
      exact kc_iret () hx hb hr hk hP hD hS rfl dX0_state_42
  · replace hf := it_f c7 hf
    refine lv_iconst (v := (1 : Int32)) hx hb dX0_state_21 (by decide) ?_
    obtain rfl := Option.some.inj hf
    exact kc_iret () hx hb hr hk hP hD hS rfl dX0_state_22
abbrev rmX0_isOver : Room := { frames := 2, cells := 0, slots := 0, locals := 42 }
set_option maxHeartbeats 4000000 in
set_option maxRecDepth 100000 in
theorem metX0_isOver (l : Launch) (D : va_G) (cx : Nat → ClassId) (aA : Nat → Nat) (aG : Nat → Nat) (mv : Int32) (mc : Nat → Int32) (mm : Nat → Int32) (mh : Nat → Int32) (gw : Int32) (gh : Int32) (gk : Int32) (gq : Int32) (gr : Int32) (gj : Int32) (gR : Nat → Int32) (gT : Nat → Int32) (gC : Nat → Int32)  (N : Nat) (sz : Nat) (v : Int32) (hf : fX0_isOver N mv mm gq gr gR = some v) : Met l yX0_isOver (.code yX0_isOver cX0_isOver 1 (some .boolean) :: kc_TB) rmX0_isOver (kc_Pre D cx (wA cx aA aG mv mc mm mh gw gh gk gq gr gj gR gT gC) [.ref (aA 0)] sz) (kc_Pi D (fun _ : Unit => (wA cx aA aG mv mc mm mh gw gh gk gq gr gj gR gT gC)) v (va_A (wA cx aA aG mv mc mm mh gw gh gk gq gr gj gR gT gC) sz)) 0 0 (va_A (wA cx aA aG mv mc mm mh gw gh gk gq gr gj gR gT gC) sz) := by
  refine kc_entry (Qc := fun A => (kc_Pi D (fun _ : Unit => (wA cx aA aG mv mc mm mh gw gh gk gq gr gj gR gT gC)) v A)) (by decide) (Nat.le_of_ble_eq_true rfl) ?_
  intro p e s m below meth c A hx hb hr hk hml hown hin hts hN hK hP hD hS hA ls hl
  have hown : s.vm.findClass RX0 = some m.cls := hown
  have hl : lv_has ls 1 [(0, .ref (aA 0))] := hl
  unfold fX0_isOver at hf
  have hP : va_P D classes (wA cx aA aG mv mc mm mh gw gh gk gq gr gj gR gT gC) s.heap := hP
  obtain ⟨H, hH⟩ : ∃ H, H = s.heap := ⟨_, rfl⟩
  obtain ⟨locs, hL⟩ : ∃ locs : List Loc, locs = [] := ⟨_, rfl⟩
  have hS : va_S A s.heap H locs := by rw [hH, hL]; exact hS
  have hP : va_P D classes (wA cx aA aG mv mc mm mh gw gh gk gq gr gj gR gT gC) H := by rw [hH]; exact hP
  suffices hW : W p l e rmX0_isOver s m ([.ref (aA 0)] : List Value).toArray below meth c H locs 0 0 (MQ below (kc_Pi D (fun _ : Unit => (wA cx aA aG mv mc mm mh gw gh gk gq gr gj gR gT gC)) v A) ([.ref (aA 0)] : List Value).toArray s 0 0 A) (F0 m 0 ls []) by rw [hH, hL] at hW; exact hW
  clear hH hL
  refine lv_aload_n hx hb dX0_isOver_0 rfl (lv_at hl 0 rfl) ?_
  obtain ⟨u3, hg, hf⟩ := ob_s hf
  refine kc_calli (wn := fun _ => (wA cx aA aG mv mc mm mh gw gh gk gq gr gj gR gT gC)) (va_runV (As := []) (rest := []) ⟨hx, hb, hml, hown, hts⟩ (metX0_state l D cx aA aG mv mc mm mh gw gh gk gq gr gj gR gT gC  N H.size u3 hg) ⟨callB_of 0 hts (kc_gI wd_280) rfl rfl rfl (hts _ wd_44) (hts _ wd_277) (by decide +kernel) ⟨Nat.le_of_ble_eq_true rfl, Nat.le_of_ble_eq_true rfl⟩, hts _ wd_278, hts _ wd_279⟩ ⟨kc_blind _ _ _ _ _, va_recv hK hP (ci := 0) (q0 := 0) rfl rfl, kc_pre _ hK hN (hP.sub [0, 1, 2, 3, 4, 5, 6, 7] rfl) (hD.sub [0, 1, 2, 3, 4, 5, 6, 7] (by decide) rfl)⟩ rfl rfl hl.1 rfl (lv_room (Nat.le_of_ble_eq_true rfl)) dX0_isOver_1 ⟨Nat.zero_le _, Nat.zero_le _⟩) hP hD hS hA [0, 1, 2, 3, 4, 5, 6, 7] [] [0, 1, 2, 3, 4, 5, 6, 7] rfl rfl (by decide) (by decide) (fun _ => rfl) (by decide) (fun _ H locs hP hD hS => ?_)
  have hP : va_P D classes (wA cx aA aG mv mc mm mh gw gh gk gq gr gj gR gT gC) H := hP
  have hD : va_D A (wA cx aA aG mv mc mm mh gw gh gk gq gr gj gR gT gC) := hD
  refine lv_if_eq (tgt := 11) hx hb dX0_isOver_4 (by decide) (fun c4 => ?_) (fun c4 => ?_)
  · replace hf := it_t c4 hf
    refine lv_iconst (v := (0 : Int32)) hx hb dX0_isOver_11 (by decide) ?_
    obtain rfl := Option.some.inj hf
    exact kc_zret () hx hb hr hk hP hD hS rfl rfl dX0_isOver_12
  · replace hf := it_f c4 hf
    refine lv_iconst (v := (1 : Int32)) hx hb dX0_isOver_7 (by decide) ?_
    refine lv_goto (tgt := 12) hx hb dX0_isOver_8 (by decide) ?_
    obtain rfl := Option.some.inj hf
    exact kc_zret () hx hb hr hk hP hD hS rfl rfl dX0_isOver_12
abbrev rmX0_manOn : Room := { frames := 0, cells := 0, slots := 0, locals := 0 }
set_option maxHeartbeats 4000000 in
set_option maxRecDepth 100000 in
theorem metX0_manOn (l : Launch) (D : va_G) (cx : Nat → ClassId) (aA : Nat → Nat) (aG : Nat → Nat) (mv : Int32) (mc : Nat → Int32) (mm : Nat → Int32) (mh : Nat → Int32) (gw : Int32) (gh : Int32) (gk : Int32) (gq : Int32) (gr : Int32) (gj : Int32) (gR : Nat → Int32) (gT : Nat → Int32) (gC : Nat → Int32) (x1 : Int32) (N : Nat) (sz : Nat) (v : Int32) (hf : fX0_manOn N mm x1 = some v) : Met l yX0_manOn (.code yX0_manOn cX0_manOn 2 (some .int) :: kc_TB) rmX0_manOn (kc_Pre D cx (wA cx aA aG mv mc mm mh gw gh gk gq gr gj gR gT gC) [.ref (aA 0), .int x1] sz) (kc_Pi D (fun _ : Unit => (wA cx aA aG mv mc mm mh gw gh gk gq gr gj gR gT gC)) v (va_A (wA cx aA aG mv mc mm mh gw gh gk gq gr gj gR gT gC) sz)) 0 0 (va_A (wA cx aA aG mv mc mm mh gw gh gk gq gr gj gR gT gC) sz) := by
  refine kc_entry (Qc := fun A => (kc_Pi D (fun _ : Unit => (wA cx aA aG mv mc mm mh gw gh gk gq gr gj gR gT gC)) v A)) (by decide) (Nat.le_of_ble_eq_true rfl) ?_
  intro p e s m below meth c A hx hb hr hk hml hown hin hts hN hK hP hD hS hA ls hl
  have hown : s.vm.findClass RX0 = some m.cls := hown
  have hl : lv_has ls 2 [(0, .ref (aA 0)), (1, .int x1)] := hl
  unfold fX0_manOn at hf
  have hP : va_P D classes (wA cx aA aG mv mc mm mh gw gh gk gq gr gj gR gT gC) s.heap := hP
  obtain ⟨H, hH⟩ : ∃ H, H = s.heap := ⟨_, rfl⟩
  obtain ⟨locs, hL⟩ : ∃ locs : List Loc, locs = [] := ⟨_, rfl⟩
  have hS : va_S A s.heap H locs := by rw [hH, hL]; exact hS
  have hP : va_P D classes (wA cx aA aG mv mc mm mh gw gh gk gq gr gj gR gT gC) H := by rw [hH]; exact hP
  suffices hW : W p l e rmX0_manOn s m ([.ref (aA 0), .int x1] : List Value).toArray below meth c H locs 0 0 (MQ below (kc_Pi D (fun _ : Unit => (wA cx aA aG mv mc mm mh gw gh gk gq gr gj gR gT gC)) v A) ([.ref (aA 0), .int x1] : List Value).toArray s 0 0 A) (F0 m 0 ls []) by rw [hH, hL] at hW; exact hW
  clear hH hL
  refine lv_aload_n hx hb dX0_manOn_0 rfl (lv_at hl 0 rfl) ?_
  refine va_get (D := D) (ci := 0) (v := .ref (aA 2)) (C := RX0) (T := TX0) (N := 5) hx hb hts iX0 hown hK hP 0 rfl rfl 2 (by decide) (hts _ wd_184) (fun _ h9 => h9) rfl dX0_manOn_1 ?_
  refine lv_iconst (v := (0 : Int32)) hx hb dX0_manOn_4 (by decide) ?_
  obtain ⟨hz, hf⟩ := okb_s hf
  refine va_iald (D := D) hx hb hK hP 2 0 rfl rfl (inb_s hz) dX0_manOn_5 ?_
  refine lv_iload_n hx hb dX0_manOn_6 rfl (lv_at hl 1 rfl) ?_
  refine lv_ishr hx hb dX0_manOn_7 ?_
  refine lv_iconst (v := (1 : Int32)) hx hb dX0_manOn_8 (by decide) ?_
  refine lv_iand hx hb dX0_manOn_9 ?_
  refine lv_if_eq (tgt := 15) hx hb dX0_manOn_10 (by decide) (fun c3 => ?_) (fun c3 => ?_)
  · replace hf := it_t c3 hf
    refine lv_aload_n hx hb dX0_manOn_15 rfl (lv_at hl 0 rfl) ?_
    refine va_get (D := D) (ci := 0) (v := .ref (aA 2)) (C := RX0) (T := TX0) (N := 5) hx hb hts iX0 hown hK hP 0 rfl rfl 2 (by decide) (hts _ wd_184) (fun _ h9 => h9) rfl dX0_manOn_16 ?_
    refine lv_iconst (v := (1 : Int32)) hx hb dX0_manOn_19 (by decide) ?_
    obtain ⟨hz, hf⟩ := okb_s hf
    refine va_iald (D := D) hx hb hK hP 2 0 rfl rfl (inb_s hz) dX0_manOn_20 ?_
    refine lv_iload_n hx hb dX0_manOn_21 rfl (lv_at hl 1 rfl) ?_
    refine lv_ishr hx hb dX0_manOn_22 ?_
    refine lv_iconst (v := (1 : Int32)) hx hb dX0_manOn_23 (by decide) ?_
    refine lv_iand hx hb dX0_manOn_24 ?_
    refine lv_if_eq (tgt := 32) hx hb dX0_manOn_25 (by decide) (fun c4 => ?_) (fun c4 => ?_)
    · replace hf := it_t c4 hf
      refine lv_iconst (v := (-1 : Int32)) hx hb dX0_manOn_32 (by decide) ?_
      obtain rfl := Option.some.inj hf
      exact kc_iret () hx hb hr hk hP hD hS rfl dX0_manOn_33
    · replace hf := it_f c4 hf
      refine lv_iconst (v := (1 : Int32)) hx hb dX0_manOn_28 (by decide) ?_
      refine lv_goto (tgt := 33) hx hb dX0_manOn_29 (by decide) ?_
      obtain rfl := Option.some.inj hf
      exact kc_iret () hx hb hr hk hP hD hS rfl dX0_manOn_33
  · replace hf := it_f c3 hf
    refine lv_iconst (v := (0 : Int32)) hx hb dX0_manOn_13 (by decide) ?_
    obtain rfl := Option.some.inj hf
    exact kc_iret () hx hb hr hk hP hD hS rfl dX0_manOn_14
abbrev rmX0_openColumns : Room := { frames := 2, cells := 0, slots := 0, locals := 43 }
set_option maxHeartbeats 4000000 in
set_option maxRecDepth 100000 in
theorem metX0_openColumns (l : Launch) (D : va_G) (cx : Nat → ClassId) (aA : Nat → Nat) (aG : Nat → Nat) (mv : Int32) (mc : Nat → Int32) (mm : Nat → Int32) (mh : Nat → Int32) (gw : Int32) (gh : Int32) (gk : Int32) (gq : Int32) (gr : Int32) (gj : Int32) (gR : Nat → Int32) (gT : Nat → Int32) (gC : Nat → Int32)  (N : Nat) (sz : Nat) (v : Int32) (hf : fX0_openColumns N mh gw gh = some v) : Met l yX0_openColumns (.code yX0_openColumns cX0_openColumns 3 (some .int) :: kc_TB) rmX0_openColumns (kc_Pre D cx (wA cx aA aG mv mc mm mh gw gh gk gq gr gj gR gT gC) [.ref (aA 0)] sz) (kc_Pi D (fun _ : Unit => (wA cx aA aG mv mc mm mh gw gh gk gq gr gj gR gT gC)) v (va_A (wA cx aA aG mv mc mm mh gw gh gk gq gr gj gR gT gC) sz)) 0 0 (va_A (wA cx aA aG mv mc mm mh gw gh gk gq gr gj gR gT gC) sz) := by
  refine kc_entry (Qc := fun A => (kc_Pi D (fun _ : Unit => (wA cx aA aG mv mc mm mh gw gh gk gq gr gj gR gT gC)) v A)) (by decide) (Nat.le_of_ble_eq_true rfl) ?_
  intro p e s m below meth c A hx hb hr hk hml hown hin hts hN hK hP hD hS hA ls hl
  have hown : s.vm.findClass RX0 = some m.cls := hown
  have hl : lv_has ls 3 [(0, .ref (aA 0))] := hl
  unfold fX0_openColumns at hf
  have hP : va_P D classes (wA cx aA aG mv mc mm mh gw gh gk gq gr gj gR gT gC) s.heap := hP
  obtain ⟨H, hH⟩ : ∃ H, H = s.heap := ⟨_, rfl⟩
  obtain ⟨locs, hL⟩ : ∃ locs : List Loc, locs = [] := ⟨_, rfl⟩
  have hS : va_S A s.heap H locs := by rw [hH, hL]; exact hS
  have hP : va_P D classes (wA cx aA aG mv mc mm mh gw gh gk gq gr gj gR gT gC) H := by rw [hH]; exact hP
  suffices hW : W p l e rmX0_openColumns s m ([.ref (aA 0)] : List Value).toArray below meth c H locs 0 0 (MQ below (kc_Pi D (fun _ : Unit => (wA cx aA aG mv mc mm mh gw gh gk gq gr gj gR gT gC)) v A) ([.ref (aA 0)] : List Value).toArray s 0 0 A) (F0 m 0 ls []) by rw [hH, hL] at hW; exact hW
  clear hH hL
  refine lv_iconst (v := (0 : Int32)) hx hb dX0_openColumns_0 (by decide) ?_
  refine lv_istore_n (lv' := [(1, .int (0 : Int32)), (0, .ref (aA 0))]) hx hb dX0_openColumns_1 rfl hl (by decide) rfl (fun ls hl => ?_)
  refine lv_iconst (v := (0 : Int32)) hx hb dX0_openColumns_2 (by decide) ?_
  refine lv_istore_n (lv' := [(2, .int (0 : Int32)), (1, .int (0 : Int32)), (0, .ref (aA 0))]) hx hb dX0_openColumns_3 rfl hl (by decide) rfl (fun ls hl => ?_)
  have L4 : ∀ (ct : Nat) (x1 : Int32) (x2 : Int32) (v4 : Int32), fX0_openColumns_L4 N mh gw gh ct x1 x2 = some v4 → ∀ (H : Heap) (locs : List Loc) (ls : Array Slot), va_P D classes (wA cx aA aG mv mc mm mh gw gh gk gq gr gj gR gT gC) H → va_D A (wA cx aA aG mv mc mm mh gw gh gk gq gr gj gR gT gC) → va_S A s.heap H locs → lv_has ls 3 [(0, .ref (aA 0)), (1, .int x1), (2, .int x2)] → (∀ (H : Heap) (locs : List Loc) (ls : Array Slot), va_P D classes (wA cx aA aG mv mc mm mh gw gh gk gq gr gj gR gT gC) H → va_D A (wA cx aA aG mv mc mm mh gw gh gk gq gr gj gR gT gC) → va_S A s.heap H locs → lv_has ls 3 [(1, .int v4)] → W p l e rmX0_openColumns s m ([.ref (aA 0)] : List Value).toArray below meth c H locs 0 0 (MQ below (kc_Pi D (fun _ : Unit => (wA cx aA aG mv mc mm mh gw gh gk gq gr gj gR gT gC)) v A) ([.ref (aA 0)] : List Value).toArray s 0 0 A) (F0 m 32 ls [])) → W p l e rmX0_openColumns s m ([.ref (aA 0)] : List Value).toArray below meth c H locs 0 0 (MQ below (kc_Pi D (fun _ : Unit => (wA cx aA aG mv mc mm mh gw gh gk gq gr gj gR gT gC)) v A) ([.ref (aA 0)] : List Value).toArray s 0 0 A) (F0 m 4 ls []) := by
    intro ct
    induction ct with
    | zero =>
      intro x1 x2 v4 hf
      exact absurd (show (none : Option (Int32)) = some v4 from hf) (fun q => by cases q)
    | succ ct ih =>
      intro x1 x2 v4 hf H locs ls hP hD hS hl hE
      rw [fX0_openColumns_L4] at hf
      refine lv_iload_n hx hb dX0_openColumns_4 rfl (lv_at hl 2 rfl) ?_
      refine lv_aload_n hx hb dX0_openColumns_5 rfl (lv_at hl 0 rfl) ?_
      refine va_get (D := D) (ci := 0) (v := .ref (aG 0)) (C := RX0) (T := TX0) (N := 5) hx hb hts iX0 hown hK hP 0 rfl rfl 0 (by decide) (hts _ wd_180) (fun _ h9 => h9) rfl dX0_openColumns_6 ?_
      refine va_get (D := D) (ci := 1) (v := .int gw) (C := RX1) (T := TX1) (N := 9) hx hb hts iX1 hown hK hP 4 rfl rfl 0 (by decide) (hts _ wd_66) (fun _ h9 => h9) rfl dX0_openColumns_9 ?_
      refine lv_icmp_ge (tgt := 32) hx hb dX0_openColumns_12 (by decide) (fun c7 => ?_) (fun c7 => ?_)
      · replace hf := it_t c7 hf
        obtain rfl := Option.some.inj hf
        exact hE H locs ls hP hD hS (lv_sub hl [1] rfl)
      · replace hf := it_f c7 hf
        refine lv_aload_n hx hb dX0_openColumns_15 rfl (lv_at hl 0 rfl) ?_
        refine lv_iload_n hx hb dX0_openColumns_16 rfl (lv_at hl 2 rfl) ?_
        obtain ⟨u8, hg, hf⟩ := ob_s hf
        refine kc_calli (wn := fun _ => (wA cx aA aG mv mc mm mh gw gh gk gq gr gj gR gT gC)) (va_runV (As := [.int x2]) (rest := []) ⟨hx, hb, hml, hown, hts⟩ (metX0_isOpen l D cx aA aG mv mc mm mh gw gh gk gq gr gj gR gT gC x2 N H.size u8 hg) ⟨callB_of 1 hts (kc_gI wd_271) rfl rfl rfl (hts _ wd_44) (hts _ wd_293) (by decide +kernel) ⟨Nat.le_of_ble_eq_true rfl, Nat.le_of_ble_eq_true rfl⟩, hts _ wd_269, hts _ wd_270⟩ ⟨kc_blind _ _ _ _ _, va_recv hK hP (ci := 0) (q0 := 0) rfl rfl, kc_pre _ hK hN (hP.sub [0, 1, 2, 3, 4, 5, 6, 7] rfl) (hD.sub [0, 1, 2, 3, 4, 5, 6, 7] (by decide) rfl)⟩ rfl rfl hl.1 rfl (lv_room (Nat.le_of_ble_eq_true rfl)) dX0_openColumns_17 ⟨Nat.zero_le _, Nat.zero_le _⟩) hP hD hS hA [0, 1, 2, 3, 4, 5, 6, 7] [] [0, 1, 2, 3, 4, 5, 6, 7] rfl rfl (by decide) (by decide) (fun _ => rfl) (by decide) (fun _ H locs hP hD hS => ?_)
        have hP : va_P D classes (wA cx aA aG mv mc mm mh gw gh gk gq gr gj gR gT gC) H := hP
        have hD : va_D A (wA cx aA aG mv mc mm mh gw gh gk gq gr gj gR gT gC) := hD
        refine lv_if_eq (tgt := 26) hx hb dX0_openColumns_20 (by decide) (fun c9 => ?_) (fun c9 => ?_)
        · replace hf := it_t c9 hf
          refine lv_iinc (v := (x2 + (1 : Int32))) (lv' := [(2, .int (x2 + (1 : Int32))), (0, .ref (aA 0)), (1, .int x1)]) hx hb dX0_openColumns_26 hl (k := 2) rfl rfl (by decide) rfl (fun ls hl => ?_)
          refine lv_goto (tgt := 4) hx hb dX0_openColumns_29 (by decide) ?_
          exact ih x1 (x2 + (1 : Int32)) _ hf H locs ls hP hD hS (lv_sub hl [1, 2, 0] rfl) hE
        · replace hf := it_f c9 hf
          refine lv_iinc (v := (x1 + (1 : Int32))) (lv' := [(1, .int (x1 + (1 : Int32))), (0, .ref (aA 0)), (2, .int x2)]) hx hb dX0_openColumns_23 hl (k := 1) rfl rfl (by decide) rfl (fun ls hl => ?_)
          refine lv_iinc (v := (x2 + (1 : Int32))) (lv' := [(2, .int (x2 + (1 : Int32))), (1, .int (x1 + (1 : Int32))), (0, .ref (aA 0))]) hx hb dX0_openColumns_26 hl (k := 2) rfl rfl (by decide) rfl (fun ls hl => ?_)
          refine lv_goto (tgt := 4) hx hb dX0_openColumns_29 (by decide) ?_
          exact ih (x1 + (1 : Int32)) (x2 + (1 : Int32)) _ hf H locs ls hP hD hS (lv_sub hl [2, 1, 0] rfl) hE
  obtain ⟨u10, hg, hf⟩ := ob_s hf
  refine L4 _ (0 : Int32) (0 : Int32) u10 hg H locs ls hP hD hS (lv_sub hl [2, 1, 0] rfl) (fun H locs ls hP hD hS hl => ?_)
  refine lv_iload_n hx hb dX0_openColumns_32 rfl (lv_at hl 0 rfl) ?_
  obtain rfl := Option.some.inj hf
  exact kc_iret () hx hb hr hk hP hD hS rfl dX0_openColumns_33
abbrev rmX0_isThreat : Room := { frames := 1, cells := 0, slots := 0, locals := 22 }
set_option maxHeartbeats 4000000 in
set_option maxRecDepth 100000 in
theorem metX0_isThreat (l : Launch) (D : va_G) (cx : Nat → ClassId) (aA : Nat → Nat) (aG : Nat → Nat) (mv : Int32) (mc : Nat → Int32) (mm : Nat → Int32) (mh : Nat → Int32) (gw : Int32) (gh : Int32) (gk : Int32) (gq : Int32) (gr : Int32) (gj : Int32) (gR : Nat → Int32) (gT : Nat → Int32) (gC : Nat → Int32) (x1 : Int32) (x2 : Int32) (N : Nat) (sz : Nat) (v : Int32) (hf : fX0_isThreat N mm gr gR x1 x2 = some v) : Met l yX0_isThreat (.code yX0_isThreat cX0_isThreat 3 (some .boolean) :: kc_TB) rmX0_isThreat (kc_Pre D cx (wA cx aA aG mv mc mm mh gw gh gk gq gr gj gR gT gC) [.ref (aA 0), .int x1, .int x2] sz) (kc_Pi D (fun _ : Unit => (wA cx aA aG mv mc mm mh gw gh gk gq gr gj gR gT gC)) v (va_A (wA cx aA aG mv mc mm mh gw gh gk gq gr gj gR gT gC) sz)) 0 0 (va_A (wA cx aA aG mv mc mm mh gw gh gk gq gr gj gR gT gC) sz) := by
  refine kc_entry (Qc := fun A => (kc_Pi D (fun _ : Unit => (wA cx aA aG mv mc mm mh gw gh gk gq gr gj gR gT gC)) v A)) (by decide) (Nat.le_of_ble_eq_true rfl) ?_
  intro p e s m below meth c A hx hb hr hk hml hown hin hts hN hK hP hD hS hA ls hl
  have hown : s.vm.findClass RX0 = some m.cls := hown
  have hl : lv_has ls 3 [(0, .ref (aA 0)), (1, .int x1), (2, .int x2)] := hl
  unfold fX0_isThreat at hf
  have hP : va_P D classes (wA cx aA aG mv mc mm mh gw gh gk gq gr gj gR gT gC) s.heap := hP
  obtain ⟨H, hH⟩ : ∃ H, H = s.heap := ⟨_, rfl⟩
  obtain ⟨locs, hL⟩ : ∃ locs : List Loc, locs = [] := ⟨_, rfl⟩
  have hS : va_S A s.heap H locs := by rw [hH, hL]; exact hS
  have hP : va_P D classes (wA cx aA aG mv mc mm mh gw gh gk gq gr gj gR gT gC) H := by rw [hH]; exact hP
  suffices hW : W p l e rmX0_isThreat s m ([.ref (aA 0), .int x1, .int x2] : List Value).toArray below meth c H locs 0 0 (MQ below (kc_Pi D (fun _ : Unit => (wA cx aA aG mv mc mm mh gw gh gk gq gr gj gR gT gC)) v A) ([.ref (aA 0), .int x1, .int x2] : List Value).toArray s 0 0 A) (F0 m 0 ls []) by rw [hH, hL] at hW; exact hW
  clear hH hL
  refine lv_aload_n hx hb dX0_isThreat_0 rfl (lv_at hl 0 rfl) ?_
  refine lv_iload_n hx hb dX0_isThreat_1 rfl (lv_at hl 2 rfl) ?_
  obtain ⟨u5, hg, hf⟩ := ob_s hf
  refine kc_calli (wn := fun _ => (wA cx aA aG mv mc mm mh gw gh gk gq gr gj gR gT gC)) (va_runV (As := [.int x2]) (rest := []) ⟨hx, hb, hml, hown, hts⟩ (metX0_manOn l D cx aA aG mv mc mm mh gw gh gk gq gr gj gR gT gC x2 N H.size u5 hg) ⟨callB_of 1 hts (kc_gI wd_317) rfl rfl rfl (hts _ wd_44) (hts _ wd_471) (by decide +kernel) ⟨Nat.le_of_ble_eq_true rfl, Nat.le_of_ble_eq_true rfl⟩, hts _ wd_315, hts _ wd_316⟩ ⟨kc_blind _ _ _ _ _, va_recv hK hP (ci := 0) (q0 := 0) rfl rfl, kc_pre _ hK hN (hP.sub [0, 1, 2, 3, 4, 5, 6, 7] rfl) (hD.sub [0, 1, 2, 3, 4, 5, 6, 7] (by decide) rfl)⟩ rfl rfl hl.1 rfl (lv_room (Nat.le_of_ble_eq_true rfl)) dX0_isThreat_2 ⟨Nat.zero_le _, Nat.zero_le _⟩) hP hD hS hA [0, 1, 2, 3, 4, 5, 6, 7] [] [0, 1, 2, 3, 4, 5, 6, 7] rfl rfl (by decide) (by decide) (fun _ => rfl) (by decide) (fun _ H locs hP hD hS => ?_)
  have hP : va_P D classes (wA cx aA aG mv mc mm mh gw gh gk gq gr gj gR gT gC) H := hP
  have hD : va_D A (wA cx aA aG mv mc mm mh gw gh gk gq gr gj gR gT gC) := hD
  refine lv_iconst (v := (-1 : Int32)) hx hb dX0_isThreat_5 (by decide) ?_
  refine lv_icmp_ne (tgt := 33) hx hb dX0_isThreat_6 (by decide) (fun c6 => ?_) (fun c6 => ?_)
  · replace hf := it_f c6 hf
    refine lv_iconst (v := (0 : Int32)) hx hb dX0_isThreat_33 (by decide) ?_
    obtain rfl := Option.some.inj hf
    exact kc_zret () hx hb hr hk hP hD hS rfl rfl dX0_isThreat_34
  · replace hf := it_t c6 hf
    refine lv_aload_n hx hb dX0_isThreat_9 rfl (lv_at hl 0 rfl) ?_
    refine va_get (D := D) (ci := 0) (v := .ref (aG 0)) (C := RX0) (T := TX0) (N := 5) hx hb hts iX0 hown hK hP 0 rfl rfl 0 (by decide) (hts _ wd_180) (fun _ h9 => h9) rfl dX0_isThreat_10 ?_
    refine lv_aload_n hx hb dX0_isThreat_13 rfl (lv_at hl 0 rfl) ?_
    refine va_get (D := D) (ci := 0) (v := .ref (aA 2)) (C := RX0) (T := TX0) (N := 5) hx hb hts iX0 hown hK hP 0 rfl rfl 2 (by decide) (hts _ wd_184) (fun _ h9 => h9) rfl dX0_isThreat_14 ?_
    refine lv_iload_n hx hb dX0_isThreat_17 rfl (lv_at hl 1 rfl) ?_
    obtain ⟨hz, hf⟩ := okb_s hf
    refine va_iald (D := D) hx hb hK hP 2 0 rfl rfl (inb_s hz) dX0_isThreat_18 ?_
    refine lv_iconst (v := (1 : Int32)) hx hb dX0_isThreat_19 (by decide) ?_
    refine lv_iload_n hx hb dX0_isThreat_20 rfl (lv_at hl 2 rfl) ?_
    refine lv_ishl hx hb dX0_isThreat_21 ?_
    refine lv_ior hx hb dX0_isThreat_22 ?_
    obtain ⟨u7, hg, hf⟩ := ob_s hf
    refine kc_calli (wn := fun _ => (wA cx aA aG mv mc mm mh gw gh gk gq gr gj gR gT gC)) (va_runV (As := [.int ((mm x1.toNatClampNeg) ||| ((1 : Int32) <<< (x2 &&& 31)))]) (rest := []) ⟨hx, hb, hml, hown, hts⟩ (metX1_hasRow l D cx aG gw gh gk gq gr gj gR gT gC ((mm x1.toNatClampNeg) ||| ((1 : Int32) <<< (x2 &&& 31))) N H.size u7 hg) ⟨callB_of 1 hts (kc_gI wd_288) rfl rfl rfl (hts _ wd_41) (hts _ wd_285) (by decide +kernel) ⟨Nat.le_of_ble_eq_true rfl, Nat.le_of_ble_eq_true rfl⟩, hts _ wd_286, hts _ wd_287⟩ ⟨kc_blind _ _ _ _ _, va_recv hK hP (ci := 1) (q0 := 4) rfl rfl, kc_pre _ hK hN (hP.sub [4, 5, 6, 7] rfl) (hD.sub [4, 5, 6, 7] (by decide) rfl)⟩ rfl rfl hl.1 rfl (lv_room (Nat.le_of_ble_eq_true rfl)) dX0_isThreat_23 ⟨Nat.zero_le _, Nat.zero_le _⟩) hP hD hS hA [4, 5, 6, 7] [0, 1, 2, 3] [0, 1, 2, 3, 4, 5, 6, 7] rfl rfl (by decide) (by decide) (fun _ => rfl) (by decide) (fun _ H locs hP hD hS => ?_)
    have hP : va_P D classes (wA cx aA aG mv mc mm mh gw gh gk gq gr gj gR gT gC) H := hP
    have hD : va_D A (wA cx aA aG mv mc mm mh gw gh gk gq gr gj gR gT gC) := hD
    refine lv_if_eq (tgt := 33) hx hb dX0_isThreat_26 (by decide) (fun c8 => ?_) (fun c8 => ?_)
    · replace hf := it_t c8 hf
      refine lv_iconst (v := (0 : Int32)) hx hb dX0_isThreat_33 (by decide) ?_
      obtain rfl := Option.some.inj hf
      exact kc_zret () hx hb hr hk hP hD hS rfl rfl dX0_isThreat_34
    · replace hf := it_f c8 hf
      refine lv_iconst (v := (1 : Int32)) hx hb dX0_isThreat_29 (by decide) ?_
      refine lv_goto (tgt := 34) hx hb dX0_isThreat_30 (by decide) ?_
      obtain rfl := Option.some.inj hf
      exact kc_zret () hx hb hr hk hP hD hS rfl rfl dX0_isThreat_34
abbrev rmX0_threatsOf : Room := { frames := 2, cells := 0, slots := 0, locals := 44 }
set_option maxHeartbeats 4000000 in
set_option maxRecDepth 100000 in
theorem metX0_threatsOf (l : Launch) (D : va_G) (cx : Nat → ClassId) (aA : Nat → Nat) (aG : Nat → Nat) (mv : Int32) (mc : Nat → Int32) (mm : Nat → Int32) (mh : Nat → Int32) (gw : Int32) (gh : Int32) (gk : Int32) (gq : Int32) (gr : Int32) (gj : Int32) (gR : Nat → Int32) (gT : Nat → Int32) (gC : Nat → Int32) (x1 : Int32) (N : Nat) (sz : Nat) (v : Int32) (hf : fX0_threatsOf N mm gq gr gR x1 = some v) : Met l yX0_threatsOf (.code yX0_threatsOf cX0_threatsOf 4 (some .int) :: kc_TB) rmX0_threatsOf (kc_Pre D cx (wA cx aA aG mv mc mm mh gw gh gk gq gr gj gR gT gC) [.ref (aA 0), .int x1] sz) (kc_Pi D (fun _ : Unit => (wA cx aA aG mv mc mm mh gw gh gk gq gr gj gR gT gC)) v (va_A (wA cx aA aG mv mc mm mh gw gh gk gq gr gj gR gT gC) sz)) 0 0 (va_A (wA cx aA aG mv mc mm mh gw gh gk gq gr gj gR gT gC) sz) := by
  refine kc_entry (Qc := fun A => (kc_Pi D (fun _ : Unit => (wA cx aA aG mv mc mm mh gw gh gk gq gr gj gR gT gC)) v A)) (by decide) (Nat.le_of_ble_eq_true rfl) ?_
  intro p e s m below meth c A hx hb hr hk hml hown hin hts hN hK hP hD hS hA ls hl
  have hown : s.vm.findClass RX0 = some m.cls := hown
  have hl : lv_has ls 4 [(0, .ref (aA 0)), (1, .int x1)] := hl
  unfold fX0_threatsOf at hf
  have hP : va_P D classes (wA cx aA aG mv mc mm mh gw gh gk gq gr gj gR gT gC) s.heap := hP
  obtain ⟨H, hH⟩ : ∃ H, H = s.heap := ⟨_, rfl⟩
  obtain ⟨locs, hL⟩ : ∃ locs : List Loc, locs = [] := ⟨_, rfl⟩
  have hS : va_S A s.heap H locs := by rw [hH, hL]; exact hS
  have hP : va_P D classes (wA cx aA aG mv mc mm mh gw gh gk gq gr gj gR gT gC) H := by rw [hH]; exact hP
  suffices hW : W p l e rmX0_threatsOf s m ([.ref (aA 0), .int x1] : List Value).toArray below meth c H locs 0 0 (MQ below (kc_Pi D (fun _ : Unit => (wA cx aA aG mv mc mm mh gw gh gk gq gr gj gR gT gC)) v A) ([.ref (aA 0), .int x1] : List Value).toArray s 0 0 A) (F0 m 0 ls []) by rw [hH, hL] at hW; exact hW
  clear hH hL
  refine lv_iconst (v := (0 : Int32)) hx hb dX0_threatsOf_0 (by decide) ?_
  refine lv_istore_n (lv' := [(2, .int (0 : Int32)), (0, .ref (aA 0)), (1, .int x1)]) hx hb dX0_threatsOf_1 rfl hl (by decide) rfl (fun ls hl => ?_)
  refine lv_iconst (v := (0 : Int32)) hx hb dX0_threatsOf_2 (by decide) ?_
  refine lv_istore_n (lv' := [(3, .int (0 : Int32)), (2, .int (0 : Int32)), (0, .ref (aA 0)), (1, .int x1)]) hx hb dX0_threatsOf_3 rfl hl (by decide) rfl (fun ls hl => ?_)
  have L4 : ∀ (ct : Nat) (x2 : Int32) (x3 : Int32) (v4 : Int32), fX0_threatsOf_L4 N mm gq gr gR x1 ct x2 x3 = some v4 → ∀ (H : Heap) (locs : List Loc) (ls : Array Slot), va_P D classes (wA cx aA aG mv mc mm mh gw gh gk gq gr gj gR gT gC) H → va_D A (wA cx aA aG mv mc mm mh gw gh gk gq gr gj gR gT gC) → va_S A s.heap H locs → lv_has ls 4 [(0, .ref (aA 0)), (1, .int x1), (2, .int x2), (3, .int x3)] → (∀ (H : Heap) (locs : List Loc) (ls : Array Slot), va_P D classes (wA cx aA aG mv mc mm mh gw gh gk gq gr gj gR gT gC) H → va_D A (wA cx aA aG mv mc mm mh gw gh gk gq gr gj gR gT gC) → va_S A s.heap H locs → lv_has ls 4 [(2, .int v4)] → W p l e rmX0_threatsOf s m ([.ref (aA 0), .int x1] : List Value).toArray below meth c H locs 0 0 (MQ below (kc_Pi D (fun _ : Unit => (wA cx aA aG mv mc mm mh gw gh gk gq gr gj gR gT gC)) v A) ([.ref (aA 0), .int x1] : List Value).toArray s 0 0 A) (F0 m 36 ls [])) → W p l e rmX0_threatsOf s m ([.ref (aA 0), .int x1] : List Value).toArray below meth c H locs 0 0 (MQ below (kc_Pi D (fun _ : Unit => (wA cx aA aG mv mc mm mh gw gh gk gq gr gj gR gT gC)) v A) ([.ref (aA 0), .int x1] : List Value).toArray s 0 0 A) (F0 m 4 ls []) := by
    intro ct
    induction ct with
    | zero =>
      intro x2 x3 v4 hf
      exact absurd (show (none : Option (Int32)) = some v4 from hf) (fun q => by cases q)
    | succ ct ih =>
      intro x2 x3 v4 hf H locs ls hP hD hS hl hE
      rw [fX0_threatsOf_L4] at hf
      refine lv_iload_n hx hb dX0_threatsOf_4 rfl (lv_at hl 3 rfl) ?_
      refine lv_aload_n hx hb dX0_threatsOf_5 rfl (lv_at hl 0 rfl) ?_
      refine va_get (D := D) (ci := 0) (v := .ref (aG 0)) (C := RX0) (T := TX0) (N := 5) hx hb hts iX0 hown hK hP 0 rfl rfl 0 (by decide) (hts _ wd_180) (fun _ h9 => h9) rfl dX0_threatsOf_6 ?_
      refine va_get (D := D) (ci := 1) (v := .int gq) (C := RX1) (T := TX1) (N := 9) hx hb hts iX1 hown hK hP 4 rfl rfl 3 (by decide) (hts _ wd_76) (fun _ h9 => h9) rfl dX0_threatsOf_9 ?_
      refine lv_icmp_ge (tgt := 36) hx hb dX0_threatsOf_12 (by decide) (fun c7 => ?_) (fun c7 => ?_)
      · replace hf := it_t c7 hf
        obtain rfl := Option.some.inj hf
        exact hE H locs ls hP hD hS (lv_sub hl [2] rfl)
      · replace hf := it_f c7 hf
        refine lv_aload_n hx hb dX0_threatsOf_15 rfl (lv_at hl 0 rfl) ?_
        refine lv_iload_n hx hb dX0_threatsOf_16 rfl (lv_at hl 1 rfl) ?_
        refine lv_iload_n hx hb dX0_threatsOf_17 rfl (lv_at hl 3 rfl) ?_
        obtain ⟨u8, hg, hf⟩ := ob_s hf
        refine kc_calli (wn := fun _ => (wA cx aA aG mv mc mm mh gw gh gk gq gr gj gR gT gC)) (va_runV (As := [.int x1, .int x3]) (rest := []) ⟨hx, hb, hml, hown, hts⟩ (metX0_isThreat l D cx aA aG mv mc mm mh gw gh gk gq gr gj gR gT gC x1 x3 N H.size u8 hg) ⟨callB_of 2 hts (kc_gI wd_470) rfl rfl rfl (hts _ wd_44) (hts _ wd_467) (by decide +kernel) ⟨Nat.le_of_ble_eq_true rfl, Nat.le_of_ble_eq_true rfl⟩, hts _ wd_469, hts _ wd_12⟩ ⟨kc_blind _ _ _ _ _, va_recv hK hP (ci := 0) (q0 := 0) rfl rfl, kc_pre _ hK hN (hP.sub [0, 1, 2, 3, 4, 5, 6, 7] rfl) (hD.sub [0, 1, 2, 3, 4, 5, 6, 7] (by decide) rfl)⟩ rfl rfl hl.1 rfl (lv_room (Nat.le_of_ble_eq_true rfl)) dX0_threatsOf_18 ⟨Nat.zero_le _, Nat.zero_le _⟩) hP hD hS hA [0, 1, 2, 3, 4, 5, 6, 7] [] [0, 1, 2, 3, 4, 5, 6, 7] rfl rfl (by decide) (by decide) (fun _ => rfl) (by decide) (fun _ H locs hP hD hS => ?_)
        have hP : va_P D classes (wA cx aA aG mv mc mm mh gw gh gk gq gr gj gR gT gC) H := hP
        have hD : va_D A (wA cx aA aG mv mc mm mh gw gh gk gq gr gj gR gT gC) := hD
        refine lv_if_eq (tgt := 30) hx hb dX0_threatsOf_21 (by decide) (fun c9 => ?_) (fun c9 => ?_)
        · replace hf := it_t c9 hf
          refine lv_iinc (v := (x3 + (1 : Int32))) (lv' := [(3, .int (x3 + (1 : Int32))), (0, .ref (aA 0)), (1, .int x1), (2, .int x2)]) hx hb dX0_threatsOf_30 hl (k := 3) rfl rfl (by decide) rfl (fun ls hl => ?_)
          refine lv_goto (tgt := 4) hx hb dX0_threatsOf_33 (by decide) ?_
          exact ih x2 (x3 + (1 : Int32)) _ hf H locs ls hP hD hS (lv_sub hl [1, 2, 3, 0] rfl) hE
        · replace hf := it_f c9 hf
          refine lv_iload_n hx hb dX0_threatsOf_24 rfl (lv_at hl 2 rfl) ?_
          refine lv_iconst (v := (1 : Int32)) hx hb dX0_threatsOf_25 (by decide) ?_
          refine lv_iload_n hx hb dX0_threatsOf_26 rfl (lv_at hl 3 rfl) ?_
          refine lv_ishl hx hb dX0_threatsOf_27 ?_
          refine lv_ior hx hb dX0_threatsOf_28 ?_
          refine lv_istore_n (lv' := [(2, .int (x2 ||| ((1 : Int32) <<< (x3 &&& 31)))), (0, .ref (aA 0)), (1, .int x1), (3, .int x3)]) hx hb dX0_threatsOf_29 rfl hl (by decide) rfl (fun ls hl => ?_)
          refine lv_iinc (v := (x3 + (1 : Int32))) (lv' := [(3, .int (x3 + (1 : Int32))), (2, .int (x2 ||| ((1 : Int32) <<< (x3 &&& 31)))), (0, .ref (aA 0)), (1, .int x1)]) hx hb dX0_threatsOf_30 hl (k := 3) rfl rfl (by decide) rfl (fun ls hl => ?_)
          refine lv_goto (tgt := 4) hx hb dX0_threatsOf_33 (by decide) ?_
          exact ih (x2 ||| ((1 : Int32) <<< (x3 &&& 31))) (x3 + (1 : Int32)) _ hf H locs ls hP hD hS (lv_sub hl [2, 3, 1, 0] rfl) hE
  obtain ⟨u10, hg, hf⟩ := ob_s hf
  refine L4 _ (0 : Int32) (0 : Int32) u10 hg H locs ls hP hD hS (lv_sub hl [2, 3, 1, 0] rfl) (fun H locs ls hP hD hS hl => ?_)
  refine lv_iload_n hx hb dX0_threatsOf_36 rfl (lv_at hl 0 rfl) ?_
  obtain rfl := Option.some.inj hf
  exact kc_iret () hx hb hr hk hP hD hS rfl dX0_threatsOf_37
abbrev rmX0_waitingSort : Room := { frames := 2, cells := 0, slots := 0, locals := 44 }
set_option maxHeartbeats 4000000 in
set_option maxRecDepth 100000 in
theorem metX0_waitingSort (l : Launch) (D : va_G) (cx : Nat → ClassId) (aA : Nat → Nat) (aG : Nat → Nat) (mv : Int32) (mc : Nat → Int32) (mm : Nat → Int32) (mh : Nat → Int32) (gw : Int32) (gh : Int32) (gk : Int32) (gq : Int32) (gr : Int32) (gj : Int32) (gR : Nat → Int32) (gT : Nat → Int32) (gC : Nat → Int32) (x1 : Int32) (N : Nat) (sz : Nat) (v : Int32) (hf : fX0_waitingSort N mv mm mh gw gq gr gR x1 = some v) : Met l yX0_waitingSort (.code yX0_waitingSort cX0_waitingSort 5 (some .int) :: kc_TB) rmX0_waitingSort (kc_Pre D cx (wA cx aA aG mv mc mm mh gw gh gk gq gr gj gR gT gC) [.ref (aA 0), .int x1] sz) (kc_Pi D (fun _ : Unit => (wA cx aA aG mv mc mm mh gw gh gk gq gr gj gR gT gC)) v (va_A (wA cx aA aG mv mc mm mh gw gh gk gq gr gj gR gT gC) sz)) 0 0 (va_A (wA cx aA aG mv mc mm mh gw gh gk gq gr gj gR gT gC) sz) := by
  refine kc_entry (Qc := fun A => (kc_Pi D (fun _ : Unit => (wA cx aA aG mv mc mm mh gw gh gk gq gr gj gR gT gC)) v A)) (by decide) (Nat.le_of_ble_eq_true rfl) ?_
  intro p e s m below meth c A hx hb hr hk hml hown hin hts hN hK hP hD hS hA ls hl
  have hown : s.vm.findClass RX0 = some m.cls := hown
  have hl : lv_has ls 5 [(0, .ref (aA 0)), (1, .int x1)] := hl
  unfold fX0_waitingSort at hf
  have hP : va_P D classes (wA cx aA aG mv mc mm mh gw gh gk gq gr gj gR gT gC) s.heap := hP
  obtain ⟨H, hH⟩ : ∃ H, H = s.heap := ⟨_, rfl⟩
  obtain ⟨locs, hL⟩ : ∃ locs : List Loc, locs = [] := ⟨_, rfl⟩
  have hS : va_S A s.heap H locs := by rw [hH, hL]; exact hS
  have hP : va_P D classes (wA cx aA aG mv mc mm mh gw gh gk gq gr gj gR gT gC) H := by rw [hH]; exact hP
  suffices hW : W p l e rmX0_waitingSort s m ([.ref (aA 0), .int x1] : List Value).toArray below meth c H locs 0 0 (MQ below (kc_Pi D (fun _ : Unit => (wA cx aA aG mv mc mm mh gw gh gk gq gr gj gR gT gC)) v A) ([.ref (aA 0), .int x1] : List Value).toArray s 0 0 A) (F0 m 0 ls []) by rw [hH, hL] at hW; exact hW
  clear hH hL
  refine lv_aload_n hx hb dX0_waitingSort_0 rfl (lv_at hl 0 rfl) ?_
  obtain ⟨u12, hg, hf⟩ := ob_s hf
  refine kc_calli (wn := fun _ => (wA cx aA aG mv mc mm mh gw gh gk gq gr gj gR gT gC)) (va_runV (As := []) (rest := []) ⟨hx, hb, hml, hown, hts⟩ (metX0_side l D cx aA aG mv mc mm mh gw gh gk gq gr gj gR gT gC  N H.size u12 hg) ⟨callB_of 0 hts (kc_gI wd_284) rfl rfl rfl (hts _ wd_44) (hts _ wd_281) (by decide +kernel) ⟨Nat.le_of_ble_eq_true rfl, Nat.le_of_ble_eq_true rfl⟩, hts _ wd_282, hts _ wd_283⟩ ⟨kc_blind _ _ _ _ _, va_recv hK hP (ci := 0) (q0 := 0) rfl rfl, kc_pre _ hK hN (hP.sub [0, 1, 2, 3, 4, 5, 6, 7] rfl) (hD.sub [0, 1, 2, 3, 4, 5, 6, 7] (by decide) rfl)⟩ rfl rfl hl.1 rfl (lv_room (Nat.le_of_ble_eq_true rfl)) dX0_waitingSort_1 ⟨Nat.zero_le _, Nat.zero_le _⟩) hP hD hS hA [0, 1, 2, 3, 4, 5, 6, 7] [] [0, 1, 2, 3, 4, 5, 6, 7] rfl rfl (by decide) (by decide) (fun _ => rfl) (by decide) (fun _ H locs hP hD hS => ?_)
  have hP : va_P D classes (wA cx aA aG mv mc mm mh gw gh gk gq gr gj gR gT gC) H := hP
  have hD : va_D A (wA cx aA aG mv mc mm mh gw gh gk gq gr gj gR gT gC) := hD
  refine lv_istore_n (lv' := [(2, .int u12), (0, .ref (aA 0)), (1, .int x1)]) hx hb dX0_waitingSort_4 rfl hl (by decide) rfl (fun ls hl => ?_)
  refine lv_aload_n hx hb dX0_waitingSort_5 rfl (lv_at hl 1 rfl) ?_
  refine lv_iload_n hx hb dX0_waitingSort_6 rfl (lv_at hl 2 rfl) ?_
  obtain ⟨u13, hg, hf⟩ := ob_s hf
  refine kc_calli (wn := fun _ => (wA cx aA aG mv mc mm mh gw gh gk gq gr gj gR gT gC)) (va_runV (As := [.int x1]) (rest := []) ⟨hx, hb, hml, hown, hts⟩ (metX0_squareIn l D cx aA aG mv mc mm mh gw gh gk gq gr gj gR gT gC x1 N H.size u13 hg) ⟨callB_of 1 hts (kc_gI wd_297) rfl rfl rfl (hts _ wd_44) (hts _ wd_294) (by decide +kernel) ⟨Nat.le_of_ble_eq_true rfl, Nat.le_of_ble_eq_true rfl⟩, hts _ wd_296, hts _ wd_4⟩ ⟨kc_blind _ _ _ _ _, va_recv hK hP (ci := 0) (q0 := 0) rfl rfl, kc_pre _ hK hN (hP.sub [0, 1, 2, 3, 4, 5, 6, 7] rfl) (hD.sub [0, 1, 2, 3, 4, 5, 6, 7] (by decide) rfl)⟩ rfl rfl hl.1 rfl (lv_room (Nat.le_of_ble_eq_true rfl)) dX0_waitingSort_7 ⟨Nat.zero_le _, Nat.zero_le _⟩) hP hD hS hA [0, 1, 2, 3, 4, 5, 6, 7] [] [0, 1, 2, 3, 4, 5, 6, 7] rfl rfl (by decide) (by decide) (fun _ => rfl) (by decide) (fun _ H locs hP hD hS => ?_)
  have hP : va_P D classes (wA cx aA aG mv mc mm mh gw gh gk gq gr gj gR gT gC) H := hP
  have hD : va_D A (wA cx aA aG mv mc mm mh gw gh gk gq gr gj gR gT gC) := hD
  refine lv_istore_n (lv' := [(3, .int u13), (2, .int u12), (0, .ref (aA 0)), (1, .int x1)]) hx hb dX0_waitingSort_10 rfl hl (by decide) rfl (fun ls hl => ?_)
  refine lv_aload_n hx hb dX0_waitingSort_11 rfl (lv_at hl 2 rfl) ?_
  refine lv_iload_n hx hb dX0_waitingSort_12 rfl (lv_at hl 1 rfl) ?_
  refine lv_iload_n hx hb dX0_waitingSort_13 rfl (lv_at hl 0 rfl) ?_
  obtain ⟨u14, hg, hf⟩ := ob_s hf
  refine kc_calli (wn := fun _ => (wA cx aA aG mv mc mm mh gw gh gk gq gr gj gR gT gC)) (va_runV (As := [.int u12, .int u13]) (rest := []) ⟨hx, hb, hml, hown, hts⟩ (metX0_isThreat l D cx aA aG mv mc mm mh gw gh gk gq gr gj gR gT gC u12 u13 N H.size u14 hg) ⟨callB_of 2 hts (kc_gI wd_470) rfl rfl rfl (hts _ wd_44) (hts _ wd_467) (by decide +kernel) ⟨Nat.le_of_ble_eq_true rfl, Nat.le_of_ble_eq_true rfl⟩, hts _ wd_469, hts _ wd_12⟩ ⟨kc_blind _ _ _ _ _, va_recv hK hP (ci := 0) (q0 := 0) rfl rfl, kc_pre _ hK hN (hP.sub [0, 1, 2, 3, 4, 5, 6, 7] rfl) (hD.sub [0, 1, 2, 3, 4, 5, 6, 7] (by decide) rfl)⟩ rfl rfl hl.1 rfl (lv_room (Nat.le_of_ble_eq_true rfl)) dX0_waitingSort_14 ⟨Nat.zero_le _, Nat.zero_le _⟩) hP hD hS hA [0, 1, 2, 3, 4, 5, 6, 7] [] [0, 1, 2, 3, 4, 5, 6, 7] rfl rfl (by decide) (by decide) (fun _ => rfl) (by decide) (fun _ H locs hP hD hS => ?_)
  have hP : va_P D classes (wA cx aA aG mv mc mm mh gw gh gk gq gr gj gR gT gC) H := hP
  have hD : va_D A (wA cx aA aG mv mc mm mh gw gh gk gq gr gj gR gT gC) := hD
  refine lv_if_eq (tgt := 22) hx hb dX0_waitingSort_17 (by decide) (fun c15 => ?_) (fun c15 => ?_)
  · replace hf := it_t c15 hf
    refine lv_aload_n hx hb dX0_waitingSort_22 rfl (lv_at hl 2 rfl) ?_
    refine lv_iconst (v := (1 : Int32)) hx hb dX0_waitingSort_23 (by decide) ?_
    refine lv_iload_n hx hb dX0_waitingSort_24 rfl (lv_at hl 1 rfl) ?_
    refine lv_isub hx hb dX0_waitingSort_25 ?_
    refine lv_iload_n hx hb dX0_waitingSort_26 rfl (lv_at hl 0 rfl) ?_
    obtain ⟨u16, hg, hf⟩ := ob_s hf
    refine kc_calli (wn := fun _ => (wA cx aA aG mv mc mm mh gw gh gk gq gr gj gR gT gC)) (va_runV (As := [.int ((1 : Int32) - u12), .int u13]) (rest := []) ⟨hx, hb, hml, hown, hts⟩ (metX0_isThreat l D cx aA aG mv mc mm mh gw gh gk gq gr gj gR gT gC ((1 : Int32) - u12) u13 N H.size u16 hg) ⟨callB_of 2 hts (kc_gI wd_470) rfl rfl rfl (hts _ wd_44) (hts _ wd_467) (by decide +kernel) ⟨Nat.le_of_ble_eq_true rfl, Nat.le_of_ble_eq_true rfl⟩, hts _ wd_469, hts _ wd_12⟩ ⟨kc_blind _ _ _ _ _, va_recv hK hP (ci := 0) (q0 := 0) rfl rfl, kc_pre _ hK hN (hP.sub [0, 1, 2, 3, 4, 5, 6, 7] rfl) (hD.sub [0, 1, 2, 3, 4, 5, 6, 7] (by decide) rfl)⟩ rfl rfl hl.1 rfl (lv_room (Nat.le_of_ble_eq_true rfl)) dX0_waitingSort_27 ⟨Nat.zero_le _, Nat.zero_le _⟩) hP hD hS hA [0, 1, 2, 3, 4, 5, 6, 7] [] [0, 1, 2, 3, 4, 5, 6, 7] rfl rfl (by decide) (by decide) (fun _ => rfl) (by decide) (fun _ H locs hP hD hS => ?_)
    have hP : va_P D classes (wA cx aA aG mv mc mm mh gw gh gk gq gr gj gR gT gC) H := hP
    have hD : va_D A (wA cx aA aG mv mc mm mh gw gh gk gq gr gj gR gT gC) := hD
    refine lv_if_eq (tgt := 35) hx hb dX0_waitingSort_30 (by decide) (fun c17 => ?_) (fun c17 => ?_)
    · replace hf := it_t c17 hf
      refine lv_iload_n hx hb dX0_waitingSort_35 rfl (lv_at hl 0 rfl) ?_
      refine lv_aload_n hx hb dX0_waitingSort_36 rfl (lv_at hl 2 rfl) ?_
      refine va_get (D := D) (ci := 0) (v := .ref (aG 0)) (C := RX0) (T := TX0) (N := 5) hx hb hts iX0 hown hK hP 0 rfl rfl 0 (by decide) (hts _ wd_180) (fun _ h9 => h9) rfl dX0_waitingSort_37 ?_
      refine va_get (D := D) (ci := 1) (v := .int gw) (C := RX1) (T := TX1) (N := 9) hx hb hts iX1 hown hK hP 4 rfl rfl 0 (by decide) (hts _ wd_66) (fun _ h9 => h9) rfl dX0_waitingSort_40 ?_
      refine lv_iadd hx hb dX0_waitingSort_43 ?_
      refine lv_istore (lv' := [(4, .int (u13 + gw)), (3, .int u13), (2, .int u12), (0, .ref (aA 0)), (1, .int x1)]) hx hb dX0_waitingSort_44 hl (by decide) rfl (fun ls hl => ?_)
      refine lv_iload hx hb dX0_waitingSort_46 (lv_at hl 0 rfl) ?_
      refine lv_aload_n hx hb dX0_waitingSort_48 rfl (lv_at hl 3 rfl) ?_
      refine va_get (D := D) (ci := 0) (v := .ref (aG 0)) (C := RX0) (T := TX0) (N := 5) hx hb hts iX0 hown hK hP 0 rfl rfl 0 (by decide) (hts _ wd_180) (fun _ h9 => h9) rfl dX0_waitingSort_49 ?_
      refine va_get (D := D) (ci := 1) (v := .int gq) (C := RX1) (T := TX1) (N := 9) hx hb hts iX1 hown hK hP 4 rfl rfl 3 (by decide) (hts _ wd_76) (fun _ h9 => h9) rfl dX0_waitingSort_52 ?_
      refine lv_icmp_lt (tgt := 60) hx hb dX0_waitingSort_55 (by decide) (fun c18 => ?_) (fun c18 => ?_)
      · replace hf := it_t c18 hf
        refine lv_aload_n hx hb dX0_waitingSort_60 rfl (lv_at hl 3 rfl) ?_
        refine lv_iconst (v := (1 : Int32)) hx hb dX0_waitingSort_61 (by decide) ?_
        refine lv_iload_n hx hb dX0_waitingSort_62 rfl (lv_at hl 2 rfl) ?_
        refine lv_isub hx hb dX0_waitingSort_63 ?_
        refine lv_iload hx hb dX0_waitingSort_64 (lv_at hl 0 rfl) ?_
        obtain ⟨u19, hg, hf⟩ := ob_s hf
        refine kc_calli (wn := fun _ => (wA cx aA aG mv mc mm mh gw gh gk gq gr gj gR gT gC)) (va_runV (As := [.int ((1 : Int32) - u12), .int (u13 + gw)]) (rest := []) ⟨hx, hb, hml, hown, hts⟩ (metX0_isThreat l D cx aA aG mv mc mm mh gw gh gk gq gr gj gR gT gC ((1 : Int32) - u12) (u13 + gw) N H.size u19 hg) ⟨callB_of 2 hts (kc_gI wd_470) rfl rfl rfl (hts _ wd_44) (hts _ wd_467) (by decide +kernel) ⟨Nat.le_of_ble_eq_true rfl, Nat.le_of_ble_eq_true rfl⟩, hts _ wd_469, hts _ wd_12⟩ ⟨kc_blind _ _ _ _ _, va_recv hK hP (ci := 0) (q0 := 0) rfl rfl, kc_pre _ hK hN (hP.sub [0, 1, 2, 3, 4, 5, 6, 7] rfl) (hD.sub [0, 1, 2, 3, 4, 5, 6, 7] (by decide) rfl)⟩ rfl rfl hl.1 rfl (lv_room (Nat.le_of_ble_eq_true rfl)) dX0_waitingSort_66 ⟨Nat.zero_le _, Nat.zero_le _⟩) hP hD hS hA [0, 1, 2, 3, 4, 5, 6, 7] [] [0, 1, 2, 3, 4, 5, 6, 7] rfl rfl (by decide) (by decide) (fun _ => rfl) (by decide) (fun _ H locs hP hD hS => ?_)
        have hP : va_P D classes (wA cx aA aG mv mc mm mh gw gh gk gq gr gj gR gT gC) H := hP
        have hD : va_D A (wA cx aA aG mv mc mm mh gw gh gk gq gr gj gR gT gC) := hD
        refine lv_if_eq (tgt := 74) hx hb dX0_waitingSort_69 (by decide) (fun c20 => ?_) (fun c20 => ?_)
        · replace hf := it_t c20 hf
          refine lv_aload_n hx hb dX0_waitingSort_74 rfl (lv_at hl 3 rfl) ?_
          refine lv_iload_n hx hb dX0_waitingSort_75 rfl (lv_at hl 2 rfl) ?_
          refine lv_iload hx hb dX0_waitingSort_76 (lv_at hl 0 rfl) ?_
          obtain ⟨u21, hg, hf⟩ := ob_s hf
          refine kc_calli (wn := fun _ => (wA cx aA aG mv mc mm mh gw gh gk gq gr gj gR gT gC)) (va_runV (As := [.int u12, .int (u13 + gw)]) (rest := []) ⟨hx, hb, hml, hown, hts⟩ (metX0_isThreat l D cx aA aG mv mc mm mh gw gh gk gq gr gj gR gT gC u12 (u13 + gw) N H.size u21 hg) ⟨callB_of 2 hts (kc_gI wd_470) rfl rfl rfl (hts _ wd_44) (hts _ wd_467) (by decide +kernel) ⟨Nat.le_of_ble_eq_true rfl, Nat.le_of_ble_eq_true rfl⟩, hts _ wd_469, hts _ wd_12⟩ ⟨kc_blind _ _ _ _ _, va_recv hK hP (ci := 0) (q0 := 0) rfl rfl, kc_pre _ hK hN (hP.sub [0, 1, 2, 3, 4, 5, 6, 7] rfl) (hD.sub [0, 1, 2, 3, 4, 5, 6, 7] (by decide) rfl)⟩ rfl rfl hl.1 rfl (lv_room (Nat.le_of_ble_eq_true rfl)) dX0_waitingSort_78 ⟨Nat.zero_le _, Nat.zero_le _⟩) hP hD hS hA [0, 1, 2, 3, 4, 5, 6, 7] [] [0, 1, 2, 3, 4, 5, 6, 7] rfl rfl (by decide) (by decide) (fun _ => rfl) (by decide) (fun _ H locs hP hD hS => ?_)
          have hP : va_P D classes (wA cx aA aG mv mc mm mh gw gh gk gq gr gj gR gT gC) H := hP
          have hD : va_D A (wA cx aA aG mv mc mm mh gw gh gk gq gr gj gR gT gC) := hD
          refine lv_if_eq (tgt := 88) hx hb dX0_waitingSort_81 (by decide) (fun c22 => ?_) (fun c22 => ?_)
          · replace hf := it_t c22 hf
            refine lv_iconst (v := (2 : Int32)) hx hb dX0_waitingSort_88 (by decide) ?_
            obtain rfl := Option.some.inj hf
            exact kc_iret () hx hb hr hk hP hD hS rfl dX0_waitingSort_89
          · replace hf := it_f c22 hf
            refine lv_iconst (v := (3 : Int32)) hx hb dX0_waitingSort_84 (by decide) ?_
            refine lv_goto (tgt := 89) hx hb dX0_waitingSort_85 (by decide) ?_
            obtain rfl := Option.some.inj hf
            exact kc_iret () hx hb hr hk hP hD hS rfl dX0_waitingSort_89
        · replace hf := it_f c20 hf
          refine lv_iconst (v := (4 : Int32)) hx hb dX0_waitingSort_72 (by decide) ?_
          obtain rfl := Option.some.inj hf
          exact kc_iret () hx hb hr hk hP hD hS rfl dX0_waitingSort_73
      · replace hf := it_f c18 hf
        refine lv_iconst (v := (2 : Int32)) hx hb dX0_waitingSort_58 (by decide) ?_
        obtain rfl := Option.some.inj hf
        exact kc_iret () hx hb hr hk hP hD hS rfl dX0_waitingSort_59
    · replace hf := it_f c17 hf
      refine lv_iconst (v := (1 : Int32)) hx hb dX0_waitingSort_33 (by decide) ?_
      obtain rfl := Option.some.inj hf
      exact kc_iret () hx hb hr hk hP hD hS rfl dX0_waitingSort_34
  · replace hf := it_f c15 hf
    refine lv_iconst (v := (0 : Int32)) hx hb dX0_waitingSort_20 (by decide) ?_
    obtain rfl := Option.some.inj hf
    exact kc_iret () hx hb hr hk hP hD hS rfl dX0_waitingSort_21
abbrev rmX0_waitingColumn : Room := { frames := 3, cells := 0, slots := 0, locals := 68 }
set_option maxHeartbeats 4000000 in
set_option maxRecDepth 100000 in
theorem metX0_waitingColumn (l : Launch) (D : va_G) (cx : Nat → ClassId) (aA : Nat → Nat) (aG : Nat → Nat) (mv : Int32) (mc : Nat → Int32) (mm : Nat → Int32) (mh : Nat → Int32) (gw : Int32) (gh : Int32) (gk : Int32) (gq : Int32) (gr : Int32) (gj : Int32) (gR : Nat → Int32) (gT : Nat → Int32) (gC : Nat → Int32)  (N : Nat) (sz : Nat) (v : Int32) (hf : fX0_waitingColumn N mv mm mh gw gh gq gr gR = some v) : Met l yX0_waitingColumn (.code yX0_waitingColumn cX0_waitingColumn 5 (some .int) :: kc_TB) rmX0_waitingColumn (kc_Pre D cx (wA cx aA aG mv mc mm mh gw gh gk gq gr gj gR gT gC) [.ref (aA 0)] sz) (kc_Pi D (fun _ : Unit => (wA cx aA aG mv mc mm mh gw gh gk gq gr gj gR gT gC)) v (va_A (wA cx aA aG mv mc mm mh gw gh gk gq gr gj gR gT gC) sz)) 0 0 (va_A (wA cx aA aG mv mc mm mh gw gh gk gq gr gj gR gT gC) sz) := by
  refine kc_entry (Qc := fun A => (kc_Pi D (fun _ : Unit => (wA cx aA aG mv mc mm mh gw gh gk gq gr gj gR gT gC)) v A)) (by decide) (Nat.le_of_ble_eq_true rfl) ?_
  intro p e s m below meth c A hx hb hr hk hml hown hin hts hN hK hP hD hS hA ls hl
  have hown : s.vm.findClass RX0 = some m.cls := hown
  have hl : lv_has ls 5 [(0, .ref (aA 0))] := hl
  unfold fX0_waitingColumn at hf
  have hP : va_P D classes (wA cx aA aG mv mc mm mh gw gh gk gq gr gj gR gT gC) s.heap := hP
  obtain ⟨H, hH⟩ : ∃ H, H = s.heap := ⟨_, rfl⟩
  obtain ⟨locs, hL⟩ : ∃ locs : List Loc, locs = [] := ⟨_, rfl⟩
  have hS : va_S A s.heap H locs := by rw [hH, hL]; exact hS
  have hP : va_P D classes (wA cx aA aG mv mc mm mh gw gh gk gq gr gj gR gT gC) H := by rw [hH]; exact hP
  suffices hW : W p l e rmX0_waitingColumn s m ([.ref (aA 0)] : List Value).toArray below meth c H locs 0 0 (MQ below (kc_Pi D (fun _ : Unit => (wA cx aA aG mv mc mm mh gw gh gk gq gr gj gR gT gC)) v A) ([.ref (aA 0)] : List Value).toArray s 0 0 A) (F0 m 0 ls []) by rw [hH, hL] at hW; exact hW
  clear hH hL
  refine lv_iconst (v := (-1 : Int32)) hx hb dX0_waitingColumn_0 (by decide) ?_
  refine lv_istore_n (lv' := [(1, .int (-1 : Int32)), (0, .ref (aA 0))]) hx hb dX0_waitingColumn_1 rfl hl (by decide) rfl (fun ls hl => ?_)
  refine lv_iconst (v := (5 : Int32)) hx hb dX0_waitingColumn_2 (by decide) ?_
  refine lv_istore_n (lv' := [(2, .int (5 : Int32)), (1, .int (-1 : Int32)), (0, .ref (aA 0))]) hx hb dX0_waitingColumn_3 rfl hl (by decide) rfl (fun ls hl => ?_)
  refine lv_iconst (v := (0 : Int32)) hx hb dX0_waitingColumn_4 (by decide) ?_
  refine lv_istore_n (lv' := [(3, .int (0 : Int32)), (2, .int (5 : Int32)), (1, .int (-1 : Int32)), (0, .ref (aA 0))]) hx hb dX0_waitingColumn_5 rfl hl (by decide) rfl (fun ls hl => ?_)
  have L6 : ∀ (ct : Nat) (x1 : Int32) (x2 : Int32) (x3 : Int32) (v6 : Int32), fX0_waitingColumn_L6 N mv mm mh gw gh gq gr gR ct x1 x2 x3 = some v6 → ∀ (H : Heap) (locs : List Loc) (ls : Array Slot), va_P D classes (wA cx aA aG mv mc mm mh gw gh gk gq gr gj gR gT gC) H → va_D A (wA cx aA aG mv mc mm mh gw gh gk gq gr gj gR gT gC) → va_S A s.heap H locs → lv_has ls 5 [(0, .ref (aA 0)), (1, .int x1), (2, .int x2), (3, .int x3)] → (∀ (H : Heap) (locs : List Loc) (ls : Array Slot), va_P D classes (wA cx aA aG mv mc mm mh gw gh gk gq gr gj gR gT gC) H → va_D A (wA cx aA aG mv mc mm mh gw gh gk gq gr gj gR gT gC) → va_S A s.heap H locs → lv_has ls 5 [(1, .int v6)] → W p l e rmX0_waitingColumn s m ([.ref (aA 0)] : List Value).toArray below meth c H locs 0 0 (MQ below (kc_Pi D (fun _ : Unit => (wA cx aA aG mv mc mm mh gw gh gk gq gr gj gR gT gC)) v A) ([.ref (aA 0)] : List Value).toArray s 0 0 A) (F0 m 49 ls [])) → W p l e rmX0_waitingColumn s m ([.ref (aA 0)] : List Value).toArray below meth c H locs 0 0 (MQ below (kc_Pi D (fun _ : Unit => (wA cx aA aG mv mc mm mh gw gh gk gq gr gj gR gT gC)) v A) ([.ref (aA 0)] : List Value).toArray s 0 0 A) (F0 m 6 ls []) := by
    intro ct
    induction ct with
    | zero =>
      intro x1 x2 x3 v6 hf
      exact absurd (show (none : Option (Int32)) = some v6 from hf) (fun q => by cases q)
    | succ ct ih =>
      intro x1 x2 x3 v6 hf H locs ls hP hD hS hl hE
      rw [fX0_waitingColumn_L6] at hf
      refine lv_iload_n hx hb dX0_waitingColumn_6 rfl (lv_at hl 3 rfl) ?_
      refine lv_aload_n hx hb dX0_waitingColumn_7 rfl (lv_at hl 0 rfl) ?_
      refine va_get (D := D) (ci := 0) (v := .ref (aG 0)) (C := RX0) (T := TX0) (N := 5) hx hb hts iX0 hown hK hP 0 rfl rfl 0 (by decide) (hts _ wd_180) (fun _ h9 => h9) rfl dX0_waitingColumn_8 ?_
      refine va_get (D := D) (ci := 1) (v := .int gw) (C := RX1) (T := TX1) (N := 9) hx hb hts iX1 hown hK hP 4 rfl rfl 0 (by decide) (hts _ wd_66) (fun _ h9 => h9) rfl dX0_waitingColumn_11 ?_
      refine lv_icmp_ge (tgt := 49) hx hb dX0_waitingColumn_14 (by decide) (fun c11 => ?_) (fun c11 => ?_)
      · replace hf := it_t c11 hf
        obtain rfl := Option.some.inj hf
        exact hE H locs ls hP hD hS (lv_sub hl [1] rfl)
      · replace hf := it_f c11 hf
        refine lv_aload_n hx hb dX0_waitingColumn_17 rfl (lv_at hl 0 rfl) ?_
        refine lv_iload_n hx hb dX0_waitingColumn_18 rfl (lv_at hl 3 rfl) ?_
        obtain ⟨u12, hg, hf⟩ := ob_s hf
        refine kc_calli (wn := fun _ => (wA cx aA aG mv mc mm mh gw gh gk gq gr gj gR gT gC)) (va_runV (As := [.int x3]) (rest := []) ⟨hx, hb, hml, hown, hts⟩ (metX0_isOpen l D cx aA aG mv mc mm mh gw gh gk gq gr gj gR gT gC x3 N H.size u12 hg) ⟨callB_of 1 hts (kc_gI wd_271) rfl rfl rfl (hts _ wd_44) (hts _ wd_293) (by decide +kernel) ⟨Nat.le_of_ble_eq_true rfl, Nat.le_of_ble_eq_true rfl⟩, hts _ wd_269, hts _ wd_270⟩ ⟨kc_blind _ _ _ _ _, va_recv hK hP (ci := 0) (q0 := 0) rfl rfl, kc_pre _ hK hN (hP.sub [0, 1, 2, 3, 4, 5, 6, 7] rfl) (hD.sub [0, 1, 2, 3, 4, 5, 6, 7] (by decide) rfl)⟩ rfl rfl hl.1 rfl (lv_room (Nat.le_of_ble_eq_true rfl)) dX0_waitingColumn_19 ⟨Nat.zero_le _, Nat.zero_le _⟩) hP hD hS hA [0, 1, 2, 3, 4, 5, 6, 7] [] [0, 1, 2, 3, 4, 5, 6, 7] rfl rfl (by decide) (by decide) (fun _ => rfl) (by decide) (fun _ H locs hP hD hS => ?_)
        have hP : va_P D classes (wA cx aA aG mv mc mm mh gw gh gk gq gr gj gR gT gC) H := hP
        have hD : va_D A (wA cx aA aG mv mc mm mh gw gh gk gq gr gj gR gT gC) := hD
        refine lv_if_eq (tgt := 43) hx hb dX0_waitingColumn_22 (by decide) (fun c13 => ?_) (fun c13 => ?_)
        · replace hf := it_t c13 hf
          refine lv_iinc (v := (x3 + (1 : Int32))) (lv' := [(3, .int (x3 + (1 : Int32))), (0, .ref (aA 0)), (1, .int x1), (2, .int x2)]) hx hb dX0_waitingColumn_43 hl (k := 3) rfl rfl (by decide) rfl (fun ls hl => ?_)
          refine lv_goto (tgt := 6) hx hb dX0_waitingColumn_46 (by decide) ?_
          exact ih x1 x2 (x3 + (1 : Int32)) _ hf H locs ls hP hD hS (lv_sub hl [1, 2, 3, 0] rfl) hE
        · replace hf := it_f c13 hf
          refine lv_aload_n hx hb dX0_waitingColumn_25 rfl (lv_at hl 0 rfl) ?_
          refine lv_iload_n hx hb dX0_waitingColumn_26 rfl (lv_at hl 3 rfl) ?_
          obtain ⟨u14, hg, hf⟩ := ob_s hf
          refine kc_calli (wn := fun _ => (wA cx aA aG mv mc mm mh gw gh gk gq gr gj gR gT gC)) (va_runV (As := [.int x3]) (rest := []) ⟨hx, hb, hml, hown, hts⟩ (metX0_waitingSort l D cx aA aG mv mc mm mh gw gh gk gq gr gj gR gT gC x3 N H.size u14 hg) ⟨callB_of 1 hts (kc_gI wd_493) rfl rfl rfl (hts _ wd_44) (hts _ wd_490) (by decide +kernel) ⟨Nat.le_of_ble_eq_true rfl, Nat.le_of_ble_eq_true rfl⟩, hts _ wd_492, hts _ wd_13⟩ ⟨kc_blind _ _ _ _ _, va_recv hK hP (ci := 0) (q0 := 0) rfl rfl, kc_pre _ hK hN (hP.sub [0, 1, 2, 3, 4, 5, 6, 7] rfl) (hD.sub [0, 1, 2, 3, 4, 5, 6, 7] (by decide) rfl)⟩ rfl rfl hl.1 rfl (lv_room (Nat.le_of_ble_eq_true rfl)) dX0_waitingColumn_27 ⟨Nat.zero_le _, Nat.zero_le _⟩) hP hD hS hA [0, 1, 2, 3, 4, 5, 6, 7] [] [0, 1, 2, 3, 4, 5, 6, 7] rfl rfl (by decide) (by decide) (fun _ => rfl) (by decide) (fun _ H locs hP hD hS => ?_)
          have hP : va_P D classes (wA cx aA aG mv mc mm mh gw gh gk gq gr gj gR gT gC) H := hP
          have hD : va_D A (wA cx aA aG mv mc mm mh gw gh gk gq gr gj gR gT gC) := hD
          refine lv_istore (lv' := [(4, .int u14), (0, .ref (aA 0)), (1, .int x1), (2, .int x2), (3, .int x3)]) hx hb dX0_waitingColumn_30 hl (by decide) rfl (fun ls hl => ?_)
          refine lv_iload hx hb dX0_waitingColumn_32 (lv_at hl 0 rfl) ?_
          refine lv_iload_n hx hb dX0_waitingColumn_34 rfl (lv_at hl 3 rfl) ?_
          refine lv_icmp_ge (tgt := 43) hx hb dX0_waitingColumn_35 (by decide) (fun c15 => ?_) (fun c15 => ?_)
          · replace hf := it_t c15 hf
            refine lv_iinc (v := (x3 + (1 : Int32))) (lv' := [(3, .int (x3 + (1 : Int32))), (4, .int u14), (0, .ref (aA 0)), (1, .int x1), (2, .int x2)]) hx hb dX0_waitingColumn_43 hl (k := 4) rfl rfl (by decide) rfl (fun ls hl => ?_)
            refine lv_goto (tgt := 6) hx hb dX0_waitingColumn_46 (by decide) ?_
            exact ih x1 x2 (x3 + (1 : Int32)) _ hf H locs ls hP hD hS (lv_sub hl [2, 3, 4, 0] rfl) hE
          · replace hf := it_f c15 hf
            refine lv_iload hx hb dX0_waitingColumn_38 (lv_at hl 0 rfl) ?_
            refine lv_istore_n (lv' := [(2, .int u14), (4, .int u14), (0, .ref (aA 0)), (1, .int x1), (3, .int x3)]) hx hb dX0_waitingColumn_40 rfl hl (by decide) rfl (fun ls hl => ?_)
            refine lv_iload_n hx hb dX0_waitingColumn_41 rfl (lv_at hl 4 rfl) ?_
            refine lv_istore_n (lv' := [(1, .int x3), (2, .int u14), (4, .int u14), (0, .ref (aA 0)), (3, .int x3)]) hx hb dX0_waitingColumn_42 rfl hl (by decide) rfl (fun ls hl => ?_)
            refine lv_iinc (v := (x3 + (1 : Int32))) (lv' := [(3, .int (x3 + (1 : Int32))), (1, .int x3), (2, .int u14), (4, .int u14), (0, .ref (aA 0))]) hx hb dX0_waitingColumn_43 hl (k := 4) rfl rfl (by decide) rfl (fun ls hl => ?_)
            refine lv_goto (tgt := 6) hx hb dX0_waitingColumn_46 (by decide) ?_
            exact ih x3 u14 (x3 + (1 : Int32)) _ hf H locs ls hP hD hS (lv_sub hl [4, 1, 2, 0] rfl) hE
  obtain ⟨u16, hg, hf⟩ := ob_s hf
  refine L6 _ (-1 : Int32) (5 : Int32) (0 : Int32) u16 hg H locs ls hP hD hS (lv_sub hl [3, 2, 1, 0] rfl) (fun H locs ls hP hD hS hl => ?_)
  refine lv_iload_n hx hb dX0_waitingColumn_49 rfl (lv_at hl 0 rfl) ?_
  obtain rfl := Option.some.inj hf
  exact kc_iret () hx hb hr hk hP hD hS rfl dX0_waitingColumn_50
abbrev rmX0_follow : Room := { frames := 3, cells := 0, slots := 0, locals := 65 }
set_option maxHeartbeats 4000000 in
set_option maxRecDepth 100000 in
theorem metX0_follow (l : Launch) (D : va_G) (cx : Nat → ClassId) (aA : Nat → Nat) (aB : Nat → Nat) (aG : Nat → Nat) (mv : Int32) (mc : Nat → Int32) (mm : Nat → Int32) (mh : Nat → Int32) (nv : Int32) (nc : Nat → Int32) (nm : Nat → Int32) (nh : Nat → Int32) (gw : Int32) (gh : Int32) (gk : Int32) (gq : Int32) (gr : Int32) (gj : Int32) (gR : Nat → Int32) (gT : Nat → Int32) (gC : Nat → Int32)  (N : Nat) (sz : Nat) (v : Int32 × (Nat → Int32) × (Nat → Int32) × (Nat → Int32)) (hf : fX0_follow N mc mm mh nv nc gw gh = some v) : Met l yX0_follow (.code yX0_follow cX0_follow 3 none :: kc_TB) rmX0_follow (kc_Pre D cx (wAA cx aA aB aG mv mc mm mh nv nc nm nh gw gh gk gq gr gj gR gT gC) [.ref (aA 0), .ref (aB 0)] sz) (kc_Pv D (fun _ : Unit => (wAA cx aA aB aG v.1 v.2.1 v.2.2.1 v.2.2.2 nv nc nm nh gw gh gk gq gr gj gR gT gC)) (va_A (wAA cx aA aB aG mv mc mm mh nv nc nm nh gw gh gk gq gr gj gR gT gC) sz)) 0 0 (va_A (wAA cx aA aB aG mv mc mm mh nv nc nm nh gw gh gk gq gr gj gR gT gC) sz) := by
  refine kc_entry (Qc := fun A => (kc_Pv D (fun _ : Unit => (wAA cx aA aB aG v.1 v.2.1 v.2.2.1 v.2.2.2 nv nc nm nh gw gh gk gq gr gj gR gT gC)) A)) (by decide) (Nat.le_of_ble_eq_true rfl) ?_
  intro p e s m below meth c A hx hb hr hk hml hown hin hts hN hK hP hD hS hA ls hl
  have hown : s.vm.findClass RX0 = some m.cls := hown
  have hl : lv_has ls 3 [(0, .ref (aA 0)), (1, .ref (aB 0))] := hl
  unfold fX0_follow at hf
  have hP : va_P D classes (wAA cx aA aB aG mv mc mm mh nv nc nm nh gw gh gk gq gr gj gR gT gC) s.heap := hP
  obtain ⟨H, hH⟩ : ∃ H, H = s.heap := ⟨_, rfl⟩
  obtain ⟨locs, hL⟩ : ∃ locs : List Loc, locs = [] := ⟨_, rfl⟩
  have hS : va_S A s.heap H locs := by rw [hH, hL]; exact hS
  have hP : va_P D classes (wAA cx aA aB aG mv mc mm mh nv nc nm nh gw gh gk gq gr gj gR gT gC) H := by rw [hH]; exact hP
  suffices hW : W p l e rmX0_follow s m ([.ref (aA 0), .ref (aB 0)] : List Value).toArray below meth c H locs 0 0 (MQ below (kc_Pv D (fun _ : Unit => (wAA cx aA aB aG v.1 v.2.1 v.2.2.1 v.2.2.2 nv nc nm nh gw gh gk gq gr gj gR gT gC)) A) ([.ref (aA 0), .ref (aB 0)] : List Value).toArray s 0 0 A) (F0 m 0 ls []) by rw [hH, hL] at hW; exact hW
  clear hH hL
  refine lv_aload_n hx hb dX0_follow_0 rfl (lv_at hl 0 rfl) ?_
  obtain ⟨u4, hg, hf⟩ := ob_s hf
  refine kc_callv (wn := fun _ => (wAA cx aA aB aG u4.1 mc u4.2.1 u4.2.2 nv nc nm nh gw gh gk gq gr gj gR gT gC)) (va_runV (As := []) (rest := []) ⟨hx, hb, hml, hown, hts⟩ (metX0_clear l D cx aA aG mv mc mm mh gw gh gk gq gr gj gR gT gC  N H.size u4 hg) ⟨callB_of 0 hts (kc_gI wd_262) rfl rfl rfl (hts _ wd_44) (hts _ wd_484) (by decide +kernel) ⟨Nat.le_of_ble_eq_true rfl, Nat.le_of_ble_eq_true rfl⟩, hts _ wd_260, hts _ wd_261⟩ ⟨kc_blind _ _ _ _ _, va_recv hK hP (ci := 0) (q0 := 0) rfl rfl, kc_pre _ hK hN (hP.sub [0, 1, 2, 3, 8, 9, 10, 11] rfl) (hD.sub [0, 1, 2, 3, 8, 9, 10, 11] (by decide) rfl)⟩ rfl rfl hl.1 rfl (lv_room (Nat.le_of_ble_eq_true rfl)) dX0_follow_1 ⟨Nat.zero_le _, Nat.zero_le _⟩) hP hD hS hA [0, 1, 2, 3, 8, 9, 10, 11] [4, 5, 6, 7] [4, 5, 6, 7, 0, 1, 2, 3, 8, 9, 10, 11] rfl rfl (by decide) (by decide) (fun _ => rfl) (by decide) (fun _ H locs hP hD hS => ?_)
  have hP : va_P D classes (wAA cx aA aB aG u4.1 mc u4.2.1 u4.2.2 nv nc nm nh gw gh gk gq gr gj gR gT gC) H := hP
  have hD : va_D A (wAA cx aA aB aG u4.1 mc u4.2.1 u4.2.2 nv nc nm nh gw gh gk gq gr gj gR gT gC) := hD
  refine lv_iconst (v := (0 : Int32)) hx hb dX0_follow_4 (by decide) ?_
  refine lv_istore_n (lv' := [(2, .int (0 : Int32)), (0, .ref (aA 0)), (1, .ref (aB 0))]) hx hb dX0_follow_5 rfl hl (by decide) rfl (fun ls hl => ?_)
  have L6 : ∀ (ct : Nat) (mv : Int32) (mc : Nat → Int32) (mm : Nat → Int32) (mh : Nat → Int32) (x2 : Int32) (v6 : Int32 × (Nat → Int32) × (Nat → Int32) × (Nat → Int32)), fX0_follow_L6 N nv nc gw gh ct mv mc mm mh x2 = some v6 → ∀ (H : Heap) (locs : List Loc) (ls : Array Slot), va_P D classes (wAA cx aA aB aG mv mc mm mh nv nc nm nh gw gh gk gq gr gj gR gT gC) H → va_D A (wAA cx aA aB aG mv mc mm mh nv nc nm nh gw gh gk gq gr gj gR gT gC) → va_S A s.heap H locs → lv_has ls 3 [(0, .ref (aA 0)), (1, .ref (aB 0)), (2, .int x2)] → (∀ (H : Heap) (locs : List Loc) (ls : Array Slot), va_P D classes (wAA cx aA aB aG v6.1 v6.2.1 v6.2.2.1 v6.2.2.2 nv nc nm nh gw gh gk gq gr gj gR gT gC) H → va_D A (wAA cx aA aB aG v6.1 v6.2.1 v6.2.2.1 v6.2.2.2 nv nc nm nh gw gh gk gq gr gj gR gT gC) → va_S A s.heap H locs → lv_has ls 3 [] → W p l e rmX0_follow s m ([.ref (aA 0), .ref (aB 0)] : List Value).toArray below meth c H locs 0 0 (MQ below (kc_Pv D (fun _ : Unit => (wAA cx aA aB aG v.1 v.2.1 v.2.2.1 v.2.2.2 nv nc nm nh gw gh gk gq gr gj gR gT gC)) A) ([.ref (aA 0), .ref (aB 0)] : List Value).toArray s 0 0 A) (F0 m 31 ls [])) → W p l e rmX0_follow s m ([.ref (aA 0), .ref (aB 0)] : List Value).toArray below meth c H locs 0 0 (MQ below (kc_Pv D (fun _ : Unit => (wAA cx aA aB aG v.1 v.2.1 v.2.2.1 v.2.2.2 nv nc nm nh gw gh gk gq gr gj gR gT gC)) A) ([.ref (aA 0), .ref (aB 0)] : List Value).toArray s 0 0 A) (F0 m 6 ls []) := by
    intro ct
    induction ct with
    | zero =>
      intro mv mc mm mh x2 v6 hf
      exact absurd (show (none : Option (Int32 × (Nat → Int32) × (Nat → Int32) × (Nat → Int32))) = some v6 from hf) (fun q => by cases q)
    | succ ct ih =>
      intro mv mc mm mh x2 v6 hf H locs ls hP hD hS hl hE
      rw [fX0_follow_L6] at hf
      refine lv_iload_n hx hb dX0_follow_6 rfl (lv_at hl 2 rfl) ?_
      refine lv_aload_n hx hb dX0_follow_7 rfl (lv_at hl 1 rfl) ?_
      refine va_get (D := D) (ci := 0) (v := .int nv) (C := RX0) (T := TX0) (N := 5) hx hb hts iX0 hown hK hP 4 rfl rfl 4 (by decide) (hts _ wd_188) (fun _ h9 => h9) rfl dX0_follow_8 ?_
      refine lv_icmp_ge (tgt := 31) hx hb dX0_follow_11 (by decide) (fun c7 => ?_) (fun c7 => ?_)
      · replace hf := it_t c7 hf
        obtain rfl := Option.some.inj hf
        exact hE H locs ls hP hD hS (lv_sub hl [] rfl)
      · replace hf := it_f c7 hf
        refine lv_aload_n hx hb dX0_follow_14 rfl (lv_at hl 0 rfl) ?_
        refine lv_aload_n hx hb dX0_follow_15 rfl (lv_at hl 1 rfl) ?_
        refine va_get (D := D) (ci := 0) (v := .ref (aB 1)) (C := RX0) (T := TX0) (N := 5) hx hb hts iX0 hown hK hP 4 rfl rfl 1 (by decide) (hts _ wd_181) (fun _ h9 => h9) rfl dX0_follow_16 ?_
        refine lv_iload_n hx hb dX0_follow_19 rfl (lv_at hl 2 rfl) ?_
        obtain ⟨hz, hf⟩ := okb_s hf
        refine va_iald (D := D) hx hb hK hP 5 0 rfl rfl (inb_s hz) dX0_follow_20 ?_
        obtain ⟨u8, hg, hf⟩ := ob_s hf
        refine kc_calli (wn := fun _ => (wAA cx aA aB aG u8.2.1 u8.2.2.1 u8.2.2.2.1 u8.2.2.2.2 nv nc nm nh gw gh gk gq gr gj gR gT gC)) (va_runV (As := [.int (nc x2.toNatClampNeg)]) (rest := []) ⟨hx, hb, hml, hown, hts⟩ (metX0_make l D cx aA aG mv mc mm mh gw gh gk gq gr gj gR gT gC (nc x2.toNatClampNeg) N H.size u8 hg) ⟨callB_of 1 hts (kc_gI wd_292) rfl rfl rfl (hts _ wd_44) (hts _ wd_485) (by decide +kernel) ⟨Nat.le_of_ble_eq_true rfl, Nat.le_of_ble_eq_true rfl⟩, hts _ wd_290, hts _ wd_291⟩ ⟨kc_blind _ _ _ _ _, va_recv hK hP (ci := 0) (q0 := 0) rfl rfl, kc_pre _ hK hN (hP.sub [0, 1, 2, 3, 8, 9, 10, 11] rfl) (hD.sub [0, 1, 2, 3, 8, 9, 10, 11] (by decide) rfl)⟩ rfl rfl hl.1 rfl (lv_room (Nat.le_of_ble_eq_true rfl)) dX0_follow_21 ⟨Nat.zero_le _, Nat.zero_le _⟩) hP hD hS hA [0, 1, 2, 3, 8, 9, 10, 11] [4, 5, 6, 7] [4, 5, 6, 7, 0, 1, 2, 3, 8, 9, 10, 11] rfl rfl (by decide) (by decide) (fun _ => rfl) (by decide) (fun _ H locs hP hD hS => ?_)
        have hP : va_P D classes (wAA cx aA aB aG u8.2.1 u8.2.2.1 u8.2.2.2.1 u8.2.2.2.2 nv nc nm nh gw gh gk gq gr gj gR gT gC) H := hP
        have hD : va_D A (wAA cx aA aB aG u8.2.1 u8.2.2.1 u8.2.2.2.1 u8.2.2.2.2 nv nc nm nh gw gh gk gq gr gj gR gT gC) := hD
        refine lv_pop hx hb dX0_follow_24 rfl ?_
        refine lv_iinc (v := (x2 + (1 : Int32))) (lv' := [(2, .int (x2 + (1 : Int32))), (0, .ref (aA 0)), (1, .ref (aB 0))]) hx hb dX0_follow_25 hl (k := 2) rfl rfl (by decide) rfl (fun ls hl => ?_)
        refine lv_goto (tgt := 6) hx hb dX0_follow_28 (by decide) ?_
        exact ih u8.2.1 u8.2.2.1 u8.2.2.2.1 u8.2.2.2.2 (x2 + (1 : Int32)) _ hf H locs ls hP hD hS (lv_sub hl [1, 2, 0] rfl) hE
  obtain ⟨u9, hg, hf⟩ := ob_s hf
  refine L6 _ u4.1 mc u4.2.1 u4.2.2 (0 : Int32) u9 hg H locs ls hP hD hS (lv_sub hl [1, 2, 0] rfl) (fun H locs ls hP hD hS hl => ?_)
  obtain rfl := Option.some.inj hf
  exact kc_vret () hx hb hr hk hP hD hS dX0_follow_31
