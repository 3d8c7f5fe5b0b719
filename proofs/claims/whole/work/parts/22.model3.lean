/-! walks, written by program: what a method answers and leaves, as a function; its contract -/
abbrev rmX5_met : Room := { frames := 0, cells := 0, slots := 0, locals := 0 }
set_option maxHeartbeats 4000000 in
set_option maxRecDepth 100000 in
theorem metX5_met (l : Launch) (D : va_G) (cx : Nat → ClassId) (aM : Nat → Nat) (xw : Int32) (xh : Int32) (xk : Int32) (xj : Int32) (xb : Int32) (xr : Int32) (xc : Int32) (xv : Int32) (xn : Int32) (xl : Int32) (yR : Nat → Int32) (yT : Nat → Int32) (yC : Nat → Int32) (yW : Nat → Int32) (yA : Nat → Int32) (yE : Nat → Int32) (yU : Nat → Int32) (yM : Nat → Int32) (yV : Nat → Int32) (yF : Nat → Int32) (yZ : Nat → Int32) (yI : Nat → Int32) (yD : Nat → Int32) (x1 : Int32) (N : Nat) (sz : Nat) (v : Int32 × Int32) (hf : fX5_met N x1 = some v) : Met l yX5_met (.code yX5_met cX5_met 2 (some .int) :: kc_TB) rmX5_met (kc_Pre D cx (wM cx aM xw xh xk xj xb xr xc xv xn xl yR yT yC yW yA yE yU yM yV yF yZ yI yD) [.ref (aM 0), .int x1] sz) (kc_Pi D (fun _ : Unit => (wM cx aM xw xh xk xj xb xr xc xv xn v.2 yR yT yC yW yA yE yU yM yV yF yZ yI yD)) v.1 (va_A (wM cx aM xw xh xk xj xb xr xc xv xn xl yR yT yC yW yA yE yU yM yV yF yZ yI yD) sz)) 0 0 (va_A (wM cx aM xw xh xk xj xb xr xc xv xn xl yR yT yC yW yA yE yU yM yV yF yZ yI yD) sz) := by
  refine kc_entry (Qc := fun A => (kc_Pi D (fun _ : Unit => (wM cx aM xw xh xk xj xb xr xc xv xn v.2 yR yT yC yW yA yE yU yM yV yF yZ yI yD)) v.1 A)) (by decide) (Nat.le_of_ble_eq_true rfl) ?_
  intro p e s m below meth c A hx hb hr hk hml hown hin hts hN hK hP hD hS hA ls hl
  have hown : s.vm.findClass RX5 = some m.cls := hown
  have hl : lv_has ls 2 [(0, .ref (aM 0)), (1, .int x1)] := hl
  unfold fX5_met at hf
  have hP : va_P D classes (wM cx aM xw xh xk xj xb xr xc xv xn xl yR yT yC yW yA yE yU yM yV yF yZ yI yD) s.heap := hP
  obtain ⟨H, hH⟩ : ∃ H, H = s.heap := ⟨_, rfl⟩
  obtain ⟨locs, hL⟩ : ∃ locs : List Loc, locs = [] := ⟨_, rfl⟩
  have hS : va_S A s.heap H locs := by rw [hH, hL]; exact hS
  have hP : va_P D classes (wM cx aM xw xh xk xj xb xr xc xv xn xl yR yT yC yW yA yE yU yM yV yF yZ yI yD) H := by rw [hH]; exact hP
  suffices hW : W p l e rmX5_met s m ([.ref (aM 0), .int x1] : List Value).toArray below meth c H locs 0 0 (MQ below (kc_Pi D (fun _ : Unit => (wM cx aM xw xh xk xj xb xr xc xv xn v.2 yR yT yC yW yA yE yU yM yV yF yZ yI yD)) v.1 A) ([.ref (aM 0), .int x1] : List Value).toArray s 0 0 A) (F0 m 0 ls []) by rw [hH, hL] at hW; exact hW
  clear hH hL
  refine lv_aload_n hx hb dX5_met_0 rfl (lv_at hl 0 rfl) ?_
  refine lv_iload_n hx hb dX5_met_1 rfl (lv_at hl 1 rfl) ?_
  refine va_put (D := D) (ci := 5) (v := .int x1) (ty := .int) (C := RX5) (T := TX5) (N := 23) hx hb hts iX5 tyX5 tyX5_ok nmX5 hown hK hP hD hS 0 rfl rfl 22 (by decide) (hts _ wd_662) (fun _ h9 => h9) rfl (by decide +kernel) rfl rfl (Nat.le_of_ble_eq_true rfl) dX5_met_2 (fun H locs hP hD hS => ?_)
  have hP : va_P D classes (wM cx aM xw xh xk xj xb xr xc xv xn x1 yR yT yC yW yA yE yU yM yV yF yZ yI yD) H := hP
  have hD : va_D A (wM cx aM xw xh xk xj xb xr xc xv xn x1 yR yT yC yW yA yE yU yM yV yF yZ yI yD) := hD
  refine lv_bipush (v := (-10 : Int32)) hx hb dX5_met_5 (by decide) ?_
  refine lv_iload_n hx hb dX5_met_7 rfl (lv_at hl 1 rfl) ?_
  refine lv_isub hx hb dX5_met_8 ?_
  obtain rfl := Option.some.inj hf
  exact kc_iret () hx hb hr hk hP hD hS rfl dX5_met_9
abbrev rmX5_isSheet : Room := { frames := 1, cells := 0, slots := 0, locals := 25 }
set_option maxHeartbeats 4000000 in
set_option maxRecDepth 100000 in
theorem metX5_isSheet (l : Launch) (D : va_G) (cx : Nat → ClassId)   (x0 : Int32) (N : Nat) (sz : Nat) (v : Int32) (hf : fX5_isSheet N x0 = some v) : Met l yX5_isSheet (.code yX5_isSheet cX5_isSheet 1 (some .boolean) :: kc_TB) rmX5_isSheet (kc_Pre D cx ([] : va_W) [.int x0] sz) (kc_Pi D (fun _ : Unit => ([] : va_W)) v (va_A ([] : va_W) sz)) 0 0 (va_A ([] : va_W) sz) := by
  refine kc_entry (Qc := fun A => (kc_Pi D (fun _ : Unit => ([] : va_W)) v A)) (by decide) (Nat.le_of_ble_eq_true rfl) ?_
  intro p e s m below meth c A hx hb hr hk hml hown hin hts hN hK hP hD hS hA ls hl
  have hown : s.vm.findClass RX5 = some m.cls := hown
  have hl : lv_has ls 1 [(0, .int x0)] := hl
  unfold fX5_isSheet at hf
  have hP : va_P D classes ([] : va_W) s.heap := hP
  obtain ⟨H, hH⟩ : ∃ H, H = s.heap := ⟨_, rfl⟩
  obtain ⟨locs, hL⟩ : ∃ locs : List Loc, locs = [] := ⟨_, rfl⟩
  have hS : va_S A s.heap H locs := by rw [hH, hL]; exact hS
  have hP : va_P D classes ([] : va_W) H := by rw [hH]; exact hP
  suffices hW : W p l e rmX5_isSheet s m ([.int x0] : List Value).toArray below meth c H locs 0 0 (MQ below (kc_Pi D (fun _ : Unit => ([] : va_W)) v A) ([.int x0] : List Value).toArray s 0 0 A) (F0 m 0 ls []) by rw [hH, hL] at hW; exact hW
  clear hH hL
  refine lv_iload_n hx hb dX5_isSheet_0 rfl (lv_at hl 0 rfl) ?_
  refine lv_i2l hx hb dX5_isSheet_1 rfl ?_
  refine lv_lconst (v := (0 : Int64)) hx hb dX5_isSheet_2 (by decide) ?_
  refine lv_ldc2 hx hb hown (hts _ wd_829) dX5_isSheet_3 ?_
  obtain ⟨u2, hg, hf⟩ := ob_s hf
  refine kc_calli (wn := fun _ => ([] : va_W)) (va_runS (As := [.long x0.toInt64, .long (0 : Int64), .long (3 : Int64)]) (rest := []) ⟨hx, hb, hml, hown, hts⟩ (metX5_in l D cx   x0.toInt64 (0 : Int64) (3 : Int64) N H.size u2 hg) ⟨callB_of 3 hts (kc_gI wd_587) rfl rfl rfl (hts _ wd_46) (hts _ wd_585) (by decide +kernel) ⟨Nat.le_of_ble_eq_true rfl, Nat.le_of_ble_eq_true rfl⟩, hts _ wd_586⟩ ⟨kc_blind _ _ _ _ _, kc_pre _ hK hN (hP.sub [] rfl) (hD.sub [] (by decide) rfl)⟩ rfl rfl hl.1 rfl (lv_room (Nat.le_of_ble_eq_true rfl)) dX5_isSheet_6 ⟨Nat.zero_le _, Nat.zero_le _⟩) hP hD hS hA [] [] [] rfl rfl (by decide) (by decide) (fun _ => rfl) (by decide) (fun _ H locs hP hD hS => ?_)
  have hP : va_P D classes ([] : va_W) H := hP
  have hD : va_D A ([] : va_W) := hD
  obtain ⟨hz, hf⟩ := okb_s hf
  obtain rfl := Option.some.inj hf
  exact kc_zret () hx hb hr hk hP hD hS rfl (isb_n hz).1 dX5_isSheet_9
abbrev rmX5_sheet : Room := { frames := 2, cells := 0, slots := 0, locals := 45 }
set_option maxHeartbeats 4000000 in
set_option maxRecDepth 100000 in
theorem metX5_sheet (l : Launch) (D : va_G) (cx : Nat → ClassId) (aM : Nat → Nat) (xw : Int32) (xh : Int32) (xk : Int32) (xj : Int32) (xb : Int32) (xr : Int32) (xc : Int32) (xv : Int32) (xn : Int32) (xl : Int32) (yR : Nat → Int32) (yT : Nat → Int32) (yC : Nat → Int32) (yW : Nat → Int32) (yA : Nat → Int32) (yE : Nat → Int32) (yU : Nat → Int32) (yM : Nat → Int32) (yV : Nat → Int32) (yF : Nat → Int32) (yZ : Nat → Int32) (yI : Nat → Int32) (yD : Nat → Int32) (x1 : Int32) (x2 : Int32) (x3 : Int32) (N : Nat) (sz : Nat) (v : Int32 × Int32 × (Nat → Int32) × (Nat → Int32) × (Nat → Int32)) (hf : fX5_sheet N xl yF yZ yI x1 x2 x3 = some v) : Met l yX5_sheet (.code yX5_sheet cX5_sheet 5 (some .int) :: kc_TB) rmX5_sheet (kc_Pre D cx (wM cx aM xw xh xk xj xb xr xc xv xn xl yR yT yC yW yA yE yU yM yV yF yZ yI yD) [.ref (aM 0), .int x1, .int x2, .int x3] sz) (kc_Pi D (fun _ : Unit => (wM cx aM xw xh xk xj xb xr xc xv xn v.2.1 yR yT yC yW yA yE yU yM yV v.2.2.1 v.2.2.2.1 v.2.2.2.2 yD)) v.1 (va_A (wM cx aM xw xh xk xj xb xr xc xv xn xl yR yT yC yW yA yE yU yM yV yF yZ yI yD) sz)) 0 0 (va_A (wM cx aM xw xh xk xj xb xr xc xv xn xl yR yT yC yW yA yE yU yM yV yF yZ yI yD) sz) := by
  refine kc_entry (Qc := fun A => (kc_Pi D (fun _ : Unit => (wM cx aM xw xh xk xj xb xr xc xv xn v.2.1 yR yT yC yW yA yE yU yM yV v.2.2.1 v.2.2.2.1 v.2.2.2.2 yD)) v.1 A)) (by decide) (Nat.le_of_ble_eq_true rfl) ?_
  intro p e s m below meth c A hx hb hr hk hml hown hin hts hN hK hP hD hS hA ls hl
  have hown : s.vm.findClass RX5 = some m.cls := hown
  have hl : lv_has ls 5 [(0, .ref (aM 0)), (1, .int x1), (2, .int x2), (3, .int x3)] := hl
  unfold fX5_sheet at hf
  have hP : va_P D classes (wM cx aM xw xh xk xj xb xr xc xv xn xl yR yT yC yW yA yE yU yM yV yF yZ yI yD) s.heap := hP
  obtain ⟨H, hH⟩ : ∃ H, H = s.heap := ⟨_, rfl⟩
  obtain ⟨locs, hL⟩ : ∃ locs : List Loc, locs = [] := ⟨_, rfl⟩
  have hS : va_S A s.heap H locs := by rw [hH, hL]; exact hS
  have hP : va_P D classes (wM cx aM xw xh xk xj xb xr xc xv xn xl yR yT yC yW yA yE yU yM yV yF yZ yI yD) H := by rw [hH]; exact hP
  suffices hW : W p l e rmX5_sheet s m ([.ref (aM 0), .int x1, .int x2, .int x3] : List Value).toArray below meth c H locs 0 0 (MQ below (kc_Pi D (fun _ : Unit => (wM cx aM xw xh xk xj xb xr xc xv xn v.2.1 yR yT yC yW yA yE yU yM yV v.2.2.1 v.2.2.2.1 v.2.2.2.2 yD)) v.1 A) ([.ref (aM 0), .int x1, .int x2, .int x3] : List Value).toArray s 0 0 A) (F0 m 0 ls []) by rw [hH, hL] at hW; exact hW
  clear hH hL
  refine lv_iload_n hx hb dX5_sheet_0 rfl (lv_at hl 1 rfl) ?_
  obtain ⟨u9, hg, hf⟩ := ob_s hf
  refine kc_calli (wn := fun _ => (wM cx aM xw xh xk xj xb xr xc xv xn xl yR yT yC yW yA yE yU yM yV yF yZ yI yD)) (va_runS (As := [.int x1]) (rest := []) ⟨hx, hb, hml, hown, hts⟩ (metX5_isSheet l D cx   x1 N H.size u9 hg) ⟨callB_of 1 hts (kc_gI wd_828) rfl rfl rfl (hts _ wd_46) (hts _ wd_826) (by decide +kernel) ⟨Nat.le_of_ble_eq_true rfl, Nat.le_of_ble_eq_true rfl⟩, hts _ wd_827⟩ ⟨kc_blind _ _ _ _ _, kc_pre _ hK hN (hP.sub [] rfl) (hD.sub [] (by decide) rfl)⟩ rfl rfl hl.1 rfl (lv_room (Nat.le_of_ble_eq_true rfl)) dX5_sheet_1 ⟨Nat.zero_le _, Nat.zero_le _⟩) hP hD hS hA [] [0, 1, 2, 3, 4, 5, 6, 7, 8, 9, 10, 11, 12, 13] [0, 1, 2, 3, 4, 5, 6, 7, 8, 9, 10, 11, 12, 13] rfl rfl (by decide) (by decide) (fun _ => rfl) (by decide) (fun _ H locs hP hD hS => ?_)
  have hP : va_P D classes (wM cx aM xw xh xk xj xb xr xc xv xn xl yR yT yC yW yA yE yU yM yV yF yZ yI yD) H := hP
  have hD : va_D A (wM cx aM xw xh xk xj xb xr xc xv xn xl yR yT yC yW yA yE yU yM yV yF yZ yI yD) := hD
  refine lv_if_eq (tgt := 25) hx hb dX5_sheet_4 (by decide) (fun c10 => ?_) (fun c10 => ?_)
  · replace hf := it_t c10 hf
    refine lv_sipush (v := (-200 : Int32)) hx hb dX5_sheet_25 (by decide) ?_
    obtain rfl := Option.some.inj hf
    exact kc_iret () hx hb hr hk hP hD hS rfl dX5_sheet_28
  · replace hf := it_f c10 hf
    refine lv_iload_n hx hb dX5_sheet_7 rfl (lv_at hl 2 rfl) ?_
    refine lv_i2l hx hb dX5_sheet_8 rfl ?_
    refine lv_lconst (v := (0 : Int64)) hx hb dX5_sheet_9 (by decide) ?_
    refine lv_ldc2 hx hb hown (hts _ wd_717) dX5_sheet_10 ?_
    obtain ⟨u11, hg, hf⟩ := ob_s hf
    refine kc_calli (wn := fun _ => (wM cx aM xw xh xk xj xb xr xc xv xn xl yR yT yC yW yA yE yU yM yV yF yZ yI yD)) (va_runS (As := [.long x2.toInt64, .long (0 : Int64), .long (2 : Int64)]) (rest := []) ⟨hx, hb, hml, hown, hts⟩ (metX5_in l D cx   x2.toInt64 (0 : Int64) (2 : Int64) N H.size u11 hg) ⟨callB_of 3 hts (kc_gI wd_587) rfl rfl rfl (hts _ wd_46) (hts _ wd_585) (by decide +kernel) ⟨Nat.le_of_ble_eq_true rfl, Nat.le_of_ble_eq_true rfl⟩, hts _ wd_586⟩ ⟨kc_blind _ _ _ _ _, kc_pre _ hK hN (hP.sub [] rfl) (hD.sub [] (by decide) rfl)⟩ rfl rfl hl.1 rfl (lv_room (Nat.le_of_ble_eq_true rfl)) dX5_sheet_13 ⟨Nat.zero_le _, Nat.zero_le _⟩) hP hD hS hA [] [0, 1, 2, 3, 4, 5, 6, 7, 8, 9, 10, 11, 12, 13] [0, 1, 2, 3, 4, 5, 6, 7, 8, 9, 10, 11, 12, 13] rfl rfl (by decide) (by decide) (fun _ => rfl) (by decide) (fun _ H locs hP hD hS => ?_)
    have hP : va_P D classes (wM cx aM xw xh xk xj xb xr xc xv xn xl yR yT yC yW yA yE yU yM yV yF yZ yI yD) H := hP
    have hD : va_D A (wM cx aM xw xh xk xj xb xr xc xv xn xl yR yT yC yW yA yE yU yM yV yF yZ yI yD) := hD
    refine lv_if_eq (tgt := 25) hx hb dX5_sheet_16 (by decide) (fun c12 => ?_) (fun c12 => ?_)
    · replace hf := it_t c12 hf
      refine lv_sipush (v := (-200 : Int32)) hx hb dX5_sheet_25 (by decide) ?_
      obtain rfl := Option.some.inj hf
      exact kc_iret () hx hb hr hk hP hD hS rfl dX5_sheet_28
    · replace hf := it_f c12 hf
      refine lv_iload_n hx hb dX5_sheet_19 rfl (lv_at hl 3 rfl) ?_
      refine lv_bipush (v := (20 : Int32)) hx hb dX5_sheet_20 (by decide) ?_
      refine lv_icmp_le (tgt := 29) hx hb dX5_sheet_22 (by decide) (fun c13 => ?_) (fun c13 => ?_)
      · replace hf := it_t c13 hf
        refine lv_iload_n hx hb dX5_sheet_29 rfl (lv_at hl 3 rfl) ?_
        refine lv_if_ge (tgt := 39) hx hb dX5_sheet_30 (by decide) (fun c14 => ?_) (fun c14 => ?_)
        · replace hf := it_t c14 hf
          refine lv_aload_n hx hb dX5_sheet_39 rfl (lv_at hl 0 rfl) ?_
          refine va_get (D := D) (ci := 5) (v := .ref (aM 10)) (C := RX5) (T := TX5) (N := 23) hx hb hts iX5 hown hK hP 0 rfl rfl 18 (by decide) (hts _ wd_658) (fun _ h9 => h9) rfl dX5_sheet_40 ?_
          refine lv_iload_n hx hb dX5_sheet_43 rfl (lv_at hl 1 rfl) ?_
          refine lv_iload_n hx hb dX5_sheet_44 rfl (lv_at hl 2 rfl) ?_
          obtain ⟨hz, hf⟩ := okb_s hf
          refine va_iast (D := D) hx hb hK hP hD hS 10 0 rfl rfl (inb_s hz) dX5_sheet_45 (fun H locs hP hD hS => ?_)
          have hP : va_P D classes (wM cx aM xw xh xk xj xb xr xc xv xn xl yR yT yC yW yA yE yU yM yV (upd yF x1.toNatClampNeg x2) yZ yI yD) H := hP
          have hD : va_D A (wM cx aM xw xh xk xj xb xr xc xv xn xl yR yT yC yW yA yE yU yM yV (upd yF x1.toNatClampNeg x2) yZ yI yD) := hD
          refine lv_aload_n hx hb dX5_sheet_46 rfl (lv_at hl 0 rfl) ?_
          refine va_get (D := D) (ci := 5) (v := .ref (aM 11)) (C := RX5) (T := TX5) (N := 23) hx hb hts iX5 hown hK hP 0 rfl rfl 19 (by decide) (hts _ wd_659) (fun _ h9 => h9) rfl dX5_sheet_47 ?_
          refine lv_iload_n hx hb dX5_sheet_50 rfl (lv_at hl 1 rfl) ?_
          refine lv_iload_n hx hb dX5_sheet_51 rfl (lv_at hl 3 rfl) ?_
          obtain ⟨hz, hf⟩ := okb_s hf
          refine va_iast (D := D) hx hb hK hP hD hS 11 0 rfl rfl (inb_s hz) dX5_sheet_52 (fun H locs hP hD hS => ?_)
          have hP : va_P D classes (wM cx aM xw xh xk xj xb xr xc xv xn xl yR yT yC yW yA yE yU yM yV (upd yF x1.toNatClampNeg x2) (upd yZ x1.toNatClampNeg x3) yI yD) H := hP
          have hD : va_D A (wM cx aM xw xh xk xj xb xr xc xv xn xl yR yT yC yW yA yE yU yM yV (upd yF x1.toNatClampNeg x2) (upd yZ x1.toNatClampNeg x3) yI yD) := hD
          refine lv_iconst (v := (0 : Int32)) hx hb dX5_sheet_53 (by decide) ?_
          refine lv_istore (lv' := [(4, .int (0 : Int32)), (0, .ref (aM 0)), (1, .int x1), (2, .int x2), (3, .int x3)]) hx hb dX5_sheet_54 hl (by decide) rfl (fun ls hl => ?_)
          have L56 : ∀ (ct : Nat) (yI : Nat → Int32) (x4 : Int32) (v56 : (Nat → Int32)), fX5_sheet_L56 N x1 x3 ct yI x4 = some v56 → ∀ (H : Heap) (locs : List Loc) (ls : Array Slot), va_P D classes (wM cx aM xw xh xk xj xb xr xc xv xn xl yR yT yC yW yA yE yU yM yV (upd yF x1.toNatClampNeg x2) (upd yZ x1.toNatClampNeg x3) yI yD) H → va_D A (wM cx aM xw xh xk xj xb xr xc xv xn xl yR yT yC yW yA yE yU yM yV (upd yF x1.toNatClampNeg x2) (upd yZ x1.toNatClampNeg x3) yI yD) → va_S A s.heap H locs → lv_has ls 5 [(0, .ref (aM 0)), (1, .int x1), (3, .int x3), (4, .int x4)] → (∀ (H : Heap) (locs : List Loc) (ls : Array Slot), va_P D classes (wM cx aM xw xh xk xj xb xr xc xv xn xl yR yT yC yW yA yE yU yM yV (upd yF x1.toNatClampNeg x2) (upd yZ x1.toNatClampNeg x3) v56 yD) H → va_D A (wM cx aM xw xh xk xj xb xr xc xv xn xl yR yT yC yW yA yE yU yM yV (upd yF x1.toNatClampNeg x2) (upd yZ x1.toNatClampNeg x3) v56 yD) → va_S A s.heap H locs → lv_has ls 5 [(3, .int x3)] → W p l e rmX5_sheet s m ([.ref (aM 0), .int x1, .int x2, .int x3] : List Value).toArray below meth c H locs 0 0 (MQ below (kc_Pi D (fun _ : Unit => (wM cx aM xw xh xk xj xb xr xc xv xn v.2.1 yR yT yC yW yA yE yU yM yV v.2.2.1 v.2.2.2.1 v.2.2.2.2 yD)) v.1 A) ([.ref (aM 0), .int x1, .int x2, .int x3] : List Value).toArray s 0 0 A) (F0 m 81 ls [])) → W p l e rmX5_sheet s m ([.ref (aM 0), .int x1, .int x2, .int x3] : List Value).toArray below meth c H locs 0 0 (MQ below (kc_Pi D (fun _ : Unit => (wM cx aM xw xh xk xj xb xr xc xv xn v.2.1 yR yT yC yW yA yE yU yM yV v.2.2.1 v.2.2.2.1 v.2.2.2.2 yD)) v.1 A) ([.ref (aM 0), .int x1, .int x2, .int x3] : List Value).toArray s 0 0 A) (F0 m 56 ls []) := by
            intro ct
            induction ct with
            | zero =>
              intro yI x4 v56 hf
              exact absurd (show (none : Option ((Nat → Int32))) = some v56 from hf) (fun q => by cases q)
            | succ ct ih =>
              intro yI x4 v56 hf H locs ls hP hD hS hl hE
              rw [fX5_sheet_L56] at hf
              refine lv_iload hx hb dX5_sheet_56 (lv_at hl 3 rfl) ?_
              refine lv_iload_n hx hb dX5_sheet_58 rfl (lv_at hl 2 rfl) ?_
              refine lv_icmp_ge (tgt := 81) hx hb dX5_sheet_59 (by decide) (fun c16 => ?_) (fun c16 => ?_)
              · replace hf := it_t c16 hf
                obtain rfl := Option.some.inj hf
                exact hE H locs ls hP hD hS (lv_sub hl [2] rfl)
              · replace hf := it_f c16 hf
                refine lv_aload_n hx hb dX5_sheet_62 rfl (lv_at hl 0 rfl) ?_
                refine va_get (D := D) (ci := 5) (v := .ref (aM 12)) (C := RX5) (T := TX5) (N := 23) hx hb hts iX5 hown hK hP 0 rfl rfl 20 (by decide) (hts _ wd_660) (fun _ h9 => h9) rfl dX5_sheet_63 ?_
                refine lv_bipush (v := (20 : Int32)) hx hb dX5_sheet_66 (by decide) ?_
                refine lv_iload_n hx hb dX5_sheet_68 rfl (lv_at hl 1 rfl) ?_
                refine lv_imul hx hb dX5_sheet_69 ?_
                refine lv_iload hx hb dX5_sheet_70 (lv_at hl 3 rfl) ?_
                refine lv_iadd hx hb dX5_sheet_72 ?_
                refine lv_iconst (v := (0 : Int32)) hx hb dX5_sheet_73 (by decide) ?_
                obtain ⟨hz, hf⟩ := okb_s hf
                refine va_iast (D := D) hx hb hK hP hD hS 12 0 rfl rfl (inb_s hz) dX5_sheet_74 (fun H locs hP hD hS => ?_)
                have hP : va_P D classes (wM cx aM xw xh xk xj xb xr xc xv xn xl yR yT yC yW yA yE yU yM yV (upd yF x1.toNatClampNeg x2) (upd yZ x1.toNatClampNeg x3) (upd yI (((20 : Int32) * x1) + x4).toNatClampNeg (0 : Int32)) yD) H := hP
                have hD : va_D A (wM cx aM xw xh xk xj xb xr xc xv xn xl yR yT yC yW yA yE yU yM yV (upd yF x1.toNatClampNeg x2) (upd yZ x1.toNatClampNeg x3) (upd yI (((20 : Int32) * x1) + x4).toNatClampNeg (0 : Int32)) yD) := hD
                refine lv_iinc (v := (x4 + (1 : Int32))) (lv' := [(4, .int (x4 + (1 : Int32))), (0, .ref (aM 0)), (1, .int x1), (3, .int x3)]) hx hb dX5_sheet_75 hl (k := 3) rfl rfl (by decide) rfl (fun ls hl => ?_)
                refine lv_goto (tgt := 56) hx hb dX5_sheet_78 (by decide) ?_
                exact ih (upd yI (((20 : Int32) * x1) + x4).toNatClampNeg (0 : Int32)) (x4 + (1 : Int32)) _ hf H locs ls hP hD hS (lv_sub hl [1, 2, 3, 0] rfl) hE
          obtain ⟨u17, hg, hf⟩ := ob_s hf
          refine L56 _ yI (0 : Int32) u17 hg H locs ls hP hD hS (lv_sub hl [1, 2, 4, 0] rfl) (fun H locs ls hP hD hS hl => ?_)
          refine lv_iload_n hx hb dX5_sheet_81 rfl (lv_at hl 0 rfl) ?_
          obtain rfl := Option.some.inj hf
          exact kc_iret () hx hb hr hk hP hD hS rfl dX5_sheet_82
        · replace hf := it_f c14 hf
          refine lv_aload_n hx hb dX5_sheet_33 rfl (lv_at hl 0 rfl) ?_
          refine lv_iconst (v := (5 : Int32)) hx hb dX5_sheet_34 (by decide) ?_
          obtain ⟨u18, hg, hf⟩ := ob_s hf
          refine kc_calli (wn := fun _ => (wM cx aM xw xh xk xj xb xr xc xv xn u18.2 yR yT yC yW yA yE yU yM yV yF yZ yI yD)) (va_runV (As := [.int (5 : Int32)]) (rest := []) ⟨hx, hb, hml, hown, hts⟩ (metX5_met l D cx aM xw xh xk xj xb xr xc xv xn xl yR yT yC yW yA yE yU yM yV yF yZ yI yD (5 : Int32) N H.size u18 hg) ⟨callB_of 1 hts (kc_gI wd_833) rfl rfl rfl (hts _ wd_46) (hts _ wd_830) (by decide +kernel) ⟨Nat.le_of_ble_eq_true rfl, Nat.le_of_ble_eq_true rfl⟩, hts _ wd_832, hts _ wd_37⟩ ⟨kc_blind _ _ _ _ _, va_recv hK hP (ci := 5) (q0 := 0) rfl rfl, kc_pre _ hK hN (hP.sub [0, 1, 2, 3, 4, 5, 6, 7, 8, 9, 10, 11, 12, 13] rfl) (hD.sub [0, 1, 2, 3, 4, 5, 6, 7, 8, 9, 10, 11, 12, 13] (by decide) rfl)⟩ rfl rfl hl.1 rfl (lv_room (Nat.le_of_ble_eq_true rfl)) dX5_sheet_35 ⟨Nat.zero_le _, Nat.zero_le _⟩) hP hD hS hA [0, 1, 2, 3, 4, 5, 6, 7, 8, 9, 10, 11, 12, 13] [] [0, 1, 2, 3, 4, 5, 6, 7, 8, 9, 10, 11, 12, 13] rfl rfl (by decide) (by decide) (fun _ => rfl) (by decide) (fun _ H locs hP hD hS => ?_)
          have hP : va_P D classes (wM cx aM xw xh xk xj xb xr xc xv xn u18.2 yR yT yC yW yA yE yU yM yV yF yZ yI yD) H := hP
          have hD : va_D A (wM cx aM xw xh xk xj xb xr xc xv xn u18.2 yR yT yC yW yA yE yU yM yV yF yZ yI yD) := hD
          obtain rfl := Option.some.inj hf
          exact kc_iret () hx hb hr hk hP hD hS rfl dX5_sheet_38
      · replace hf := it_f c13 hf
        refine lv_sipush (v := (-200 : Int32)) hx hb dX5_sheet_25 (by decide) ?_
        obtain rfl := Option.some.inj hf
        exact kc_iret () hx hb hr hk hP hD hS rfl dX5_sheet_28
abbrev rmX5_lose : Room := { frames := 2, cells := 0, slots := 0, locals := 45 }
set_option maxHeartbeats 4000000 in
set_option maxRecDepth 100000 in
theorem metX5_lose (l : Launch) (D : va_G) (cx : Nat → ClassId) (aM : Nat → Nat) (xw : Int32) (xh : Int32) (xk : Int32) (xj : Int32) (xb : Int32) (xr : Int32) (xc : Int32) (xv : Int32) (xn : Int32) (xl : Int32) (yR : Nat → Int32) (yT : Nat → Int32) (yC : Nat → Int32) (yW : Nat → Int32) (yA : Nat → Int32) (yE : Nat → Int32) (yU : Nat → Int32) (yM : Nat → Int32) (yV : Nat → Int32) (yF : Nat → Int32) (yZ : Nat → Int32) (yI : Nat → Int32) (yD : Nat → Int32) (x1 : Int32) (N : Nat) (sz : Nat) (v : Int32 × Int32 × (Nat → Int32)) (hf : fX5_lose N xl yF yZ x1 = some v) : Met l yX5_lose (.code yX5_lose cX5_lose 2 (some .int) :: kc_TB) rmX5_lose (kc_Pre D cx (wM cx aM xw xh xk xj xb xr xc xv xn xl yR yT yC yW yA yE yU yM yV yF yZ yI yD) [.ref (aM 0), .int x1] sz) (kc_Pi D (fun _ : Unit => (wM cx aM xw xh xk xj xb xr xc xv xn v.2.1 yR yT yC yW yA yE yU yM yV v.2.2 yZ yI yD)) v.1 (va_A (wM cx aM xw xh xk xj xb xr xc xv xn xl yR yT yC yW yA yE yU yM yV yF yZ yI yD) sz)) 0 0 (va_A (wM cx aM xw xh xk xj xb xr xc xv xn xl yR yT yC yW yA yE yU yM yV yF yZ yI yD) sz) := by
  refine kc_entry (Qc := fun A => (kc_Pi D (fun _ : Unit => (wM cx aM xw xh xk xj xb xr xc xv xn v.2.1 yR yT yC yW yA yE yU yM yV v.2.2 yZ yI yD)) v.1 A)) (by decide) (Nat.le_of_ble_eq_true rfl) ?_
  intro p e s m below meth c A hx hb hr hk hml hown hin hts hN hK hP hD hS hA ls hl
  have hown : s.vm.findClass RX5 = some m.cls := hown
  have hl : lv_has ls 2 [(0, .ref (aM 0)), (1, .int x1)] := hl
  unfold fX5_lose at hf
  have hP : va_P D classes (wM cx aM xw xh xk xj xb xr xc xv xn xl yR yT yC yW yA yE yU yM yV yF yZ yI yD) s.heap := hP
  obtain ⟨H, hH⟩ : ∃ H, H = s.heap := ⟨_, rfl⟩
  obtain ⟨locs, hL⟩ : ∃ locs : List Loc, locs = [] := ⟨_, rfl⟩
  have hS : va_S A s.heap H locs := by rw [hH, hL]; exact hS
  have hP : va_P D classes (wM cx aM xw xh xk xj xb xr xc xv xn xl yR yT yC yW yA yE yU yM yV yF yZ yI yD) H := by rw [hH]; exact hP
  suffices hW : W p l e rmX5_lose s m ([.ref (aM 0), .int x1] : List Value).toArray below meth c H locs 0 0 (MQ below (kc_Pi D (fun _ : Unit => (wM cx aM xw xh xk xj xb xr xc xv xn v.2.1 yR yT yC yW yA yE yU yM yV v.2.2 yZ yI yD)) v.1 A) ([.ref (aM 0), .int x1] : List Value).toArray s 0 0 A) (F0 m 0 ls []) by rw [hH, hL] at hW; exact hW
  clear hH hL
  refine lv_iload_n hx hb dX5_lose_0 rfl (lv_at hl 1 rfl) ?_
  obtain ⟨u5, hg, hf⟩ := ob_s hf
  refine kc_calli (wn := fun _ => (wM cx aM xw xh xk xj xb xr xc xv xn xl yR yT yC yW yA yE yU yM yV yF yZ yI yD)) (va_runS (As := [.int x1]) (rest := []) ⟨hx, hb, hml, hown, hts⟩ (metX5_isSheet l D cx   x1 N H.size u5 hg) ⟨callB_of 1 hts (kc_gI wd_828) rfl rfl rfl (hts _ wd_46) (hts _ wd_826) (by decide +kernel) ⟨Nat.le_of_ble_eq_true rfl, Nat.le_of_ble_eq_true rfl⟩, hts _ wd_827⟩ ⟨kc_blind _ _ _ _ _, kc_pre _ hK hN (hP.sub [] rfl) (hD.sub [] (by decide) rfl)⟩ rfl rfl hl.1 rfl (lv_room (Nat.le_of_ble_eq_true rfl)) dX5_lose_1 ⟨Nat.zero_le _, Nat.zero_le _⟩) hP hD hS hA [] [0, 1, 2, 3, 4, 5, 6, 7, 8, 9, 10, 11, 12, 13] [0, 1, 2, 3, 4, 5, 6, 7, 8, 9, 10, 11, 12, 13] rfl rfl (by decide) (by decide) (fun _ => rfl) (by decide) (fun _ H locs hP hD hS => ?_)
  have hP : va_P D classes (wM cx aM xw xh xk xj xb xr xc xv xn xl yR yT yC yW yA yE yU yM yV yF yZ yI yD) H := hP
  have hD : va_D A (wM cx aM xw xh xk xj xb xr xc xv xn xl yR yT yC yW yA yE yU yM yV yF yZ yI yD) := hD
  refine lv_if_ne (tgt := 11) hx hb dX5_lose_4 (by decide) (fun c6 => ?_) (fun c6 => ?_)
  · replace hf := it_f c6 hf
    refine lv_aload_n hx hb dX5_lose_11 rfl (lv_at hl 0 rfl) ?_
    refine va_get (D := D) (ci := 5) (v := .ref (aM 10)) (C := RX5) (T := TX5) (N := 23) hx hb hts iX5 hown hK hP 0 rfl rfl 18 (by decide) (hts _ wd_658) (fun _ h9 => h9) rfl dX5_lose_12 ?_
    refine lv_iload_n hx hb dX5_lose_15 rfl (lv_at hl 1 rfl) ?_
    obtain ⟨hz, hf⟩ := okb_s hf
    refine va_iald (D := D) hx hb hK hP 10 0 rfl rfl (inb_s hz) dX5_lose_16 ?_
    refine lv_if_ge (tgt := 26) hx hb dX5_lose_17 (by decide) (fun c7 => ?_) (fun c7 => ?_)
    · replace hf := it_t c7 hf
      refine lv_aload_n hx hb dX5_lose_26 rfl (lv_at hl 0 rfl) ?_
      refine va_get (D := D) (ci := 5) (v := .ref (aM 10)) (C := RX5) (T := TX5) (N := 23) hx hb hts iX5 hown hK hP 0 rfl rfl 18 (by decide) (hts _ wd_658) (fun _ h9 => h9) rfl dX5_lose_27 ?_
      refine lv_iload_n hx hb dX5_lose_30 rfl (lv_at hl 1 rfl) ?_
      refine lv_iconst (v := (-1 : Int32)) hx hb dX5_lose_31 (by decide) ?_
      obtain ⟨hz, hf⟩ := okb_s hf
      refine va_iast (D := D) hx hb hK hP hD hS 10 0 rfl rfl (inb_s hz) dX5_lose_32 (fun H locs hP hD hS => ?_)
      have hP : va_P D classes (wM cx aM xw xh xk xj xb xr xc xv xn xl yR yT yC yW yA yE yU yM yV (upd yF x1.toNatClampNeg (-1 : Int32)) yZ yI yD) H := hP
      have hD : va_D A (wM cx aM xw xh xk xj xb xr xc xv xn xl yR yT yC yW yA yE yU yM yV (upd yF x1.toNatClampNeg (-1 : Int32)) yZ yI yD) := hD
      refine lv_aload_n hx hb dX5_lose_33 rfl (lv_at hl 0 rfl) ?_
      refine va_get (D := D) (ci := 5) (v := .ref (aM 11)) (C := RX5) (T := TX5) (N := 23) hx hb hts iX5 hown hK hP 0 rfl rfl 19 (by decide) (hts _ wd_659) (fun _ h9 => h9) rfl dX5_lose_34 ?_
      refine lv_iload_n hx hb dX5_lose_37 rfl (lv_at hl 1 rfl) ?_
      obtain ⟨hz, hf⟩ := okb_s hf
      refine va_iald (D := D) hx hb hK hP 11 0 rfl rfl (inb_s hz) dX5_lose_38 ?_
      obtain rfl := Option.some.inj hf
      exact kc_iret () hx hb hr hk hP hD hS rfl dX5_lose_39
    · replace hf := it_f c7 hf
      refine lv_aload_n hx hb dX5_lose_20 rfl (lv_at hl 0 rfl) ?_
      refine lv_iconst (v := (1 : Int32)) hx hb dX5_lose_21 (by decide) ?_
      obtain ⟨u8, hg, hf⟩ := ob_s hf
      refine kc_calli (wn := fun _ => (wM cx aM xw xh xk xj xb xr xc xv xn u8.2 yR yT yC yW yA yE yU yM yV yF yZ yI yD)) (va_runV (As := [.int (1 : Int32)]) (rest := []) ⟨hx, hb, hml, hown, hts⟩ (metX5_met l D cx aM xw xh xk xj xb xr xc xv xn xl yR yT yC yW yA yE yU yM yV yF yZ yI yD (1 : Int32) N H.size u8 hg) ⟨callB_of 1 hts (kc_gI wd_833) rfl rfl rfl (hts _ wd_46) (hts _ wd_830) (by decide +kernel) ⟨Nat.le_of_ble_eq_true rfl, Nat.le_of_ble_eq_true rfl⟩, hts _ wd_832, hts _ wd_37⟩ ⟨kc_blind _ _ _ _ _, va_recv hK hP (ci := 5) (q0 := 0) rfl rfl, kc_pre _ hK hN (hP.sub [0, 1, 2, 3, 4, 5, 6, 7, 8, 9, 10, 11, 12, 13] rfl) (hD.sub [0, 1, 2, 3, 4, 5, 6, 7, 8, 9, 10, 11, 12, 13] (by decide) rfl)⟩ rfl rfl hl.1 rfl (lv_room (Nat.le_of_ble_eq_true rfl)) dX5_lose_22 ⟨Nat.zero_le _, Nat.zero_le _⟩) hP hD hS hA [0, 1, 2, 3, 4, 5, 6, 7, 8, 9, 10, 11, 12, 13] [] [0, 1, 2, 3, 4, 5, 6, 7, 8, 9, 10, 11, 12, 13] rfl rfl (by decide) (by decide) (fun _ => rfl) (by decide) (fun _ H locs hP hD hS => ?_)
      have hP : va_P D classes (wM cx aM xw xh xk xj xb xr xc xv xn u8.2 yR yT yC yW yA yE yU yM yV yF yZ yI yD) H := hP
      have hD : va_D A (wM cx aM xw xh xk xj xb xr xc xv xn u8.2 yR yT yC yW yA yE yU yM yV yF yZ yI yD) := hD
      obtain rfl := Option.some.inj hf
      exact kc_iret () hx hb hr hk hP hD hS rfl dX5_lose_25
  · replace hf := it_t c6 hf
    refine lv_sipush (v := (-200 : Int32)) hx hb dX5_lose_7 (by decide) ?_
    obtain rfl := Option.some.inj hf
    exact kc_iret () hx hb hr hk hP hD hS rfl dX5_lose_10
abbrev rmX5_lacks : Room := { frames := 1, cells := 0, slots := 0, locals := 25 }
set_option maxHeartbeats 4000000 in
set_option maxRecDepth 100000 in
theorem metX5_lacks (l : Launch) (D : va_G) (cx : Nat → ClassId) (aM : Nat → Nat) (xw : Int32) (xh : Int32) (xk : Int32) (xj : Int32) (xb : Int32) (xr : Int32) (xc : Int32) (xv : Int32) (xn : Int32) (xl : Int32) (yR : Nat → Int32) (yT : Nat → Int32) (yC : Nat → Int32) (yW : Nat → Int32) (yA : Nat → Int32) (yE : Nat → Int32) (yU : Nat → Int32) (yM : Nat → Int32) (yV : Nat → Int32) (yF : Nat → Int32) (yZ : Nat → Int32) (yI : Nat → Int32) (yD : Nat → Int32) (x1 : Int32) (x2 : Int32) (x3 : Int32) (N : Nat) (sz : Nat) (v : Int32 × Int32) (hf : fX5_lacks N xl yF yZ x1 x2 x3 = some v) : Met l yX5_lacks (.code yX5_lacks cX5_lacks 4 (some .int) :: kc_TB) rmX5_lacks (kc_Pre D cx (wM cx aM xw xh xk xj xb xr xc xv xn xl yR yT yC yW yA yE yU yM yV yF yZ yI yD) [.ref (aM 0), .int x1, .int x2, .int x3] sz) (kc_Pi D (fun _ : Unit => (wM cx aM xw xh xk xj xb xr xc xv xn v.2 yR yT yC yW yA yE yU yM yV yF yZ yI yD)) v.1 (va_A (wM cx aM xw xh xk xj xb xr xc xv xn xl yR yT yC yW yA yE yU yM yV yF yZ yI yD) sz)) 0 0 (va_A (wM cx aM xw xh xk xj xb xr xc xv xn xl yR yT yC yW yA yE yU yM yV yF yZ yI yD) sz) := by
  refine kc_entry (Qc := fun A => (kc_Pi D (fun _ : Unit => (wM cx aM xw xh xk xj xb xr xc xv xn v.2 yR yT yC yW yA yE yU yM yV yF yZ yI yD)) v.1 A)) (by decide) (Nat.le_of_ble_eq_true rfl) ?_
  intro p e s m below meth c A hx hb hr hk hml hown hin hts hN hK hP hD hS hA ls hl
  have hown : s.vm.findClass RX5 = some m.cls := hown
  have hl : lv_has ls 4 [(0, .ref (aM 0)), (1, .int x1), (2, .int x2), (3, .int x3)] := hl
  unfold fX5_lacks at hf
  have hP : va_P D classes (wM cx aM xw xh xk xj xb xr xc xv xn xl yR yT yC yW yA yE yU yM yV yF yZ yI yD) s.heap := hP
  obtain ⟨H, hH⟩ : ∃ H, H = s.heap := ⟨_, rfl⟩
  obtain ⟨locs, hL⟩ : ∃ locs : List Loc, locs = [] := ⟨_, rfl⟩
  have hS : va_S A s.heap H locs := by rw [hH, hL]; exact hS
  have hP : va_P D classes (wM cx aM xw xh xk xj xb xr xc xv xn xl yR yT yC yW yA yE yU yM yV yF yZ yI yD) H := by rw [hH]; exact hP
  suffices hW : W p l e rmX5_lacks s m ([.ref (aM 0), .int x1, .int x2, .int x3] : List Value).toArray below meth c H locs 0 0 (MQ below (kc_Pi D (fun _ : Unit => (wM cx aM xw xh xk xj xb xr xc xv xn v.2 yR yT yC yW yA yE yU yM yV yF yZ yI yD)) v.1 A) ([.ref (aM 0), .int x1, .int x2, .int x3] : List Value).toArray s 0 0 A) (F0 m 0 ls []) by rw [hH, hL] at hW; exact hW
  clear hH hL
  refine lv_aload_n hx hb dX5_lacks_0 rfl (lv_at hl 0 rfl) ?_
  refine va_get (D := D) (ci := 5) (v := .ref (aM 10)) (C := RX5) (T := TX5) (N := 23) hx hb hts iX5 hown hK hP 0 rfl rfl 18 (by decide) (hts _ wd_658) (fun _ h9 => h9) rfl dX5_lacks_1 ?_
  refine lv_iload_n hx hb dX5_lacks_4 rfl (lv_at hl 1 rfl) ?_
  obtain ⟨hz, hf⟩ := okb_s hf
  refine va_iald (D := D) hx hb hK hP 10 0 rfl rfl (inb_s hz) dX5_lacks_5 ?_
  refine lv_if_ge (tgt := 15) hx hb dX5_lacks_6 (by decide) (fun c8 => ?_) (fun c8 => ?_)
  · replace hf := it_t c8 hf
    refine lv_aload_n hx hb dX5_lacks_15 rfl (lv_at hl 0 rfl) ?_
    refine va_get (D := D) (ci := 5) (v := .ref (aM 10)) (C := RX5) (T := TX5) (N := 23) hx hb hts iX5 hown hK hP 0 rfl rfl 18 (by decide) (hts _ wd_658) (fun _ h9 => h9) rfl dX5_lacks_16 ?_
    refine lv_iload_n hx hb dX5_lacks_19 rfl (lv_at hl 1 rfl) ?_
    obtain ⟨hz, hf⟩ := okb_s hf
    refine va_iald (D := D) hx hb hK hP 10 0 rfl rfl (inb_s hz) dX5_lacks_20 ?_
    refine lv_iload_n hx hb dX5_lacks_21 rfl (lv_at hl 2 rfl) ?_
    refine lv_icmp_eq (tgt := 31) hx hb dX5_lacks_22 (by decide) (fun c9 => ?_) (fun c9 => ?_)
    · replace hf := it_t c9 hf
      refine lv_iload_n hx hb dX5_lacks_31 rfl (lv_at hl 3 rfl) ?_
      refine lv_i2l hx hb dX5_lacks_32 rfl ?_
      refine lv_lconst (v := (0 : Int64)) hx hb dX5_lacks_33 (by decide) ?_
      refine lv_aload_n hx hb dX5_lacks_34 rfl (lv_at hl 0 rfl) ?_
      refine va_get (D := D) (ci := 5) (v := .ref (aM 11)) (C := RX5) (T := TX5) (N := 23) hx hb hts iX5 hown hK hP 0 rfl rfl 19 (by decide) (hts _ wd_659) (fun _ h9 => h9) rfl dX5_lacks_35 ?_
      refine lv_iload_n hx hb dX5_lacks_38 rfl (lv_at hl 1 rfl) ?_
      obtain ⟨hz, hf⟩ := okb_s hf
      refine va_iald (D := D) hx hb hK hP 11 0 rfl rfl (inb_s hz) dX5_lacks_39 ?_
      refine lv_iconst (v := (1 : Int32)) hx hb dX5_lacks_40 (by decide) ?_
      refine lv_isub hx hb dX5_lacks_41 ?_
      refine lv_i2l hx hb dX5_lacks_42 rfl ?_
      obtain ⟨u10, hg, hf⟩ := ob_s hf
      refine kc_calli (wn := fun _ => (wM cx aM xw xh xk xj xb xr xc xv xn xl yR yT yC yW yA yE yU yM yV yF yZ yI yD)) (va_runS (As := [.long x3.toInt64, .long (0 : Int64), .long ((yZ x1.toNatClampNeg) - (1 : Int32)).toInt64]) (rest := []) ⟨hx, hb, hml, hown, hts⟩ (metX5_in l D cx   x3.toInt64 (0 : Int64) ((yZ x1.toNatClampNeg) - (1 : Int32)).toInt64 N H.size u10 hg) ⟨callB_of 3 hts (kc_gI wd_587) rfl rfl rfl (hts _ wd_46) (hts _ wd_585) (by decide +kernel) ⟨Nat.le_of_ble_eq_true rfl, Nat.le_of_ble_eq_true rfl⟩, hts _ wd_586⟩ ⟨kc_blind _ _ _ _ _, kc_pre _ hK hN (hP.sub [] rfl) (hD.sub [] (by decide) rfl)⟩ rfl rfl hl.1 rfl (lv_room (Nat.le_of_ble_eq_true rfl)) dX5_lacks_43 ⟨Nat.zero_le _, Nat.zero_le _⟩) hP hD hS hA [] [0, 1, 2, 3, 4, 5, 6, 7, 8, 9, 10, 11, 12, 13] [0, 1, 2, 3, 4, 5, 6, 7, 8, 9, 10, 11, 12, 13] rfl rfl (by decide) (by decide) (fun _ => rfl) (by decide) (fun _ H locs hP hD hS => ?_)
      have hP : va_P D classes (wM cx aM xw xh xk xj xb xr xc xv xn xl yR yT yC yW yA yE yU yM yV yF yZ yI yD) H := hP
      have hD : va_D A (wM cx aM xw xh xk xj xb xr xc xv xn xl yR yT yC yW yA yE yU yM yV yF yZ yI yD) := hD
      refine lv_if_eq (tgt := 53) hx hb dX5_lacks_46 (by decide) (fun c11 => ?_) (fun c11 => ?_)
      · replace hf := it_t c11 hf
        refine lv_aload_n hx hb dX5_lacks_53 rfl (lv_at hl 0 rfl) ?_
        refine lv_iconst (v := (2 : Int32)) hx hb dX5_lacks_54 (by decide) ?_
        obtain ⟨u12, hg, hf⟩ := ob_s hf
        refine kc_calli (wn := fun _ => (wM cx aM xw xh xk xj xb xr xc xv xn u12.2 yR yT yC yW yA yE yU yM yV yF yZ yI yD)) (va_runV (As := [.int (2 : Int32)]) (rest := []) ⟨hx, hb, hml, hown, hts⟩ (metX5_met l D cx aM xw xh xk xj xb xr xc xv xn xl yR yT yC yW yA yE yU yM yV yF yZ yI yD (2 : Int32) N H.size u12 hg) ⟨callB_of 1 hts (kc_gI wd_833) rfl rfl rfl (hts _ wd_46) (hts _ wd_830) (by decide +kernel) ⟨Nat.le_of_ble_eq_true rfl, Nat.le_of_ble_eq_true rfl⟩, hts _ wd_832, hts _ wd_37⟩ ⟨kc_blind _ _ _ _ _, va_recv hK hP (ci := 5) (q0 := 0) rfl rfl, kc_pre _ hK hN (hP.sub [0, 1, 2, 3, 4, 5, 6, 7, 8, 9, 10, 11, 12, 13] rfl) (hD.sub [0, 1, 2, 3, 4, 5, 6, 7, 8, 9, 10, 11, 12, 13] (by decide) rfl)⟩ rfl rfl hl.1 rfl (lv_room (Nat.le_of_ble_eq_true rfl)) dX5_lacks_55 ⟨Nat.zero_le _, Nat.zero_le _⟩) hP hD hS hA [0, 1, 2, 3, 4, 5, 6, 7, 8, 9, 10, 11, 12, 13] [] [0, 1, 2, 3, 4, 5, 6, 7, 8, 9, 10, 11, 12, 13] rfl rfl (by decide) (by decide) (fun _ => rfl) (by decide) (fun _ H locs hP hD hS => ?_)
        have hP : va_P D classes (wM cx aM xw xh xk xj xb xr xc xv xn u12.2 yR yT yC yW yA yE yU yM yV yF yZ yI yD) H := hP
        have hD : va_D A (wM cx aM xw xh xk xj xb xr xc xv xn u12.2 yR yT yC yW yA yE yU yM yV yF yZ yI yD) := hD
        obtain rfl := Option.some.inj hf
        exact kc_iret () hx hb hr hk hP hD hS rfl dX5_lacks_58
      · replace hf := it_f c11 hf
        refine lv_iconst (v := (0 : Int32)) hx hb dX5_lacks_49 (by decide) ?_
        refine lv_goto (tgt := 58) hx hb dX5_lacks_50 (by decide) ?_
        obtain rfl := Option.some.inj hf
        exact kc_iret () hx hb hr hk hP hD hS rfl dX5_lacks_58
    · replace hf := it_f c9 hf
      refine lv_aload_n hx hb dX5_lacks_25 rfl (lv_at hl 0 rfl) ?_
      refine lv_iconst (v := (3 : Int32)) hx hb dX5_lacks_26 (by decide) ?_
      obtain ⟨u13, hg, hf⟩ := ob_s hf
      refine kc_calli (wn := fun _ => (wM cx aM xw xh xk xj xb xr xc xv xn u13.2 yR yT yC yW yA yE yU yM yV yF yZ yI yD)) (va_runV (As := [.int (3 : Int32)]) (rest := []) ⟨hx, hb, hml, hown, hts⟩ (metX5_met l D cx aM xw xh xk xj xb xr xc xv xn xl yR yT yC yW yA yE yU yM yV yF yZ yI yD (3 : Int32) N H.size u13 hg) ⟨callB_of 1 hts (kc_gI wd_833) rfl rfl rfl (hts _ wd_46) (hts _ wd_830) (by decide +kernel) ⟨Nat.le_of_ble_eq_true rfl, Nat.le_of_ble_eq_true rfl⟩, hts _ wd_832, hts _ wd_37⟩ ⟨kc_blind _ _ _ _ _, va_recv hK hP (ci := 5) (q0 := 0) rfl rfl, kc_pre _ hK hN (hP.sub [0, 1, 2, 3, 4, 5, 6, 7, 8, 9, 10, 11, 12, 13] rfl) (hD.sub [0, 1, 2, 3, 4, 5, 6, 7, 8, 9, 10, 11, 12, 13] (by decide) rfl)⟩ rfl rfl hl.1 rfl (lv_room (Nat.le_of_ble_eq_true rfl)) dX5_lacks_27 ⟨Nat.zero_le _, Nat.zero_le _⟩) hP hD hS hA [0, 1, 2, 3, 4, 5, 6, 7, 8, 9, 10, 11, 12, 13] [] [0, 1, 2, 3, 4, 5, 6, 7, 8, 9, 10, 11, 12, 13] rfl rfl (by decide) (by decide) (fun _ => rfl) (by decide) (fun _ H locs hP hD hS => ?_)
      have hP : va_P D classes (wM cx aM xw xh xk xj xb xr xc xv xn u13.2 yR yT yC yW yA yE yU yM yV yF yZ yI yD) H := hP
      have hD : va_D A (wM cx aM xw xh xk xj xb xr xc xv xn u13.2 yR yT yC yW yA yE yU yM yV yF yZ yI yD) := hD
      obtain rfl := Option.some.inj hf
      exact kc_iret () hx hb hr hk hP hD hS rfl dX5_lacks_30
  · replace hf := it_f c8 hf
    refine lv_aload_n hx hb dX5_lacks_9 rfl (lv_at hl 0 rfl) ?_
    refine lv_iconst (v := (1 : Int32)) hx hb dX5_lacks_10 (by decide) ?_
    obtain ⟨u14, hg, hf⟩ := ob_s hf
    refine kc_calli (wn := fun _ => (wM cx aM xw xh xk xj xb xr xc xv xn u14.2 yR yT yC yW yA yE yU yM yV yF yZ yI yD)) (va_runV (As := [.int (1 : Int32)]) (rest := []) ⟨hx, hb, hml, hown, hts⟩ (metX5_met l D cx aM xw xh xk xj xb xr xc xv xn xl yR yT yC yW yA yE yU yM yV yF yZ yI yD (1 : Int32) N H.size u14 hg) ⟨callB_of 1 hts (kc_gI wd_833) rfl rfl rfl (hts _ wd_46) (hts _ wd_830) (by decide +kernel) ⟨Nat.le_of_ble_eq_true rfl, Nat.le_of_ble_eq_true rfl⟩, hts _ wd_832, hts _ wd_37⟩ ⟨kc_blind _ _ _ _ _, va_recv hK hP (ci := 5) (q0 := 0) rfl rfl, kc_pre _ hK hN (hP.sub [0, 1, 2, 3, 4, 5, 6, 7, 8, 9, 10, 11, 12, 13] rfl) (hD.sub [0, 1, 2, 3, 4, 5, 6, 7, 8, 9, 10, 11, 12, 13] (by decide) rfl)⟩ rfl rfl hl.1 rfl (lv_room (Nat.le_of_ble_eq_true rfl)) dX5_lacks_11 ⟨Nat.zero_le _, Nat.zero_le _⟩) hP hD hS hA [0, 1, 2, 3, 4, 5, 6, 7, 8, 9, 10, 11, 12, 13] [] [0, 1, 2, 3, 4, 5, 6, 7, 8, 9, 10, 11, 12, 13] rfl rfl (by decide) (by decide) (fun _ => rfl) (by decide) (fun _ H locs hP hD hS => ?_)
    have hP : va_P D classes (wM cx aM xw xh xk xj xb xr xc xv xn u14.2 yR yT yC yW yA yE yU yM yV yF yZ yI yD) H := hP
    have hD : va_D A (wM cx aM xw xh xk xj xb xr xc xv xn u14.2 yR yT yC yW yA yE yU yM yV yF yZ yI yD) := hD
    obtain rfl := Option.some.inj hf
    exact kc_iret () hx hb hr hk hP hD hS rfl dX5_lacks_14
abbrev rmX5_cut : Room := { frames := 0, cells := 0, slots := 0, locals := 0 }
set_option maxHeartbeats 4000000 in
set_option maxRecDepth 100000 in
theorem metX5_cut (l : Launch) (D : va_G) (cx : Nat → ClassId)   (x0 : Int32) (x1 : Int32) (N : Nat) (sz : Nat) (v : Int32) (hf : fX5_cut N x0 x1 = some v) : Met l yX5_cut (.code yX5_cut cX5_cut 2 (some .int) :: kc_TB) rmX5_cut (kc_Pre D cx ([] : va_W) [.int x0, .int x1] sz) (kc_Pi D (fun _ : Unit => ([] : va_W)) v (va_A ([] : va_W) sz)) 0 0 (va_A ([] : va_W) sz) := by
  refine kc_entry (Qc := fun A => (kc_Pi D (fun _ : Unit => ([] : va_W)) v A)) (by decide) (Nat.le_of_ble_eq_true rfl) ?_
  intro p e s m below meth c A hx hb hr hk hml hown hin hts hN hK hP hD hS hA ls hl
  have hown : s.vm.findClass RX5 = some m.cls := hown
  have hl : lv_has ls 2 [(0, .int x0), (1, .int x1)] := hl
  unfold fX5_cut at hf
  have hP : va_P D classes ([] : va_W) s.heap := hP
  obtain ⟨H, hH⟩ : ∃ H, H = s.heap := ⟨_, rfl⟩
  obtain ⟨locs, hL⟩ : ∃ locs : List Loc, locs = [] := ⟨_, rfl⟩
  have hS : va_S A s.heap H locs := by rw [hH, hL]; exact hS
  have hP : va_P D classes ([] : va_W) H := by rw [hH]; exact hP
  suffices hW : W p l e rmX5_cut s m ([.int x0, .int x1] : List Value).toArray below meth c H locs 0 0 (MQ below (kc_Pi D (fun _ : Unit => ([] : va_W)) v A) ([.int x0, .int x1] : List Value).toArray s 0 0 A) (F0 m 0 ls []) by rw [hH, hL] at hW; exact hW
  clear hH hL
  refine lv_iload_n hx hb dX5_cut_0 rfl (lv_at hl 0 rfl) ?_
  refine lv_if_ne (tgt := 9) hx hb dX5_cut_1 (by decide) (fun c3 => ?_) (fun c3 => ?_)
  · replace hf := it_f c3 hf
    refine lv_iload_n hx hb dX5_cut_9 rfl (lv_at hl 0 rfl) ?_
    refine lv_iconst (v := (1 : Int32)) hx hb dX5_cut_10 (by decide) ?_
    refine lv_icmp_ne (tgt := 19) hx hb dX5_cut_11 (by decide) (fun c4 => ?_) (fun c4 => ?_)
    · replace hf := it_f c4 hf
      refine lv_iload_n hx hb dX5_cut_19 rfl (lv_at hl 1 rfl) ?_
      obtain rfl := Option.some.inj hf
      exact kc_iret () hx hb hr hk hP hD hS rfl dX5_cut_20
    · replace hf := it_t c4 hf
      refine lv_iload_n hx hb dX5_cut_14 rfl (lv_at hl 1 rfl) ?_
      refine lv_i2s hx hb dX5_cut_15 rfl ?_
      refine lv_goto (tgt := 20) hx hb dX5_cut_16 (by decide) ?_
      obtain rfl := Option.some.inj hf
      exact kc_iret () hx hb hr hk hP hD hS rfl dX5_cut_20
  · replace hf := it_t c3 hf
    refine lv_iload_n hx hb dX5_cut_4 rfl (lv_at hl 1 rfl) ?_
    refine lv_i2b hx hb dX5_cut_5 rfl ?_
    refine lv_goto (tgt := 20) hx hb dX5_cut_6 (by decide) ?_
    obtain rfl := Option.some.inj hf
    exact kc_iret () hx hb hr hk hP hD hS rfl dX5_cut_20
abbrev rmX5_put : Room := { frames := 2, cells := 0, slots := 0, locals := 48 }
set_option maxHeartbeats 4000000 in
set_option maxRecDepth 100000 in
theorem metX5_put (l : Launch) (D : va_G) (cx : Nat → ClassId) (aM : Nat → Nat) (xw : Int32) (xh : Int32) (xk : Int32) (xj : Int32) (xb : Int32) (xr : Int32) (xc : Int32) (xv : Int32) (xn : Int32) (xl : Int32) (yR : Nat → Int32) (yT : Nat → Int32) (yC : Nat → Int32) (yW : Nat → Int32) (yA : Nat → Int32) (yE : Nat → Int32) (yU : Nat → Int32) (yM : Nat → Int32) (yV : Nat → Int32) (yF : Nat → Int32) (yZ : Nat → Int32) (yI : Nat → Int32) (yD : Nat → Int32) (x1 : Int32) (x2 : Int32) (x3 : Int32) (x4 : Int32) (N : Nat) (sz : Nat) (v : Int32 × Int32 × (Nat → Int32)) (hf : fX5_put N xl yF yZ yI x1 x2 x3 x4 = some v) : Met l yX5_put (.code yX5_put cX5_put 6 (some .int) :: kc_TB) rmX5_put (kc_Pre D cx (wM cx aM xw xh xk xj xb xr xc xv xn xl yR yT yC yW yA yE yU yM yV yF yZ yI yD) [.ref (aM 0), .int x1, .int x2, .int x3, .int x4] sz) (kc_Pi D (fun _ : Unit => (wM cx aM xw xh xk xj xb xr xc xv xn v.2.1 yR yT yC yW yA yE yU yM yV yF yZ v.2.2 yD)) v.1 (va_A (wM cx aM xw xh xk xj xb xr xc xv xn xl yR yT yC yW yA yE yU yM yV yF yZ yI yD) sz)) 0 0 (va_A (wM cx aM xw xh xk xj xb xr xc xv xn xl yR yT yC yW yA yE yU yM yV yF yZ yI yD) sz) := by
  refine kc_entry (Qc := fun A => (kc_Pi D (fun _ : Unit => (wM cx aM xw xh xk xj xb xr xc xv xn v.2.1 yR yT yC yW yA yE yU yM yV yF yZ v.2.2 yD)) v.1 A)) (by decide) (Nat.le_of_ble_eq_true rfl) ?_
  intro p e s m below meth c A hx hb hr hk hml hown hin hts hN hK hP hD hS hA ls hl
  have hown : s.vm.findClass RX5 = some m.cls := hown
  have hl : lv_has ls 6 [(0, .ref (aM 0)), (1, .int x1), (2, .int x2), (3, .int x3), (4, .int x4)] := hl
  unfold fX5_put at hf
  have hP : va_P D classes (wM cx aM xw xh xk xj xb xr xc xv xn xl yR yT yC yW yA yE yU yM yV yF yZ yI yD) s.heap := hP
  obtain ⟨H, hH⟩ : ∃ H, H = s.heap := ⟨_, rfl⟩
  obtain ⟨locs, hL⟩ : ∃ locs : List Loc, locs = [] := ⟨_, rfl⟩
  have hS : va_S A s.heap H locs := by rw [hH, hL]; exact hS
  have hP : va_P D classes (wM cx aM xw xh xk xj xb xr xc xv xn xl yR yT yC yW yA yE yU yM yV yF yZ yI yD) H := by rw [hH]; exact hP
  suffices hW : W p l e rmX5_put s m ([.ref (aM 0), .int x1, .int x2, .int x3, .int x4] : List Value).toArray below meth c H locs 0 0 (MQ below (kc_Pi D (fun _ : Unit => (wM cx aM xw xh xk xj xb xr xc xv xn v.2.1 yR yT yC yW yA yE yU yM yV yF yZ v.2.2 yD)) v.1 A) ([.ref (aM 0), .int x1, .int x2, .int x3, .int x4] : List Value).toArray s 0 0 A) (F0 m 0 ls []) by rw [hH, hL] at hW; exact hW
  clear hH hL
  refine lv_iload_n hx hb dX5_put_0 rfl (lv_at hl 1 rfl) ?_
  obtain ⟨u8, hg, hf⟩ := ob_s hf
  refine kc_calli (wn := fun _ => (wM cx aM xw xh xk xj xb xr xc xv xn xl yR yT yC yW yA yE yU yM yV yF yZ yI yD)) (va_runS (As := [.int x1]) (rest := []) ⟨hx, hb, hml, hown, hts⟩ (metX5_isSheet l D cx   x1 N H.size u8 hg) ⟨callB_of 1 hts (kc_gI wd_828) rfl rfl rfl (hts _ wd_46) (hts _ wd_826) (by decide +kernel) ⟨Nat.le_of_ble_eq_true rfl, Nat.le_of_ble_eq_true rfl⟩, hts _ wd_827⟩ ⟨kc_blind _ _ _ _ _, kc_pre _ hK hN (hP.sub [] rfl) (hD.sub [] (by decide) rfl)⟩ rfl rfl hl.1 rfl (lv_room (Nat.le_of_ble_eq_true rfl)) dX5_put_1 ⟨Nat.zero_le _, Nat.zero_le _⟩) hP hD hS hA [] [0, 1, 2, 3, 4, 5, 6, 7, 8, 9, 10, 11, 12, 13] [0, 1, 2, 3, 4, 5, 6, 7, 8, 9, 10, 11, 12, 13] rfl rfl (by decide) (by decide) (fun _ => rfl) (by decide) (fun _ H locs hP hD hS => ?_)
  have hP : va_P D classes (wM cx aM xw xh xk xj xb xr xc xv xn xl yR yT yC yW yA yE yU yM yV yF yZ yI yD) H := hP
  have hD : va_D A (wM cx aM xw xh xk xj xb xr xc xv xn xl yR yT yC yW yA yE yU yM yV yF yZ yI yD) := hD
  refine lv_if_eq (tgt := 19) hx hb dX5_put_4 (by decide) (fun c9 => ?_) (fun c9 => ?_)
  · replace hf := it_t c9 hf
    refine lv_sipush (v := (-200 : Int32)) hx hb dX5_put_19 (by decide) ?_
    obtain rfl := Option.some.inj hf
    exact kc_iret () hx hb hr hk hP hD hS rfl dX5_put_22
  · replace hf := it_f c9 hf
    refine lv_iload_n hx hb dX5_put_7 rfl (lv_at hl 2 rfl) ?_
    refine lv_i2l hx hb dX5_put_8 rfl ?_
    refine lv_lconst (v := (0 : Int64)) hx hb dX5_put_9 (by decide) ?_
    refine lv_ldc2 hx hb hown (hts _ wd_717) dX5_put_10 ?_
    obtain ⟨u10, hg, hf⟩ := ob_s hf
    refine kc_calli (wn := fun _ => (wM cx aM xw xh xk xj xb xr xc xv xn xl yR yT yC yW yA yE yU yM yV yF yZ yI yD)) (va_runS (As := [.long x2.toInt64, .long (0 : Int64), .long (2 : Int64)]) (rest := []) ⟨hx, hb, hml, hown, hts⟩ (metX5_in l D cx   x2.toInt64 (0 : Int64) (2 : Int64) N H.size u10 hg) ⟨callB_of 3 hts (kc_gI wd_587) rfl rfl rfl (hts _ wd_46) (hts _ wd_585) (by decide +kernel) ⟨Nat.le_of_ble_eq_true rfl, Nat.le_of_ble_eq_true rfl⟩, hts _ wd_586⟩ ⟨kc_blind _ _ _ _ _, kc_pre _ hK hN (hP.sub [] rfl) (hD.sub [] (by decide) rfl)⟩ rfl rfl hl.1 rfl (lv_room (Nat.le_of_ble_eq_true rfl)) dX5_put_13 ⟨Nat.zero_le _, Nat.zero_le _⟩) hP hD hS hA [] [0, 1, 2, 3, 4, 5, 6, 7, 8, 9, 10, 11, 12, 13] [0, 1, 2, 3, 4, 5, 6, 7, 8, 9, 10, 11, 12, 13] rfl rfl (by decide) (by decide) (fun _ => rfl) (by decide) (fun _ H locs hP hD hS => ?_)
    have hP : va_P D classes (wM cx aM xw xh xk xj xb xr xc xv xn xl yR yT yC yW yA yE yU yM yV yF yZ yI yD) H := hP
    have hD : va_D A (wM cx aM xw xh xk xj xb xr xc xv xn xl yR yT yC yW yA yE yU yM yV yF yZ yI yD) := hD
    refine lv_if_ne (tgt := 23) hx hb dX5_put_16 (by decide) (fun c11 => ?_) (fun c11 => ?_)
    · replace hf := it_f c11 hf
      refine lv_aload_n hx hb dX5_put_23 rfl (lv_at hl 0 rfl) ?_
      refine lv_iload_n hx hb dX5_put_24 rfl (lv_at hl 1 rfl) ?_
      refine lv_iload_n hx hb dX5_put_25 rfl (lv_at hl 2 rfl) ?_
      refine lv_iload_n hx hb dX5_put_26 rfl (lv_at hl 3 rfl) ?_
      obtain ⟨u12, hg, hf⟩ := ob_s hf
      refine kc_calli (wn := fun _ => (wM cx aM xw xh xk xj xb xr xc xv xn u12.2 yR yT yC yW yA yE yU yM yV yF yZ yI yD)) (va_runV (As := [.int x1, .int x2, .int x3]) (rest := []) ⟨hx, hb, hml, hown, hts⟩ (metX5_lacks l D cx aM xw xh xk xj xb xr xc xv xn xl yR yT yC yW yA yE yU yM yV yF yZ yI yD x1 x2 x3 N H.size u12 hg) ⟨callB_of 3 hts (kc_gI wd_845) rfl rfl rfl (hts _ wd_46) (hts _ wd_842) (by decide +kernel) ⟨Nat.le_of_ble_eq_true rfl, Nat.le_of_ble_eq_true rfl⟩, hts _ wd_844, hts _ wd_38⟩ ⟨kc_blind _ _ _ _ _, va_recv hK hP (ci := 5) (q0 := 0) rfl rfl, kc_pre _ hK hN (hP.sub [0, 1, 2, 3, 4, 5, 6, 7, 8, 9, 10, 11, 12, 13] rfl) (hD.sub [0, 1, 2, 3, 4, 5, 6, 7, 8, 9, 10, 11, 12, 13] (by decide) rfl)⟩ rfl rfl hl.1 rfl (lv_room (Nat.le_of_ble_eq_true rfl)) dX5_put_27 ⟨Nat.zero_le _, Nat.zero_le _⟩) hP hD hS hA [0, 1, 2, 3, 4, 5, 6, 7, 8, 9, 10, 11, 12, 13] [] [0, 1, 2, 3, 4, 5, 6, 7, 8, 9, 10, 11, 12, 13] rfl rfl (by decide) (by decide) (fun _ => rfl) (by decide) (fun _ H locs hP hD hS => ?_)
      have hP : va_P D classes (wM cx aM xw xh xk xj xb xr xc xv xn u12.2 yR yT yC yW yA yE yU yM yV yF yZ yI yD) H := hP
      have hD : va_D A (wM cx aM xw xh xk xj xb xr xc xv xn u12.2 yR yT yC yW yA yE yU yM yV yF yZ yI yD) := hD
      refine lv_istore (lv' := [(5, .int u12.1), (0, .ref (aM 0)), (1, .int x1), (2, .int x2), (3, .int x3), (4, .int x4)]) hx hb dX5_put_30 hl (by decide) rfl (fun ls hl => ?_)
      refine lv_iload hx hb dX5_put_32 (lv_at hl 0 rfl) ?_
      refine lv_if_eq (tgt := 40) hx hb dX5_put_34 (by decide) (fun c13 => ?_) (fun c13 => ?_)
      · replace hf := it_t c13 hf
        refine lv_aload_n hx hb dX5_put_40 rfl (lv_at hl 1 rfl) ?_
        refine va_get (D := D) (ci := 5) (v := .ref (aM 12)) (C := RX5) (T := TX5) (N := 23) hx hb hts iX5 hown hK hP 0 rfl rfl 20 (by decide) (hts _ wd_660) (fun _ h9 => h9) rfl dX5_put_41 ?_
        refine lv_bipush (v := (20 : Int32)) hx hb dX5_put_44 (by decide) ?_
        refine lv_iload_n hx hb dX5_put_46 rfl (lv_at hl 2 rfl) ?_
        refine lv_imul hx hb dX5_put_47 ?_
        refine lv_iload_n hx hb dX5_put_48 rfl (lv_at hl 4 rfl) ?_
        refine lv_iadd hx hb dX5_put_49 ?_
        refine lv_iload_n hx hb dX5_put_50 rfl (lv_at hl 3 rfl) ?_
        refine lv_iload hx hb dX5_put_51 (lv_at hl 5 rfl) ?_
        obtain ⟨u14, hg, hf⟩ := ob_s hf
        refine kc_calli (wn := fun _ => (wM cx aM xw xh xk xj xb xr xc xv xn u12.2 yR yT yC yW yA yE yU yM yV yF yZ yI yD)) (va_runS (As := [.int x2, .int x4]) (rest := [.int (((20 : Int32) * x1) + x3), .ref (aM 12)]) ⟨hx, hb, hml, hown, hts⟩ (metX5_cut l D cx   x2 x4 N H.size u14 hg) ⟨callB_of 2 hts (kc_gI wd_848) rfl rfl rfl (hts _ wd_46) (hts _ wd_846) (by decide +kernel) ⟨Nat.le_of_ble_eq_true rfl, Nat.le_of_ble_eq_true rfl⟩, hts _ wd_847⟩ ⟨kc_blind _ _ _ _ _, kc_pre _ hK hN (hP.sub [] rfl) (hD.sub [] (by decide) rfl)⟩ rfl rfl hl.1 rfl (lv_room (Nat.le_of_ble_eq_true rfl)) dX5_put_53 ⟨Nat.zero_le _, Nat.zero_le _⟩) hP hD hS hA [] [0, 1, 2, 3, 4, 5, 6, 7, 8, 9, 10, 11, 12, 13] [0, 1, 2, 3, 4, 5, 6, 7, 8, 9, 10, 11, 12, 13] rfl rfl (by decide) (by decide) (fun _ => rfl) (by decide) (fun _ H locs hP hD hS => ?_)
        have hP : va_P D classes (wM cx aM xw xh xk xj xb xr xc xv xn u12.2 yR yT yC yW yA yE yU yM yV yF yZ yI yD) H := hP
        have hD : va_D A (wM cx aM xw xh xk xj xb xr xc xv xn u12.2 yR yT yC yW yA yE yU yM yV yF yZ yI yD) := hD
        obtain ⟨hz, hf⟩ := okb_s hf
        refine va_iast (D := D) hx hb hK hP hD hS 12 0 rfl rfl (inb_s hz) dX5_put_56 (fun H locs hP hD hS => ?_)
        have hP : va_P D classes (wM cx aM xw xh xk xj xb xr xc xv xn u12.2 yR yT yC yW yA yE yU yM yV yF yZ (upd yI (((20 : Int32) * x1) + x3).toNatClampNeg u14) yD) H := hP
        have hD : va_D A (wM cx aM xw xh xk xj xb xr xc xv xn u12.2 yR yT yC yW yA yE yU yM yV yF yZ (upd yI (((20 : Int32) * x1) + x3).toNatClampNeg u14) yD) := hD
        refine lv_iconst (v := (1 : Int32)) hx hb dX5_put_57 (by decide) ?_
        obtain rfl := Option.some.inj hf
        exact kc_iret () hx hb hr hk hP hD hS rfl dX5_put_58
      · replace hf := it_f c13 hf
        refine lv_iload hx hb dX5_put_37 (lv_at hl 0 rfl) ?_
        obtain rfl := Option.some.inj hf
        exact kc_iret () hx hb hr hk hP hD hS rfl dX5_put_39
    · replace hf := it_t c11 hf
      refine lv_sipush (v := (-200 : Int32)) hx hb dX5_put_19 (by decide) ?_
      obtain rfl := Option.some.inj hf
      exact kc_iret () hx hb hr hk hP hD hS rfl dX5_put_22
abbrev rmX5_get : Room := { frames := 2, cells := 0, slots := 0, locals := 48 }
set_option maxHeartbeats 4000000 in
set_option maxRecDepth 100000 in
theorem metX5_get (l : Launch) (D : va_G) (cx : Nat → ClassId) (aM : Nat → Nat) (xw : Int32) (xh : Int32) (xk : Int32) (xj : Int32) (xb : Int32) (xr : Int32) (xc : Int32) (xv : Int32) (xn : Int32) (xl : Int32) (yR : Nat → Int32) (yT : Nat → Int32) (yC : Nat → Int32) (yW : Nat → Int32) (yA : Nat → Int32) (yE : Nat → Int32) (yU : Nat → Int32) (yM : Nat → Int32) (yV : Nat → Int32) (yF : Nat → Int32) (yZ : Nat → Int32) (yI : Nat → Int32) (yD : Nat → Int32) (x1 : Int32) (x2 : Int32) (x3 : Int32) (N : Nat) (sz : Nat) (v : Int32 × Int32) (hf : fX5_get N xl yF yZ yI x1 x2 x3 = some v) : Met l yX5_get (.code yX5_get cX5_get 4 (some .int) :: kc_TB) rmX5_get (kc_Pre D cx (wM cx aM xw xh xk xj xb xr xc xv xn xl yR yT yC yW yA yE yU yM yV yF yZ yI yD) [.ref (aM 0), .int x1, .int x2, .int x3] sz) (kc_Pi D (fun _ : Unit => (wM cx aM xw xh xk xj xb xr xc xv xn v.2 yR yT yC yW yA yE yU yM yV yF yZ yI yD)) v.1 (va_A (wM cx aM xw xh xk xj xb xr xc xv xn xl yR yT yC yW yA yE yU yM yV yF yZ yI yD) sz)) 0 0 (va_A (wM cx aM xw xh xk xj xb xr xc xv xn xl yR yT yC yW yA yE yU yM yV yF yZ yI yD) sz) := by
  refine kc_entry (Qc := fun A => (kc_Pi D (fun _ : Unit => (wM cx aM xw xh xk xj xb xr xc xv xn v.2 yR yT yC yW yA yE yU yM yV yF yZ yI yD)) v.1 A)) (by decide) (Nat.le_of_ble_eq_true rfl) ?_
  intro p e s m below meth c A hx hb hr hk hml hown hin hts hN hK hP hD hS hA ls hl
  have hown : s.vm.findClass RX5 = some m.cls := hown
  have hl : lv_has ls 4 [(0, .ref (aM 0)), (1, .int x1), (2, .int x2), (3, .int x3)] := hl
  unfold fX5_get at hf
  have hP : va_P D classes (wM cx aM xw xh xk xj xb xr xc xv xn xl yR yT yC yW yA yE yU yM yV yF yZ yI yD) s.heap := hP
  obtain ⟨H, hH⟩ : ∃ H, H = s.heap := ⟨_, rfl⟩
  obtain ⟨locs, hL⟩ : ∃ locs : List Loc, locs = [] := ⟨_, rfl⟩
  have hS : va_S A s.heap H locs := by rw [hH, hL]; exact hS
  have hP : va_P D classes (wM cx aM xw xh xk xj xb xr xc xv xn xl yR yT yC yW yA yE yU yM yV yF yZ yI yD) H := by rw [hH]; exact hP
  suffices hW : W p l e rmX5_get s m ([.ref (aM 0), .int x1, .int x2, .int x3] : List Value).toArray below meth c H locs 0 0 (MQ below (kc_Pi D (fun _ : Unit => (wM cx aM xw xh xk xj xb xr xc xv xn v.2 yR yT yC yW yA yE yU yM yV yF yZ yI yD)) v.1 A) ([.ref (aM 0), .int x1, .int x2, .int x3] : List Value).toArray s 0 0 A) (F0 m 0 ls []) by rw [hH, hL] at hW; exact hW
  clear hH hL
  refine lv_iload_n hx hb dX5_get_0 rfl (lv_at hl 1 rfl) ?_
  obtain ⟨u7, hg, hf⟩ := ob_s hf
  refine kc_calli (wn := fun _ => (wM cx aM xw xh xk xj xb xr xc xv xn xl yR yT yC yW yA yE yU yM yV yF yZ yI yD)) (va_runS (As := [.int x1]) (rest := []) ⟨hx, hb, hml, hown, hts⟩ (metX5_isSheet l D cx   x1 N H.size u7 hg) ⟨callB_of 1 hts (kc_gI wd_828) rfl rfl rfl (hts _ wd_46) (hts _ wd_826) (by decide +kernel) ⟨Nat.le_of_ble_eq_true rfl, Nat.le_of_ble_eq_true rfl⟩, hts _ wd_827⟩ ⟨kc_blind _ _ _ _ _, kc_pre _ hK hN (hP.sub [] rfl) (hD.sub [] (by decide) rfl)⟩ rfl rfl hl.1 rfl (lv_room (Nat.le_of_ble_eq_true rfl)) dX5_get_1 ⟨Nat.zero_le _, Nat.zero_le _⟩) hP hD hS hA [] [0, 1, 2, 3, 4, 5, 6, 7, 8, 9, 10, 11, 12, 13] [0, 1, 2, 3, 4, 5, 6, 7, 8, 9, 10, 11, 12, 13] rfl rfl (by decide) (by decide) (fun _ => rfl) (by decide) (fun _ H locs hP hD hS => ?_)
  have hP : va_P D classes (wM cx aM xw xh xk xj xb xr xc xv xn xl yR yT yC yW yA yE yU yM yV yF yZ yI yD) H := hP
  have hD : va_D A (wM cx aM xw xh xk xj xb xr xc xv xn xl yR yT yC yW yA yE yU yM yV yF yZ yI yD) := hD
  refine lv_if_eq (tgt := 29) hx hb dX5_get_4 (by decide) (fun c8 => ?_) (fun c8 => ?_)
  · replace hf := it_t c8 hf
    refine lv_ldc hx hb hown (hts _ wd_853) dX5_get_29 ?_
    obtain rfl := Option.some.inj hf
    exact kc_iret () hx hb hr hk hP hD hS rfl dX5_get_31
  · replace hf := it_f c8 hf
    refine lv_iload_n hx hb dX5_get_7 rfl (lv_at hl 2 rfl) ?_
    refine lv_i2l hx hb dX5_get_8 rfl ?_
    refine lv_lconst (v := (0 : Int64)) hx hb dX5_get_9 (by decide) ?_
    refine lv_ldc2 hx hb hown (hts _ wd_717) dX5_get_10 ?_
    obtain ⟨u9, hg, hf⟩ := ob_s hf
    refine kc_calli (wn := fun _ => (wM cx aM xw xh xk xj xb xr xc xv xn xl yR yT yC yW yA yE yU yM yV yF yZ yI yD)) (va_runS (As := [.long x2.toInt64, .long (0 : Int64), .long (2 : Int64)]) (rest := []) ⟨hx, hb, hml, hown, hts⟩ (metX5_in l D cx   x2.toInt64 (0 : Int64) (2 : Int64) N H.size u9 hg) ⟨callB_of 3 hts (kc_gI wd_587) rfl rfl rfl (hts _ wd_46) (hts _ wd_585) (by decide +kernel) ⟨Nat.le_of_ble_eq_true rfl, Nat.le_of_ble_eq_true rfl⟩, hts _ wd_586⟩ ⟨kc_blind _ _ _ _ _, kc_pre _ hK hN (hP.sub [] rfl) (hD.sub [] (by decide) rfl)⟩ rfl rfl hl.1 rfl (lv_room (Nat.le_of_ble_eq_true rfl)) dX5_get_13 ⟨Nat.zero_le _, Nat.zero_le _⟩) hP hD hS hA [] [0, 1, 2, 3, 4, 5, 6, 7, 8, 9, 10, 11, 12, 13] [0, 1, 2, 3, 4, 5, 6, 7, 8, 9, 10, 11, 12, 13] rfl rfl (by decide) (by decide) (fun _ => rfl) (by decide) (fun _ H locs hP hD hS => ?_)
    have hP : va_P D classes (wM cx aM xw xh xk xj xb xr xc xv xn xl yR yT yC yW yA yE yU yM yV yF yZ yI yD) H := hP
    have hD : va_D A (wM cx aM xw xh xk xj xb xr xc xv xn xl yR yT yC yW yA yE yU yM yV yF yZ yI yD) := hD
    refine lv_if_eq (tgt := 29) hx hb dX5_get_16 (by decide) (fun c10 => ?_) (fun c10 => ?_)
    · replace hf := it_t c10 hf
      refine lv_ldc hx hb hown (hts _ wd_853) dX5_get_29 ?_
      obtain rfl := Option.some.inj hf
      exact kc_iret () hx hb hr hk hP hD hS rfl dX5_get_31
    · replace hf := it_f c10 hf
      refine lv_aload_n hx hb dX5_get_19 rfl (lv_at hl 0 rfl) ?_
      refine lv_iload_n hx hb dX5_get_20 rfl (lv_at hl 1 rfl) ?_
      refine lv_iload_n hx hb dX5_get_21 rfl (lv_at hl 2 rfl) ?_
      refine lv_iload_n hx hb dX5_get_22 rfl (lv_at hl 3 rfl) ?_
      obtain ⟨u11, hg, hf⟩ := ob_s hf
      refine kc_calli (wn := fun _ => (wM cx aM xw xh xk xj xb xr xc xv xn u11.2 yR yT yC yW yA yE yU yM yV yF yZ yI yD)) (va_runV (As := [.int x1, .int x2, .int x3]) (rest := []) ⟨hx, hb, hml, hown, hts⟩ (metX5_lacks l D cx aM xw xh xk xj xb xr xc xv xn xl yR yT yC yW yA yE yU yM yV yF yZ yI yD x1 x2 x3 N H.size u11 hg) ⟨callB_of 3 hts (kc_gI wd_845) rfl rfl rfl (hts _ wd_46) (hts _ wd_842) (by decide +kernel) ⟨Nat.le_of_ble_eq_true rfl, Nat.le_of_ble_eq_true rfl⟩, hts _ wd_844, hts _ wd_38⟩ ⟨kc_blind _ _ _ _ _, va_recv hK hP (ci := 5) (q0 := 0) rfl rfl, kc_pre _ hK hN (hP.sub [0, 1, 2, 3, 4, 5, 6, 7, 8, 9, 10, 11, 12, 13] rfl) (hD.sub [0, 1, 2, 3, 4, 5, 6, 7, 8, 9, 10, 11, 12, 13] (by decide) rfl)⟩ rfl rfl hl.1 rfl (lv_room (Nat.le_of_ble_eq_true rfl)) dX5_get_23 ⟨Nat.zero_le _, Nat.zero_le _⟩) hP hD hS hA [0, 1, 2, 3, 4, 5, 6, 7, 8, 9, 10, 11, 12, 13] [] [0, 1, 2, 3, 4, 5, 6, 7, 8, 9, 10, 11, 12, 13] rfl rfl (by decide) (by decide) (fun _ => rfl) (by decide) (fun _ H locs hP hD hS => ?_)
      have hP : va_P D classes (wM cx aM xw xh xk xj xb xr xc xv xn u11.2 yR yT yC yW yA yE yU yM yV yF yZ yI yD) H := hP
      have hD : va_D A (wM cx aM xw xh xk xj xb xr xc xv xn u11.2 yR yT yC yW yA yE yU yM yV yF yZ yI yD) := hD
      refine lv_if_eq (tgt := 32) hx hb dX5_get_26 (by decide) (fun c12 => ?_) (fun c12 => ?_)
      · replace hf := it_t c12 hf
        refine lv_aload_n hx hb dX5_get_32 rfl (lv_at hl 0 rfl) ?_
        refine va_get (D := D) (ci := 5) (v := .ref (aM 12)) (C := RX5) (T := TX5) (N := 23) hx hb hts iX5 hown hK hP 0 rfl rfl 20 (by decide) (hts _ wd_660) (fun _ h9 => h9) rfl dX5_get_33 ?_
        refine lv_bipush (v := (20 : Int32)) hx hb dX5_get_36 (by decide) ?_
        refine lv_iload_n hx hb dX5_get_38 rfl (lv_at hl 1 rfl) ?_
        refine lv_imul hx hb dX5_get_39 ?_
        refine lv_iload_n hx hb dX5_get_40 rfl (lv_at hl 3 rfl) ?_
        refine lv_iadd hx hb dX5_get_41 ?_
        obtain ⟨hz, hf⟩ := okb_s hf
        refine va_iald (D := D) hx hb hK hP 12 0 rfl rfl (inb_s hz) dX5_get_42 ?_
        obtain rfl := Option.some.inj hf
        exact kc_iret () hx hb hr hk hP hD hS rfl dX5_get_43
      · replace hf := it_f c12 hf
        refine lv_ldc hx hb hown (hts _ wd_853) dX5_get_29 ?_
        obtain rfl := Option.some.inj hf
        exact kc_iret () hx hb hr hk hP hD hS rfl dX5_get_31
abbrev rmX5_copy : Room := { frames := 2, cells := 0, slots := 0, locals := 45 }
set_option maxHeartbeats 4000000 in
set_option maxRecDepth 100000 in
theorem metX5_copy (l : Launch) (D : va_G) (cx : Nat → ClassId) (aM : Nat → Nat) (xw : Int32) (xh : Int32) (xk : Int32) (xj : Int32) (xb : Int32) (xr : Int32) (xc : Int32) (xv : Int32) (xn : Int32) (xl : Int32) (yR : Nat → Int32) (yT : Nat → Int32) (yC : Nat → Int32) (yW : Nat → Int32) (yA : Nat → Int32) (yE : Nat → Int32) (yU : Nat → Int32) (yM : Nat → Int32) (yV : Nat → Int32) (yF : Nat → Int32) (yZ : Nat → Int32) (yI : Nat → Int32) (yD : Nat → Int32) (x1 : Int32) (x2 : Int32) (x3 : Int32) (x4 : Int32) (x5 : Int32) (N : Nat) (sz : Nat) (v : Int32 × Int32 × (Nat → Int32) × (Nat → Int32)) (hf : fX5_copy N xl yF yZ yI yD x1 x2 x3 x4 x5 = some v) : Met l yX5_copy (.code yX5_copy cX5_copy 7 (some .int) :: kc_TB) rmX5_copy (kc_Pre D cx (wM cx aM xw xh xk xj xb xr xc xv xn xl yR yT yC yW yA yE yU yM yV yF yZ yI yD) [.ref (aM 0), .int x1, .int x2, .int x3, .int x4, .int x5] sz) (kc_Pi D (fun _ : Unit => (wM cx aM xw xh xk xj xb xr xc xv xn v.2.1 yR yT yC yW yA yE yU yM yV yF yZ v.2.2.1 v.2.2.2)) v.1 (va_A (wM cx aM xw xh xk xj xb xr xc xv xn xl yR yT yC yW yA yE yU yM yV yF yZ yI yD) sz)) 0 0 (va_A (wM cx aM xw xh xk xj xb xr xc xv xn xl yR yT yC yW yA yE yU yM yV yF yZ yI yD) sz) := by
  refine kc_entry (Qc := fun A => (kc_Pi D (fun _ : Unit => (wM cx aM xw xh xk xj xb xr xc xv xn v.2.1 yR yT yC yW yA yE yU yM yV yF yZ v.2.2.1 v.2.2.2)) v.1 A)) (by decide) (Nat.le_of_ble_eq_true rfl) ?_
  intro p e s m below meth c A hx hb hr hk hml hown hin hts hN hK hP hD hS hA ls hl
  have hown : s.vm.findClass RX5 = some m.cls := hown
  have hl : lv_has ls 7 [(0, .ref (aM 0)), (1, .int x1), (2, .int x2), (3, .int x3), (4, .int x4), (5, .int x5)] := hl
  unfold fX5_copy at hf
  have hP : va_P D classes (wM cx aM xw xh xk xj xb xr xc xv xn xl yR yT yC yW yA yE yU yM yV yF yZ yI yD) s.heap := hP
  obtain ⟨H, hH⟩ : ∃ H, H = s.heap := ⟨_, rfl⟩
  obtain ⟨locs, hL⟩ : ∃ locs : List Loc, locs = [] := ⟨_, rfl⟩
  have hS : va_S A s.heap H locs := by rw [hH, hL]; exact hS
  have hP : va_P D classes (wM cx aM xw xh xk xj xb xr xc xv xn xl yR yT yC yW yA yE yU yM yV yF yZ yI yD) H := by rw [hH]; exact hP
  suffices hW : W p l e rmX5_copy s m ([.ref (aM 0), .int x1, .int x2, .int x3, .int x4, .int x5] : List Value).toArray below meth c H locs 0 0 (MQ below (kc_Pi D (fun _ : Unit => (wM cx aM xw xh xk xj xb xr xc xv xn v.2.1 yR yT yC yW yA yE yU yM yV yF yZ v.2.2.1 v.2.2.2)) v.1 A) ([.ref (aM 0), .int x1, .int x2, .int x3, .int x4, .int x5] : List Value).toArray s 0 0 A) (F0 m 0 ls []) by rw [hH, hL] at hW; exact hW
  clear hH hL
  refine lv_iload_n hx hb dX5_copy_0 rfl (lv_at hl 1 rfl) ?_
  obtain ⟨u23, hg, hf⟩ := ob_s hf
  refine kc_calli (wn := fun _ => (wM cx aM xw xh xk xj xb xr xc xv xn xl yR yT yC yW yA yE yU yM yV yF yZ yI yD)) (va_runS (As := [.int x1]) (rest := []) ⟨hx, hb, hml, hown, hts⟩ (metX5_isSheet l D cx   x1 N H.size u23 hg) ⟨callB_of 1 hts (kc_gI wd_828) rfl rfl rfl (hts _ wd_46) (hts _ wd_826) (by decide +kernel) ⟨Nat.le_of_ble_eq_true rfl, Nat.le_of_ble_eq_true rfl⟩, hts _ wd_827⟩ ⟨kc_blind _ _ _ _ _, kc_pre _ hK hN (hP.sub [] rfl) (hD.sub [] (by decide) rfl)⟩ rfl rfl hl.1 rfl (lv_room (Nat.le_of_ble_eq_true rfl)) dX5_copy_1 ⟨Nat.zero_le _, Nat.zero_le _⟩) hP hD hS hA [] [0, 1, 2, 3, 4, 5, 6, 7, 8, 9, 10, 11, 12, 13] [0, 1, 2, 3, 4, 5, 6, 7, 8, 9, 10, 11, 12, 13] rfl rfl (by decide) (by decide) (fun _ => rfl) (by decide) (fun _ H locs hP hD hS => ?_)
  have hP : va_P D classes (wM cx aM xw xh xk xj xb xr xc xv xn xl yR yT yC yW yA yE yU yM yV yF yZ yI yD) H := hP
  have hD : va_D A (wM cx aM xw xh xk xj xb xr xc xv xn xl yR yT yC yW yA yE yU yM yV yF yZ yI yD) := hD
  refine lv_if_eq (tgt := 14) hx hb dX5_copy_4 (by decide) (fun c24 => ?_) (fun c24 => ?_)
  · replace hf := it_t c24 hf
    refine lv_sipush (v := (-200 : Int32)) hx hb dX5_copy_14 (by decide) ?_
    obtain rfl := Option.some.inj hf
    exact kc_iret () hx hb hr hk hP hD hS rfl dX5_copy_17
  · replace hf := it_f c24 hf
    refine lv_iload_n hx hb dX5_copy_7 rfl (lv_at hl 3 rfl) ?_
    obtain ⟨u25, hg, hf⟩ := ob_s hf
    refine kc_calli (wn := fun _ => (wM cx aM xw xh xk xj xb xr xc xv xn xl yR yT yC yW yA yE yU yM yV yF yZ yI yD)) (va_runS (As := [.int x3]) (rest := []) ⟨hx, hb, hml, hown, hts⟩ (metX5_isSheet l D cx   x3 N H.size u25 hg) ⟨callB_of 1 hts (kc_gI wd_828) rfl rfl rfl (hts _ wd_46) (hts _ wd_826) (by decide +kernel) ⟨Nat.le_of_ble_eq_true rfl, Nat.le_of_ble_eq_true rfl⟩, hts _ wd_827⟩ ⟨kc_blind _ _ _ _ _, kc_pre _ hK hN (hP.sub [] rfl) (hD.sub [] (by decide) rfl)⟩ rfl rfl hl.1 rfl (lv_room (Nat.le_of_ble_eq_true rfl)) dX5_copy_8 ⟨Nat.zero_le _, Nat.zero_le _⟩) hP hD hS hA [] [0, 1, 2, 3, 4, 5, 6, 7, 8, 9, 10, 11, 12, 13] [0, 1, 2, 3, 4, 5, 6, 7, 8, 9, 10, 11, 12, 13] rfl rfl (by decide) (by decide) (fun _ => rfl) (by decide) (fun _ H locs hP hD hS => ?_)
    have hP : va_P D classes (wM cx aM xw xh xk xj xb xr xc xv xn xl yR yT yC yW yA yE yU yM yV yF yZ yI yD) H := hP
    have hD : va_D A (wM cx aM xw xh xk xj xb xr xc xv xn xl yR yT yC yW yA yE yU yM yV yF yZ yI yD) := hD
    refine lv_if_ne (tgt := 18) hx hb dX5_copy_11 (by decide) (fun c26 => ?_) (fun c26 => ?_)
    · replace hf := it_f c26 hf
      refine lv_aload_n hx hb dX5_copy_18 rfl (lv_at hl 0 rfl) ?_
      refine va_get (D := D) (ci := 5) (v := .ref (aM 10)) (C := RX5) (T := TX5) (N := 23) hx hb hts iX5 hown hK hP 0 rfl rfl 18 (by decide) (hts _ wd_658) (fun _ h9 => h9) rfl dX5_copy_19 ?_
      refine lv_iload_n hx hb dX5_copy_22 rfl (lv_at hl 1 rfl) ?_
      obtain ⟨hz, hf⟩ := okb_s hf
      refine va_iald (D := D) hx hb hK hP 10 0 rfl rfl (inb_s hz) dX5_copy_23 ?_
      refine lv_if_lt (tgt := 36) hx hb dX5_copy_24 (by decide) (fun c27 => ?_) (fun c27 => ?_)
      · replace hf := it_t c27 hf
        refine lv_aload_n hx hb dX5_copy_36 rfl (lv_at hl 0 rfl) ?_
        refine lv_iconst (v := (1 : Int32)) hx hb dX5_copy_37 (by decide) ?_
        obtain ⟨u28, hg, hf⟩ := ob_s hf
        refine kc_calli (wn := fun _ => (wM cx aM xw xh xk xj xb xr xc xv xn u28.2 yR yT yC yW yA yE yU yM yV yF yZ yI yD)) (va_runV (As := [.int (1 : Int32)]) (rest := []) ⟨hx, hb, hml, hown, hts⟩ (metX5_met l D cx aM xw xh xk xj xb xr xc xv xn xl yR yT yC yW yA yE yU yM yV yF yZ yI yD (1 : Int32) N H.size u28 hg) ⟨callB_of 1 hts (kc_gI wd_833) rfl rfl rfl (hts _ wd_46) (hts _ wd_830) (by decide +kernel) ⟨Nat.le_of_ble_eq_true rfl, Nat.le_of_ble_eq_true rfl⟩, hts _ wd_832, hts _ wd_37⟩ ⟨kc_blind _ _ _ _ _, va_recv hK hP (ci := 5) (q0 := 0) rfl rfl, kc_pre _ hK hN (hP.sub [0, 1, 2, 3, 4, 5, 6, 7, 8, 9, 10, 11, 12, 13] rfl) (hD.sub [0, 1, 2, 3, 4, 5, 6, 7, 8, 9, 10, 11, 12, 13] (by decide) rfl)⟩ rfl rfl hl.1 rfl (lv_room (Nat.le_of_ble_eq_true rfl)) dX5_copy_38 ⟨Nat.zero_le _, Nat.zero_le _⟩) hP hD hS hA [0, 1, 2, 3, 4, 5, 6, 7, 8, 9, 10, 11, 12, 13] [] [0, 1, 2, 3, 4, 5, 6, 7, 8, 9, 10, 11, 12, 13] rfl rfl (by decide) (by decide) (fun _ => rfl) (by decide) (fun _ H locs hP hD hS => ?_)
        have hP : va_P D classes (wM cx aM xw xh xk xj xb xr xc xv xn u28.2 yR yT yC yW yA yE yU yM yV yF yZ yI yD) H := hP
        have hD : va_D A (wM cx aM xw xh xk xj xb xr xc xv xn u28.2 yR yT yC yW yA yE yU yM yV yF yZ yI yD) := hD
        obtain rfl := Option.some.inj hf
        exact kc_iret () hx hb hr hk hP hD hS rfl dX5_copy_41
      · replace hf := it_f c27 hf
        refine lv_aload_n hx hb dX5_copy_27 rfl (lv_at hl 0 rfl) ?_
        refine va_get (D := D) (ci := 5) (v := .ref (aM 10)) (C := RX5) (T := TX5) (N := 23) hx hb hts iX5 hown hK hP 0 rfl rfl 18 (by decide) (hts _ wd_658) (fun _ h9 => h9) rfl dX5_copy_28 ?_
        refine lv_iload_n hx hb dX5_copy_31 rfl (lv_at hl 3 rfl) ?_
        obtain ⟨hz, hf⟩ := okb_s hf
        refine va_iald (D := D) hx hb hK hP 10 0 rfl rfl (inb_s hz) dX5_copy_32 ?_
        refine lv_if_ge (tgt := 42) hx hb dX5_copy_33 (by decide) (fun c29 => ?_) (fun c29 => ?_)
        · replace hf := it_t c29 hf
          refine lv_aload_n hx hb dX5_copy_42 rfl (lv_at hl 0 rfl) ?_
          refine va_get (D := D) (ci := 5) (v := .ref (aM 10)) (C := RX5) (T := TX5) (N := 23) hx hb hts iX5 hown hK hP 0 rfl rfl 18 (by decide) (hts _ wd_658) (fun _ h9 => h9) rfl dX5_copy_43 ?_
          refine lv_iload_n hx hb dX5_copy_46 rfl (lv_at hl 1 rfl) ?_
          obtain ⟨hz, hf⟩ := okb_s hf
          refine va_iald (D := D) hx hb hK hP 10 0 rfl rfl (inb_s hz) dX5_copy_47 ?_
          refine lv_aload_n hx hb dX5_copy_48 rfl (lv_at hl 0 rfl) ?_
          refine va_get (D := D) (ci := 5) (v := .ref (aM 10)) (C := RX5) (T := TX5) (N := 23) hx hb hts iX5 hown hK hP 0 rfl rfl 18 (by decide) (hts _ wd_658) (fun _ h9 => h9) rfl dX5_copy_49 ?_
          refine lv_iload_n hx hb dX5_copy_52 rfl (lv_at hl 3 rfl) ?_
          obtain ⟨hz, hf⟩ := okb_s hf
          refine va_iald (D := D) hx hb hK hP 10 0 rfl rfl (inb_s hz) dX5_copy_53 ?_
          refine lv_icmp_eq (tgt := 63) hx hb dX5_copy_54 (by decide) (fun c30 => ?_) (fun c30 => ?_)
          · replace hf := it_t c30 hf
            refine lv_iload_n hx hb dX5_copy_63 rfl (lv_at hl 2 rfl) ?_
            refine lv_if_lt (tgt := 112) hx hb dX5_copy_64 (by decide) (fun c31 => ?_) (fun c31 => ?_)
            · replace hf := it_t c31 hf
              refine lv_aload_n hx hb dX5_copy_112 rfl (lv_at hl 0 rfl) ?_
              refine lv_iconst (v := (2 : Int32)) hx hb dX5_copy_113 (by decide) ?_
              obtain ⟨u32, hg, hf⟩ := ob_s hf
              refine kc_calli (wn := fun _ => (wM cx aM xw xh xk xj xb xr xc xv xn u32.2 yR yT yC yW yA yE yU yM yV yF yZ yI yD)) (va_runV (As := [.int (2 : Int32)]) (rest := []) ⟨hx, hb, hml, hown, hts⟩ (metX5_met l D cx aM xw xh xk xj xb xr xc xv xn xl yR yT yC yW yA yE yU yM yV yF yZ yI yD (2 : Int32) N H.size u32 hg) ⟨callB_of 1 hts (kc_gI wd_833) rfl rfl rfl (hts _ wd_46) (hts _ wd_830) (by decide +kernel) ⟨Nat.le_of_ble_eq_true rfl, Nat.le_of_ble_eq_true rfl⟩, hts _ wd_832, hts _ wd_37⟩ ⟨kc_blind _ _ _ _ _, va_recv hK hP (ci := 5) (q0 := 0) rfl rfl, kc_pre _ hK hN (hP.sub [0, 1, 2, 3, 4, 5, 6, 7, 8, 9, 10, 11, 12, 13] rfl) (hD.sub [0, 1, 2, 3, 4, 5, 6, 7, 8, 9, 10, 11, 12, 13] (by decide) rfl)⟩ rfl rfl hl.1 rfl (lv_room (Nat.le_of_ble_eq_true rfl)) dX5_copy_114 ⟨Nat.zero_le _, Nat.zero_le _⟩) hP hD hS hA [0, 1, 2, 3, 4, 5, 6, 7, 8, 9, 10, 11, 12, 13] [] [0, 1, 2, 3, 4, 5, 6, 7, 8, 9, 10, 11, 12, 13] rfl rfl (by decide) (by decide) (fun _ => rfl) (by decide) (fun _ H locs hP hD hS => ?_)
              have hP : va_P D classes (wM cx aM xw xh xk xj xb xr xc xv xn u32.2 yR yT yC yW yA yE yU yM yV yF yZ yI yD) H := hP
              have hD : va_D A (wM cx aM xw xh xk xj xb xr xc xv xn u32.2 yR yT yC yW yA yE yU yM yV yF yZ yI yD) := hD
              obtain rfl := Option.some.inj hf
              exact kc_iret () hx hb hr hk hP hD hS rfl dX5_copy_117
            · replace hf := it_f c31 hf
              refine lv_iload hx hb dX5_copy_67 (lv_at hl 4 rfl) ?_
              refine lv_if_lt (tgt := 112) hx hb dX5_copy_69 (by decide) (fun c33 => ?_) (fun c33 => ?_)
              · replace hf := it_t c33 hf
                refine lv_aload_n hx hb dX5_copy_112 rfl (lv_at hl 0 rfl) ?_
                refine lv_iconst (v := (2 : Int32)) hx hb dX5_copy_113 (by decide) ?_
                obtain ⟨u34, hg, hf⟩ := ob_s hf
                refine kc_calli (wn := fun _ => (wM cx aM xw xh xk xj xb xr xc xv xn u34.2 yR yT yC yW yA yE yU yM yV yF yZ yI yD)) (va_runV (As := [.int (2 : Int32)]) (rest := []) ⟨hx, hb, hml, hown, hts⟩ (metX5_met l D cx aM xw xh xk xj xb xr xc xv xn xl yR yT yC yW yA yE yU yM yV yF yZ yI yD (2 : Int32) N H.size u34 hg) ⟨callB_of 1 hts (kc_gI wd_833) rfl rfl rfl (hts _ wd_46) (hts _ wd_830) (by decide +kernel) ⟨Nat.le_of_ble_eq_true rfl, Nat.le_of_ble_eq_true rfl⟩, hts _ wd_832, hts _ wd_37⟩ ⟨kc_blind _ _ _ _ _, va_recv hK hP (ci := 5) (q0 := 0) rfl rfl, kc_pre _ hK hN (hP.sub [0, 1, 2, 3, 4, 5, 6, 7, 8, 9, 10, 11, 12, 13] rfl) (hD.sub [0, 1, 2, 3, 4, 5, 6, 7, 8, 9, 10, 11, 12, 13] (by decide) rfl)⟩ rfl rfl hl.1 rfl (lv_room (Nat.le_of_ble_eq_true rfl)) dX5_copy_114 ⟨Nat.zero_le _, Nat.zero_le _⟩) hP hD hS hA [0, 1, 2, 3, 4, 5, 6, 7, 8, 9, 10, 11, 12, 13] [] [0, 1, 2, 3, 4, 5, 6, 7, 8, 9, 10, 11, 12, 13] rfl rfl (by decide) (by decide) (fun _ => rfl) (by decide) (fun _ H locs hP hD hS => ?_)
                have hP : va_P D classes (wM cx aM xw xh xk xj xb xr xc xv xn u34.2 yR yT yC yW yA yE yU yM yV yF yZ yI yD) H := hP
                have hD : va_D A (wM cx aM xw xh xk xj xb xr xc xv xn u34.2 yR yT yC yW yA yE yU yM yV yF yZ yI yD) := hD
                obtain rfl := Option.some.inj hf
                exact kc_iret () hx hb hr hk hP hD hS rfl dX5_copy_117
              · replace hf := it_f c33 hf
                refine lv_iload hx hb dX5_copy_72 (lv_at hl 5 rfl) ?_
                refine lv_if_lt (tgt := 112) hx hb dX5_copy_74 (by decide) (fun c35 => ?_) (fun c35 => ?_)
                · replace hf := it_t c35 hf
                  refine lv_aload_n hx hb dX5_copy_112 rfl (lv_at hl 0 rfl) ?_
                  refine lv_iconst (v := (2 : Int32)) hx hb dX5_copy_113 (by decide) ?_
                  obtain ⟨u36, hg, hf⟩ := ob_s hf
                  refine kc_calli (wn := fun _ => (wM cx aM xw xh xk xj xb xr xc xv xn u36.2 yR yT yC yW yA yE yU yM yV yF yZ yI yD)) (va_runV (As := [.int (2 : Int32)]) (rest := []) ⟨hx, hb, hml, hown, hts⟩ (metX5_met l D cx aM xw xh xk xj xb xr xc xv xn xl yR yT yC yW yA yE yU yM yV yF yZ yI yD (2 : Int32) N H.size u36 hg) ⟨callB_of 1 hts (kc_gI wd_833) rfl rfl rfl (hts _ wd_46) (hts _ wd_830) (by decide +kernel) ⟨Nat.le_of_ble_eq_true rfl, Nat.le_of_ble_eq_true rfl⟩, hts _ wd_832, hts _ wd_37⟩ ⟨kc_blind _ _ _ _ _, va_recv hK hP (ci := 5) (q0 := 0) rfl rfl, kc_pre _ hK hN (hP.sub [0, 1, 2, 3, 4, 5, 6, 7, 8, 9, 10, 11, 12, 13] rfl) (hD.sub [0, 1, 2, 3, 4, 5, 6, 7, 8, 9, 10, 11, 12, 13] (by decide) rfl)⟩ rfl rfl hl.1 rfl (lv_room (Nat.le_of_ble_eq_true rfl)) dX5_copy_114 ⟨Nat.zero_le _, Nat.zero_le _⟩) hP hD hS hA [0, 1, 2, 3, 4, 5, 6, 7, 8, 9, 10, 11, 12, 13] [] [0, 1, 2, 3, 4, 5, 6, 7, 8, 9, 10, 11, 12, 13] rfl rfl (by decide) (by decide) (fun _ => rfl) (by decide) (fun _ H locs hP hD hS => ?_)
                  have hP : va_P D classes (wM cx aM xw xh xk xj xb xr xc xv xn u36.2 yR yT yC yW yA yE yU yM yV yF yZ yI yD) H := hP
                  have hD : va_D A (wM cx aM xw xh xk xj xb xr xc xv xn u36.2 yR yT yC yW yA yE yU yM yV yF yZ yI yD) := hD
                  obtain rfl := Option.some.inj hf
                  exact kc_iret () hx hb hr hk hP hD hS rfl dX5_copy_117
                · replace hf := it_f c35 hf
                  refine lv_iload_n hx hb dX5_copy_77 rfl (lv_at hl 2 rfl) ?_
                  refine lv_i2l hx hb dX5_copy_78 rfl ?_
                  refine lv_iload hx hb dX5_copy_79 (lv_at hl 5 rfl) ?_
                  refine lv_i2l hx hb dX5_copy_81 rfl ?_
                  refine lv_ladd hx hb dX5_copy_82 ?_
                  refine lv_aload_n hx hb dX5_copy_83 rfl (lv_at hl 0 rfl) ?_
                  refine va_get (D := D) (ci := 5) (v := .ref (aM 11)) (C := RX5) (T := TX5) (N := 23) hx hb hts iX5 hown hK hP 0 rfl rfl 19 (by decide) (hts _ wd_659) (fun _ h9 => h9) rfl dX5_copy_84 ?_
                  refine lv_iload_n hx hb dX5_copy_87 rfl (lv_at hl 1 rfl) ?_
                  obtain ⟨hz, hf⟩ := okb_s hf
                  refine va_iald (D := D) hx hb hK hP 11 0 rfl rfl (inb_s hz) dX5_copy_88 ?_
                  refine lv_i2l hx hb dX5_copy_89 rfl ?_
                  refine W.lcmp hx hb dX5_copy_90 ?_
                  refine lv_if_gt (tgt := 112) hx hb dX5_copy_91 (by decide) (fun c37 => ?_) (fun c37 => ?_)
                  · replace hf := it_t c37 hf
                    refine lv_aload_n hx hb dX5_copy_112 rfl (lv_at hl 0 rfl) ?_
                    refine lv_iconst (v := (2 : Int32)) hx hb dX5_copy_113 (by decide) ?_
                    obtain ⟨u38, hg, hf⟩ := ob_s hf
                    refine kc_calli (wn := fun _ => (wM cx aM xw xh xk xj xb xr xc xv xn u38.2 yR yT yC yW yA yE yU yM yV yF yZ yI yD)) (va_runV (As := [.int (2 : Int32)]) (rest := []) ⟨hx, hb, hml, hown, hts⟩ (metX5_met l D cx aM xw xh xk xj xb xr xc xv xn xl yR yT yC yW yA yE yU yM yV yF yZ yI yD (2 : Int32) N H.size u38 hg) ⟨callB_of 1 hts (kc_gI wd_833) rfl rfl rfl (hts _ wd_46) (hts _ wd_830) (by decide +kernel) ⟨Nat.le_of_ble_eq_true rfl, Nat.le_of_ble_eq_true rfl⟩, hts _ wd_832, hts _ wd_37⟩ ⟨kc_blind _ _ _ _ _, va_recv hK hP (ci := 5) (q0 := 0) rfl rfl, kc_pre _ hK hN (hP.sub [0, 1, 2, 3, 4, 5, 6, 7, 8, 9, 10, 11, 12, 13] rfl) (hD.sub [0, 1, 2, 3, 4, 5, 6, 7, 8, 9, 10, 11, 12, 13] (by decide) rfl)⟩ rfl rfl hl.1 rfl (lv_room (Nat.le_of_ble_eq_true rfl)) dX5_copy_114 ⟨Nat.zero_le _, Nat.zero_le _⟩) hP hD hS hA [0, 1, 2, 3, 4, 5, 6, 7, 8, 9, 10, 11, 12, 13] [] [0, 1, 2, 3, 4, 5, 6, 7, 8, 9, 10, 11, 12, 13] rfl rfl (by decide) (by decide) (fun _ => rfl) (by decide) (fun _ H locs hP hD hS => ?_)
                    have hP : va_P D classes (wM cx aM xw xh xk xj xb xr xc xv xn u38.2 yR yT yC yW yA yE yU yM yV yF yZ yI yD) H := hP
                    have hD : va_D A (wM cx aM xw xh xk xj xb xr xc xv xn u38.2 yR yT yC yW yA yE yU yM yV yF yZ yI yD) := hD
                    obtain rfl := Option.some.inj hf
                    exact kc_iret () hx hb hr hk hP hD hS rfl dX5_copy_117
                  · replace hf := it_f c37 hf
                    refine lv_iload hx hb dX5_copy_94 (lv_at hl 4 rfl) ?_
                    refine lv_i2l hx hb dX5_copy_96 rfl ?_
                    refine lv_iload hx hb dX5_copy_97 (lv_at hl 5 rfl) ?_
                    refine lv_i2l hx hb dX5_copy_99 rfl ?_
                    refine lv_ladd hx hb dX5_copy_100 ?_
                    refine lv_aload_n hx hb dX5_copy_101 rfl (lv_at hl 0 rfl) ?_
                    refine va_get (D := D) (ci := 5) (v := .ref (aM 11)) (C := RX5) (T := TX5) (N := 23) hx hb hts iX5 hown hK hP 0 rfl rfl 19 (by decide) (hts _ wd_659) (fun _ h9 => h9) rfl dX5_copy_102 ?_
                    refine lv_iload_n hx hb dX5_copy_105 rfl (lv_at hl 3 rfl) ?_
                    obtain ⟨hz, hf⟩ := okb_s hf
                    refine va_iald (D := D) hx hb hK hP 11 0 rfl rfl (inb_s hz) dX5_copy_106 ?_
                    refine lv_i2l hx hb dX5_copy_107 rfl ?_
                    refine W.lcmp hx hb dX5_copy_108 ?_
                    refine lv_if_le (tgt := 118) hx hb dX5_copy_109 (by decide) (fun c39 => ?_) (fun c39 => ?_)
                    · replace hf := it_t c39 hf
                      refine lv_iconst (v := (0 : Int32)) hx hb dX5_copy_118 (by decide) ?_
                      refine lv_istore (lv' := [(6, .int (0 : Int32)), (0, .ref (aM 0)), (1, .int x1), (2, .int x2), (3, .int x3), (4, .int x4), (5, .int x5)]) hx hb dX5_copy_119 hl (by decide) rfl (fun ls hl => ?_)
                      have L121 : ∀ (ct : Nat) (yD : Nat → Int32) (x6 : Int32) (v121 : (Nat → Int32)), fX5_copy_L121 N yI x1 x2 x5 ct yD x6 = some v121 → ∀ (H : Heap) (locs : List Loc) (ls : Array Slot), va_P D classes (wM cx aM xw xh xk xj xb xr xc xv xn xl yR yT yC yW yA yE yU yM yV yF yZ yI yD) H → va_D A (wM cx aM xw xh xk xj xb xr xc xv xn xl yR yT yC yW yA yE yU yM yV yF yZ yI yD) → va_S A s.heap H locs → lv_has ls 7 [(0, .ref (aM 0)), (1, .int x1), (2, .int x2), (3, .int x3), (4, .int x4), (5, .int x5), (6, .int x6)] → (∀ (H : Heap) (locs : List Loc) (ls : Array Slot), va_P D classes (wM cx aM xw xh xk xj xb xr xc xv xn xl yR yT yC yW yA yE yU yM yV yF yZ yI v121) H → va_D A (wM cx aM xw xh xk xj xb xr xc xv xn xl yR yT yC yW yA yE yU yM yV yF yZ yI v121) → va_S A s.heap H locs → lv_has ls 7 [(0, .ref (aM 0)), (3, .int x3), (4, .int x4), (5, .int x5)] → W p l e rmX5_copy s m ([.ref (aM 0), .int x1, .int x2, .int x3, .int x4, .int x5] : List Value).toArray below meth c H locs 0 0 (MQ below (kc_Pi D (fun _ : Unit => (wM cx aM xw xh xk xj xb xr xc xv xn v.2.1 yR yT yC yW yA yE yU yM yV yF yZ v.2.2.1 v.2.2.2)) v.1 A) ([.ref (aM 0), .int x1, .int x2, .int x3, .int x4, .int x5] : List Value).toArray s 0 0 A) (F0 m 155 ls [])) → W p l e rmX5_copy s m ([.ref (aM 0), .int x1, .int x2, .int x3, .int x4, .int x5] : List Value).toArray below meth c H locs 0 0 (MQ below (kc_Pi D (fun _ : Unit => (wM cx aM xw xh xk xj xb xr xc xv xn v.2.1 yR yT yC yW yA yE yU yM yV yF yZ v.2.2.1 v.2.2.2)) v.1 A) ([.ref (aM 0), .int x1, .int x2, .int x3, .int x4, .int x5] : List Value).toArray s 0 0 A) (F0 m 121 ls []) := by
                        intro ct
                        induction ct with
                        | zero =>
                          intro yD x6 v121 hf
                          exact absurd (show (none : Option ((Nat → Int32))) = some v121 from hf) (fun q => by cases q)
                        | succ ct ih =>
                          intro yD x6 v121 hf H locs ls hP hD hS hl hE
                          rw [fX5_copy_L121] at hf
                          refine lv_iload hx hb dX5_copy_121 (lv_at hl 6 rfl) ?_
                          refine lv_iload hx hb dX5_copy_123 (lv_at hl 5 rfl) ?_
                          refine lv_icmp_ge (tgt := 155) hx hb dX5_copy_125 (by decide) (fun c41 => ?_) (fun c41 => ?_)
                          · replace hf := it_t c41 hf
                            obtain rfl := Option.some.inj hf
                            exact hE H locs ls hP hD hS (lv_sub hl [0, 3, 4, 5] rfl)
                          · replace hf := it_f c41 hf
                            refine lv_aload_n hx hb dX5_copy_128 rfl (lv_at hl 0 rfl) ?_
                            refine va_get (D := D) (ci := 5) (v := .ref (aM 13)) (C := RX5) (T := TX5) (N := 23) hx hb hts iX5 hown hK hP 0 rfl rfl 21 (by decide) (hts _ wd_661) (fun _ h9 => h9) rfl dX5_copy_129 ?_
                            refine lv_iload hx hb dX5_copy_132 (lv_at hl 6 rfl) ?_
                            refine lv_aload_n hx hb dX5_copy_134 rfl (lv_at hl 0 rfl) ?_
                            refine va_get (D := D) (ci := 5) (v := .ref (aM 12)) (C := RX5) (T := TX5) (N := 23) hx hb hts iX5 hown hK hP 0 rfl rfl 20 (by decide) (hts _ wd_660) (fun _ h9 => h9) rfl dX5_copy_135 ?_
                            refine lv_bipush (v := (20 : Int32)) hx hb dX5_copy_138 (by decide) ?_
                            refine lv_iload_n hx hb dX5_copy_140 rfl (lv_at hl 1 rfl) ?_
                            refine lv_imul hx hb dX5_copy_141 ?_
                            refine lv_iload_n hx hb dX5_copy_142 rfl (lv_at hl 2 rfl) ?_
                            refine lv_iadd hx hb dX5_copy_143 ?_
                            refine lv_iload hx hb dX5_copy_144 (lv_at hl 6 rfl) ?_
                            refine lv_iadd hx hb dX5_copy_146 ?_
                            obtain ⟨hz, hf⟩ := okb_s hf
                            refine va_iald (D := D) hx hb hK hP 12 0 rfl rfl (inb_s hz) dX5_copy_147 ?_
                            obtain ⟨hz, hf⟩ := okb_s hf
                            refine va_iast (D := D) hx hb hK hP hD hS 13 0 rfl rfl (inb_s hz) dX5_copy_148 (fun H locs hP hD hS => ?_)
                            have hP : va_P D classes (wM cx aM xw xh xk xj xb xr xc xv xn xl yR yT yC yW yA yE yU yM yV yF yZ yI (upd yD x6.toNatClampNeg (yI ((((20 : Int32) * x1) + x2) + x6).toNatClampNeg))) H := hP
                            have hD : va_D A (wM cx aM xw xh xk xj xb xr xc xv xn xl yR yT yC yW yA yE yU yM yV yF yZ yI (upd yD x6.toNatClampNeg (yI ((((20 : Int32) * x1) + x2) + x6).toNatClampNeg))) := hD
                            refine lv_iinc (v := (x6 + (1 : Int32))) (lv' := [(6, .int (x6 + (1 : Int32))), (0, .ref (aM 0)), (1, .int x1), (2, .int x2), (3, .int x3), (4, .int x4), (5, .int x5)]) hx hb dX5_copy_149 hl (k := 6) rfl rfl (by decide) rfl (fun ls hl => ?_)
                            refine lv_goto (tgt := 121) hx hb dX5_copy_152 (by decide) ?_
                            exact ih (upd yD x6.toNatClampNeg (yI ((((20 : Int32) * x1) + x2) + x6).toNatClampNeg)) (x6 + (1 : Int32)) _ hf H locs ls hP hD hS (lv_sub hl [1, 2, 3, 4, 5, 6, 0] rfl) hE
                      obtain ⟨u42, hg, hf⟩ := ob_s hf
                      refine L121 _ yD (0 : Int32) u42 hg H locs ls hP hD hS (lv_sub hl [1, 2, 3, 4, 5, 6, 0] rfl) (fun H locs ls hP hD hS hl => ?_)
                      refine lv_iconst (v := (0 : Int32)) hx hb dX5_copy_155 (by decide) ?_
                      refine lv_istore (lv' := [(6, .int (0 : Int32)), (0, .ref (aM 0)), (3, .int x3), (4, .int x4), (5, .int x5)]) hx hb dX5_copy_156 hl (by decide) rfl (fun ls hl => ?_)
                      have L158 : ∀ (ct : Nat) (yI : Nat → Int32) (x6 : Int32) (v158 : (Nat → Int32)), fX5_copy_L158 N u42 x3 x4 x5 ct yI x6 = some v158 → ∀ (H : Heap) (locs : List Loc) (ls : Array Slot), va_P D classes (wM cx aM xw xh xk xj xb xr xc xv xn xl yR yT yC yW yA yE yU yM yV yF yZ yI u42) H → va_D A (wM cx aM xw xh xk xj xb xr xc xv xn xl yR yT yC yW yA yE yU yM yV yF yZ yI u42) → va_S A s.heap H locs → lv_has ls 7 [(0, .ref (aM 0)), (3, .int x3), (4, .int x4), (5, .int x5), (6, .int x6)] → (∀ (H : Heap) (locs : List Loc) (ls : Array Slot), va_P D classes (wM cx aM xw xh xk xj xb xr xc xv xn xl yR yT yC yW yA yE yU yM yV yF yZ v158 u42) H → va_D A (wM cx aM xw xh xk xj xb xr xc xv xn xl yR yT yC yW yA yE yU yM yV yF yZ v158 u42) → va_S A s.heap H locs → lv_has ls 7 [] → W p l e rmX5_copy s m ([.ref (aM 0), .int x1, .int x2, .int x3, .int x4, .int x5] : List Value).toArray below meth c H locs 0 0 (MQ below (kc_Pi D (fun _ : Unit => (wM cx aM xw xh xk xj xb xr xc xv xn v.2.1 yR yT yC yW yA yE yU yM yV yF yZ v.2.2.1 v.2.2.2)) v.1 A) ([.ref (aM 0), .int x1, .int x2, .int x3, .int x4, .int x5] : List Value).toArray s 0 0 A) (F0 m 193 ls [])) → W p l e rmX5_copy s m ([.ref (aM 0), .int x1, .int x2, .int x3, .int x4, .int x5] : List Value).toArray below meth c H locs 0 0 (MQ below (kc_Pi D (fun _ : Unit => (wM cx aM xw xh xk xj xb xr xc xv xn v.2.1 yR yT yC yW yA yE yU yM yV yF yZ v.2.2.1 v.2.2.2)) v.1 A) ([.ref (aM 0), .int x1, .int x2, .int x3, .int x4, .int x5] : List Value).toArray s 0 0 A) (F0 m 158 ls []) := by
                        intro ct
                        induction ct with
                        | zero =>
                          intro yI x6 v158 hf
                          exact absurd (show (none : Option ((Nat → Int32))) = some v158 from hf) (fun q => by cases q)
                        | succ ct ih =>
                          intro yI x6 v158 hf H locs ls hP hD hS hl hE
                          rw [fX5_copy_L158] at hf
                          refine lv_iload hx hb dX5_copy_158 (lv_at hl 4 rfl) ?_
                          refine lv_iload hx hb dX5_copy_160 (lv_at hl 3 rfl) ?_
                          refine lv_icmp_ge (tgt := 193) hx hb dX5_copy_162 (by decide) (fun c44 => ?_) (fun c44 => ?_)
                          · replace hf := it_t c44 hf
                            obtain rfl := Option.some.inj hf
                            exact hE H locs ls hP hD hS (lv_sub hl [] rfl)
                          · replace hf := it_f c44 hf
                            refine lv_aload_n hx hb dX5_copy_165 rfl (lv_at hl 0 rfl) ?_
                            refine va_get (D := D) (ci := 5) (v := .ref (aM 12)) (C := RX5) (T := TX5) (N := 23) hx hb hts iX5 hown hK hP 0 rfl rfl 20 (by decide) (hts _ wd_660) (fun _ h9 => h9) rfl dX5_copy_166 ?_
                            refine lv_bipush (v := (20 : Int32)) hx hb dX5_copy_169 (by decide) ?_
                            refine lv_iload_n hx hb dX5_copy_171 rfl (lv_at hl 1 rfl) ?_
                            refine lv_imul hx hb dX5_copy_172 ?_
                            refine lv_iload hx hb dX5_copy_173 (lv_at hl 2 rfl) ?_
                            refine lv_iadd hx hb dX5_copy_175 ?_
                            refine lv_iload hx hb dX5_copy_176 (lv_at hl 4 rfl) ?_
                            refine lv_iadd hx hb dX5_copy_178 ?_
                            refine lv_aload_n hx hb dX5_copy_179 rfl (lv_at hl 0 rfl) ?_
                            refine va_get (D := D) (ci := 5) (v := .ref (aM 13)) (C := RX5) (T := TX5) (N := 23) hx hb hts iX5 hown hK hP 0 rfl rfl 21 (by decide) (hts _ wd_661) (fun _ h9 => h9) rfl dX5_copy_180 ?_
                            refine lv_iload hx hb dX5_copy_183 (lv_at hl 4 rfl) ?_
                            obtain ⟨hz, hf⟩ := okb_s hf
                            refine va_iald (D := D) hx hb hK hP 13 0 rfl rfl (inb_s hz) dX5_copy_185 ?_
                            obtain ⟨hz, hf⟩ := okb_s hf
                            refine va_iast (D := D) hx hb hK hP hD hS 12 0 rfl rfl (inb_s hz) dX5_copy_186 (fun H locs hP hD hS => ?_)
                            have hP : va_P D classes (wM cx aM xw xh xk xj xb xr xc xv xn xl yR yT yC yW yA yE yU yM yV yF yZ (upd yI ((((20 : Int32) * x3) + x4) + x6).toNatClampNeg (u42 x6.toNatClampNeg)) u42) H := hP
                            have hD : va_D A (wM cx aM xw xh xk xj xb xr xc xv xn xl yR yT yC yW yA yE yU yM yV yF yZ (upd yI ((((20 : Int32) * x3) + x4) + x6).toNatClampNeg (u42 x6.toNatClampNeg)) u42) := hD
                            refine lv_iinc (v := (x6 + (1 : Int32))) (lv' := [(6, .int (x6 + (1 : Int32))), (0, .ref (aM 0)), (3, .int x3), (4, .int x4), (5, .int x5)]) hx hb dX5_copy_187 hl (k := 4) rfl rfl (by decide) rfl (fun ls hl => ?_)
                            refine lv_goto (tgt := 158) hx hb dX5_copy_190 (by decide) ?_
                            exact ih (upd yI ((((20 : Int32) * x3) + x4) + x6).toNatClampNeg (u42 x6.toNatClampNeg)) (x6 + (1 : Int32)) _ hf H locs ls hP hD hS (lv_sub hl [1, 2, 3, 4, 0] rfl) hE
                      obtain ⟨u45, hg, hf⟩ := ob_s hf
                      refine L158 _ yI (0 : Int32) u45 hg H locs ls hP hD hS (lv_sub hl [1, 2, 3, 4, 0] rfl) (fun H locs ls hP hD hS hl => ?_)
                      refine lv_iconst (v := (1 : Int32)) hx hb dX5_copy_193 (by decide) ?_
                      obtain rfl := Option.some.inj hf
                      exact kc_iret () hx hb hr hk hP hD hS rfl dX5_copy_194
                    · replace hf := it_f c39 hf
                      refine lv_aload_n hx hb dX5_copy_112 rfl (lv_at hl 0 rfl) ?_
                      refine lv_iconst (v := (2 : Int32)) hx hb dX5_copy_113 (by decide) ?_
                      obtain ⟨u46, hg, hf⟩ := ob_s hf
                      refine kc_calli (wn := fun _ => (wM cx aM xw xh xk xj xb xr xc xv xn u46.2 yR yT yC yW yA yE yU yM yV yF yZ yI yD)) (va_runV (As := [.int (2 : Int32)]) (rest := []) ⟨hx, hb, hml, hown, hts⟩ (metX5_met l D cx aM xw xh xk xj xb xr xc xv xn xl yR yT yC yW yA yE yU yM yV yF yZ yI yD (2 : Int32) N H.size u46 hg) ⟨callB_of 1 hts (kc_gI wd_833) rfl rfl rfl (hts _ wd_46) (hts _ wd_830) (by decide +kernel) ⟨Nat.le_of_ble_eq_true rfl, Nat.le_of_ble_eq_true rfl⟩, hts _ wd_832, hts _ wd_37⟩ ⟨kc_blind _ _ _ _ _, va_recv hK hP (ci := 5) (q0 := 0) rfl rfl, kc_pre _ hK hN (hP.sub [0, 1, 2, 3, 4, 5, 6, 7, 8, 9, 10, 11, 12, 13] rfl) (hD.sub [0, 1, 2, 3, 4, 5, 6, 7, 8, 9, 10, 11, 12, 13] (by decide) rfl)⟩ rfl rfl hl.1 rfl (lv_room (Nat.le_of_ble_eq_true rfl)) dX5_copy_114 ⟨Nat.zero_le _, Nat.zero_le _⟩) hP hD hS hA [0, 1, 2, 3, 4, 5, 6, 7, 8, 9, 10, 11, 12, 13] [] [0, 1, 2, 3, 4, 5, 6, 7, 8, 9, 10, 11, 12, 13] rfl rfl (by decide) (by decide) (fun _ => rfl) (by decide) (fun _ H locs hP hD hS => ?_)
                      have hP : va_P D classes (wM cx aM xw xh xk xj xb xr xc xv xn u46.2 yR yT yC yW yA yE yU yM yV yF yZ yI yD) H := hP
                      have hD : va_D A (wM cx aM xw xh xk xj xb xr xc xv xn u46.2 yR yT yC yW yA yE yU yM yV yF yZ yI yD) := hD
                      obtain rfl := Option.some.inj hf
                      exact kc_iret () hx hb hr hk hP hD hS rfl dX5_copy_117
          · replace hf := it_f c30 hf
            refine lv_aload_n hx hb dX5_copy_57 rfl (lv_at hl 0 rfl) ?_
            refine lv_iconst (v := (4 : Int32)) hx hb dX5_copy_58 (by decide) ?_
            obtain ⟨u47, hg, hf⟩ := ob_s hf
            refine kc_calli (wn := fun _ => (wM cx aM xw xh xk xj xb xr xc xv xn u47.2 yR yT yC yW yA yE yU yM yV yF yZ yI yD)) (va_runV (As := [.int (4 : Int32)]) (rest := []) ⟨hx, hb, hml, hown, hts⟩ (metX5_met l D cx aM xw xh xk xj xb xr xc xv xn xl yR yT yC yW yA yE yU yM yV yF yZ yI yD (4 : Int32) N H.size u47 hg) ⟨callB_of 1 hts (kc_gI wd_833) rfl rfl rfl (hts _ wd_46) (hts _ wd_830) (by decide +kernel) ⟨Nat.le_of_ble_eq_true rfl, Nat.le_of_ble_eq_true rfl⟩, hts _ wd_832, hts _ wd_37⟩ ⟨kc_blind _ _ _ _ _, va_recv hK hP (ci := 5) (q0 := 0) rfl rfl, kc_pre _ hK hN (hP.sub [0, 1, 2, 3, 4, 5, 6, 7, 8, 9, 10, 11, 12, 13] rfl) (hD.sub [0, 1, 2, 3, 4, 5, 6, 7, 8, 9, 10, 11, 12, 13] (by decide) rfl)⟩ rfl rfl hl.1 rfl (lv_room (Nat.le_of_ble_eq_true rfl)) dX5_copy_59 ⟨Nat.zero_le _, Nat.zero_le _⟩) hP hD hS hA [0, 1, 2, 3, 4, 5, 6, 7, 8, 9, 10, 11, 12, 13] [] [0, 1, 2, 3, 4, 5, 6, 7, 8, 9, 10, 11, 12, 13] rfl rfl (by decide) (by decide) (fun _ => rfl) (by decide) (fun _ H locs hP hD hS => ?_)
            have hP : va_P D classes (wM cx aM xw xh xk xj xb xr xc xv xn u47.2 yR yT yC yW yA yE yU yM yV yF yZ yI yD) H := hP
            have hD : va_D A (wM cx aM xw xh xk xj xb xr xc xv xn u47.2 yR yT yC yW yA yE yU yM yV yF yZ yI yD) := hD
            obtain rfl := Option.some.inj hf
            exact kc_iret () hx hb hr hk hP hD hS rfl dX5_copy_62
        · replace hf := it_f c29 hf
          refine lv_aload_n hx hb dX5_copy_36 rfl (lv_at hl 0 rfl) ?_
          refine lv_iconst (v := (1 : Int32)) hx hb dX5_copy_37 (by decide) ?_
          obtain ⟨u48, hg, hf⟩ := ob_s hf
          refine kc_calli (wn := fun _ => (wM cx aM xw xh xk xj xb xr xc xv xn u48.2 yR yT yC yW yA yE yU yM yV yF yZ yI yD)) (va_runV (As := [.int (1 : Int32)]) (rest := []) ⟨hx, hb, hml, hown, hts⟩ (metX5_met l D cx aM xw xh xk xj xb xr xc xv xn xl yR yT yC yW yA yE yU yM yV yF yZ yI yD (1 : Int32) N H.size u48 hg) ⟨callB_of 1 hts (kc_gI wd_833) rfl rfl rfl (hts _ wd_46) (hts _ wd_830) (by decide +kernel) ⟨Nat.le_of_ble_eq_true rfl, Nat.le_of_ble_eq_true rfl⟩, hts _ wd_832, hts _ wd_37⟩ ⟨kc_blind _ _ _ _ _, va_recv hK hP (ci := 5) (q0 := 0) rfl rfl, kc_pre _ hK hN (hP.sub [0, 1, 2, 3, 4, 5, 6, 7, 8, 9, 10, 11, 12, 13] rfl) (hD.sub [0, 1, 2, 3, 4, 5, 6, 7, 8, 9, 10, 11, 12, 13] (by decide) rfl)⟩ rfl rfl hl.1 rfl (lv_room (Nat.le_of_ble_eq_true rfl)) dX5_copy_38 ⟨Nat.zero_le _, Nat.zero_le _⟩) hP hD hS hA [0, 1, 2, 3, 4, 5, 6, 7, 8, 9, 10, 11, 12, 13] [] [0, 1, 2, 3, 4, 5, 6, 7, 8, 9, 10, 11, 12, 13] rfl rfl (by decide) (by decide) (fun _ => rfl) (by decide) (fun _ H locs hP hD hS => ?_)
          have hP : va_P D classes (wM cx aM xw xh xk xj xb xr xc xv xn u48.2 yR yT yC yW yA yE yU yM yV yF yZ yI yD) H := hP
          have hD : va_D A (wM cx aM xw xh xk xj xb xr xc xv xn u48.2 yR yT yC yW yA yE yU yM yV yF yZ yI yD) := hD
          obtain rfl := Option.some.inj hf
          exact kc_iret () hx hb hr hk hP hD hS rfl dX5_copy_41
    · replace hf := it_t c26 hf
      refine lv_sipush (v := (-200 : Int32)) hx hb dX5_copy_14 (by decide) ?_
      obtain rfl := Option.some.inj hf
      exact kc_iret () hx hb hr hk hP hD hS rfl dX5_copy_17
abbrev rmX5_take : Room := { frames := 4, cells := 0, slots := 0, locals := 94 }
set_option maxHeartbeats 4000000 in
set_option maxRecDepth 100000 in
theorem metX5_take (l : Launch) (D : va_G) (cx : Nat → ClassId) (aM : Nat → Nat) (xw : Int32) (xh : Int32) (xk : Int32) (xj : Int32) (xb : Int32) (xr : Int32) (xc : Int32) (xv : Int32) (xn : Int32) (xl : Int32) (yR : Nat → Int32) (yT : Nat → Int32) (yC : Nat → Int32) (yW : Nat → Int32) (yA : Nat → Int32) (yE : Nat → Int32) (yU : Nat → Int32) (yM : Nat → Int32) (yV : Nat → Int32) (yF : Nat → Int32) (yZ : Nat → Int32) (yI : Nat → Int32) (yD : Nat → Int32) (x1 : Int32) (x2 : Int32) (N : Nat) (sz : Nat) (v : Int32 × Int32 × Int32 × Int32 × Int32 × (Nat → Int32) × (Nat → Int32)) (hf : fX5_take N xw xh xr xc xv xn xl yR yT yM yV yF yZ yI x1 x2 = some v) : Met l yX5_take (.code yX5_take cX5_take 7 (some .int) :: kc_TB) rmX5_take (kc_Pre D cx (wM cx aM xw xh xk xj xb xr xc xv xn xl yR yT yC yW yA yE yU yM yV yF yZ yI yD) [.ref (aM 0), .int x1, .int x2] sz) (kc_Pi D (fun _ : Unit => (wM cx aM xw xh xk xj xb xr v.2.1 v.2.2.1 v.2.2.2.1 v.2.2.2.2.1 yR yT yC yW yA yE yU v.2.2.2.2.2.1 v.2.2.2.2.2.2 yF yZ yI yD)) v.1 (va_A (wM cx aM xw xh xk xj xb xr xc xv xn xl yR yT yC yW yA yE yU yM yV yF yZ yI yD) sz)) 0 0 (va_A (wM cx aM xw xh xk xj xb xr xc xv xn xl yR yT yC yW yA yE yU yM yV yF yZ yI yD) sz) := by
  refine kc_entry (Qc := fun A => (kc_Pi D (fun _ : Unit => (wM cx aM xw xh xk xj xb xr v.2.1 v.2.2.1 v.2.2.2.1 v.2.2.2.2.1 yR yT yC yW yA yE yU v.2.2.2.2.2.1 v.2.2.2.2.2.2 yF yZ yI yD)) v.1 A)) (by decide) (Nat.le_of_ble_eq_true rfl) ?_
  intro p e s m below meth c A hx hb hr hk hml hown hin hts hN hK hP hD hS hA ls hl
  have hown : s.vm.findClass RX5 = some m.cls := hown
  have hl : lv_has ls 7 [(0, .ref (aM 0)), (1, .int x1), (2, .int x2)] := hl
  unfold fX5_take at hf
  have hP : va_P D classes (wM cx aM xw xh xk xj xb xr xc xv xn xl yR yT yC yW yA yE yU yM yV yF yZ yI yD) s.heap := hP
  obtain ⟨H, hH⟩ : ∃ H, H = s.heap := ⟨_, rfl⟩
  obtain ⟨locs, hL⟩ : ∃ locs : List Loc, locs = [] := ⟨_, rfl⟩
  have hS : va_S A s.heap H locs := by rw [hH, hL]; exact hS
  have hP : va_P D classes (wM cx aM xw xh xk xj xb xr xc xv xn xl yR yT yC yW yA yE yU yM yV yF yZ yI yD) H := by rw [hH]; exact hP
  suffices hW : W p l e rmX5_take s m ([.ref (aM 0), .int x1, .int x2] : List Value).toArray below meth c H locs 0 0 (MQ below (kc_Pi D (fun _ : Unit => (wM cx aM xw xh xk xj xb xr v.2.1 v.2.2.1 v.2.2.2.1 v.2.2.2.2.1 yR yT yC yW yA yE yU v.2.2.2.2.2.1 v.2.2.2.2.2.2 yF yZ yI yD)) v.1 A) ([.ref (aM 0), .int x1, .int x2] : List Value).toArray s 0 0 A) (F0 m 0 ls []) by rw [hH, hL] at hW; exact hW
  clear hH hL
  refine lv_iload_n hx hb dX5_take_0 rfl (lv_at hl 1 rfl) ?_
  obtain ⟨u30, hg, hf⟩ := ob_s hf
  refine kc_calli (wn := fun _ => (wM cx aM xw xh xk xj xb xr xc xv xn xl yR yT yC yW yA yE yU yM yV yF yZ yI yD)) (va_runS (As := [.int x1]) (rest := []) ⟨hx, hb, hml, hown, hts⟩ (metX5_isSheet l D cx   x1 N H.size u30 hg) ⟨callB_of 1 hts (kc_gI wd_828) rfl rfl rfl (hts _ wd_46) (hts _ wd_826) (by decide +kernel) ⟨Nat.le_of_ble_eq_true rfl, Nat.le_of_ble_eq_true rfl⟩, hts _ wd_827⟩ ⟨kc_blind _ _ _ _ _, kc_pre _ hK hN (hP.sub [] rfl) (hD.sub [] (by decide) rfl)⟩ rfl rfl hl.1 rfl (lv_room (Nat.le_of_ble_eq_true rfl)) dX5_take_1 ⟨Nat.zero_le _, Nat.zero_le _⟩) hP hD hS hA [] [0, 1, 2, 3, 4, 5, 6, 7, 8, 9, 10, 11, 12, 13] [0, 1, 2, 3, 4, 5, 6, 7, 8, 9, 10, 11, 12, 13] rfl rfl (by decide) (by decide) (fun _ => rfl) (by decide) (fun _ H locs hP hD hS => ?_)
  have hP : va_P D classes (wM cx aM xw xh xk xj xb xr xc xv xn xl yR yT yC yW yA yE yU yM yV yF yZ yI yD) H := hP
  have hD : va_D A (wM cx aM xw xh xk xj xb xr xc xv xn xl yR yT yC yW yA yE yU yM yV yF yZ yI yD) := hD
  refine lv_if_eq (tgt := 19) hx hb dX5_take_4 (by decide) (fun c31 => ?_) (fun c31 => ?_)
  · replace hf := it_t c31 hf
    refine lv_sipush (v := (-200 : Int32)) hx hb dX5_take_19 (by decide) ?_
    obtain rfl := Option.some.inj hf
    exact kc_iret () hx hb hr hk hP hD hS rfl dX5_take_22
  · replace hf := it_f c31 hf
    refine lv_iload_n hx hb dX5_take_7 rfl (lv_at hl 2 rfl) ?_
    refine lv_i2l hx hb dX5_take_8 rfl ?_
    refine lv_lconst (v := (0 : Int64)) hx hb dX5_take_9 (by decide) ?_
    refine lv_ldc2 hx hb hown (hts _ wd_862) dX5_take_10 ?_
    obtain ⟨u32, hg, hf⟩ := ob_s hf
    refine kc_calli (wn := fun _ => (wM cx aM xw xh xk xj xb xr xc xv xn xl yR yT yC yW yA yE yU yM yV yF yZ yI yD)) (va_runS (As := [.long x2.toInt64, .long (0 : Int64), .long (16 : Int64)]) (rest := []) ⟨hx, hb, hml, hown, hts⟩ (metX5_in l D cx   x2.toInt64 (0 : Int64) (16 : Int64) N H.size u32 hg) ⟨callB_of 3 hts (kc_gI wd_587) rfl rfl rfl (hts _ wd_46) (hts _ wd_585) (by decide +kernel) ⟨Nat.le_of_ble_eq_true rfl, Nat.le_of_ble_eq_true rfl⟩, hts _ wd_586⟩ ⟨kc_blind _ _ _ _ _, kc_pre _ hK hN (hP.sub [] rfl) (hD.sub [] (by decide) rfl)⟩ rfl rfl hl.1 rfl (lv_room (Nat.le_of_ble_eq_true rfl)) dX5_take_13 ⟨Nat.zero_le _, Nat.zero_le _⟩) hP hD hS hA [] [0, 1, 2, 3, 4, 5, 6, 7, 8, 9, 10, 11, 12, 13] [0, 1, 2, 3, 4, 5, 6, 7, 8, 9, 10, 11, 12, 13] rfl rfl (by decide) (by decide) (fun _ => rfl) (by decide) (fun _ H locs hP hD hS => ?_)
    have hP : va_P D classes (wM cx aM xw xh xk xj xb xr xc xv xn xl yR yT yC yW yA yE yU yM yV yF yZ yI yD) H := hP
    have hD : va_D A (wM cx aM xw xh xk xj xb xr xc xv xn xl yR yT yC yW yA yE yU yM yV yF yZ yI yD) := hD
    refine lv_if_ne (tgt := 23) hx hb dX5_take_16 (by decide) (fun c33 => ?_) (fun c33 => ?_)
    · replace hf := it_f c33 hf
      refine lv_aload_n hx hb dX5_take_23 rfl (lv_at hl 0 rfl) ?_
      refine va_get (D := D) (ci := 5) (v := .ref (aM 10)) (C := RX5) (T := TX5) (N := 23) hx hb hts iX5 hown hK hP 0 rfl rfl 18 (by decide) (hts _ wd_658) (fun _ h9 => h9) rfl dX5_take_24 ?_
      refine lv_iload_n hx hb dX5_take_27 rfl (lv_at hl 1 rfl) ?_
      obtain ⟨hz, hf⟩ := okb_s hf
      refine va_iald (D := D) hx hb hK hP 10 0 rfl rfl (inb_s hz) dX5_take_28 ?_
      refine lv_if_ge (tgt := 38) hx hb dX5_take_29 (by decide) (fun c34 => ?_) (fun c34 => ?_)
      · replace hf := it_t c34 hf
        refine lv_iload_n hx hb dX5_take_38 rfl (lv_at hl 2 rfl) ?_
        refine lv_aload_n hx hb dX5_take_39 rfl (lv_at hl 0 rfl) ?_
        refine va_get (D := D) (ci := 5) (v := .ref (aM 11)) (C := RX5) (T := TX5) (N := 23) hx hb hts iX5 hown hK hP 0 rfl rfl 19 (by decide) (hts _ wd_659) (fun _ h9 => h9) rfl dX5_take_40 ?_
        refine lv_iload_n hx hb dX5_take_43 rfl (lv_at hl 1 rfl) ?_
        obtain ⟨hz, hf⟩ := okb_s hf
        refine va_iald (D := D) hx hb hK hP 11 0 rfl rfl (inb_s hz) dX5_take_44 ?_
        refine lv_icmp_le (tgt := 54) hx hb dX5_take_45 (by decide) (fun c35 => ?_) (fun c35 => ?_)
        · replace hf := it_t c35 hf
          refine lv_aload_n hx hb dX5_take_54 rfl (lv_at hl 0 rfl) ?_
          obtain ⟨u36, hg, hf⟩ := ob_s hf
          refine kc_calli (wn := fun _ => (wM cx aM xw xh xk xj xb xr xc xv xn xl yR yT yC yW yA yE yU yM yV yF yZ yI yD)) (va_runV (As := []) (rest := []) ⟨hx, hb, hml, hown, hts⟩ (metX5_keyOfNone l D cx aM xw xh xk xj xb xr xc xv xn xl yR yT yC yW yA yE yU yM yV yF yZ yI yD  N H.size u36 hg) ⟨callB_of 0 hts (kc_gI wd_603) rfl rfl rfl (hts _ wd_46) (hts _ wd_600) (by decide +kernel) ⟨Nat.le_of_ble_eq_true rfl, Nat.le_of_ble_eq_true rfl⟩, hts _ wd_602, hts _ wd_21⟩ ⟨kc_blind _ _ _ _ _, va_recv hK hP (ci := 5) (q0 := 0) rfl rfl, kc_pre _ hK hN (hP.sub [0, 1, 2, 3, 4, 5, 6, 7, 8, 9, 10, 11, 12, 13] rfl) (hD.sub [0, 1, 2, 3, 4, 5, 6, 7, 8, 9, 10, 11, 12, 13] (by decide) rfl)⟩ rfl rfl hl.1 rfl (lv_room (Nat.le_of_ble_eq_true rfl)) dX5_take_55 ⟨Nat.zero_le _, Nat.zero_le _⟩) hP hD hS hA [0, 1, 2, 3, 4, 5, 6, 7, 8, 9, 10, 11, 12, 13] [] [0, 1, 2, 3, 4, 5, 6, 7, 8, 9, 10, 11, 12, 13] rfl rfl (by decide) (by decide) (fun _ => rfl) (by decide) (fun _ H locs hP hD hS => ?_)
          have hP : va_P D classes (wM cx aM xw xh xk xj xb xr xc xv xn xl yR yT yC yW yA yE yU yM yV yF yZ yI yD) H := hP
          have hD : va_D A (wM cx aM xw xh xk xj xb xr xc xv xn xl yR yT yC yW yA yE yU yM yV yF yZ yI yD) := hD
          refine lv_istore_n (lv' := [(3, .int u36), (0, .ref (aM 0)), (1, .int x1), (2, .int x2)]) hx hb dX5_take_58 rfl hl (by decide) rfl (fun ls hl => ?_)
          refine lv_iconst (v := (0 : Int32)) hx hb dX5_take_59 (by decide) ?_
          refine lv_istore (lv' := [(4, .int (0 : Int32)), (3, .int u36), (0, .ref (aM 0)), (1, .int x1), (2, .int x2)]) hx hb dX5_take_60 hl (by decide) rfl (fun ls hl => ?_)
          have L62 : ∀ (ct : Nat) (x3 : Int32) (x4 : Int32) (v62 : (Int32 × Int32 × Int32 × Int32 × Int32 × (Nat → Int32) × (Nat → Int32)) ⊕ (Unit)), fX5_take_L62 N xw xh xc xv xn xl yT yM yV yI x1 x2 ct x3 x4 = some v62 → ∀ (H : Heap) (locs : List Loc) (ls : Array Slot), va_P D classes (wM cx aM xw xh xk xj xb xr xc xv xn xl yR yT yC yW yA yE yU yM yV yF yZ yI yD) H → va_D A (wM cx aM xw xh xk xj xb xr xc xv xn xl yR yT yC yW yA yE yU yM yV yF yZ yI yD) → va_S A s.heap H locs → lv_has ls 7 [(0, .ref (aM 0)), (1, .int x1), (2, .int x2), (3, .int x3), (4, .int x4)] → (∀ (e62 : Unit), v62 = .inr e62 → ∀ (H : Heap) (locs : List Loc) (ls : Array Slot), va_P D classes (wM cx aM xw xh xk xj xb xr xc xv xn xl yR yT yC yW yA yE yU yM yV yF yZ yI yD) H → va_D A (wM cx aM xw xh xk xj xb xr xc xv xn xl yR yT yC yW yA yE yU yM yV yF yZ yI yD) → va_S A s.heap H locs → lv_has ls 7 [(0, .ref (aM 0)), (1, .int x1), (2, .int x2)] → W p l e rmX5_take s m ([.ref (aM 0), .int x1, .int x2] : List Value).toArray below meth c H locs 0 0 (MQ below (kc_Pi D (fun _ : Unit => (wM cx aM xw xh xk xj xb xr v.2.1 v.2.2.1 v.2.2.2.1 v.2.2.2.2.1 yR yT yC yW yA yE yU v.2.2.2.2.2.1 v.2.2.2.2.2.2 yF yZ yI yD)) v.1 A) ([.ref (aM 0), .int x1, .int x2] : List Value).toArray s 0 0 A) (F0 m 171 ls [])) → (∀ (r62 : Int32 × Int32 × Int32 × Int32 × Int32 × (Nat → Int32) × (Nat → Int32)), v62 = .inl r62 → ∀ (pc : Nat) (H : Heap) (locs : List Loc) (ls : Array Slot), va_P D classes (wM cx aM xw xh xk xj xb xr r62.2.1 r62.2.2.1 r62.2.2.2.1 r62.2.2.2.2.1 yR yT yC yW yA yE yU r62.2.2.2.2.2.1 r62.2.2.2.2.2.2 yF yZ yI yD) H → va_D A (wM cx aM xw xh xk xj xb xr r62.2.1 r62.2.2.1 r62.2.2.2.1 r62.2.2.2.2.1 yR yT yC yW yA yE yU r62.2.2.2.2.2.1 r62.2.2.2.2.2.2 yF yZ yI yD) → va_S A s.heap H locs → decode cX5_take pc = .ok (.ireturn, 1) → W p l e rmX5_take s m ([.ref (aM 0), .int x1, .int x2] : List Value).toArray below meth c H locs 0 0 (MQ below (kc_Pi D (fun _ : Unit => (wM cx aM xw xh xk xj xb xr v.2.1 v.2.2.1 v.2.2.2.1 v.2.2.2.2.1 yR yT yC yW yA yE yU v.2.2.2.2.2.1 v.2.2.2.2.2.2 yF yZ yI yD)) v.1 A) ([.ref (aM 0), .int x1, .int x2] : List Value).toArray s 0 0 A) (F0 m pc ls [.int r62.1])) → W p l e rmX5_take s m ([.ref (aM 0), .int x1, .int x2] : List Value).toArray below meth c H locs 0 0 (MQ below (kc_Pi D (fun _ : Unit => (wM cx aM xw xh xk xj xb xr v.2.1 v.2.2.1 v.2.2.2.1 v.2.2.2.2.1 yR yT yC yW yA yE yU v.2.2.2.2.2.1 v.2.2.2.2.2.2 yF yZ yI yD)) v.1 A) ([.ref (aM 0), .int x1, .int x2] : List Value).toArray s 0 0 A) (F0 m 62 ls []) := by
            intro ct
            induction ct with
            | zero =>
              intro x3 x4 v62 hf
              exact absurd (show (none : Option ((Int32 × Int32 × Int32 × Int32 × Int32 × (Nat → Int32) × (Nat → Int32)) ⊕ (Unit))) = some v62 from hf) (fun q => by cases q)
            | succ ct ih =>
              intro x3 x4 v62 hf H locs ls hP hD hS hl hE hR
              rw [fX5_take_L62] at hf
              refine lv_iload hx hb dX5_take_62 (lv_at hl 4 rfl) ?_
              refine lv_iload_n hx hb dX5_take_64 rfl (lv_at hl 2 rfl) ?_
              refine lv_icmp_ge (tgt := 171) hx hb dX5_take_65 (by decide) (fun c54 => ?_) (fun c54 => ?_)
              · replace hf := it_t c54 hf
                obtain rfl := Option.some.inj hf
                exact hE _ rfl H locs ls hP hD hS (lv_sub hl [0, 1, 2] rfl)
              · replace hf := it_f c54 hf
                refine lv_aload_n hx hb dX5_take_68 rfl (lv_at hl 0 rfl) ?_
                refine va_get (D := D) (ci := 5) (v := .ref (aM 12)) (C := RX5) (T := TX5) (N := 23) hx hb hts iX5 hown hK hP 0 rfl rfl 20 (by decide) (hts _ wd_660) (fun _ h9 => h9) rfl dX5_take_69 ?_
                refine lv_bipush (v := (20 : Int32)) hx hb dX5_take_72 (by decide) ?_
                refine lv_iload_n hx hb dX5_take_74 rfl (lv_at hl 1 rfl) ?_
                refine lv_imul hx hb dX5_take_75 ?_
                refine lv_iload hx hb dX5_take_76 (lv_at hl 4 rfl) ?_
                refine lv_iadd hx hb dX5_take_78 ?_
                obtain ⟨hz, hf⟩ := okb_s hf
                refine va_iald (D := D) hx hb hK hP 12 0 rfl rfl (inb_s hz) dX5_take_79 ?_
                refine lv_istore (lv' := [(5, .int (yI (((20 : Int32) * x1) + x4).toNatClampNeg)), (0, .ref (aM 0)), (1, .int x1), (2, .int x2), (3, .int x3), (4, .int x4)]) hx hb dX5_take_80 hl (by decide) rfl (fun ls hl => ?_)
                refine lv_aload_n hx hb dX5_take_82 rfl (lv_at hl 1 rfl) ?_
                refine va_get (D := D) (ci := 5) (v := .ref (aM 2)) (C := RX5) (T := TX5) (N := 23) hx hb hts iX5 hown hK hP 0 rfl rfl 7 (by decide) (hts _ wd_647) (fun _ h9 => h9) rfl dX5_take_83 ?_
                refine lv_iload_n hx hb dX5_take_86 rfl (lv_at hl 4 rfl) ?_
                obtain ⟨hz, hf⟩ := okb_s hf
                refine va_bald (D := D) hx hb hK hP 2 1 rfl rfl (inb_s hz) dX5_take_87 ?_
                refine lv_bipush (v := (127 : Int32)) hx hb dX5_take_88 (by decide) ?_
                refine lv_icmp_eq (tgt := 139) hx hb dX5_take_90 (by decide) (fun c55 => ?_) (fun c55 => ?_)
                · replace hf := it_t c55 hf
                  refine lv_iconst (v := (0 : Int32)) hx hb dX5_take_139 (by decide) ?_
                  refine lv_istore (lv' := [(6, .int (0 : Int32)), (5, .int (yI (((20 : Int32) * x1) + x4).toNatClampNeg)), (0, .ref (aM 0)), (1, .int x1), (2, .int x2), (3, .int x3), (4, .int x4)]) hx hb dX5_take_140 hl (by decide) rfl (fun ls hl => ?_)
                  refine lv_iload hx hb dX5_take_142 (lv_at hl 0 rfl) ?_
                  refine lv_if_ne (tgt := 153) hx hb dX5_take_144 (by decide) (fun c56 => ?_) (fun c56 => ?_)
                  · replace hf := it_f c56 hf
                    refine lv_aload_n hx hb dX5_take_153 rfl (lv_at hl 2 rfl) ?_
                    refine lv_iload_n hx hb dX5_take_154 rfl (lv_at hl 5 rfl) ?_
                    refine lv_iload hx hb dX5_take_155 (lv_at hl 1 rfl) ?_
                    refine lv_iload hx hb dX5_take_157 (lv_at hl 6 rfl) ?_
                    refine lv_iconst (v := (2 : Int32)) hx hb dX5_take_159 (by decide) ?_
                    refine lv_irem hx hb dX5_take_160 (by decide) ?_
                    obtain ⟨u57, hg, hf⟩ := ob_s hf
                    refine kc_calli (wn := fun _ => (wM cx aM xw xh xk xj xb xr xc xv xn xl yR yT yC yW yA yE yU yM yV yF yZ yI yD)) (va_runV (As := [.int x3, .int (yI (((20 : Int32) * x1) + x4).toNatClampNeg), .int (x4 - x4 / (2 : Int32) * (2 : Int32))]) (rest := []) ⟨hx, hb, hml, hown, hts⟩ (metX5_dropped l D cx aM xw xh xk xj xb xr xc xv xn xl yR yT yC yW yA yE yU yM yV yF yZ yI yD x3 (yI (((20 : Int32) * x1) + x4).toNatClampNeg) (x4 - x4 / (2 : Int32) * (2 : Int32)) N H.size u57 hg) ⟨callB_of 3 hts (kc_gI wd_623) rfl rfl rfl (hts _ wd_46) (hts _ wd_620) (by decide +kernel) ⟨Nat.le_of_ble_eq_true rfl, Nat.le_of_ble_eq_true rfl⟩, hts _ wd_622, hts _ wd_26⟩ ⟨kc_blind _ _ _ _ _, va_recv hK hP (ci := 5) (q0 := 0) rfl rfl, kc_pre _ hK hN (hP.sub [0, 1, 2, 3, 4, 5, 6, 7, 8, 9, 10, 11, 12, 13] rfl) (hD.sub [0, 1, 2, 3, 4, 5, 6, 7, 8, 9, 10, 11, 12, 13] (by decide) rfl)⟩ rfl rfl hl.1 rfl (lv_room (Nat.le_of_ble_eq_true rfl)) dX5_take_161 ⟨Nat.zero_le _, Nat.zero_le _⟩) hP hD hS hA [0, 1, 2, 3, 4, 5, 6, 7, 8, 9, 10, 11, 12, 13] [] [0, 1, 2, 3, 4, 5, 6, 7, 8, 9, 10, 11, 12, 13] rfl rfl (by decide) (by decide) (fun _ => rfl) (by decide) (fun _ H locs hP hD hS => ?_)
                    have hP : va_P D classes (wM cx aM xw xh xk xj xb xr xc xv xn xl yR yT yC yW yA yE yU yM yV yF yZ yI yD) H := hP
                    have hD : va_D A (wM cx aM xw xh xk xj xb xr xc xv xn xl yR yT yC yW yA yE yU yM yV yF yZ yI yD) := hD
                    refine lv_istore_n (lv' := [(3, .int u57), (6, .int (0 : Int32)), (5, .int (yI (((20 : Int32) * x1) + x4).toNatClampNeg)), (0, .ref (aM 0)), (1, .int x1), (2, .int x2), (4, .int x4)]) hx hb dX5_take_164 rfl hl (by decide) rfl (fun ls hl => ?_)
                    refine lv_iinc (v := (x4 + (1 : Int32))) (lv' := [(4, .int (x4 + (1 : Int32))), (3, .int u57), (6, .int (0 : Int32)), (5, .int (yI (((20 : Int32) * x1) + x4).toNatClampNeg)), (0, .ref (aM 0)), (1, .int x1), (2, .int x2)]) hx hb dX5_take_165 hl (k := 6) rfl rfl (by decide) rfl (fun ls hl => ?_)
                    refine lv_goto (tgt := 62) hx hb dX5_take_168 (by decide) ?_
                    exact ih u57 (x4 + (1 : Int32)) _ hf H locs ls hP hD hS (lv_sub hl [4, 5, 6, 1, 0] rfl) hE hR
                  · replace hf := it_t c56 hf
                    refine lv_bipush (v := (-100 : Int32)) hx hb dX5_take_147 (by decide) ?_
                    refine lv_iload hx hb dX5_take_149 (lv_at hl 6 rfl) ?_
                    refine lv_isub hx hb dX5_take_151 ?_
                    obtain rfl := Option.some.inj hf
                    exact hR _ rfl _ H locs ls hP hD hS dX5_take_152
                · replace hf := it_f c55 hf
                  refine lv_aload_n hx hb dX5_take_93 rfl (lv_at hl 1 rfl) ?_
                  refine va_get (D := D) (ci := 5) (v := .ref (aM 2)) (C := RX5) (T := TX5) (N := 23) hx hb hts iX5 hown hK hP 0 rfl rfl 7 (by decide) (hts _ wd_647) (fun _ h9 => h9) rfl dX5_take_94 ?_
                  refine lv_iload_n hx hb dX5_take_97 rfl (lv_at hl 4 rfl) ?_
                  obtain ⟨hz, hf⟩ := okb_s hf
                  refine va_bald (D := D) hx hb hK hP 2 1 rfl rfl (inb_s hz) dX5_take_98 ?_
                  refine lv_bipush (v := (126 : Int32)) hx hb dX5_take_99 (by decide) ?_
                  refine lv_icmp_eq (tgt := 139) hx hb dX5_take_101 (by decide) (fun c58 => ?_) (fun c58 => ?_)
                  · replace hf := it_t c58 hf
                    refine lv_iconst (v := (0 : Int32)) hx hb dX5_take_139 (by decide) ?_
                    refine lv_istore (lv' := [(6, .int (0 : Int32)), (5, .int (yI (((20 : Int32) * x1) + x4).toNatClampNeg)), (0, .ref (aM 0)), (1, .int x1), (2, .int x2), (3, .int x3), (4, .int x4)]) hx hb dX5_take_140 hl (by decide) rfl (fun ls hl => ?_)
                    refine lv_iload hx hb dX5_take_142 (lv_at hl 0 rfl) ?_
                    refine lv_if_ne (tgt := 153) hx hb dX5_take_144 (by decide) (fun c59 => ?_) (fun c59 => ?_)
                    · replace hf := it_f c59 hf
                      refine lv_aload_n hx hb dX5_take_153 rfl (lv_at hl 2 rfl) ?_
                      refine lv_iload_n hx hb dX5_take_154 rfl (lv_at hl 5 rfl) ?_
                      refine lv_iload hx hb dX5_take_155 (lv_at hl 1 rfl) ?_
                      refine lv_iload hx hb dX5_take_157 (lv_at hl 6 rfl) ?_
                      refine lv_iconst (v := (2 : Int32)) hx hb dX5_take_159 (by decide) ?_
                      refine lv_irem hx hb dX5_take_160 (by decide) ?_
                      obtain ⟨u60, hg, hf⟩ := ob_s hf
                      refine kc_calli (wn := fun _ => (wM cx aM xw xh xk xj xb xr xc xv xn xl yR yT yC yW yA yE yU yM yV yF yZ yI yD)) (va_runV (As := [.int x3, .int (yI (((20 : Int32) * x1) + x4).toNatClampNeg), .int (x4 - x4 / (2 : Int32) * (2 : Int32))]) (rest := []) ⟨hx, hb, hml, hown, hts⟩ (metX5_dropped l D cx aM xw xh xk xj xb xr xc xv xn xl yR yT yC yW yA yE yU yM yV yF yZ yI yD x3 (yI (((20 : Int32) * x1) + x4).toNatClampNeg) (x4 - x4 / (2 : Int32) * (2 : Int32)) N H.size u60 hg) ⟨callB_of 3 hts (kc_gI wd_623) rfl rfl rfl (hts _ wd_46) (hts _ wd_620) (by decide +kernel) ⟨Nat.le_of_ble_eq_true rfl, Nat.le_of_ble_eq_true rfl⟩, hts _ wd_622, hts _ wd_26⟩ ⟨kc_blind _ _ _ _ _, va_recv hK hP (ci := 5) (q0 := 0) rfl rfl, kc_pre _ hK hN (hP.sub [0, 1, 2, 3, 4, 5, 6, 7, 8, 9, 10, 11, 12, 13] rfl) (hD.sub [0, 1, 2, 3, 4, 5, 6, 7, 8, 9, 10, 11, 12, 13] (by decide) rfl)⟩ rfl rfl hl.1 rfl (lv_room (Nat.le_of_ble_eq_true rfl)) dX5_take_161 ⟨Nat.zero_le _, Nat.zero_le _⟩) hP hD hS hA [0, 1, 2, 3, 4, 5, 6, 7, 8, 9, 10, 11, 12, 13] [] [0, 1, 2, 3, 4, 5, 6, 7, 8, 9, 10, 11, 12, 13] rfl rfl (by decide) (by decide) (fun _ => rfl) (by decide) (fun _ H locs hP hD hS => ?_)
                      have hP : va_P D classes (wM cx aM xw xh xk xj xb xr xc xv xn xl yR yT yC yW yA yE yU yM yV yF yZ yI yD) H := hP
                      have hD : va_D A (wM cx aM xw xh xk xj xb xr xc xv xn xl yR yT yC yW yA yE yU yM yV yF yZ yI yD) := hD
                      refine lv_istore_n (lv' := [(3, .int u60), (6, .int (0 : Int32)), (5, .int (yI (((20 : Int32) * x1) + x4).toNatClampNeg)), (0, .ref (aM 0)), (1, .int x1), (2, .int x2), (4, .int x4)]) hx hb dX5_take_164 rfl hl (by decide) rfl (fun ls hl => ?_)
                      refine lv_iinc (v := (x4 + (1 : Int32))) (lv' := [(4, .int (x4 + (1 : Int32))), (3, .int u60), (6, .int (0 : Int32)), (5, .int (yI (((20 : Int32) * x1) + x4).toNatClampNeg)), (0, .ref (aM 0)), (1, .int x1), (2, .int x2)]) hx hb dX5_take_165 hl (k := 6) rfl rfl (by decide) rfl (fun ls hl => ?_)
                      refine lv_goto (tgt := 62) hx hb dX5_take_168 (by decide) ?_
                      exact ih u60 (x4 + (1 : Int32)) _ hf H locs ls hP hD hS (lv_sub hl [4, 5, 6, 1, 0] rfl) hE hR
                    · replace hf := it_t c59 hf
                      refine lv_bipush (v := (-100 : Int32)) hx hb dX5_take_147 (by decide) ?_
                      refine lv_iload hx hb dX5_take_149 (lv_at hl 6 rfl) ?_
                      refine lv_isub hx hb dX5_take_151 ?_
                      obtain rfl := Option.some.inj hf
                      exact hR _ rfl _ H locs ls hP hD hS dX5_take_152
                  · replace hf := it_f c58 hf
                    refine lv_iload hx hb dX5_take_104 (lv_at hl 0 rfl) ?_
                    refine lv_i2l hx hb dX5_take_106 rfl ?_
                    refine lv_lconst (v := (0 : Int64)) hx hb dX5_take_107 (by decide) ?_
                    refine lv_aload_n hx hb dX5_take_108 rfl (lv_at hl 1 rfl) ?_
                    refine va_get (D := D) (ci := 5) (v := .int xw) (C := RX5) (T := TX5) (N := 23) hx hb hts iX5 hown hK hP 0 rfl rfl 0 (by decide) (hts _ wd_640) (fun _ h9 => h9) rfl dX5_take_109 ?_
                    refine lv_iconst (v := (1 : Int32)) hx hb dX5_take_112 (by decide) ?_
                    refine lv_isub hx hb dX5_take_113 ?_
                    refine lv_i2l hx hb dX5_take_114 rfl ?_
                    obtain ⟨u61, hg, hf⟩ := ob_s hf
                    refine kc_calli (wn := fun _ => (wM cx aM xw xh xk xj xb xr xc xv xn xl yR yT yC yW yA yE yU yM yV yF yZ yI yD)) (va_runS (As := [.long (yI (((20 : Int32) * x1) + x4).toNatClampNeg).toInt64, .long (0 : Int64), .long (xw - (1 : Int32)).toInt64]) (rest := []) ⟨hx, hb, hml, hown, hts⟩ (metX5_in l D cx   (yI (((20 : Int32) * x1) + x4).toNatClampNeg).toInt64 (0 : Int64) (xw - (1 : Int32)).toInt64 N H.size u61 hg) ⟨callB_of 3 hts (kc_gI wd_587) rfl rfl rfl (hts _ wd_46) (hts _ wd_585) (by decide +kernel) ⟨Nat.le_of_ble_eq_true rfl, Nat.le_of_ble_eq_true rfl⟩, hts _ wd_586⟩ ⟨kc_blind _ _ _ _ _, kc_pre _ hK hN (hP.sub [] rfl) (hD.sub [] (by decide) rfl)⟩ rfl rfl hl.1 rfl (lv_room (Nat.le_of_ble_eq_true rfl)) dX5_take_115 ⟨Nat.zero_le _, Nat.zero_le _⟩) hP hD hS hA [] [0, 1, 2, 3, 4, 5, 6, 7, 8, 9, 10, 11, 12, 13] [0, 1, 2, 3, 4, 5, 6, 7, 8, 9, 10, 11, 12, 13] rfl rfl (by decide) (by decide) (fun _ => rfl) (by decide) (fun _ H locs hP hD hS => ?_)
                    have hP : va_P D classes (wM cx aM xw xh xk xj xb xr xc xv xn xl yR yT yC yW yA yE yU yM yV yF yZ yI yD) H := hP
                    have hD : va_D A (wM cx aM xw xh xk xj xb xr xc xv xn xl yR yT yC yW yA yE yU yM yV yF yZ yI yD) := hD
                    refine lv_if_eq (tgt := 139) hx hb dX5_take_118 (by decide) (fun c62 => ?_) (fun c62 => ?_)
                    · replace hf := it_t c62 hf
                      refine lv_iconst (v := (0 : Int32)) hx hb dX5_take_139 (by decide) ?_
                      refine lv_istore (lv' := [(6, .int (0 : Int32)), (5, .int (yI (((20 : Int32) * x1) + x4).toNatClampNeg)), (0, .ref (aM 0)), (1, .int x1), (2, .int x2), (3, .int x3), (4, .int x4)]) hx hb dX5_take_140 hl (by decide) rfl (fun ls hl => ?_)
                      refine lv_iload hx hb dX5_take_142 (lv_at hl 0 rfl) ?_
                      refine lv_if_ne (tgt := 153) hx hb dX5_take_144 (by decide) (fun c63 => ?_) (fun c63 => ?_)
                      · replace hf := it_f c63 hf
                        refine lv_aload_n hx hb dX5_take_153 rfl (lv_at hl 2 rfl) ?_
                        refine lv_iload_n hx hb dX5_take_154 rfl (lv_at hl 5 rfl) ?_
                        refine lv_iload hx hb dX5_take_155 (lv_at hl 1 rfl) ?_
                        refine lv_iload hx hb dX5_take_157 (lv_at hl 6 rfl) ?_
                        refine lv_iconst (v := (2 : Int32)) hx hb dX5_take_159 (by decide) ?_
                        refine lv_irem hx hb dX5_take_160 (by decide) ?_
                        obtain ⟨u64, hg, hf⟩ := ob_s hf
                        refine kc_calli (wn := fun _ => (wM cx aM xw xh xk xj xb xr xc xv xn xl yR yT yC yW yA yE yU yM yV yF yZ yI yD)) (va_runV (As := [.int x3, .int (yI (((20 : Int32) * x1) + x4).toNatClampNeg), .int (x4 - x4 / (2 : Int32) * (2 : Int32))]) (rest := []) ⟨hx, hb, hml, hown, hts⟩ (metX5_dropped l D cx aM xw xh xk xj xb xr xc xv xn xl yR yT yC yW yA yE yU yM yV yF yZ yI yD x3 (yI (((20 : Int32) * x1) + x4).toNatClampNeg) (x4 - x4 / (2 : Int32) * (2 : Int32)) N H.size u64 hg) ⟨callB_of 3 hts (kc_gI wd_623) rfl rfl rfl (hts _ wd_46) (hts _ wd_620) (by decide +kernel) ⟨Nat.le_of_ble_eq_true rfl, Nat.le_of_ble_eq_true rfl⟩, hts _ wd_622, hts _ wd_26⟩ ⟨kc_blind _ _ _ _ _, va_recv hK hP (ci := 5) (q0 := 0) rfl rfl, kc_pre _ hK hN (hP.sub [0, 1, 2, 3, 4, 5, 6, 7, 8, 9, 10, 11, 12, 13] rfl) (hD.sub [0, 1, 2, 3, 4, 5, 6, 7, 8, 9, 10, 11, 12, 13] (by decide) rfl)⟩ rfl rfl hl.1 rfl (lv_room (Nat.le_of_ble_eq_true rfl)) dX5_take_161 ⟨Nat.zero_le _, Nat.zero_le _⟩) hP hD hS hA [0, 1, 2, 3, 4, 5, 6, 7, 8, 9, 10, 11, 12, 13] [] [0, 1, 2, 3, 4, 5, 6, 7, 8, 9, 10, 11, 12, 13] rfl rfl (by decide) (by decide) (fun _ => rfl) (by decide) (fun _ H locs hP hD hS => ?_)
                        have hP : va_P D classes (wM cx aM xw xh xk xj xb xr xc xv xn xl yR yT yC yW yA yE yU yM yV yF yZ yI yD) H := hP
                        have hD : va_D A (wM cx aM xw xh xk xj xb xr xc xv xn xl yR yT yC yW yA yE yU yM yV yF yZ yI yD) := hD
                        refine lv_istore_n (lv' := [(3, .int u64), (6, .int (0 : Int32)), (5, .int (yI (((20 : Int32) * x1) + x4).toNatClampNeg)), (0, .ref (aM 0)), (1, .int x1), (2, .int x2), (4, .int x4)]) hx hb dX5_take_164 rfl hl (by decide) rfl (fun ls hl => ?_)
                        refine lv_iinc (v := (x4 + (1 : Int32))) (lv' := [(4, .int (x4 + (1 : Int32))), (3, .int u64), (6, .int (0 : Int32)), (5, .int (yI (((20 : Int32) * x1) + x4).toNatClampNeg)), (0, .ref (aM 0)), (1, .int x1), (2, .int x2)]) hx hb dX5_take_165 hl (k := 6) rfl rfl (by decide) rfl (fun ls hl => ?_)
                        refine lv_goto (tgt := 62) hx hb dX5_take_168 (by decide) ?_
                        exact ih u64 (x4 + (1 : Int32)) _ hf H locs ls hP hD hS (lv_sub hl [4, 5, 6, 1, 0] rfl) hE hR
                      · replace hf := it_t c63 hf
                        refine lv_bipush (v := (-100 : Int32)) hx hb dX5_take_147 (by decide) ?_
                        refine lv_iload hx hb dX5_take_149 (lv_at hl 6 rfl) ?_
                        refine lv_isub hx hb dX5_take_151 ?_
                        obtain rfl := Option.some.inj hf
                        exact hR _ rfl _ H locs ls hP hD hS dX5_take_152
                    · replace hf := it_f c62 hf
                      refine lv_aload_n hx hb dX5_take_121 rfl (lv_at hl 1 rfl) ?_
                      refine lv_iload_n hx hb dX5_take_122 rfl (lv_at hl 4 rfl) ?_
                      refine lv_iload hx hb dX5_take_123 (lv_at hl 0 rfl) ?_
                      obtain ⟨u65, hg, hf⟩ := ob_s hf
                      refine kc_calli (wn := fun _ => (wM cx aM xw xh xk xj xb xr xc xv xn xl yR yT yC yW yA yE yU yM yV yF yZ yI yD)) (va_runV (As := [.int x3, .int (yI (((20 : Int32) * x1) + x4).toNatClampNeg)]) (rest := []) ⟨hx, hb, hml, hown, hts⟩ (metX5_heightOf l D cx aM xw xh xk xj xb xr xc xv xn xl yR yT yC yW yA yE yU yM yV yF yZ yI yD x3 (yI (((20 : Int32) * x1) + x4).toNatClampNeg) N H.size u65 hg) ⟨callB_of 2 hts (kc_gI wd_611) rfl rfl rfl (hts _ wd_46) (hts _ wd_608) (by decide +kernel) ⟨Nat.le_of_ble_eq_true rfl, Nat.le_of_ble_eq_true rfl⟩, hts _ wd_610, hts _ wd_23⟩ ⟨kc_blind _ _ _ _ _, va_recv hK hP (ci := 5) (q0 := 0) rfl rfl, kc_pre _ hK hN (hP.sub [0, 1, 2, 3, 4, 5, 6, 7, 8, 9, 10, 11, 12, 13] rfl) (hD.sub [0, 1, 2, 3, 4, 5, 6, 7, 8, 9, 10, 11, 12, 13] (by decide) rfl)⟩ rfl rfl hl.1 rfl (lv_room (Nat.le_of_ble_eq_true rfl)) dX5_take_125 ⟨Nat.zero_le _, Nat.zero_le _⟩) hP hD hS hA [0, 1, 2, 3, 4, 5, 6, 7, 8, 9, 10, 11, 12, 13] [] [0, 1, 2, 3, 4, 5, 6, 7, 8, 9, 10, 11, 12, 13] rfl rfl (by decide) (by decide) (fun _ => rfl) (by decide) (fun _ H locs hP hD hS => ?_)
                      have hP : va_P D classes (wM cx aM xw xh xk xj xb xr xc xv xn xl yR yT yC yW yA yE yU yM yV yF yZ yI yD) H := hP
                      have hD : va_D A (wM cx aM xw xh xk xj xb xr xc xv xn xl yR yT yC yW yA yE yU yM yV yF yZ yI yD) := hD
                      refine lv_aload_n hx hb dX5_take_128 rfl (lv_at hl 1 rfl) ?_
                      refine va_get (D := D) (ci := 5) (v := .int xh) (C := RX5) (T := TX5) (N := 23) hx hb hts iX5 hown hK hP 0 rfl rfl 1 (by decide) (hts _ wd_641) (fun _ h9 => h9) rfl dX5_take_129 ?_
                      refine lv_icmp_ge (tgt := 139) hx hb dX5_take_132 (by decide) (fun c66 => ?_) (fun c66 => ?_)
                      · replace hf := it_t c66 hf
                        refine lv_iconst (v := (0 : Int32)) hx hb dX5_take_139 (by decide) ?_
                        refine lv_istore (lv' := [(6, .int (0 : Int32)), (5, .int (yI (((20 : Int32) * x1) + x4).toNatClampNeg)), (0, .ref (aM 0)), (1, .int x1), (2, .int x2), (3, .int x3), (4, .int x4)]) hx hb dX5_take_140 hl (by decide) rfl (fun ls hl => ?_)
                        refine lv_iload hx hb dX5_take_142 (lv_at hl 0 rfl) ?_
                        refine lv_if_ne (tgt := 153) hx hb dX5_take_144 (by decide) (fun c67 => ?_) (fun c67 => ?_)
                        · replace hf := it_f c67 hf
                          refine lv_aload_n hx hb dX5_take_153 rfl (lv_at hl 2 rfl) ?_
                          refine lv_iload_n hx hb dX5_take_154 rfl (lv_at hl 5 rfl) ?_
                          refine lv_iload hx hb dX5_take_155 (lv_at hl 1 rfl) ?_
                          refine lv_iload hx hb dX5_take_157 (lv_at hl 6 rfl) ?_
                          refine lv_iconst (v := (2 : Int32)) hx hb dX5_take_159 (by decide) ?_
                          refine lv_irem hx hb dX5_take_160 (by decide) ?_
                          obtain ⟨u68, hg, hf⟩ := ob_s hf
                          refine kc_calli (wn := fun _ => (wM cx aM xw xh xk xj xb xr xc xv xn xl yR yT yC yW yA yE yU yM yV yF yZ yI yD)) (va_runV (As := [.int x3, .int (yI (((20 : Int32) * x1) + x4).toNatClampNeg), .int (x4 - x4 / (2 : Int32) * (2 : Int32))]) (rest := []) ⟨hx, hb, hml, hown, hts⟩ (metX5_dropped l D cx aM xw xh xk xj xb xr xc xv xn xl yR yT yC yW yA yE yU yM yV yF yZ yI yD x3 (yI (((20 : Int32) * x1) + x4).toNatClampNeg) (x4 - x4 / (2 : Int32) * (2 : Int32)) N H.size u68 hg) ⟨callB_of 3 hts (kc_gI wd_623) rfl rfl rfl (hts _ wd_46) (hts _ wd_620) (by decide +kernel) ⟨Nat.le_of_ble_eq_true rfl, Nat.le_of_ble_eq_true rfl⟩, hts _ wd_622, hts _ wd_26⟩ ⟨kc_blind _ _ _ _ _, va_recv hK hP (ci := 5) (q0 := 0) rfl rfl, kc_pre _ hK hN (hP.sub [0, 1, 2, 3, 4, 5, 6, 7, 8, 9, 10, 11, 12, 13] rfl) (hD.sub [0, 1, 2, 3, 4, 5, 6, 7, 8, 9, 10, 11, 12, 13] (by decide) rfl)⟩ rfl rfl hl.1 rfl (lv_room (Nat.le_of_ble_eq_true rfl)) dX5_take_161 ⟨Nat.zero_le _, Nat.zero_le _⟩) hP hD hS hA [0, 1, 2, 3, 4, 5, 6, 7, 8, 9, 10, 11, 12, 13] [] [0, 1, 2, 3, 4, 5, 6, 7, 8, 9, 10, 11, 12, 13] rfl rfl (by decide) (by decide) (fun _ => rfl) (by decide) (fun _ H locs hP hD hS => ?_)
                          have hP : va_P D classes (wM cx aM xw xh xk xj xb xr xc xv xn xl yR yT yC yW yA yE yU yM yV yF yZ yI yD) H := hP
                          have hD : va_D A (wM cx aM xw xh xk xj xb xr xc xv xn xl yR yT yC yW yA yE yU yM yV yF yZ yI yD) := hD
                          refine lv_istore_n (lv' := [(3, .int u68), (6, .int (0 : Int32)), (5, .int (yI (((20 : Int32) * x1) + x4).toNatClampNeg)), (0, .ref (aM 0)), (1, .int x1), (2, .int x2), (4, .int x4)]) hx hb dX5_take_164 rfl hl (by decide) rfl (fun ls hl => ?_)
                          refine lv_iinc (v := (x4 + (1 : Int32))) (lv' := [(4, .int (x4 + (1 : Int32))), (3, .int u68), (6, .int (0 : Int32)), (5, .int (yI (((20 : Int32) * x1) + x4).toNatClampNeg)), (0, .ref (aM 0)), (1, .int x1), (2, .int x2)]) hx hb dX5_take_165 hl (k := 6) rfl rfl (by decide) rfl (fun ls hl => ?_)
                          refine lv_goto (tgt := 62) hx hb dX5_take_168 (by decide) ?_
                          exact ih u68 (x4 + (1 : Int32)) _ hf H locs ls hP hD hS (lv_sub hl [4, 5, 6, 1, 0] rfl) hE hR
                        · replace hf := it_t c67 hf
                          refine lv_bipush (v := (-100 : Int32)) hx hb dX5_take_147 (by decide) ?_
                          refine lv_iload hx hb dX5_take_149 (lv_at hl 6 rfl) ?_
                          refine lv_isub hx hb dX5_take_151 ?_
                          obtain rfl := Option.some.inj hf
                          exact hR _ rfl _ H locs ls hP hD hS dX5_take_152
                      · replace hf := it_f c66 hf
                        refine lv_iconst (v := (1 : Int32)) hx hb dX5_take_135 (by decide) ?_
                        refine lv_goto (tgt := 140) hx hb dX5_take_136 (by decide) ?_
                        refine lv_istore (lv' := [(6, .int (1 : Int32)), (5, .int (yI (((20 : Int32) * x1) + x4).toNatClampNeg)), (0, .ref (aM 0)), (1, .int x1), (2, .int x2), (3, .int x3), (4, .int x4)]) hx hb dX5_take_140 hl (by decide) rfl (fun ls hl => ?_)
                        refine lv_iload hx hb dX5_take_142 (lv_at hl 0 rfl) ?_
                        refine lv_if_ne (tgt := 153) hx hb dX5_take_144 (by decide) (fun c69 => ?_) (fun c69 => ?_)
                        · replace hf := it_f c69 hf
                          refine lv_aload_n hx hb dX5_take_153 rfl (lv_at hl 2 rfl) ?_
                          refine lv_iload_n hx hb dX5_take_154 rfl (lv_at hl 5 rfl) ?_
                          refine lv_iload hx hb dX5_take_155 (lv_at hl 1 rfl) ?_
                          refine lv_iload hx hb dX5_take_157 (lv_at hl 6 rfl) ?_
                          refine lv_iconst (v := (2 : Int32)) hx hb dX5_take_159 (by decide) ?_
                          refine lv_irem hx hb dX5_take_160 (by decide) ?_
                          obtain ⟨u70, hg, hf⟩ := ob_s hf
                          refine kc_calli (wn := fun _ => (wM cx aM xw xh xk xj xb xr xc xv xn xl yR yT yC yW yA yE yU yM yV yF yZ yI yD)) (va_runV (As := [.int x3, .int (yI (((20 : Int32) * x1) + x4).toNatClampNeg), .int (x4 - x4 / (2 : Int32) * (2 : Int32))]) (rest := []) ⟨hx, hb, hml, hown, hts⟩ (metX5_dropped l D cx aM xw xh xk xj xb xr xc xv xn xl yR yT yC yW yA yE yU yM yV yF yZ yI yD x3 (yI (((20 : Int32) * x1) + x4).toNatClampNeg) (x4 - x4 / (2 : Int32) * (2 : Int32)) N H.size u70 hg) ⟨callB_of 3 hts (kc_gI wd_623) rfl rfl rfl (hts _ wd_46) (hts _ wd_620) (by decide +kernel) ⟨Nat.le_of_ble_eq_true rfl, Nat.le_of_ble_eq_true rfl⟩, hts _ wd_622, hts _ wd_26⟩ ⟨kc_blind _ _ _ _ _, va_recv hK hP (ci := 5) (q0 := 0) rfl rfl, kc_pre _ hK hN (hP.sub [0, 1, 2, 3, 4, 5, 6, 7, 8, 9, 10, 11, 12, 13] rfl) (hD.sub [0, 1, 2, 3, 4, 5, 6, 7, 8, 9, 10, 11, 12, 13] (by decide) rfl)⟩ rfl rfl hl.1 rfl (lv_room (Nat.le_of_ble_eq_true rfl)) dX5_take_161 ⟨Nat.zero_le _, Nat.zero_le _⟩) hP hD hS hA [0, 1, 2, 3, 4, 5, 6, 7, 8, 9, 10, 11, 12, 13] [] [0, 1, 2, 3, 4, 5, 6, 7, 8, 9, 10, 11, 12, 13] rfl rfl (by decide) (by decide) (fun _ => rfl) (by decide) (fun _ H locs hP hD hS => ?_)
                          have hP : va_P D classes (wM cx aM xw xh xk xj xb xr xc xv xn xl yR yT yC yW yA yE yU yM yV yF yZ yI yD) H := hP
                          have hD : va_D A (wM cx aM xw xh xk xj xb xr xc xv xn xl yR yT yC yW yA yE yU yM yV yF yZ yI yD) := hD
                          refine lv_istore_n (lv' := [(3, .int u70), (6, .int (1 : Int32)), (5, .int (yI (((20 : Int32) * x1) + x4).toNatClampNeg)), (0, .ref (aM 0)), (1, .int x1), (2, .int x2), (4, .int x4)]) hx hb dX5_take_164 rfl hl (by decide) rfl (fun ls hl => ?_)
                          refine lv_iinc (v := (x4 + (1 : Int32))) (lv' := [(4, .int (x4 + (1 : Int32))), (3, .int u70), (6, .int (1 : Int32)), (5, .int (yI (((20 : Int32) * x1) + x4).toNatClampNeg)), (0, .ref (aM 0)), (1, .int x1), (2, .int x2)]) hx hb dX5_take_165 hl (k := 6) rfl rfl (by decide) rfl (fun ls hl => ?_)
                          refine lv_goto (tgt := 62) hx hb dX5_take_168 (by decide) ?_
                          exact ih u70 (x4 + (1 : Int32)) _ hf H locs ls hP hD hS (lv_sub hl [4, 5, 6, 1, 0] rfl) hE hR
                        · replace hf := it_t c69 hf
                          refine lv_bipush (v := (-100 : Int32)) hx hb dX5_take_147 (by decide) ?_
                          refine lv_iload hx hb dX5_take_149 (lv_at hl 6 rfl) ?_
                          refine lv_isub hx hb dX5_take_151 ?_
                          obtain rfl := Option.some.inj hf
                          exact hR _ rfl _ H locs ls hP hD hS dX5_take_152
          obtain ⟨u71, hg, hf⟩ := ob_s hf
          refine L62 _ u36 (0 : Int32) u71 hg H locs ls hP hD hS (lv_sub hl [2, 3, 4, 1, 0] rfl) (fun e72 ee H locs ls hP hD hS hl => ?_) (fun r73 ee pc H locs ls hP hD hS hd => ?_)
          · subst ee
            replace hf := onS_r hf
            refine lv_iconst (v := (0 : Int32)) hx hb dX5_take_171 (by decide) ?_
            refine lv_istore (lv' := [(4, .int (0 : Int32)), (0, .ref (aM 0)), (1, .int x1), (2, .int x2)]) hx hb dX5_take_172 hl (by decide) rfl (fun ls hl => ?_)
            have L174 : ∀ (ct : Nat) (yV : Nat → Int32) (x4 : Int32) (v174 : (Nat → Int32)), fX5_take_L174 N yI x1 x2 ct yV x4 = some v174 → ∀ (H : Heap) (locs : List Loc) (ls : Array Slot), va_P D classes (wM cx aM xw xh xk xj xb xr xc xv xn xl yR yT yC yW yA yE yU yM yV yF yZ yI yD) H → va_D A (wM cx aM xw xh xk xj xb xr xc xv xn xl yR yT yC yW yA yE yU yM yV yF yZ yI yD) → va_S A s.heap H locs → lv_has ls 7 [(0, .ref (aM 0)), (1, .int x1), (2, .int x2), (4, .int x4)] → (∀ (H : Heap) (locs : List Loc) (ls : Array Slot), va_P D classes (wM cx aM xw xh xk xj xb xr xc xv xn xl yR yT yC yW yA yE yU yM v174 yF yZ yI yD) H → va_D A (wM cx aM xw xh xk xj xb xr xc xv xn xl yR yT yC yW yA yE yU yM v174 yF yZ yI yD) → va_S A s.heap H locs → lv_has ls 7 [(0, .ref (aM 0)), (2, .int x2)] → W p l e rmX5_take s m ([.ref (aM 0), .int x1, .int x2] : List Value).toArray below meth c H locs 0 0 (MQ below (kc_Pi D (fun _ : Unit => (wM cx aM xw xh xk xj xb xr v.2.1 v.2.2.1 v.2.2.2.1 v.2.2.2.2.1 yR yT yC yW yA yE yU v.2.2.2.2.2.1 v.2.2.2.2.2.2 yF yZ yI yD)) v.1 A) ([.ref (aM 0), .int x1, .int x2] : List Value).toArray s 0 0 A) (F0 m 205 ls [])) → W p l e rmX5_take s m ([.ref (aM 0), .int x1, .int x2] : List Value).toArray below meth c H locs 0 0 (MQ below (kc_Pi D (fun _ : Unit => (wM cx aM xw xh xk xj xb xr v.2.1 v.2.2.1 v.2.2.2.1 v.2.2.2.2.1 yR yT yC yW yA yE yU v.2.2.2.2.2.1 v.2.2.2.2.2.2 yF yZ yI yD)) v.1 A) ([.ref (aM 0), .int x1, .int x2] : List Value).toArray s 0 0 A) (F0 m 174 ls []) := by
              intro ct
              induction ct with
              | zero =>
                intro yV x4 v174 hf
                exact absurd (show (none : Option ((Nat → Int32))) = some v174 from hf) (fun q => by cases q)
              | succ ct ih =>
                intro yV x4 v174 hf H locs ls hP hD hS hl hE
                rw [fX5_take_L174] at hf
                refine lv_iload hx hb dX5_take_174 (lv_at hl 3 rfl) ?_
                refine lv_iload_n hx hb dX5_take_176 rfl (lv_at hl 2 rfl) ?_
                refine lv_icmp_ge (tgt := 205) hx hb dX5_take_177 (by decide) (fun c75 => ?_) (fun c75 => ?_)
                · replace hf := it_t c75 hf
                  obtain rfl := Option.some.inj hf
                  exact hE H locs ls hP hD hS (lv_sub hl [0, 2] rfl)
                · replace hf := it_f c75 hf
                  refine lv_aload_n hx hb dX5_take_180 rfl (lv_at hl 0 rfl) ?_
                  refine va_get (D := D) (ci := 5) (v := .ref (aM 9)) (C := RX5) (T := TX5) (N := 23) hx hb hts iX5 hown hK hP 0 rfl rfl 16 (by decide) (hts _ wd_656) (fun _ h9 => h9) rfl dX5_take_181 ?_
                  refine lv_iload hx hb dX5_take_184 (lv_at hl 3 rfl) ?_
                  refine lv_aload_n hx hb dX5_take_186 rfl (lv_at hl 0 rfl) ?_
                  refine va_get (D := D) (ci := 5) (v := .ref (aM 12)) (C := RX5) (T := TX5) (N := 23) hx hb hts iX5 hown hK hP 0 rfl rfl 20 (by decide) (hts _ wd_660) (fun _ h9 => h9) rfl dX5_take_187 ?_
                  refine lv_bipush (v := (20 : Int32)) hx hb dX5_take_190 (by decide) ?_
                  refine lv_iload_n hx hb dX5_take_192 rfl (lv_at hl 1 rfl) ?_
                  refine lv_imul hx hb dX5_take_193 ?_
                  refine lv_iload hx hb dX5_take_194 (lv_at hl 3 rfl) ?_
                  refine lv_iadd hx hb dX5_take_196 ?_
                  obtain ⟨hz, hf⟩ := okb_s hf
                  refine va_iald (D := D) hx hb hK hP 12 0 rfl rfl (inb_s hz) dX5_take_197 ?_
                  obtain ⟨hz, hf⟩ := okb_s hf
                  refine va_iast (D := D) hx hb hK hP hD hS 9 0 rfl rfl (inb_s hz) dX5_take_198 (fun H locs hP hD hS => ?_)
                  have hP : va_P D classes (wM cx aM xw xh xk xj xb xr xc xv xn xl yR yT yC yW yA yE yU yM (upd yV x4.toNatClampNeg (yI (((20 : Int32) * x1) + x4).toNatClampNeg)) yF yZ yI yD) H := hP
                  have hD : va_D A (wM cx aM xw xh xk xj xb xr xc xv xn xl yR yT yC yW yA yE yU yM (upd yV x4.toNatClampNeg (yI (((20 : Int32) * x1) + x4).toNatClampNeg)) yF yZ yI yD) := hD
                  refine lv_iinc (v := (x4 + (1 : Int32))) (lv' := [(4, .int (x4 + (1 : Int32))), (0, .ref (aM 0)), (1, .int x1), (2, .int x2)]) hx hb dX5_take_199 hl (k := 3) rfl rfl (by decide) rfl (fun ls hl => ?_)
                  refine lv_goto (tgt := 174) hx hb dX5_take_202 (by decide) ?_
                  exact ih (upd yV x4.toNatClampNeg (yI (((20 : Int32) * x1) + x4).toNatClampNeg)) (x4 + (1 : Int32)) _ hf H locs ls hP hD hS (lv_sub hl [1, 2, 3, 0] rfl) hE
            obtain ⟨u76, hg, hf⟩ := ob_s hf
            refine L174 _ yV (0 : Int32) u76 hg H locs ls hP hD hS (lv_sub hl [1, 2, 3, 0] rfl) (fun H locs ls hP hD hS hl => ?_)
            refine lv_aload_n hx hb dX5_take_205 rfl (lv_at hl 0 rfl) ?_
            refine lv_iload_n hx hb dX5_take_206 rfl (lv_at hl 1 rfl) ?_
            refine va_put (D := D) (ci := 5) (v := .int x2) (ty := .int) (C := RX5) (T := TX5) (N := 23) hx hb hts iX5 tyX5 tyX5_ok nmX5 hown hK hP hD hS 0 rfl rfl 15 (by decide) (hts _ wd_655) (fun _ h9 => h9) rfl (by decide +kernel) rfl rfl (Nat.le_of_ble_eq_true rfl) dX5_take_207 (fun H locs hP hD hS => ?_)
            have hP : va_P D classes (wM cx aM xw xh xk xj xb xr xc x2 xn xl yR yT yC yW yA yE yU yM u76 yF yZ yI yD) H := hP
            have hD : va_D A (wM cx aM xw xh xk xj xb xr xc x2 xn xl yR yT yC yW yA yE yU yM u76 yF yZ yI yD) := hD
            refine lv_aload_n hx hb dX5_take_210 rfl (lv_at hl 0 rfl) ?_
            obtain ⟨u77, hg, hf⟩ := ob_s hf
            refine kc_callv (wn := fun _ => (wM cx aM xw xh xk xj xb xr xc x2 u77 xl yR yT yC yW yA yE yU yM u76 yF yZ yI yD)) (va_runV (As := []) (rest := []) ⟨hx, hb, hml, hown, hts⟩ (metX5_place l D cx aM xw xh xk xj xb xr xc x2 xn xl yR yT yC yW yA yE yU yM u76 yF yZ yI yD  N H.size u77 hg) ⟨callB_of 0 hts (kc_gI wd_639) rfl rfl rfl (hts _ wd_46) (hts _ wd_636) (by decide +kernel) ⟨Nat.le_of_ble_eq_true rfl, Nat.le_of_ble_eq_true rfl⟩, hts _ wd_638, hts _ wd_30⟩ ⟨kc_blind _ _ _ _ _, va_recv hK hP (ci := 5) (q0 := 0) rfl rfl, kc_pre _ hK hN (hP.sub [0, 1, 2, 3, 4, 5, 6, 7, 8, 9, 10, 11, 12, 13] rfl) (hD.sub [0, 1, 2, 3, 4, 5, 6, 7, 8, 9, 10, 11, 12, 13] (by decide) rfl)⟩ rfl rfl hl.1 rfl (lv_room (Nat.le_of_ble_eq_true rfl)) dX5_take_211 ⟨Nat.zero_le _, Nat.zero_le _⟩) hP hD hS hA [0, 1, 2, 3, 4, 5, 6, 7, 8, 9, 10, 11, 12, 13] [] [0, 1, 2, 3, 4, 5, 6, 7, 8, 9, 10, 11, 12, 13] rfl rfl (by decide) (by decide) (fun _ => rfl) (by decide) (fun _ H locs hP hD hS => ?_)
            have hP : va_P D classes (wM cx aM xw xh xk xj xb xr xc x2 u77 xl yR yT yC yW yA yE yU yM u76 yF yZ yI yD) H := hP
            have hD : va_D A (wM cx aM xw xh xk xj xb xr xc x2 u77 xl yR yT yC yW yA yE yU yM u76 yF yZ yI yD) := hD
            refine lv_aload_n hx hb dX5_take_214 rfl (lv_at hl 0 rfl) ?_
            refine lv_iconst (v := (2 : Int32)) hx hb dX5_take_215 (by decide) ?_
            obtain ⟨u78, hg, hf⟩ := ob_s hf
            refine kc_calli (wn := fun _ => (wM cx aM xw xh xk xj xb xr u78.2.1 x2 u77 xl yR yT yC yW yA yE yU u78.2.2 u76 yF yZ yI yD)) (va_runV (As := [.int (2 : Int32)]) (rest := []) ⟨hx, hb, hml, hown, hts⟩ (metX5_game l D cx aM xw xh xk xj xb xr xc x2 u77 xl yR yT yC yW yA yE yU yM u76 yF yZ yI yD (2 : Int32) N H.size u78 hg) ⟨callB_of 1 hts (kc_gI wd_750) rfl rfl rfl (hts _ wd_46) (hts _ wd_863) (by decide +kernel) ⟨Nat.le_of_ble_eq_true rfl, Nat.le_of_ble_eq_true rfl⟩, hts _ wd_748, hts _ wd_749⟩ ⟨kc_blind _ _ _ _ _, va_recv hK hP (ci := 5) (q0 := 0) rfl rfl, kc_pre _ hK hN (hP.sub [0, 1, 2, 3, 4, 5, 6, 7, 8, 9, 10, 11, 12, 13] rfl) (hD.sub [0, 1, 2, 3, 4, 5, 6, 7, 8, 9, 10, 11, 12, 13] (by decide) rfl)⟩ rfl rfl hl.1 rfl (lv_room (Nat.le_of_ble_eq_true rfl)) dX5_take_216 ⟨Nat.zero_le _, Nat.zero_le _⟩) hP hD hS hA [0, 1, 2, 3, 4, 5, 6, 7, 8, 9, 10, 11, 12, 13] [] [0, 1, 2, 3, 4, 5, 6, 7, 8, 9, 10, 11, 12, 13] rfl rfl (by decide) (by decide) (fun _ => rfl) (by decide) (fun _ H locs hP hD hS => ?_)
            have hP : va_P D classes (wM cx aM xw xh xk xj xb xr u78.2.1 x2 u77 xl yR yT yC yW yA yE yU u78.2.2 u76 yF yZ yI yD) H := hP
            have hD : va_D A (wM cx aM xw xh xk xj xb xr u78.2.1 x2 u77 xl yR yT yC yW yA yE yU u78.2.2 u76 yF yZ yI yD) := hD
            obtain rfl := Option.some.inj hf
            exact kc_iret () hx hb hr hk hP hD hS rfl dX5_take_219
          · subst ee
            replace hf := onS_l hf
            obtain rfl := Option.some.inj hf
            exact kc_iret () hx hb hr hk hP hD hS rfl hd
        · replace hf := it_f c35 hf
          refine lv_aload_n hx hb dX5_take_48 rfl (lv_at hl 0 rfl) ?_
          refine lv_iconst (v := (2 : Int32)) hx hb dX5_take_49 (by decide) ?_
          obtain ⟨u79, hg, hf⟩ := ob_s hf
          refine kc_calli (wn := fun _ => (wM cx aM xw xh xk xj xb xr xc xv xn u79.2 yR yT yC yW yA yE yU yM yV yF yZ yI yD)) (va_runV (As := [.int (2 : Int32)]) (rest := []) ⟨hx, hb, hml, hown, hts⟩ (metX5_met l D cx aM xw xh xk xj xb xr xc xv xn xl yR yT yC yW yA yE yU yM yV yF yZ yI yD (2 : Int32) N H.size u79 hg) ⟨callB_of 1 hts (kc_gI wd_833) rfl rfl rfl (hts _ wd_46) (hts _ wd_830) (by decide +kernel) ⟨Nat.le_of_ble_eq_true rfl, Nat.le_of_ble_eq_true rfl⟩, hts _ wd_832, hts _ wd_37⟩ ⟨kc_blind _ _ _ _ _, va_recv hK hP (ci := 5) (q0 := 0) rfl rfl, kc_pre _ hK hN (hP.sub [0, 1, 2, 3, 4, 5, 6, 7, 8, 9, 10, 11, 12, 13] rfl) (hD.sub [0, 1, 2, 3, 4, 5, 6, 7, 8, 9, 10, 11, 12, 13] (by decide) rfl)⟩ rfl rfl hl.1 rfl (lv_room (Nat.le_of_ble_eq_true rfl)) dX5_take_50 ⟨Nat.zero_le _, Nat.zero_le _⟩) hP hD hS hA [0, 1, 2, 3, 4, 5, 6, 7, 8, 9, 10, 11, 12, 13] [] [0, 1, 2, 3, 4, 5, 6, 7, 8, 9, 10, 11, 12, 13] rfl rfl (by decide) (by decide) (fun _ => rfl) (by decide) (fun _ H locs hP hD hS => ?_)
          have hP : va_P D classes (wM cx aM xw xh xk xj xb xr xc xv xn u79.2 yR yT yC yW yA yE yU yM yV yF yZ yI yD) H := hP
          have hD : va_D A (wM cx aM xw xh xk xj xb xr xc xv xn u79.2 yR yT yC yW yA yE yU yM yV yF yZ yI yD) := hD
          obtain rfl := Option.some.inj hf
          exact kc_iret () hx hb hr hk hP hD hS rfl dX5_take_53
      · replace hf := it_f c34 hf
        refine lv_aload_n hx hb dX5_take_32 rfl (lv_at hl 0 rfl) ?_
        refine lv_iconst (v := (1 : Int32)) hx hb dX5_take_33 (by decide) ?_
        obtain ⟨u80, hg, hf⟩ := ob_s hf
        refine kc_calli (wn := fun _ => (wM cx aM xw xh xk xj xb xr xc xv xn u80.2 yR yT yC yW yA yE yU yM yV yF yZ yI yD)) (va_runV (As := [.int (1 : Int32)]) (rest := []) ⟨hx, hb, hml, hown, hts⟩ (metX5_met l D cx aM xw xh xk xj xb xr xc xv xn xl yR yT yC yW yA yE yU yM yV yF yZ yI yD (1 : Int32) N H.size u80 hg) ⟨callB_of 1 hts (kc_gI wd_833) rfl rfl rfl (hts _ wd_46) (hts _ wd_830) (by decide +kernel) ⟨Nat.le_of_ble_eq_true rfl, Nat.le_of_ble_eq_true rfl⟩, hts _ wd_832, hts _ wd_37⟩ ⟨kc_blind _ _ _ _ _, va_recv hK hP (ci := 5) (q0 := 0) rfl rfl, kc_pre _ hK hN (hP.sub [0, 1, 2, 3, 4, 5, 6, 7, 8, 9, 10, 11, 12, 13] rfl) (hD.sub [0, 1, 2, 3, 4, 5, 6, 7, 8, 9, 10, 11, 12, 13] (by decide) rfl)⟩ rfl rfl hl.1 rfl (lv_room (Nat.le_of_ble_eq_true rfl)) dX5_take_34 ⟨Nat.zero_le _, Nat.zero_le _⟩) hP hD hS hA [0, 1, 2, 3, 4, 5, 6, 7, 8, 9, 10, 11, 12, 13] [] [0, 1, 2, 3, 4, 5, 6, 7, 8, 9, 10, 11, 12, 13] rfl rfl (by decide) (by decide) (fun _ => rfl) (by decide) (fun _ H locs hP hD hS => ?_)
        have hP : va_P D classes (wM cx aM xw xh xk xj xb xr xc xv xn u80.2 yR yT yC yW yA yE yU yM yV yF yZ yI yD) H := hP
        have hD : va_D A (wM cx aM xw xh xk xj xb xr xc xv xn u80.2 yR yT yC yW yA yE yU yM yV yF yZ yI yD) := hD
        obtain rfl := Option.some.inj hf
        exact kc_iret () hx hb hr hk hP hD hS rfl dX5_take_37
    · replace hf := it_t c33 hf
      refine lv_sipush (v := (-200 : Int32)) hx hb dX5_take_19 (by decide) ?_
      obtain rfl := Option.some.inj hf
      exact kc_iret () hx hb hr hk hP hD hS rfl dX5_take_22
abbrev rmX5_write : Room := { frames := 2, cells := 0, slots := 0, locals := 45 }
set_option maxHeartbeats 4000000 in
set_option maxRecDepth 100000 in
theorem metX5_write (l : Launch) (D : va_G) (cx : Nat → ClassId) (aM : Nat → Nat) (xw : Int32) (xh : Int32) (xk : Int32) (xj : Int32) (xb : Int32) (xr : Int32) (xc : Int32) (xv : Int32) (xn : Int32) (xl : Int32) (yR : Nat → Int32) (yT : Nat → Int32) (yC : Nat → Int32) (yW : Nat → Int32) (yA : Nat → Int32) (yE : Nat → Int32) (yU : Nat → Int32) (yM : Nat → Int32) (yV : Nat → Int32) (yF : Nat → Int32) (yZ : Nat → Int32) (yI : Nat → Int32) (yD : Nat → Int32) (x1 : Int32) (N : Nat) (sz : Nat) (v : Int32 × Int32 × (Nat → Int32)) (hf : fX5_write N xv xl yV yF yZ yI x1 = some v) : Met l yX5_write (.code yX5_write cX5_write 3 (some .int) :: kc_TB) rmX5_write (kc_Pre D cx (wM cx aM xw xh xk xj xb xr xc xv xn xl yR yT yC yW yA yE yU yM yV yF yZ yI yD) [.ref (aM 0), .int x1] sz) (kc_Pi D (fun _ : Unit => (wM cx aM xw xh xk xj xb xr xc xv xn v.2.1 yR yT yC yW yA yE yU yM yV yF yZ v.2.2 yD)) v.1 (va_A (wM cx aM xw xh xk xj xb xr xc xv xn xl yR yT yC yW yA yE yU yM yV yF yZ yI yD) sz)) 0 0 (va_A (wM cx aM xw xh xk xj xb xr xc xv xn xl yR yT yC yW yA yE yU yM yV yF yZ yI yD) sz) := by
  refine kc_entry (Qc := fun A => (kc_Pi D (fun _ : Unit => (wM cx aM xw xh xk xj xb xr xc xv xn v.2.1 yR yT yC yW yA yE yU yM yV yF yZ v.2.2 yD)) v.1 A)) (by decide) (Nat.le_of_ble_eq_true rfl) ?_
  intro p e s m below meth c A hx hb hr hk hml hown hin hts hN hK hP hD hS hA ls hl
  have hown : s.vm.findClass RX5 = some m.cls := hown
  have hl : lv_has ls 3 [(0, .ref (aM 0)), (1, .int x1)] := hl
  unfold fX5_write at hf
  have hP : va_P D classes (wM cx aM xw xh xk xj xb xr xc xv xn xl yR yT yC yW yA yE yU yM yV yF yZ yI yD) s.heap := hP
  obtain ⟨H, hH⟩ : ∃ H, H = s.heap := ⟨_, rfl⟩
  obtain ⟨locs, hL⟩ : ∃ locs : List Loc, locs = [] := ⟨_, rfl⟩
  have hS : va_S A s.heap H locs := by rw [hH, hL]; exact hS
  have hP : va_P D classes (wM cx aM xw xh xk xj xb xr xc xv xn xl yR yT yC yW yA yE yU yM yV yF yZ yI yD) H := by rw [hH]; exact hP
  suffices hW : W p l e rmX5_write s m ([.ref (aM 0), .int x1] : List Value).toArray below meth c H locs 0 0 (MQ below (kc_Pi D (fun _ : Unit => (wM cx aM xw xh xk xj xb xr xc xv xn v.2.1 yR yT yC yW yA yE yU yM yV yF yZ v.2.2 yD)) v.1 A) ([.ref (aM 0), .int x1] : List Value).toArray s 0 0 A) (F0 m 0 ls []) by rw [hH, hL] at hW; exact hW
  clear hH hL
  refine lv_iload_n hx hb dX5_write_0 rfl (lv_at hl 1 rfl) ?_
  obtain ⟨u8, hg, hf⟩ := ob_s hf
  refine kc_calli (wn := fun _ => (wM cx aM xw xh xk xj xb xr xc xv xn xl yR yT yC yW yA yE yU yM yV yF yZ yI yD)) (va_runS (As := [.int x1]) (rest := []) ⟨hx, hb, hml, hown, hts⟩ (metX5_isSheet l D cx   x1 N H.size u8 hg) ⟨callB_of 1 hts (kc_gI wd_828) rfl rfl rfl (hts _ wd_46) (hts _ wd_826) (by decide +kernel) ⟨Nat.le_of_ble_eq_true rfl, Nat.le_of_ble_eq_true rfl⟩, hts _ wd_827⟩ ⟨kc_blind _ _ _ _ _, kc_pre _ hK hN (hP.sub [] rfl) (hD.sub [] (by decide) rfl)⟩ rfl rfl hl.1 rfl (lv_room (Nat.le_of_ble_eq_true rfl)) dX5_write_1 ⟨Nat.zero_le _, Nat.zero_le _⟩) hP hD hS hA [] [0, 1, 2, 3, 4, 5, 6, 7, 8, 9, 10, 11, 12, 13] [0, 1, 2, 3, 4, 5, 6, 7, 8, 9, 10, 11, 12, 13] rfl rfl (by decide) (by decide) (fun _ => rfl) (by decide) (fun _ H locs hP hD hS => ?_)
  have hP : va_P D classes (wM cx aM xw xh xk xj xb xr xc xv xn xl yR yT yC yW yA yE yU yM yV yF yZ yI yD) H := hP
  have hD : va_D A (wM cx aM xw xh xk xj xb xr xc xv xn xl yR yT yC yW yA yE yU yM yV yF yZ yI yD) := hD
  refine lv_if_ne (tgt := 11) hx hb dX5_write_4 (by decide) (fun c9 => ?_) (fun c9 => ?_)
  · replace hf := it_f c9 hf
    refine lv_aload_n hx hb dX5_write_11 rfl (lv_at hl 0 rfl) ?_
    refine va_get (D := D) (ci := 5) (v := .ref (aM 10)) (C := RX5) (T := TX5) (N := 23) hx hb hts iX5 hown hK hP 0 rfl rfl 18 (by decide) (hts _ wd_658) (fun _ h9 => h9) rfl dX5_write_12 ?_
    refine lv_iload_n hx hb dX5_write_15 rfl (lv_at hl 1 rfl) ?_
    obtain ⟨hz, hf⟩ := okb_s hf
    refine va_iald (D := D) hx hb hK hP 10 0 rfl rfl (inb_s hz) dX5_write_16 ?_
    refine lv_if_ge (tgt := 26) hx hb dX5_write_17 (by decide) (fun c10 => ?_) (fun c10 => ?_)
    · replace hf := it_t c10 hf
      refine lv_aload_n hx hb dX5_write_26 rfl (lv_at hl 0 rfl) ?_
      refine va_get (D := D) (ci := 5) (v := .ref (aM 11)) (C := RX5) (T := TX5) (N := 23) hx hb hts iX5 hown hK hP 0 rfl rfl 19 (by decide) (hts _ wd_659) (fun _ h9 => h9) rfl dX5_write_27 ?_
      refine lv_iload_n hx hb dX5_write_30 rfl (lv_at hl 1 rfl) ?_
      obtain ⟨hz, hf⟩ := okb_s hf
      refine va_iald (D := D) hx hb hK hP 11 0 rfl rfl (inb_s hz) dX5_write_31 ?_
      refine lv_aload_n hx hb dX5_write_32 rfl (lv_at hl 0 rfl) ?_
      refine va_get (D := D) (ci := 5) (v := .int xv) (C := RX5) (T := TX5) (N := 23) hx hb hts iX5 hown hK hP 0 rfl rfl 15 (by decide) (hts _ wd_655) (fun _ h9 => h9) rfl dX5_write_33 ?_
      refine lv_icmp_ge (tgt := 45) hx hb dX5_write_36 (by decide) (fun c11 => ?_) (fun c11 => ?_)
      · replace hf := it_t c11 hf
        refine lv_iconst (v := (0 : Int32)) hx hb dX5_write_45 (by decide) ?_
        refine lv_istore_n (lv' := [(2, .int (0 : Int32)), (0, .ref (aM 0)), (1, .int x1)]) hx hb dX5_write_46 rfl hl (by decide) rfl (fun ls hl => ?_)
        have L47 : ∀ (ct : Nat) (yI : Nat → Int32) (x2 : Int32) (v47 : (Nat → Int32)), fX5_write_L47 N xv yV x1 ct yI x2 = some v47 → ∀ (H : Heap) (locs : List Loc) (ls : Array Slot), va_P D classes (wM cx aM xw xh xk xj xb xr xc xv xn xl yR yT yC yW yA yE yU yM yV yF yZ yI yD) H → va_D A (wM cx aM xw xh xk xj xb xr xc xv xn xl yR yT yC yW yA yE yU yM yV yF yZ yI yD) → va_S A s.heap H locs → lv_has ls 3 [(0, .ref (aM 0)), (1, .int x1), (2, .int x2)] → (∀ (H : Heap) (locs : List Loc) (ls : Array Slot), va_P D classes (wM cx aM xw xh xk xj xb xr xc xv xn xl yR yT yC yW yA yE yU yM yV yF yZ v47 yD) H → va_D A (wM cx aM xw xh xk xj xb xr xc xv xn xl yR yT yC yW yA yE yU yM yV yF yZ v47 yD) → va_S A s.heap H locs → lv_has ls 3 [(0, .ref (aM 0))] → W p l e rmX5_write s m ([.ref (aM 0), .int x1] : List Value).toArray below meth c H locs 0 0 (MQ below (kc_Pi D (fun _ : Unit => (wM cx aM xw xh xk xj xb xr xc xv xn v.2.1 yR yT yC yW yA yE yU yM yV yF yZ v.2.2 yD)) v.1 A) ([.ref (aM 0), .int x1] : List Value).toArray s 0 0 A) (F0 m 78 ls [])) → W p l e rmX5_write s m ([.ref (aM 0), .int x1] : List Value).toArray below meth c H locs 0 0 (MQ below (kc_Pi D (fun _ : Unit => (wM cx aM xw xh xk xj xb xr xc xv xn v.2.1 yR yT yC yW yA yE yU yM yV yF yZ v.2.2 yD)) v.1 A) ([.ref (aM 0), .int x1] : List Value).toArray s 0 0 A) (F0 m 47 ls []) := by
          intro ct
          induction ct with
          | zero =>
            intro yI x2 v47 hf
            exact absurd (show (none : Option ((Nat → Int32))) = some v47 from hf) (fun q => by cases q)
          | succ ct ih =>
            intro yI x2 v47 hf H locs ls hP hD hS hl hE
            rw [fX5_write_L47] at hf
            refine lv_iload_n hx hb dX5_write_47 rfl (lv_at hl 2 rfl) ?_
            refine lv_aload_n hx hb dX5_write_48 rfl (lv_at hl 0 rfl) ?_
            refine va_get (D := D) (ci := 5) (v := .int xv) (C := RX5) (T := TX5) (N := 23) hx hb hts iX5 hown hK hP 0 rfl rfl 15 (by decide) (hts _ wd_655) (fun _ h9 => h9) rfl dX5_write_49 ?_
            refine lv_icmp_ge (tgt := 78) hx hb dX5_write_52 (by decide) (fun c13 => ?_) (fun c13 => ?_)
            · replace hf := it_t c13 hf
              obtain rfl := Option.some.inj hf
              exact hE H locs ls hP hD hS (lv_sub hl [0] rfl)
            · replace hf := it_f c13 hf
              refine lv_aload_n hx hb dX5_write_55 rfl (lv_at hl 0 rfl) ?_
              refine va_get (D := D) (ci := 5) (v := .ref (aM 12)) (C := RX5) (T := TX5) (N := 23) hx hb hts iX5 hown hK hP 0 rfl rfl 20 (by decide) (hts _ wd_660) (fun _ h9 => h9) rfl dX5_write_56 ?_
              refine lv_bipush (v := (20 : Int32)) hx hb dX5_write_59 (by decide) ?_
              refine lv_iload_n hx hb dX5_write_61 rfl (lv_at hl 1 rfl) ?_
              refine lv_imul hx hb dX5_write_62 ?_
              refine lv_iload_n hx hb dX5_write_63 rfl (lv_at hl 2 rfl) ?_
              refine lv_iadd hx hb dX5_write_64 ?_
              refine lv_aload_n hx hb dX5_write_65 rfl (lv_at hl 0 rfl) ?_
              refine va_get (D := D) (ci := 5) (v := .ref (aM 9)) (C := RX5) (T := TX5) (N := 23) hx hb hts iX5 hown hK hP 0 rfl rfl 16 (by decide) (hts _ wd_656) (fun _ h9 => h9) rfl dX5_write_66 ?_
              refine lv_iload_n hx hb dX5_write_69 rfl (lv_at hl 2 rfl) ?_
              obtain ⟨hz, hf⟩ := okb_s hf
              refine va_iald (D := D) hx hb hK hP 9 0 rfl rfl (inb_s hz) dX5_write_70 ?_
              obtain ⟨hz, hf⟩ := okb_s hf
              refine va_iast (D := D) hx hb hK hP hD hS 12 0 rfl rfl (inb_s hz) dX5_write_71 (fun H locs hP hD hS => ?_)
              have hP : va_P D classes (wM cx aM xw xh xk xj xb xr xc xv xn xl yR yT yC yW yA yE yU yM yV yF yZ (upd yI (((20 : Int32) * x1) + x2).toNatClampNeg (yV x2.toNatClampNeg)) yD) H := hP
              have hD : va_D A (wM cx aM xw xh xk xj xb xr xc xv xn xl yR yT yC yW yA yE yU yM yV yF yZ (upd yI (((20 : Int32) * x1) + x2).toNatClampNeg (yV x2.toNatClampNeg)) yD) := hD
              refine lv_iinc (v := (x2 + (1 : Int32))) (lv' := [(2, .int (x2 + (1 : Int32))), (0, .ref (aM 0)), (1, .int x1)]) hx hb dX5_write_72 hl (k := 2) rfl rfl (by decide) rfl (fun ls hl => ?_)
              refine lv_goto (tgt := 47) hx hb dX5_write_75 (by decide) ?_
              exact ih (upd yI (((20 : Int32) * x1) + x2).toNatClampNeg (yV x2.toNatClampNeg)) (x2 + (1 : Int32)) _ hf H locs ls hP hD hS (lv_sub hl [1, 2, 0] rfl) hE
        obtain ⟨u14, hg, hf⟩ := ob_s hf
        refine L47 _ yI (0 : Int32) u14 hg H locs ls hP hD hS (lv_sub hl [1, 2, 0] rfl) (fun H locs ls hP hD hS hl => ?_)
        refine lv_aload_n hx hb dX5_write_78 rfl (lv_at hl 0 rfl) ?_
        refine va_get (D := D) (ci := 5) (v := .int xv) (C := RX5) (T := TX5) (N := 23) hx hb hts iX5 hown hK hP 0 rfl rfl 15 (by decide) (hts _ wd_655) (fun _ h9 => h9) rfl dX5_write_79 ?_
        obtain rfl := Option.some.inj hf
        exact kc_iret () hx hb hr hk hP hD hS rfl dX5_write_82
      · replace hf := it_f c11 hf
        refine lv_aload_n hx hb dX5_write_39 rfl (lv_at hl 0 rfl) ?_
        refine lv_iconst (v := (2 : Int32)) hx hb dX5_write_40 (by decide) ?_
        obtain ⟨u15, hg, hf⟩ := ob_s hf
        refine kc_calli (wn := fun _ => (wM cx aM xw xh xk xj xb xr xc xv xn u15.2 yR yT yC yW yA yE yU yM yV yF yZ yI yD)) (va_runV (As := [.int (2 : Int32)]) (rest := []) ⟨hx, hb, hml, hown, hts⟩ (metX5_met l D cx aM xw xh xk xj xb xr xc xv xn xl yR yT yC yW yA yE yU yM yV yF yZ yI yD (2 : Int32) N H.size u15 hg) ⟨callB_of 1 hts (kc_gI wd_833) rfl rfl rfl (hts _ wd_46) (hts _ wd_830) (by decide +kernel) ⟨Nat.le_of_ble_eq_true rfl, Nat.le_of_ble_eq_true rfl⟩, hts _ wd_832, hts _ wd_37⟩ ⟨kc_blind _ _ _ _ _, va_recv hK hP (ci := 5) (q0 := 0) rfl rfl, kc_pre _ hK hN (hP.sub [0, 1, 2, 3, 4, 5, 6, 7, 8, 9, 10, 11, 12, 13] rfl) (hD.sub [0, 1, 2, 3, 4, 5, 6, 7, 8, 9, 10, 11, 12, 13] (by decide) rfl)⟩ rfl rfl hl.1 rfl (lv_room (Nat.le_of_ble_eq_true rfl)) dX5_write_41 ⟨Nat.zero_le _, Nat.zero_le _⟩) hP hD hS hA [0, 1, 2, 3, 4, 5, 6, 7, 8, 9, 10, 11, 12, 13] [] [0, 1, 2, 3, 4, 5, 6, 7, 8, 9, 10, 11, 12, 13] rfl rfl (by decide) (by decide) (fun _ => rfl) (by decide) (fun _ H locs hP hD hS => ?_)
        have hP : va_P D classes (wM cx aM xw xh xk xj xb xr xc xv xn u15.2 yR yT yC yW yA yE yU yM yV yF yZ yI yD) H := hP
        have hD : va_D A (wM cx aM xw xh xk xj xb xr xc xv xn u15.2 yR yT yC yW yA yE yU yM yV yF yZ yI yD) := hD
        obtain rfl := Option.some.inj hf
        exact kc_iret () hx hb hr hk hP hD hS rfl dX5_write_44
    · replace hf := it_f c10 hf
      refine lv_aload_n hx hb dX5_write_20 rfl (lv_at hl 0 rfl) ?_
      refine lv_iconst (v := (1 : Int32)) hx hb dX5_write_21 (by decide) ?_
      obtain ⟨u16, hg, hf⟩ := ob_s hf
      refine kc_calli (wn := fun _ => (wM cx aM xw xh xk xj xb xr xc xv xn u16.2 yR yT yC yW yA yE yU yM yV yF yZ yI yD)) (va_runV (As := [.int (1 : Int32)]) (rest := []) ⟨hx, hb, hml, hown, hts⟩ (metX5_met l D cx aM xw xh xk xj xb xr xc xv xn xl yR yT yC yW yA yE yU yM yV yF yZ yI yD (1 : Int32) N H.size u16 hg) ⟨callB_of 1 hts (kc_gI wd_833) rfl rfl rfl (hts _ wd_46) (hts _ wd_830) (by decide +kernel) ⟨Nat.le_of_ble_eq_true rfl, Nat.le_of_ble_eq_true rfl⟩, hts _ wd_832, hts _ wd_37⟩ ⟨kc_blind _ _ _ _ _, va_recv hK hP (ci := 5) (q0 := 0) rfl rfl, kc_pre _ hK hN (hP.sub [0, 1, 2, 3, 4, 5, 6, 7, 8, 9, 10, 11, 12, 13] rfl) (hD.sub [0, 1, 2, 3, 4, 5, 6, 7, 8, 9, 10, 11, 12, 13] (by decide) rfl)⟩ rfl rfl hl.1 rfl (lv_room (Nat.le_of_ble_eq_true rfl)) dX5_write_22 ⟨Nat.zero_le _, Nat.zero_le _⟩) hP hD hS hA [0, 1, 2, 3, 4, 5, 6, 7, 8, 9, 10, 11, 12, 13] [] [0, 1, 2, 3, 4, 5, 6, 7, 8, 9, 10, 11, 12, 13] rfl rfl (by decide) (by decide) (fun _ => rfl) (by decide) (fun _ H locs hP hD hS => ?_)
      have hP : va_P D classes (wM cx aM xw xh xk xj xb xr xc xv xn u16.2 yR yT yC yW yA yE yU yM yV yF yZ yI yD) H := hP
      have hD : va_D A (wM cx aM xw xh xk xj xb xr xc xv xn u16.2 yR yT yC yW yA yE yU yM yV yF yZ yI yD) := hD
      obtain rfl := Option.some.inj hf
      exact kc_iret () hx hb hr hk hP hD hS rfl dX5_write_25
  · replace hf := it_t c9 hf
    refine lv_sipush (v := (-200 : Int32)) hx hb dX5_write_7 (by decide) ?_
    obtain rfl := Option.some.inj hf
    exact kc_iret () hx hb hr hk hP hD hS rfl dX5_write_10
abbrev rmX5_count : Room := { frames := 0, cells := 0, slots := 0, locals := 0 }
set_option maxHeartbeats 4000000 in
set_option maxRecDepth 100000 in
theorem metX5_count (l : Launch) (D : va_G) (cx : Nat → ClassId) (aM : Nat → Nat) (xw : Int32) (xh : Int32) (xk : Int32) (xj : Int32) (xb : Int32) (xr : Int32) (xc : Int32) (xv : Int32) (xn : Int32) (xl : Int32) (yR : Nat → Int32) (yT : Nat → Int32) (yC : Nat → Int32) (yW : Nat → Int32) (yA : Nat → Int32) (yE : Nat → Int32) (yU : Nat → Int32) (yM : Nat → Int32) (yV : Nat → Int32) (yF : Nat → Int32) (yZ : Nat → Int32) (yI : Nat → Int32) (yD : Nat → Int32) (x1 : Int32) (N : Nat) (sz : Nat) (v : Int32) (hf : fX5_count N xw xh xk xj xr xl x1 = some v) : Met l yX5_count (.code yX5_count cX5_count 2 (some .int) :: kc_TB) rmX5_count (kc_Pre D cx (wM cx aM xw xh xk xj xb xr xc xv xn xl yR yT yC yW yA yE yU yM yV yF yZ yI yD) [.ref (aM 0), .int x1] sz) (kc_Pi D (fun _ : Unit => (wM cx aM xw xh xk xj xb xr xc xv xn xl yR yT yC yW yA yE yU yM yV yF yZ yI yD)) v (va_A (wM cx aM xw xh xk xj xb xr xc xv xn xl yR yT yC yW yA yE yU yM yV yF yZ yI yD) sz)) 0 0 (va_A (wM cx aM xw xh xk xj xb xr xc xv xn xl yR yT yC yW yA yE yU yM yV yF yZ yI yD) sz) := by
  refine kc_entry (Qc := fun A => (kc_Pi D (fun _ : Unit => (wM cx aM xw xh xk xj xb xr xc xv xn xl yR yT yC yW yA yE yU yM yV yF yZ yI yD)) v A)) (by decide) (Nat.le_of_ble_eq_true rfl) ?_
  intro p e s m below meth c A hx hb hr hk hml hown hin hts hN hK hP hD hS hA ls hl
  have hown : s.vm.findClass RX5 = some m.cls := hown
  have hl : lv_has ls 2 [(0, .ref (aM 0)), (1, .int x1)] := hl
  unfold fX5_count at hf
  have hP : va_P D classes (wM cx aM xw xh xk xj xb xr xc xv xn xl yR yT yC yW yA yE yU yM yV yF yZ yI yD) s.heap := hP
  obtain ⟨H, hH⟩ : ∃ H, H = s.heap := ⟨_, rfl⟩
  obtain ⟨locs, hL⟩ : ∃ locs : List Loc, locs = [] := ⟨_, rfl⟩
  have hS : va_S A s.heap H locs := by rw [hH, hL]; exact hS
  have hP : va_P D classes (wM cx aM xw xh xk xj xb xr xc xv xn xl yR yT yC yW yA yE yU yM yV yF yZ yI yD) H := by rw [hH]; exact hP
  suffices hW : W p l e rmX5_count s m ([.ref (aM 0), .int x1] : List Value).toArray below meth c H locs 0 0 (MQ below (kc_Pi D (fun _ : Unit => (wM cx aM xw xh xk xj xb xr xc xv xn xl yR yT yC yW yA yE yU yM yV yF yZ yI yD)) v A) ([.ref (aM 0), .int x1] : List Value).toArray s 0 0 A) (F0 m 0 ls []) by rw [hH, hL] at hW; exact hW
  clear hH hL
  refine lv_iload_n hx hb dX5_count_0 rfl (lv_at hl 1 rfl) ?_
  by_cases c10 : x1 = (0 : Int32)
  · replace hf := it_t c10 hf
    refine lv_tableIn (tgt := 44) (off := 43) hx hb dX5_count_1 (by rw [c10]; decide) (by rw [c10]; decide) (by rw [c10]; decide) (by decide) ?_
    refine lv_aload_n hx hb dX5_count_44 rfl (lv_at hl 0 rfl) ?_
    refine va_get (D := D) (ci := 5) (v := .int xw) (C := RX5) (T := TX5) (N := 23) hx hb hts iX5 hown hK hP 0 rfl rfl 0 (by decide) (hts _ wd_640) (fun _ h9 => h9) rfl dX5_count_45 ?_
    obtain rfl := Option.some.inj hf
    exact kc_iret () hx hb hr hk hP hD hS rfl dX5_count_48
  · replace hf := it_f c10 hf
    by_cases c11 : x1 = (1 : Int32)
    · replace hf := it_t c11 hf
      refine lv_tableIn (tgt := 49) (off := 48) hx hb dX5_count_1 (by rw [c11]; decide) (by rw [c11]; decide) (by rw [c11]; decide) (by decide) ?_
      refine lv_aload_n hx hb dX5_count_49 rfl (lv_at hl 0 rfl) ?_
      refine va_get (D := D) (ci := 5) (v := .int xh) (C := RX5) (T := TX5) (N := 23) hx hb hts iX5 hown hK hP 0 rfl rfl 1 (by decide) (hts _ wd_641) (fun _ h9 => h9) rfl dX5_count_50 ?_
      obtain rfl := Option.some.inj hf
      exact kc_iret () hx hb hr hk hP hD hS rfl dX5_count_53
    · replace hf := it_f c11 hf
      by_cases c12 : x1 = (2 : Int32)
      · replace hf := it_t c12 hf
        refine lv_tableIn (tgt := 54) (off := 53) hx hb dX5_count_1 (by rw [c12]; decide) (by rw [c12]; decide) (by rw [c12]; decide) (by decide) ?_
        refine lv_aload_n hx hb dX5_count_54 rfl (lv_at hl 0 rfl) ?_
        refine va_get (D := D) (ci := 5) (v := .int xk) (C := RX5) (T := TX5) (N := 23) hx hb hts iX5 hown hK hP 0 rfl rfl 2 (by decide) (hts _ wd_642) (fun _ h9 => h9) rfl dX5_count_55 ?_
        obtain rfl := Option.some.inj hf
        exact kc_iret () hx hb hr hk hP hD hS rfl dX5_count_58
      · replace hf := it_f c12 hf
        by_cases c13 : x1 = (3 : Int32)
        · replace hf := it_t c13 hf
          refine lv_tableIn (tgt := 59) (off := 58) hx hb dX5_count_1 (by rw [c13]; decide) (by rw [c13]; decide) (by rw [c13]; decide) (by decide) ?_
          refine lv_aload_n hx hb dX5_count_59 rfl (lv_at hl 0 rfl) ?_
          refine va_get (D := D) (ci := 5) (v := .int xj) (C := RX5) (T := TX5) (N := 23) hx hb hts iX5 hown hK hP 0 rfl rfl 3 (by decide) (hts _ wd_643) (fun _ h9 => h9) rfl dX5_count_60 ?_
          refine lv_if_eq (tgt := 70) hx hb dX5_count_63 (by decide) (fun c9 => ?_) (fun c9 => ?_)
          · replace hf := it_t c9 hf
            refine lv_iconst (v := (0 : Int32)) hx hb dX5_count_70 (by decide) ?_
            obtain rfl := Option.some.inj hf
            exact kc_iret () hx hb hr hk hP hD hS rfl dX5_count_71
          · replace hf := it_f c9 hf
            refine lv_iconst (v := (1 : Int32)) hx hb dX5_count_66 (by decide) ?_
            refine lv_goto (tgt := 71) hx hb dX5_count_67 (by decide) ?_
            obtain rfl := Option.some.inj hf
            exact kc_iret () hx hb hr hk hP hD hS rfl dX5_count_71
        · replace hf := it_f c13 hf
          by_cases c14 : x1 = (4 : Int32)
          · replace hf := it_t c14 hf
            refine lv_tableIn (tgt := 72) (off := 71) hx hb dX5_count_1 (by rw [c14]; decide) (by rw [c14]; decide) (by rw [c14]; decide) (by decide) ?_
            refine lv_aload_n hx hb dX5_count_72 rfl (lv_at hl 0 rfl) ?_
            refine va_get (D := D) (ci := 5) (v := .int xr) (C := RX5) (T := TX5) (N := 23) hx hb hts iX5 hown hK hP 0 rfl rfl 5 (by decide) (hts _ wd_645) (fun _ h9 => h9) rfl dX5_count_73 ?_
            obtain rfl := Option.some.inj hf
            exact kc_iret () hx hb hr hk hP hD hS rfl dX5_count_76
          · replace hf := it_f c14 hf
            by_cases c15 : x1 = (5 : Int32)
            · replace hf := it_t c15 hf
              refine lv_tableIn (tgt := 77) (off := 76) hx hb dX5_count_1 (by rw [c15]; decide) (by rw [c15]; decide) (by rw [c15]; decide) (by decide) ?_
              refine lv_aload_n hx hb dX5_count_77 rfl (lv_at hl 0 rfl) ?_
              refine va_get (D := D) (ci := 5) (v := .int xw) (C := RX5) (T := TX5) (N := 23) hx hb hts iX5 hown hK hP 0 rfl rfl 0 (by decide) (hts _ wd_640) (fun _ h9 => h9) rfl dX5_count_78 ?_
              refine lv_aload_n hx hb dX5_count_81 rfl (lv_at hl 0 rfl) ?_
              refine va_get (D := D) (ci := 5) (v := .int xh) (C := RX5) (T := TX5) (N := 23) hx hb hts iX5 hown hK hP 0 rfl rfl 1 (by decide) (hts _ wd_641) (fun _ h9 => h9) rfl dX5_count_82 ?_
              refine lv_imul hx hb dX5_count_85 ?_
              obtain rfl := Option.some.inj hf
              exact kc_iret () hx hb hr hk hP hD hS rfl dX5_count_86
            · replace hf := it_f c15 hf
              by_cases c16 : x1 = (6 : Int32)
              · replace hf := it_t c16 hf
                refine lv_tableIn (tgt := 87) (off := 86) hx hb dX5_count_1 (by rw [c16]; decide) (by rw [c16]; decide) (by rw [c16]; decide) (by decide) ?_
                refine lv_aload_n hx hb dX5_count_87 rfl (lv_at hl 0 rfl) ?_
                refine va_get (D := D) (ci := 5) (v := .int xl) (C := RX5) (T := TX5) (N := 23) hx hb hts iX5 hown hK hP 0 rfl rfl 22 (by decide) (hts _ wd_662) (fun _ h9 => h9) rfl dX5_count_88 ?_
                obtain rfl := Option.some.inj hf
                exact kc_iret () hx hb hr hk hP hD hS rfl dX5_count_91
              · replace hf := it_f c16 hf
                refine lv_tableOut (tgt := 92) hx hb dX5_count_1 (sw_out6 c10 c11 c12 c13 c14 c15 c16) (by decide) ?_
                refine lv_sipush (v := (-200 : Int32)) hx hb dX5_count_92 (by decide) ?_
                obtain rfl := Option.some.inj hf
                exact kc_iret () hx hb hr hk hP hD hS rfl dX5_count_95
abbrev rmX5_digest : Room := { frames := 4, cells := 0, slots := 0, locals := 94 }
set_option maxHeartbeats 4000000 in
set_option maxRecDepth 100000 in
theorem metX5_digest (l : Launch) (D : va_G) (cx : Nat → ClassId) (aM : Nat → Nat) (xw : Int32) (xh : Int32) (xk : Int32) (xj : Int32) (xb : Int32) (xr : Int32) (xc : Int32) (xv : Int32) (xn : Int32) (xl : Int32) (yR : Nat → Int32) (yT : Nat → Int32) (yC : Nat → Int32) (yW : Nat → Int32) (yA : Nat → Int32) (yE : Nat → Int32) (yU : Nat → Int32) (yM : Nat → Int32) (yV : Nat → Int32) (yF : Nat → Int32) (yZ : Nat → Int32) (yI : Nat → Int32) (yD : Nat → Int32)  (N : Nat) (sz : Nat) (v : Int64 × Int32 × (Nat → Int32)) (hf : fX5_digest N xw xh xk xj xr xc xv xn xl yR yT yM yV = some v) : Met l yX5_digest (.code yX5_digest cX5_digest 4 (some .long) :: kc_TB) rmX5_digest (kc_Pre D cx (wM cx aM xw xh xk xj xb xr xc xv xn xl yR yT yC yW yA yE yU yM yV yF yZ yI yD) [.ref (aM 0)] sz) (kc_Pl D (fun _ : Unit => (wM cx aM xw xh xk xj xb xr v.2.1 xv xn xl yR yT yC yW yA yE yU v.2.2 yV yF yZ yI yD)) v.1 (va_A (wM cx aM xw xh xk xj xb xr xc xv xn xl yR yT yC yW yA yE yU yM yV yF yZ yI yD) sz)) 0 0 (va_A (wM cx aM xw xh xk xj xb xr xc xv xn xl yR yT yC yW yA yE yU yM yV yF yZ yI yD) sz) := by
  refine kc_entry (Qc := fun A => (kc_Pl D (fun _ : Unit => (wM cx aM xw xh xk xj xb xr v.2.1 xv xn xl yR yT yC yW yA yE yU v.2.2 yV yF yZ yI yD)) v.1 A)) (by decide) (Nat.le_of_ble_eq_true rfl) ?_
  intro p e s m below meth c A hx hb hr hk hml hown hin hts hN hK hP hD hS hA ls hl
  have hown : s.vm.findClass RX5 = some m.cls := hown
  have hl : lv_has ls 4 [(0, .ref (aM 0))] := hl
  unfold fX5_digest at hf
  have hP : va_P D classes (wM cx aM xw xh xk xj xb xr xc xv xn xl yR yT yC yW yA yE yU yM yV yF yZ yI yD) s.heap := hP
  obtain ⟨H, hH⟩ : ∃ H, H = s.heap := ⟨_, rfl⟩
  obtain ⟨locs, hL⟩ : ∃ locs : List Loc, locs = [] := ⟨_, rfl⟩
  have hS : va_S A s.heap H locs := by rw [hH, hL]; exact hS
  have hP : va_P D classes (wM cx aM xw xh xk xj xb xr xc xv xn xl yR yT yC yW yA yE yU yM yV yF yZ yI yD) H := by rw [hH]; exact hP
  suffices hW : W p l e rmX5_digest s m ([.ref (aM 0)] : List Value).toArray below meth c H locs 0 0 (MQ below (kc_Pl D (fun _ : Unit => (wM cx aM xw xh xk xj xb xr v.2.1 xv xn xl yR yT yC yW yA yE yU v.2.2 yV yF yZ yI yD)) v.1 A) ([.ref (aM 0)] : List Value).toArray s 0 0 A) (F0 m 0 ls []) by rw [hH, hL] at hW; exact hW
  clear hH hL
  refine lv_ldc2 hx hb hown (hts _ wd_876) dX5_digest_0 ?_
  refine lv_lstore_n (lv' := [(1, .long (17 : Int64)), (0, .ref (aM 0))]) hx hb dX5_digest_3 rfl hl (by decide) rfl (fun ls hl => ?_)
  refine lv_iconst (v := (0 : Int32)) hx hb dX5_digest_4 (by decide) ?_
  refine lv_istore_n (lv' := [(3, .int (0 : Int32)), (1, .long (17 : Int64)), (0, .ref (aM 0))]) hx hb dX5_digest_5 rfl hl (by decide) rfl (fun ls hl => ?_)
  have L6 : ∀ (ct : Nat) (x1 : Int64) (x3 : Int32) (v6 : Int64), fX5_digest_L6 N xw xh xk xj xr xl ct x1 x3 = some v6 → ∀ (H : Heap) (locs : List Loc) (ls : Array Slot), va_P D classes (wM cx aM xw xh xk xj xb xr xc xv xn xl yR yT yC yW yA yE yU yM yV yF yZ yI yD) H → va_D A (wM cx aM xw xh xk xj xb xr xc xv xn xl yR yT yC yW yA yE yU yM yV yF yZ yI yD) → va_S A s.heap H locs → lv_has ls 4 [(0, .ref (aM 0)), (1, .long x1), (3, .int x3)] → (∀ (H : Heap) (locs : List Loc) (ls : Array Slot), va_P D classes (wM cx aM xw xh xk xj xb xr xc xv xn xl yR yT yC yW yA yE yU yM yV yF yZ yI yD) H → va_D A (wM cx aM xw xh xk xj xb xr xc xv xn xl yR yT yC yW yA yE yU yM yV yF yZ yI yD) → va_S A s.heap H locs → lv_has ls 4 [(0, .ref (aM 0)), (1, .long v6)] → W p l e rmX5_digest s m ([.ref (aM 0)] : List Value).toArray below meth c H locs 0 0 (MQ below (kc_Pl D (fun _ : Unit => (wM cx aM xw xh xk xj xb xr v.2.1 xv xn xl yR yT yC yW yA yE yU v.2.2 yV yF yZ yI yD)) v.1 A) ([.ref (aM 0)] : List Value).toArray s 0 0 A) (F0 m 31 ls [])) → W p l e rmX5_digest s m ([.ref (aM 0)] : List Value).toArray below meth c H locs 0 0 (MQ below (kc_Pl D (fun _ : Unit => (wM cx aM xw xh xk xj xb xr v.2.1 xv xn xl yR yT yC yW yA yE yU v.2.2 yV yF yZ yI yD)) v.1 A) ([.ref (aM 0)] : List Value).toArray s 0 0 A) (F0 m 6 ls []) := by
    intro ct
    induction ct with
    | zero =>
      intro x1 x3 v6 hf
      exact absurd (show (none : Option (Int64)) = some v6 from hf) (fun q => by cases q)
    | succ ct ih =>
      intro x1 x3 v6 hf H locs ls hP hD hS hl hE
      rw [fX5_digest_L6] at hf
      refine lv_iload_n hx hb dX5_digest_6 rfl (lv_at hl 2 rfl) ?_
      refine lv_bipush (v := (6 : Int32)) hx hb dX5_digest_7 (by decide) ?_
      refine lv_icmp_ge (tgt := 31) hx hb dX5_digest_9 (by decide) (fun c10 => ?_) (fun c10 => ?_)
      · replace hf := it_t c10 hf
        obtain rfl := Option.some.inj hf
        exact hE H locs ls hP hD hS (lv_sub hl [0, 1] rfl)
      · replace hf := it_f c10 hf
        refine lv_ldc2 hx hb hown (hts _ wd_877) dX5_digest_12 ?_
        refine lv_lload_n hx hb dX5_digest_15 rfl (lv_at hl 1 rfl) ?_
        refine lv_lmul hx hb dX5_digest_16 ?_
        refine lv_aload_n hx hb dX5_digest_17 rfl (lv_at hl 0 rfl) ?_
        refine lv_iload_n hx hb dX5_digest_18 rfl (lv_at hl 2 rfl) ?_
        obtain ⟨u11, hg, hf⟩ := ob_s hf
        refine kc_calli (wn := fun _ => (wM cx aM xw xh xk xj xb xr xc xv xn xl yR yT yC yW yA yE yU yM yV yF yZ yI yD)) (va_runV (As := [.int x3]) (rest := [.long ((31 : Int64) * x1)]) ⟨hx, hb, hml, hown, hts⟩ (metX5_count l D cx aM xw xh xk xj xb xr xc xv xn xl yR yT yC yW yA yE yU yM yV yF yZ yI yD x3 N H.size u11 hg) ⟨callB_of 1 hts (kc_gI wd_871) rfl rfl rfl (hts _ wd_46) (hts _ wd_878) (by decide +kernel) ⟨Nat.le_of_ble_eq_true rfl, Nat.le_of_ble_eq_true rfl⟩, hts _ wd_869, hts _ wd_870⟩ ⟨kc_blind _ _ _ _ _, va_recv hK hP (ci := 5) (q0 := 0) rfl rfl, kc_pre _ hK hN (hP.sub [0, 1, 2, 3, 4, 5, 6, 7, 8, 9, 10, 11, 12, 13] rfl) (hD.sub [0, 1, 2, 3, 4, 5, 6, 7, 8, 9, 10, 11, 12, 13] (by decide) rfl)⟩ rfl rfl hl.1 rfl (lv_room (Nat.le_of_ble_eq_true rfl)) dX5_digest_19 ⟨Nat.zero_le _, Nat.zero_le _⟩) hP hD hS hA [0, 1, 2, 3, 4, 5, 6, 7, 8, 9, 10, 11, 12, 13] [] [0, 1, 2, 3, 4, 5, 6, 7, 8, 9, 10, 11, 12, 13] rfl rfl (by decide) (by decide) (fun _ => rfl) (by decide) (fun _ H locs hP hD hS => ?_)
        have hP : va_P D classes (wM cx aM xw xh xk xj xb xr xc xv xn xl yR yT yC yW yA yE yU yM yV yF yZ yI yD) H := hP
        have hD : va_D A (wM cx aM xw xh xk xj xb xr xc xv xn xl yR yT yC yW yA yE yU yM yV yF yZ yI yD) := hD
        refine lv_i2l hx hb dX5_digest_22 rfl ?_
        refine lv_ladd hx hb dX5_digest_23 ?_
        refine lv_lstore_n (lv' := [(1, .long (((31 : Int64) * x1) + u11.toInt64)), (0, .ref (aM 0)), (3, .int x3)]) hx hb dX5_digest_24 rfl hl (by decide) rfl (fun ls hl => ?_)
        refine lv_iinc (v := (x3 + (1 : Int32))) (lv' := [(3, .int (x3 + (1 : Int32))), (1, .long (((31 : Int64) * x1) + u11.toInt64)), (0, .ref (aM 0))]) hx hb dX5_digest_25 hl (k := 2) rfl rfl (by decide) rfl (fun ls hl => ?_)
        refine lv_goto (tgt := 6) hx hb dX5_digest_28 (by decide) ?_
        exact ih (((31 : Int64) * x1) + u11.toInt64) (x3 + (1 : Int32)) _ hf H locs ls hP hD hS (lv_sub hl [2, 1, 0] rfl) hE
  obtain ⟨u12, hg, hf⟩ := ob_s hf
  refine L6 _ (17 : Int64) (0 : Int32) u12 hg H locs ls hP hD hS (lv_sub hl [2, 1, 0] rfl) (fun H locs ls hP hD hS hl => ?_)
  refine lv_iconst (v := (0 : Int32)) hx hb dX5_digest_31 (by decide) ?_
  refine lv_istore_n (lv' := [(3, .int (0 : Int32)), (0, .ref (aM 0)), (1, .long u12)]) hx hb dX5_digest_32 rfl hl (by decide) rfl (fun ls hl => ?_)
  have L33 : ∀ (ct : Nat) (xc : Int32) (yM : Nat → Int32) (x1 : Int64) (x3 : Int32) (v33 : Int32 × (Nat → Int32) × Int64), fX5_digest_L33 N xw xh xr xv xn yR yT ct xc yM x1 x3 = some v33 → ∀ (H : Heap) (locs : List Loc) (ls : Array Slot), va_P D classes (wM cx aM xw xh xk xj xb xr xc xv xn xl yR yT yC yW yA yE yU yM yV yF yZ yI yD) H → va_D A (wM cx aM xw xh xk xj xb xr xc xv xn xl yR yT yC yW yA yE yU yM yV yF yZ yI yD) → va_S A s.heap H locs → lv_has ls 4 [(0, .ref (aM 0)), (1, .long x1), (3, .int x3)] → (∀ (H : Heap) (locs : List Loc) (ls : Array Slot), va_P D classes (wM cx aM xw xh xk xj xb xr v33.1 xv xn xl yR yT yC yW yA yE yU v33.2.1 yV yF yZ yI yD) H → va_D A (wM cx aM xw xh xk xj xb xr v33.1 xv xn xl yR yT yC yW yA yE yU v33.2.1 yV yF yZ yI yD) → va_S A s.heap H locs → lv_has ls 4 [(0, .ref (aM 0)), (1, .long v33.2.2)] → W p l e rmX5_digest s m ([.ref (aM 0)] : List Value).toArray below meth c H locs 0 0 (MQ below (kc_Pl D (fun _ : Unit => (wM cx aM xw xh xk xj xb xr v.2.1 xv xn xl yR yT yC yW yA yE yU v.2.2 yV yF yZ yI yD)) v.1 A) ([.ref (aM 0)] : List Value).toArray s 0 0 A) (F0 m 57 ls [])) → W p l e rmX5_digest s m ([.ref (aM 0)] : List Value).toArray below meth c H locs 0 0 (MQ below (kc_Pl D (fun _ : Unit => (wM cx aM xw xh xk xj xb xr v.2.1 xv xn xl yR yT yC yW yA yE yU v.2.2 yV yF yZ yI yD)) v.1 A) ([.ref (aM 0)] : List Value).toArray s 0 0 A) (F0 m 33 ls []) := by
    intro ct
    induction ct with
    | zero =>
      intro xc yM x1 x3 v33 hf
      exact absurd (show (none : Option (Int32 × (Nat → Int32) × Int64)) = some v33 from hf) (fun q => by cases q)
    | succ ct ih =>
      intro xc yM x1 x3 v33 hf H locs ls hP hD hS hl hE
      rw [fX5_digest_L33] at hf
      refine lv_iload_n hx hb dX5_digest_33 rfl (lv_at hl 2 rfl) ?_
      refine lv_iconst (v := (5 : Int32)) hx hb dX5_digest_34 (by decide) ?_
      refine lv_icmp_ge (tgt := 57) hx hb dX5_digest_35 (by decide) (fun c15 => ?_) (fun c15 => ?_)
      · replace hf := it_t c15 hf
        obtain rfl := Option.some.inj hf
        exact hE H locs ls hP hD hS (lv_sub hl [0, 1] rfl)
      · replace hf := it_f c15 hf
        refine lv_ldc2 hx hb hown (hts _ wd_877) dX5_digest_38 ?_
        refine lv_lload_n hx hb dX5_digest_41 rfl (lv_at hl 1 rfl) ?_
        refine lv_lmul hx hb dX5_digest_42 ?_
        refine lv_aload_n hx hb dX5_digest_43 rfl (lv_at hl 0 rfl) ?_
        refine lv_iload_n hx hb dX5_digest_44 rfl (lv_at hl 2 rfl) ?_
        obtain ⟨u16, hg, hf⟩ := ob_s hf
        refine kc_calli (wn := fun _ => (wM cx aM xw xh xk xj xb xr u16.2.1 xv xn xl yR yT yC yW yA yE yU u16.2.2 yV yF yZ yI yD)) (va_runV (As := [.int x3]) (rest := [.long ((31 : Int64) * x1)]) ⟨hx, hb, hml, hown, hts⟩ (metX5_game l D cx aM xw xh xk xj xb xr xc xv xn xl yR yT yC yW yA yE yU yM yV yF yZ yI yD x3 N H.size u16 hg) ⟨callB_of 1 hts (kc_gI wd_750) rfl rfl rfl (hts _ wd_46) (hts _ wd_863) (by decide +kernel) ⟨Nat.le_of_ble_eq_true rfl, Nat.le_of_ble_eq_true rfl⟩, hts _ wd_748, hts _ wd_749⟩ ⟨kc_blind _ _ _ _ _, va_recv hK hP (ci := 5) (q0 := 0) rfl rfl, kc_pre _ hK hN (hP.sub [0, 1, 2, 3, 4, 5, 6, 7, 8, 9, 10, 11, 12, 13] rfl) (hD.sub [0, 1, 2, 3, 4, 5, 6, 7, 8, 9, 10, 11, 12, 13] (by decide) rfl)⟩ rfl rfl hl.1 rfl (lv_room (Nat.le_of_ble_eq_true rfl)) dX5_digest_45 ⟨Nat.zero_le _, Nat.zero_le _⟩) hP hD hS hA [0, 1, 2, 3, 4, 5, 6, 7, 8, 9, 10, 11, 12, 13] [] [0, 1, 2, 3, 4, 5, 6, 7, 8, 9, 10, 11, 12, 13] rfl rfl (by decide) (by decide) (fun _ => rfl) (by decide) (fun _ H locs hP hD hS => ?_)
        have hP : va_P D classes (wM cx aM xw xh xk xj xb xr u16.2.1 xv xn xl yR yT yC yW yA yE yU u16.2.2 yV yF yZ yI yD) H := hP
        have hD : va_D A (wM cx aM xw xh xk xj xb xr u16.2.1 xv xn xl yR yT yC yW yA yE yU u16.2.2 yV yF yZ yI yD) := hD
        refine lv_i2l hx hb dX5_digest_48 rfl ?_
        refine lv_ladd hx hb dX5_digest_49 ?_
        refine lv_lstore_n (lv' := [(1, .long (((31 : Int64) * x1) + u16.1.toInt64)), (0, .ref (aM 0)), (3, .int x3)]) hx hb dX5_digest_50 rfl hl (by decide) rfl (fun ls hl => ?_)
        refine lv_iinc (v := (x3 + (1 : Int32))) (lv' := [(3, .int (x3 + (1 : Int32))), (1, .long (((31 : Int64) * x1) + u16.1.toInt64)), (0, .ref (aM 0))]) hx hb dX5_digest_51 hl (k := 2) rfl rfl (by decide) rfl (fun ls hl => ?_)
        refine lv_goto (tgt := 33) hx hb dX5_digest_54 (by decide) ?_
        exact ih u16.2.1 u16.2.2 (((31 : Int64) * x1) + u16.1.toInt64) (x3 + (1 : Int32)) _ hf H locs ls hP hD hS (lv_sub hl [2, 1, 0] rfl) hE
  obtain ⟨u17, hg, hf⟩ := ob_s hf
  refine L33 _ xc yM u12 (0 : Int32) u17 hg H locs ls hP hD hS (lv_sub hl [1, 2, 0] rfl) (fun H locs ls hP hD hS hl => ?_)
  refine lv_iconst (v := (0 : Int32)) hx hb dX5_digest_57 (by decide) ?_
  refine lv_istore_n (lv' := [(3, .int (0 : Int32)), (0, .ref (aM 0)), (1, .long u17.2.2)]) hx hb dX5_digest_58 rfl hl (by decide) rfl (fun ls hl => ?_)
  have L59 : ∀ (ct : Nat) (x1 : Int64) (x3 : Int32) (v59 : Int64), fX5_digest_L59 N xv yV ct x1 x3 = some v59 → ∀ (H : Heap) (locs : List Loc) (ls : Array Slot), va_P D classes (wM cx aM xw xh xk xj xb xr u17.1 xv xn xl yR yT yC yW yA yE yU u17.2.1 yV yF yZ yI yD) H → va_D A (wM cx aM xw xh xk xj xb xr u17.1 xv xn xl yR yT yC yW yA yE yU u17.2.1 yV yF yZ yI yD) → va_S A s.heap H locs → lv_has ls 4 [(0, .ref (aM 0)), (1, .long x1), (3, .int x3)] → (∀ (H : Heap) (locs : List Loc) (ls : Array Slot), va_P D classes (wM cx aM xw xh xk xj xb xr u17.1 xv xn xl yR yT yC yW yA yE yU u17.2.1 yV yF yZ yI yD) H → va_D A (wM cx aM xw xh xk xj xb xr u17.1 xv xn xl yR yT yC yW yA yE yU u17.2.1 yV yF yZ yI yD) → va_S A s.heap H locs → lv_has ls 4 [(0, .ref (aM 0)), (1, .long v59)] → W p l e rmX5_digest s m ([.ref (aM 0)] : List Value).toArray below meth c H locs 0 0 (MQ below (kc_Pl D (fun _ : Unit => (wM cx aM xw xh xk xj xb xr v.2.1 xv xn xl yR yT yC yW yA yE yU v.2.2 yV yF yZ yI yD)) v.1 A) ([.ref (aM 0)] : List Value).toArray s 0 0 A) (F0 m 87 ls [])) → W p l e rmX5_digest s m ([.ref (aM 0)] : List Value).toArray below meth c H locs 0 0 (MQ below (kc_Pl D (fun _ : Unit => (wM cx aM xw xh xk xj xb xr v.2.1 xv xn xl yR yT yC yW yA yE yU v.2.2 yV yF yZ yI yD)) v.1 A) ([.ref (aM 0)] : List Value).toArray s 0 0 A) (F0 m 59 ls []) := by
    intro ct
    induction ct with
    | zero =>
      intro x1 x3 v59 hf
      exact absurd (show (none : Option (Int64)) = some v59 from hf) (fun q => by cases q)
    | succ ct ih =>
      intro x1 x3 v59 hf H locs ls hP hD hS hl hE
      rw [fX5_digest_L59] at hf
      refine lv_iload_n hx hb dX5_digest_59 rfl (lv_at hl 2 rfl) ?_
      refine lv_aload_n hx hb dX5_digest_60 rfl (lv_at hl 0 rfl) ?_
      refine va_get (D := D) (ci := 5) (v := .int xv) (C := RX5) (T := TX5) (N := 23) hx hb hts iX5 hown hK hP 0 rfl rfl 15 (by decide) (hts _ wd_655) (fun _ h9 => h9) rfl dX5_digest_61 ?_
      refine lv_icmp_ge (tgt := 87) hx hb dX5_digest_64 (by decide) (fun c19 => ?_) (fun c19 => ?_)
      · replace hf := it_t c19 hf
        obtain rfl := Option.some.inj hf
        exact hE H locs ls hP hD hS (lv_sub hl [0, 1] rfl)
      · replace hf := it_f c19 hf
        refine lv_ldc2 hx hb hown (hts _ wd_877) dX5_digest_67 ?_
        refine lv_lload_n hx hb dX5_digest_70 rfl (lv_at hl 1 rfl) ?_
        refine lv_lmul hx hb dX5_digest_71 ?_
        refine lv_aload_n hx hb dX5_digest_72 rfl (lv_at hl 0 rfl) ?_
        refine va_get (D := D) (ci := 5) (v := .ref (aM 9)) (C := RX5) (T := TX5) (N := 23) hx hb hts iX5 hown hK hP 0 rfl rfl 16 (by decide) (hts _ wd_656) (fun _ h9 => h9) rfl dX5_digest_73 ?_
        refine lv_iload_n hx hb dX5_digest_76 rfl (lv_at hl 2 rfl) ?_
        obtain ⟨hz, hf⟩ := okb_s hf
        refine va_iald (D := D) hx hb hK hP 9 0 rfl rfl (inb_s hz) dX5_digest_77 ?_
        refine lv_i2l hx hb dX5_digest_78 rfl ?_
        refine lv_ladd hx hb dX5_digest_79 ?_
        refine lv_lstore_n (lv' := [(1, .long (((31 : Int64) * x1) + (yV x3.toNatClampNeg).toInt64)), (0, .ref (aM 0)), (3, .int x3)]) hx hb dX5_digest_80 rfl hl (by decide) rfl (fun ls hl => ?_)
        refine lv_iinc (v := (x3 + (1 : Int32))) (lv' := [(3, .int (x3 + (1 : Int32))), (1, .long (((31 : Int64) * x1) + (yV x3.toNatClampNeg).toInt64)), (0, .ref (aM 0))]) hx hb dX5_digest_81 hl (k := 2) rfl rfl (by decide) rfl (fun ls hl => ?_)
        refine lv_goto (tgt := 59) hx hb dX5_digest_84 (by decide) ?_
        exact ih (((31 : Int64) * x1) + (yV x3.toNatClampNeg).toInt64) (x3 + (1 : Int32)) _ hf H locs ls hP hD hS (lv_sub hl [2, 1, 0] rfl) hE
  obtain ⟨u20, hg, hf⟩ := ob_s hf
  refine L59 _ u17.2.2 (0 : Int32) u20 hg H locs ls hP hD hS (lv_sub hl [1, 2, 0] rfl) (fun H locs ls hP hD hS hl => ?_)
  refine lv_iconst (v := (0 : Int32)) hx hb dX5_digest_87 (by decide) ?_
  refine lv_istore_n (lv' := [(3, .int (0 : Int32)), (0, .ref (aM 0)), (1, .long u20)]) hx hb dX5_digest_88 rfl hl (by decide) rfl (fun ls hl => ?_)
  have L89 : ∀ (ct : Nat) (xc : Int32) (yM : Nat → Int32) (x1 : Int64) (x3 : Int32) (v89 : Int32 × (Nat → Int32) × Int64), fX5_digest_L89 N xw xh xn ct xc yM x1 x3 = some v89 → ∀ (H : Heap) (locs : List Loc) (ls : Array Slot), va_P D classes (wM cx aM xw xh xk xj xb xr xc xv xn xl yR yT yC yW yA yE yU yM yV yF yZ yI yD) H → va_D A (wM cx aM xw xh xk xj xb xr xc xv xn xl yR yT yC yW yA yE yU yM yV yF yZ yI yD) → va_S A s.heap H locs → lv_has ls 4 [(0, .ref (aM 0)), (1, .long x1), (3, .int x3)] → (∀ (H : Heap) (locs : List Loc) (ls : Array Slot), va_P D classes (wM cx aM xw xh xk xj xb xr v89.1 xv xn xl yR yT yC yW yA yE yU v89.2.1 yV yF yZ yI yD) H → va_D A (wM cx aM xw xh xk xj xb xr v89.1 xv xn xl yR yT yC yW yA yE yU v89.2.1 yV yF yZ yI yD) → va_S A s.heap H locs → lv_has ls 4 [(1, .long v89.2.2)] → W p l e rmX5_digest s m ([.ref (aM 0)] : List Value).toArray below meth c H locs 0 0 (MQ below (kc_Pl D (fun _ : Unit => (wM cx aM xw xh xk xj xb xr v.2.1 xv xn xl yR yT yC yW yA yE yU v.2.2 yV yF yZ yI yD)) v.1 A) ([.ref (aM 0)] : List Value).toArray s 0 0 A) (F0 m 121 ls [])) → W p l e rmX5_digest s m ([.ref (aM 0)] : List Value).toArray below meth c H locs 0 0 (MQ below (kc_Pl D (fun _ : Unit => (wM cx aM xw xh xk xj xb xr v.2.1 xv xn xl yR yT yC yW yA yE yU v.2.2 yV yF yZ yI yD)) v.1 A) ([.ref (aM 0)] : List Value).toArray s 0 0 A) (F0 m 89 ls []) := by
    intro ct
    induction ct with
    | zero =>
      intro xc yM x1 x3 v89 hf
      exact absurd (show (none : Option (Int32 × (Nat → Int32) × Int64)) = some v89 from hf) (fun q => by cases q)
    | succ ct ih =>
      intro xc yM x1 x3 v89 hf H locs ls hP hD hS hl hE
      rw [fX5_digest_L89] at hf
      refine lv_iload_n hx hb dX5_digest_89 rfl (lv_at hl 2 rfl) ?_
      refine lv_aload_n hx hb dX5_digest_90 rfl (lv_at hl 0 rfl) ?_
      refine va_get (D := D) (ci := 5) (v := .int xw) (C := RX5) (T := TX5) (N := 23) hx hb hts iX5 hown hK hP 0 rfl rfl 0 (by decide) (hts _ wd_640) (fun _ h9 => h9) rfl dX5_digest_91 ?_
      refine lv_aload_n hx hb dX5_digest_94 rfl (lv_at hl 0 rfl) ?_
      refine va_get (D := D) (ci := 5) (v := .int xh) (C := RX5) (T := TX5) (N := 23) hx hb hts iX5 hown hK hP 0 rfl rfl 1 (by decide) (hts _ wd_641) (fun _ h9 => h9) rfl dX5_digest_95 ?_
      refine lv_imul hx hb dX5_digest_98 ?_
      refine lv_icmp_ge (tgt := 121) hx hb dX5_digest_99 (by decide) (fun c23 => ?_) (fun c23 => ?_)
      · replace hf := it_t c23 hf
        obtain rfl := Option.some.inj hf
        exact hE H locs ls hP hD hS (lv_sub hl [1] rfl)
      · replace hf := it_f c23 hf
        refine lv_ldc2 hx hb hown (hts _ wd_877) dX5_digest_102 ?_
        refine lv_lload_n hx hb dX5_digest_105 rfl (lv_at hl 1 rfl) ?_
        refine lv_lmul hx hb dX5_digest_106 ?_
        refine lv_aload_n hx hb dX5_digest_107 rfl (lv_at hl 0 rfl) ?_
        refine lv_iload_n hx hb dX5_digest_108 rfl (lv_at hl 2 rfl) ?_
        obtain ⟨u24, hg, hf⟩ := ob_s hf
        refine kc_calli (wn := fun _ => (wM cx aM xw xh xk xj xb xr u24.2.1 xv xn xl yR yT yC yW yA yE yU u24.2.2 yV yF yZ yI yD)) (va_runV (As := [.int x3]) (rest := [.long ((31 : Int64) * x1)]) ⟨hx, hb, hml, hown, hts⟩ (metX5_at l D cx aM xw xh xk xj xb xr xc xv xn xl yR yT yC yW yA yE yU yM yV yF yZ yI yD x3 N H.size u24 hg) ⟨callB_of 1 hts (kc_gI wd_746) rfl rfl rfl (hts _ wd_46) (hts _ wd_879) (by decide +kernel) ⟨Nat.le_of_ble_eq_true rfl, Nat.le_of_ble_eq_true rfl⟩, hts _ wd_744, hts _ wd_745⟩ ⟨kc_blind _ _ _ _ _, va_recv hK hP (ci := 5) (q0 := 0) rfl rfl, kc_pre _ hK hN (hP.sub [0, 1, 2, 3, 4, 5, 6, 7, 8, 9, 10, 11, 12, 13] rfl) (hD.sub [0, 1, 2, 3, 4, 5, 6, 7, 8, 9, 10, 11, 12, 13] (by decide) rfl)⟩ rfl rfl hl.1 rfl (lv_room (Nat.le_of_ble_eq_true rfl)) dX5_digest_109 ⟨Nat.zero_le _, Nat.zero_le _⟩) hP hD hS hA [0, 1, 2, 3, 4, 5, 6, 7, 8, 9, 10, 11, 12, 13] [] [0, 1, 2, 3, 4, 5, 6, 7, 8, 9, 10, 11, 12, 13] rfl rfl (by decide) (by decide) (fun _ => rfl) (by decide) (fun _ H locs hP hD hS => ?_)
        have hP : va_P D classes (wM cx aM xw xh xk xj xb xr u24.2.1 xv xn xl yR yT yC yW yA yE yU u24.2.2 yV yF yZ yI yD) H := hP
        have hD : va_D A (wM cx aM xw xh xk xj xb xr u24.2.1 xv xn xl yR yT yC yW yA yE yU u24.2.2 yV yF yZ yI yD) := hD
        refine lv_i2l hx hb dX5_digest_112 rfl ?_
        refine lv_ladd hx hb dX5_digest_113 ?_
        refine lv_lstore_n (lv' := [(1, .long (((31 : Int64) * x1) + u24.1.toInt64)), (0, .ref (aM 0)), (3, .int x3)]) hx hb dX5_digest_114 rfl hl (by decide) rfl (fun ls hl => ?_)
        refine lv_iinc (v := (x3 + (1 : Int32))) (lv' := [(3, .int (x3 + (1 : Int32))), (1, .long (((31 : Int64) * x1) + u24.1.toInt64)), (0, .ref (aM 0))]) hx hb dX5_digest_115 hl (k := 2) rfl rfl (by decide) rfl (fun ls hl => ?_)
        refine lv_goto (tgt := 89) hx hb dX5_digest_118 (by decide) ?_
        exact ih u24.2.1 u24.2.2 (((31 : Int64) * x1) + u24.1.toInt64) (x3 + (1 : Int32)) _ hf H locs ls hP hD hS (lv_sub hl [2, 1, 0] rfl) hE
  obtain ⟨u25, hg, hf⟩ := ob_s hf
  refine L89 _ u17.1 u17.2.1 u20 (0 : Int32) u25 hg H locs ls hP hD hS (lv_sub hl [1, 2, 0] rfl) (fun H locs ls hP hD hS hl => ?_)
  refine lv_lload_n hx hb dX5_digest_121 rfl (lv_at hl 0 rfl) ?_
  obtain rfl := Option.some.inj hf
  exact kc_lret () hx hb hr hk hP hD hS rfl dX5_digest_122
