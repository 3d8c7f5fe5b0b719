/-! walks, written by program: what a method answers and leaves, as a function; its contract -/
abbrev rmX5_board : Room := { frames := 7, cells := 0, slots := 0, locals := 165 }
set_option maxHeartbeats 4000000 in
set_option maxRecDepth 100000 in
theorem metX5_board (l : Launch) (D : va_G) (cx : Nat → ClassId) (aM : Nat → Nat) (xw : Int32) (xh : Int32) (xk : Int32) (xj : Int32) (xb : Int32) (xr : Int32) (xc : Int32) (xv : Int32) (xn : Int32) (xl : Int32) (yR : Nat → Int32) (yT : Nat → Int32) (yC : Nat → Int32) (yW : Nat → Int32) (yA : Nat → Int32) (yE : Nat → Int32) (yU : Nat → Int32) (yM : Nat → Int32) (yV : Nat → Int32) (yF : Nat → Int32) (yZ : Nat → Int32) (yI : Nat → Int32) (yD : Nat → Int32) (x1 : Int32) (x2 : Int32) (x3 : Int32) (x4 : Int32) (N : Nat) (sz : Nat) (v : Int32 × Int32 × Int32 × Int32 × Int32 × Int32 × Int32 × Int32 × Int32 × Int32 × (Nat → Int32) × (Nat → Int32) × (Nat → Int32) × (Nat → Int32) × (Nat → Int32) × (Nat → Int32) × (Nat → Int32) × (Nat → Int32)) (hf : fX5_board N xw xh xk xj xb xr xc xv xn yR yT yC yW yA yE yU yM yV x1 x2 x3 x4 = some v) : Met l yX5_board (.code yX5_board cX5_board 5 (some .int) :: kc_TB) rmX5_board (kc_Pre D cx (wM cx aM xw xh xk xj xb xr xc xv xn xl yR yT yC yW yA yE yU yM yV yF yZ yI yD) [.ref (aM 0), .int x1, .int x2, .int x3, .int x4] sz) (kc_Pi D (fun _ : Unit => (wM cx aM v.2.1 v.2.2.1 v.2.2.2.1 v.2.2.2.2.1 v.2.2.2.2.2.1 v.2.2.2.2.2.2.1 v.2.2.2.2.2.2.2.1 v.2.2.2.2.2.2.2.2.1 v.2.2.2.2.2.2.2.2.2.1 xl v.2.2.2.2.2.2.2.2.2.2.1 v.2.2.2.2.2.2.2.2.2.2.2.1 v.2.2.2.2.2.2.2.2.2.2.2.2.1 v.2.2.2.2.2.2.2.2.2.2.2.2.2.1 v.2.2.2.2.2.2.2.2.2.2.2.2.2.2.1 v.2.2.2.2.2.2.2.2.2.2.2.2.2.2.2.1 v.2.2.2.2.2.2.2.2.2.2.2.2.2.2.2.2.1 v.2.2.2.2.2.2.2.2.2.2.2.2.2.2.2.2.2 yV yF yZ yI yD)) v.1 (va_A (wM cx aM xw xh xk xj xb xr xc xv xn xl yR yT yC yW yA yE yU yM yV yF yZ yI yD) sz)) 0 0 (va_A (wM cx aM xw xh xk xj xb xr xc xv xn xl yR yT yC yW yA yE yU yM yV yF yZ yI yD) sz) := by
  refine kc_entry (Qc := fun A => (kc_Pi D (fun _ : Unit => (wM cx aM v.2.1 v.2.2.1 v.2.2.2.1 v.2.2.2.2.1 v.2.2.2.2.2.1 v.2.2.2.2.2.2.1 v.2.2.2.2.2.2.2.1 v.2.2.2.2.2.2.2.2.1 v.2.2.2.2.2.2.2.2.2.1 xl v.2.2.2.2.2.2.2.2.2.2.1 v.2.2.2.2.2.2.2.2.2.2.2.1 v.2.2.2.2.2.2.2.2.2.2.2.2.1 v.2.2.2.2.2.2.2.2.2.2.2.2.2.1 v.2.2.2.2.2.2.2.2.2.2.2.2.2.2.1 v.2.2.2.2.2.2.2.2.2.2.2.2.2.2.2.1 v.2.2.2.2.2.2.2.2.2.2.2.2.2.2.2.2.1 v.2.2.2.2.2.2.2.2.2.2.2.2.2.2.2.2.2 yV yF yZ yI yD)) v.1 A)) (by decide) (Nat.le_of_ble_eq_true rfl) ?_
  intro p e s m below meth c A hx hb hr hk hml hown hin hts hN hK hP hD hS hA ls hl
  have hown : s.vm.findClass RX5 = some m.cls := hown
  have hl : lv_has ls 5 [(0, .ref (aM 0)), (1, .int x1), (2, .int x2), (3, .int x3), (4, .int x4)] := hl
  unfold fX5_board at hf
  have hP : va_P D classes (wM cx aM xw xh xk xj xb xr xc xv xn xl yR yT yC yW yA yE yU yM yV yF yZ yI yD) s.heap := hP
  obtain ⟨H, hH⟩ : ∃ H, H = s.heap := ⟨_, rfl⟩
  obtain ⟨locs, hL⟩ : ∃ locs : List Loc, locs = [] := ⟨_, rfl⟩
  have hS : va_S A s.heap H locs := by rw [hH, hL]; exact hS
  have hP : va_P D classes (wM cx aM xw xh xk xj xb xr xc xv xn xl yR yT yC yW yA yE yU yM yV yF yZ yI yD) H := by rw [hH]; exact hP
  suffices hW : W p l e rmX5_board s m ([.ref (aM 0), .int x1, .int x2, .int x3, .int x4] : List Value).toArray below meth c H locs 0 0 (MQ below (kc_Pi D (fun _ : Unit => (wM cx aM v.2.1 v.2.2.1 v.2.2.2.1 v.2.2.2.2.1 v.2.2.2.2.2.1 v.2.2.2.2.2.2.1 v.2.2.2.2.2.2.2.1 v.2.2.2.2.2.2.2.2.1 v.2.2.2.2.2.2.2.2.2.1 xl v.2.2.2.2.2.2.2.2.2.2.1 v.2.2.2.2.2.2.2.2.2.2.2.1 v.2.2.2.2.2.2.2.2.2.2.2.2.1 v.2.2.2.2.2.2.2.2.2.2.2.2.2.1 v.2.2.2.2.2.2.2.2.2.2.2.2.2.2.1 v.2.2.2.2.2.2.2.2.2.2.2.2.2.2.2.1 v.2.2.2.2.2.2.2.2.2.2.2.2.2.2.2.2.1 v.2.2.2.2.2.2.2.2.2.2.2.2.2.2.2.2.2 yV yF yZ yI yD)) v.1 A) ([.ref (aM 0), .int x1, .int x2, .int x3, .int x4] : List Value).toArray s 0 0 A) (F0 m 0 ls []) by rw [hH, hL] at hW; exact hW
  clear hH hL
  refine lv_iload_n hx hb dX5_board_0 rfl (lv_at hl 1 rfl) ?_
  refine lv_i2l hx hb dX5_board_1 rfl ?_
  refine lv_lconst (v := (1 : Int64)) hx hb dX5_board_2 (by decide) ?_
  refine lv_ldc2 hx hb hown (hts _ wd_715) dX5_board_3 ?_
  obtain ⟨u10, hg, hf⟩ := ob_s hf
  refine kc_calli (wn := fun _ => (wM cx aM xw xh xk xj xb xr xc xv xn xl yR yT yC yW yA yE yU yM yV yF yZ yI yD)) (va_runS (As := [.long x1.toInt64, .long (1 : Int64), .long (7 : Int64)]) (rest := []) ⟨hx, hb, hml, hown, hts⟩ (metX5_in l D cx   x1.toInt64 (1 : Int64) (7 : Int64) N H.size u10 hg) ⟨callB_of 3 hts (kc_gI wd_587) rfl rfl rfl (hts _ wd_46) (hts _ wd_585) (by decide +kernel) ⟨Nat.le_of_ble_eq_true rfl, Nat.le_of_ble_eq_true rfl⟩, hts _ wd_586⟩ ⟨kc_blind _ _ _ _ _, kc_pre _ hK hN (hP.sub [] rfl) (hD.sub [] (by decide) rfl)⟩ rfl rfl hl.1 rfl (lv_room (Nat.le_of_ble_eq_true rfl)) dX5_board_6 ⟨Nat.zero_le _, Nat.zero_le _⟩) hP hD hS hA [] [0, 1, 2, 3, 4, 5, 6, 7, 8, 9, 10, 11, 12, 13] [0, 1, 2, 3, 4, 5, 6, 7, 8, 9, 10, 11, 12, 13] rfl rfl (by decide) (by decide) (fun _ => rfl) (by decide) (fun _ H locs hP hD hS => ?_)
  have hP : va_P D classes (wM cx aM xw xh xk xj xb xr xc xv xn xl yR yT yC yW yA yE yU yM yV yF yZ yI yD) H := hP
  have hD : va_D A (wM cx aM xw xh xk xj xb xr xc xv xn xl yR yT yC yW yA yE yU yM yV yF yZ yI yD) := hD
  refine lv_if_eq (tgt := 46) hx hb dX5_board_9 (by decide) (fun c11 => ?_) (fun c11 => ?_)
  · replace hf := it_t c11 hf
    refine lv_sipush (v := (-200 : Int32)) hx hb dX5_board_46 (by decide) ?_
    obtain rfl := Option.some.inj hf
    exact kc_iret () hx hb hr hk hP hD hS rfl dX5_board_49
  · replace hf := it_f c11 hf
    refine lv_iload_n hx hb dX5_board_12 rfl (lv_at hl 2 rfl) ?_
    refine lv_i2l hx hb dX5_board_13 rfl ?_
    refine lv_lconst (v := (1 : Int64)) hx hb dX5_board_14 (by decide) ?_
    refine lv_ldc2 hx hb hown (hts _ wd_716) dX5_board_15 ?_
    obtain ⟨u12, hg, hf⟩ := ob_s hf
    refine kc_calli (wn := fun _ => (wM cx aM xw xh xk xj xb xr xc xv xn xl yR yT yC yW yA yE yU yM yV yF yZ yI yD)) (va_runS (As := [.long x2.toInt64, .long (1 : Int64), .long (6 : Int64)]) (rest := []) ⟨hx, hb, hml, hown, hts⟩ (metX5_in l D cx   x2.toInt64 (1 : Int64) (6 : Int64) N H.size u12 hg) ⟨callB_of 3 hts (kc_gI wd_587) rfl rfl rfl (hts _ wd_46) (hts _ wd_585) (by decide +kernel) ⟨Nat.le_of_ble_eq_true rfl, Nat.le_of_ble_eq_true rfl⟩, hts _ wd_586⟩ ⟨kc_blind _ _ _ _ _, kc_pre _ hK hN (hP.sub [] rfl) (hD.sub [] (by decide) rfl)⟩ rfl rfl hl.1 rfl (lv_room (Nat.le_of_ble_eq_true rfl)) dX5_board_18 ⟨Nat.zero_le _, Nat.zero_le _⟩) hP hD hS hA [] [0, 1, 2, 3, 4, 5, 6, 7, 8, 9, 10, 11, 12, 13] [0, 1, 2, 3, 4, 5, 6, 7, 8, 9, 10, 11, 12, 13] rfl rfl (by decide) (by decide) (fun _ => rfl) (by decide) (fun _ H locs hP hD hS => ?_)
    have hP : va_P D classes (wM cx aM xw xh xk xj xb xr xc xv xn xl yR yT yC yW yA yE yU yM yV yF yZ yI yD) H := hP
    have hD : va_D A (wM cx aM xw xh xk xj xb xr xc xv xn xl yR yT yC yW yA yE yU yM yV yF yZ yI yD) := hD
    refine lv_if_eq (tgt := 46) hx hb dX5_board_21 (by decide) (fun c13 => ?_) (fun c13 => ?_)
    · replace hf := it_t c13 hf
      refine lv_sipush (v := (-200 : Int32)) hx hb dX5_board_46 (by decide) ?_
      obtain rfl := Option.some.inj hf
      exact kc_iret () hx hb hr hk hP hD hS rfl dX5_board_49
    · replace hf := it_f c13 hf
      refine lv_iload_n hx hb dX5_board_24 rfl (lv_at hl 1 rfl) ?_
      refine lv_iload_n hx hb dX5_board_25 rfl (lv_at hl 2 rfl) ?_
      refine lv_imul hx hb dX5_board_26 ?_
      refine lv_bipush (v := (16 : Int32)) hx hb dX5_board_27 (by decide) ?_
      refine lv_icmp_gt (tgt := 46) hx hb dX5_board_29 (by decide) (fun c14 => ?_) (fun c14 => ?_)
      · replace hf := it_t c14 hf
        refine lv_sipush (v := (-200 : Int32)) hx hb dX5_board_46 (by decide) ?_
        obtain rfl := Option.some.inj hf
        exact kc_iret () hx hb hr hk hP hD hS rfl dX5_board_49
      · replace hf := it_f c14 hf
        refine lv_iload_n hx hb dX5_board_32 rfl (lv_at hl 3 rfl) ?_
        refine lv_i2l hx hb dX5_board_33 rfl ?_
        refine lv_ldc2 hx hb hown (hts _ wd_717) dX5_board_34 ?_
        refine lv_ldc2 hx hb hown (hts _ wd_718) dX5_board_37 ?_
        obtain ⟨u15, hg, hf⟩ := ob_s hf
        refine kc_calli (wn := fun _ => (wM cx aM xw xh xk xj xb xr xc xv xn xl yR yT yC yW yA yE yU yM yV yF yZ yI yD)) (va_runS (As := [.long x3.toInt64, .long (2 : Int64), .long (4 : Int64)]) (rest := []) ⟨hx, hb, hml, hown, hts⟩ (metX5_in l D cx   x3.toInt64 (2 : Int64) (4 : Int64) N H.size u15 hg) ⟨callB_of 3 hts (kc_gI wd_587) rfl rfl rfl (hts _ wd_46) (hts _ wd_585) (by decide +kernel) ⟨Nat.le_of_ble_eq_true rfl, Nat.le_of_ble_eq_true rfl⟩, hts _ wd_586⟩ ⟨kc_blind _ _ _ _ _, kc_pre _ hK hN (hP.sub [] rfl) (hD.sub [] (by decide) rfl)⟩ rfl rfl hl.1 rfl (lv_room (Nat.le_of_ble_eq_true rfl)) dX5_board_40 ⟨Nat.zero_le _, Nat.zero_le _⟩) hP hD hS hA [] [0, 1, 2, 3, 4, 5, 6, 7, 8, 9, 10, 11, 12, 13] [0, 1, 2, 3, 4, 5, 6, 7, 8, 9, 10, 11, 12, 13] rfl rfl (by decide) (by decide) (fun _ => rfl) (by decide) (fun _ H locs hP hD hS => ?_)
        have hP : va_P D classes (wM cx aM xw xh xk xj xb xr xc xv xn xl yR yT yC yW yA yE yU yM yV yF yZ yI yD) H := hP
        have hD : va_D A (wM cx aM xw xh xk xj xb xr xc xv xn xl yR yT yC yW yA yE yU yM yV yF yZ yI yD) := hD
        refine lv_if_ne (tgt := 50) hx hb dX5_board_43 (by decide) (fun c16 => ?_) (fun c16 => ?_)
        · replace hf := it_f c16 hf
          refine lv_aload_n hx hb dX5_board_50 rfl (lv_at hl 0 rfl) ?_
          refine va_get (D := D) (ci := 5) (v := .int xb) (C := RX5) (T := TX5) (N := 23) hx hb hts iX5 hown hK hP 0 rfl rfl 4 (by decide) (hts _ wd_644) (fun _ h9 => h9) rfl dX5_board_51 ?_
          refine lv_bipush (v := (12 : Int32)) hx hb dX5_board_54 (by decide) ?_
          refine lv_icmp_ne (tgt := 63) hx hb dX5_board_56 (by decide) (fun c17 => ?_) (fun c17 => ?_)
          · replace hf := it_f c17 hf
            refine lv_aload_n hx hb dX5_board_63 rfl (lv_at hl 0 rfl) ?_
            refine lv_dup hx hb dX5_board_64 rfl ?_
            refine va_get (D := D) (ci := 5) (v := .int xb) (C := RX5) (T := TX5) (N := 23) hx hb hts iX5 hown hK hP 0 rfl rfl 4 (by decide) (hts _ wd_644) (fun _ h9 => h9) rfl dX5_board_65 ?_
            refine lv_iconst (v := (1 : Int32)) hx hb dX5_board_68 (by decide) ?_
            refine lv_iadd hx hb dX5_board_69 ?_
            refine va_put (D := D) (ci := 5) (v := .int (xb + (1 : Int32))) (ty := .int) (C := RX5) (T := TX5) (N := 23) hx hb hts iX5 tyX5 tyX5_ok nmX5 hown hK hP hD hS 0 rfl rfl 4 (by decide) (hts _ wd_644) (fun _ h9 => h9) rfl (by decide +kernel) rfl rfl (Nat.le_of_ble_eq_true rfl) dX5_board_70 (fun H locs hP hD hS => ?_)
            have hP : va_P D classes (wM cx aM xw xh xk xj (xb + (1 : Int32)) xr xc xv xn xl yR yT yC yW yA yE yU yM yV yF yZ yI yD) H := hP
            have hD : va_D A (wM cx aM xw xh xk xj (xb + (1 : Int32)) xr xc xv xn xl yR yT yC yW yA yE yU yM yV yF yZ yI yD) := hD
            refine lv_aload_n hx hb dX5_board_73 rfl (lv_at hl 0 rfl) ?_
            refine lv_iload_n hx hb dX5_board_74 rfl (lv_at hl 1 rfl) ?_
            refine lv_iload_n hx hb dX5_board_75 rfl (lv_at hl 2 rfl) ?_
            refine lv_iload_n hx hb dX5_board_76 rfl (lv_at hl 3 rfl) ?_
            refine lv_iload hx hb dX5_board_77 (lv_at hl 4 rfl) ?_
            obtain ⟨u18, hg, hf⟩ := ob_s hf
            refine kc_callv (wn := fun _ => (wM cx aM u18.1 u18.2.1 u18.2.2.1 u18.2.2.2.1 (xb + (1 : Int32)) u18.2.2.2.2.1 u18.2.2.2.2.2.1 u18.2.2.2.2.2.2.1 u18.2.2.2.2.2.2.2.1 xl u18.2.2.2.2.2.2.2.2.1 u18.2.2.2.2.2.2.2.2.2.1 u18.2.2.2.2.2.2.2.2.2.2.1 u18.2.2.2.2.2.2.2.2.2.2.2.1 u18.2.2.2.2.2.2.2.2.2.2.2.2.1 u18.2.2.2.2.2.2.2.2.2.2.2.2.2.1 u18.2.2.2.2.2.2.2.2.2.2.2.2.2.2.1 u18.2.2.2.2.2.2.2.2.2.2.2.2.2.2.2 yV yF yZ yI yD)) (va_runV (As := [.int x1, .int x2, .int x3, .int x4]) (rest := []) ⟨hx, hb, hml, hown, hts⟩ (metX5_begin l D cx aM xw xh xk xj (xb + (1 : Int32)) xr xc xv xn xl yR yT yC yW yA yE yU yM yV yF yZ yI yD x1 x2 x3 x4 N H.size u18 hg) ⟨callB_of 4 hts (kc_gI wd_576) rfl rfl rfl (hts _ wd_46) (hts _ wd_573) (by decide +kernel) ⟨Nat.le_of_ble_eq_true rfl, Nat.le_of_ble_eq_true rfl⟩, hts _ wd_575, hts _ wd_15⟩ ⟨kc_blind _ _ _ _ _, va_recv hK hP (ci := 5) (q0 := 0) rfl rfl, kc_pre _ hK hN (hP.sub [0, 1, 2, 3, 4, 5, 6, 7, 8, 9, 10, 11, 12, 13] rfl) (hD.sub [0, 1, 2, 3, 4, 5, 6, 7, 8, 9, 10, 11, 12, 13] (by decide) rfl)⟩ rfl rfl hl.1 rfl (lv_room (Nat.le_of_ble_eq_true rfl)) dX5_board_79 ⟨Nat.zero_le _, Nat.zero_le _⟩) hP hD hS hA [0, 1, 2, 3, 4, 5, 6, 7, 8, 9, 10, 11, 12, 13] [] [0, 1, 2, 3, 4, 5, 6, 7, 8, 9, 10, 11, 12, 13] rfl rfl (by decide) (by decide) (fun _ => rfl) (by decide) (fun _ H locs hP hD hS => ?_)
            have hP : va_P D classes (wM cx aM u18.1 u18.2.1 u18.2.2.1 u18.2.2.2.1 (xb + (1 : Int32)) u18.2.2.2.2.1 u18.2.2.2.2.2.1 u18.2.2.2.2.2.2.1 u18.2.2.2.2.2.2.2.1 xl u18.2.2.2.2.2.2.2.2.1 u18.2.2.2.2.2.2.2.2.2.1 u18.2.2.2.2.2.2.2.2.2.2.1 u18.2.2.2.2.2.2.2.2.2.2.2.1 u18.2.2.2.2.2.2.2.2.2.2.2.2.1 u18.2.2.2.2.2.2.2.2.2.2.2.2.2.1 u18.2.2.2.2.2.2.2.2.2.2.2.2.2.2.1 u18.2.2.2.2.2.2.2.2.2.2.2.2.2.2.2 yV yF yZ yI yD) H := hP
            have hD : va_D A (wM cx aM u18.1 u18.2.1 u18.2.2.1 u18.2.2.2.1 (xb + (1 : Int32)) u18.2.2.2.2.1 u18.2.2.2.2.2.1 u18.2.2.2.2.2.2.1 u18.2.2.2.2.2.2.2.1 xl u18.2.2.2.2.2.2.2.2.1 u18.2.2.2.2.2.2.2.2.2.1 u18.2.2.2.2.2.2.2.2.2.2.1 u18.2.2.2.2.2.2.2.2.2.2.2.1 u18.2.2.2.2.2.2.2.2.2.2.2.2.1 u18.2.2.2.2.2.2.2.2.2.2.2.2.2.1 u18.2.2.2.2.2.2.2.2.2.2.2.2.2.2.1 u18.2.2.2.2.2.2.2.2.2.2.2.2.2.2.2 yV yF yZ yI yD) := hD
            refine lv_aload_n hx hb dX5_board_82 rfl (lv_at hl 0 rfl) ?_
            refine va_get (D := D) (ci := 5) (v := .int u18.2.2.2.2.1) (C := RX5) (T := TX5) (N := 23) hx hb hts iX5 hown hK hP 0 rfl rfl 5 (by decide) (hts _ wd_645) (fun _ h9 => h9) rfl dX5_board_83 ?_
            obtain rfl := Option.some.inj hf
            exact kc_iret () hx hb hr hk hP hD hS rfl dX5_board_86
          · replace hf := it_t c17 hf
            refine lv_sipush (v := (-202 : Int32)) hx hb dX5_board_59 (by decide) ?_
            obtain rfl := Option.some.inj hf
            exact kc_iret () hx hb hr hk hP hD hS rfl dX5_board_62
        · replace hf := it_t c16 hf
          refine lv_sipush (v := (-200 : Int32)) hx hb dX5_board_46 (by decide) ?_
          obtain rfl := Option.some.inj hf
          exact kc_iret () hx hb hr hk hP hD hS rfl dX5_board_49
abbrev rmX5_isOver : Room := { frames := 0, cells := 0, slots := 0, locals := 0 }
set_option maxHeartbeats 4000000 in
set_option maxRecDepth 100000 in
theorem metX5_isOver (l : Launch) (D : va_G) (cx : Nat → ClassId) (aM : Nat → Nat) (xw : Int32) (xh : Int32) (xk : Int32) (xj : Int32) (xb : Int32) (xr : Int32) (xc : Int32) (xv : Int32) (xn : Int32) (xl : Int32) (yR : Nat → Int32) (yT : Nat → Int32) (yC : Nat → Int32) (yW : Nat → Int32) (yA : Nat → Int32) (yE : Nat → Int32) (yU : Nat → Int32) (yM : Nat → Int32) (yV : Nat → Int32) (yF : Nat → Int32) (yZ : Nat → Int32) (yI : Nat → Int32) (yD : Nat → Int32)  (N : Nat) (sz : Nat) (v : Int32) (hf : fX5_isOver N xn yT = some v) : Met l yX5_isOver (.code yX5_isOver cX5_isOver 1 (some .boolean) :: kc_TB) rmX5_isOver (kc_Pre D cx (wM cx aM xw xh xk xj xb xr xc xv xn xl yR yT yC yW yA yE yU yM yV yF yZ yI yD) [.ref (aM 0)] sz) (kc_Pi D (fun _ : Unit => (wM cx aM xw xh xk xj xb xr xc xv xn xl yR yT yC yW yA yE yU yM yV yF yZ yI yD)) v (va_A (wM cx aM xw xh xk xj xb xr xc xv xn xl yR yT yC yW yA yE yU yM yV yF yZ yI yD) sz)) 0 0 (va_A (wM cx aM xw xh xk xj xb xr xc xv xn xl yR yT yC yW yA yE yU yM yV yF yZ yI yD) sz) := by
  refine kc_entry (Qc := fun A => (kc_Pi D (fun _ : Unit => (wM cx aM xw xh xk xj xb xr xc xv xn xl yR yT yC yW yA yE yU yM yV yF yZ yI yD)) v A)) (by decide) (Nat.le_of_ble_eq_true rfl) ?_
  intro p e s m below meth c A hx hb hr hk hml hown hin hts hN hK hP hD hS hA ls hl
  have hown : s.vm.findClass RX5 = some m.cls := hown
  have hl : lv_has ls 1 [(0, .ref (aM 0))] := hl
  unfold fX5_isOver at hf
  have hP : va_P D classes (wM cx aM xw xh xk xj xb xr xc xv xn xl yR yT yC yW yA yE yU yM yV yF yZ yI yD) s.heap := hP
  obtain ⟨H, hH⟩ : ∃ H, H = s.heap := ⟨_, rfl⟩
  obtain ⟨locs, hL⟩ : ∃ locs : List Loc, locs = [] := ⟨_, rfl⟩
  have hS : va_S A s.heap H locs := by rw [hH, hL]; exact hS
  have hP : va_P D classes (wM cx aM xw xh xk xj xb xr xc xv xn xl yR yT yC yW yA yE yU yM yV yF yZ yI yD) H := by rw [hH]; exact hP
  suffices hW : W p l e rmX5_isOver s m ([.ref (aM 0)] : List Value).toArray below meth c H locs 0 0 (MQ below (kc_Pi D (fun _ : Unit => (wM cx aM xw xh xk xj xb xr xc xv xn xl yR yT yC yW yA yE yU yM yV yF yZ yI yD)) v A) ([.ref (aM 0)] : List Value).toArray s 0 0 A) (F0 m 0 ls []) by rw [hH, hL] at hW; exact hW
  clear hH hL
  refine lv_aload_n hx hb dX5_isOver_0 rfl (lv_at hl 0 rfl) ?_
  refine va_get (D := D) (ci := 5) (v := .ref (aM 2)) (C := RX5) (T := TX5) (N := 23) hx hb hts iX5 hown hK hP 0 rfl rfl 7 (by decide) (hts _ wd_647) (fun _ h9 => h9) rfl dX5_isOver_1 ?_
  refine lv_aload_n hx hb dX5_isOver_4 rfl (lv_at hl 0 rfl) ?_
  refine va_get (D := D) (ci := 5) (v := .int xn) (C := RX5) (T := TX5) (N := 23) hx hb hts iX5 hown hK hP 0 rfl rfl 17 (by decide) (hts _ wd_657) (fun _ h9 => h9) rfl dX5_isOver_5 ?_
  obtain ⟨hz, hf⟩ := okb_s hf
  refine va_bald (D := D) hx hb hK hP 2 1 rfl rfl (inb_s hz) dX5_isOver_8 ?_
  refine lv_bipush (v := (127 : Int32)) hx hb dX5_isOver_9 (by decide) ?_
  refine lv_icmp_eq (tgt := 28) hx hb dX5_isOver_11 (by decide) (fun c3 => ?_) (fun c3 => ?_)
  · replace hf := it_t c3 hf
    refine lv_iconst (v := (1 : Int32)) hx hb dX5_isOver_28 (by decide) ?_
    refine lv_goto (tgt := 33) hx hb dX5_isOver_29 (by decide) ?_
    obtain rfl := Option.some.inj hf
    exact kc_zret () hx hb hr hk hP hD hS rfl rfl dX5_isOver_33
  · replace hf := it_f c3 hf
    refine lv_aload_n hx hb dX5_isOver_14 rfl (lv_at hl 0 rfl) ?_
    refine va_get (D := D) (ci := 5) (v := .ref (aM 2)) (C := RX5) (T := TX5) (N := 23) hx hb hts iX5 hown hK hP 0 rfl rfl 7 (by decide) (hts _ wd_647) (fun _ h9 => h9) rfl dX5_isOver_15 ?_
    refine lv_aload_n hx hb dX5_isOver_18 rfl (lv_at hl 0 rfl) ?_
    refine va_get (D := D) (ci := 5) (v := .int xn) (C := RX5) (T := TX5) (N := 23) hx hb hts iX5 hown hK hP 0 rfl rfl 17 (by decide) (hts _ wd_657) (fun _ h9 => h9) rfl dX5_isOver_19 ?_
    obtain ⟨hz, hf⟩ := okb_s hf
    refine va_bald (D := D) hx hb hK hP 2 1 rfl rfl (inb_s hz) dX5_isOver_22 ?_
    refine lv_bipush (v := (126 : Int32)) hx hb dX5_isOver_23 (by decide) ?_
    refine lv_icmp_ne (tgt := 32) hx hb dX5_isOver_25 (by decide) (fun c4 => ?_) (fun c4 => ?_)
    · replace hf := it_f c4 hf
      refine lv_iconst (v := (0 : Int32)) hx hb dX5_isOver_32 (by decide) ?_
      obtain rfl := Option.some.inj hf
      exact kc_zret () hx hb hr hk hP hD hS rfl rfl dX5_isOver_33
    · replace hf := it_t c4 hf
      refine lv_iconst (v := (1 : Int32)) hx hb dX5_isOver_28 (by decide) ?_
      refine lv_goto (tgt := 33) hx hb dX5_isOver_29 (by decide) ?_
      obtain rfl := Option.some.inj hf
      exact kc_zret () hx hb hr hk hP hD hS rfl rfl dX5_isOver_33
abbrev rmX5_isFree : Room := { frames := 2, cells := 0, slots := 0, locals := 46 }
set_option maxHeartbeats 4000000 in
set_option maxRecDepth 100000 in
theorem metX5_isFree (l : Launch) (D : va_G) (cx : Nat → ClassId) (aM : Nat → Nat) (xw : Int32) (xh : Int32) (xk : Int32) (xj : Int32) (xb : Int32) (xr : Int32) (xc : Int32) (xv : Int32) (xn : Int32) (xl : Int32) (yR : Nat → Int32) (yT : Nat → Int32) (yC : Nat → Int32) (yW : Nat → Int32) (yA : Nat → Int32) (yE : Nat → Int32) (yU : Nat → Int32) (yM : Nat → Int32) (yV : Nat → Int32) (yF : Nat → Int32) (yZ : Nat → Int32) (yI : Nat → Int32) (yD : Nat → Int32) (x1 : Int32) (N : Nat) (sz : Nat) (v : Int32) (hf : fX5_isFree N xw xh xn x1 = some v) : Met l yX5_isFree (.code yX5_isFree cX5_isFree 2 (some .boolean) :: kc_TB) rmX5_isFree (kc_Pre D cx (wM cx aM xw xh xk xj xb xr xc xv xn xl yR yT yC yW yA yE yU yM yV yF yZ yI yD) [.ref (aM 0), .int x1] sz) (kc_Pi D (fun _ : Unit => (wM cx aM xw xh xk xj xb xr xc xv xn xl yR yT yC yW yA yE yU yM yV yF yZ yI yD)) v (va_A (wM cx aM xw xh xk xj xb xr xc xv xn xl yR yT yC yW yA yE yU yM yV yF yZ yI yD) sz)) 0 0 (va_A (wM cx aM xw xh xk xj xb xr xc xv xn xl yR yT yC yW yA yE yU yM yV yF yZ yI yD) sz) := by
  refine kc_entry (Qc := fun A => (kc_Pi D (fun _ : Unit => (wM cx aM xw xh xk xj xb xr xc xv xn xl yR yT yC yW yA yE yU yM yV yF yZ yI yD)) v A)) (by decide) (Nat.le_of_ble_eq_true rfl) ?_
  intro p e s m below meth c A hx hb hr hk hml hown hin hts hN hK hP hD hS hA ls hl
  have hown : s.vm.findClass RX5 = some m.cls := hown
  have hl : lv_has ls 2 [(0, .ref (aM 0)), (1, .int x1)] := hl
  unfold fX5_isFree at hf
  have hP : va_P D classes (wM cx aM xw xh xk xj xb xr xc xv xn xl yR yT yC yW yA yE yU yM yV yF yZ yI yD) s.heap := hP
  obtain ⟨H, hH⟩ : ∃ H, H = s.heap := ⟨_, rfl⟩
  obtain ⟨locs, hL⟩ : ∃ locs : List Loc, locs = [] := ⟨_, rfl⟩
  have hS : va_S A s.heap H locs := by rw [hH, hL]; exact hS
  have hP : va_P D classes (wM cx aM xw xh xk xj xb xr xc xv xn xl yR yT yC yW yA yE yU yM yV yF yZ yI yD) H := by rw [hH]; exact hP
  suffices hW : W p l e rmX5_isFree s m ([.ref (aM 0), .int x1] : List Value).toArray below meth c H locs 0 0 (MQ below (kc_Pi D (fun _ : Unit => (wM cx aM xw xh xk xj xb xr xc xv xn xl yR yT yC yW yA yE yU yM yV yF yZ yI yD)) v A) ([.ref (aM 0), .int x1] : List Value).toArray s 0 0 A) (F0 m 0 ls []) by rw [hH, hL] at hW; exact hW
  clear hH hL
  refine lv_iload_n hx hb dX5_isFree_0 rfl (lv_at hl 1 rfl) ?_
  refine lv_i2l hx hb dX5_isFree_1 rfl ?_
  refine lv_lconst (v := (0 : Int64)) hx hb dX5_isFree_2 (by decide) ?_
  refine lv_aload_n hx hb dX5_isFree_3 rfl (lv_at hl 0 rfl) ?_
  refine va_get (D := D) (ci := 5) (v := .int xw) (C := RX5) (T := TX5) (N := 23) hx hb hts iX5 hown hK hP 0 rfl rfl 0 (by decide) (hts _ wd_640) (fun _ h9 => h9) rfl dX5_isFree_4 ?_
  refine lv_iconst (v := (1 : Int32)) hx hb dX5_isFree_7 (by decide) ?_
  refine lv_isub hx hb dX5_isFree_8 ?_
  refine lv_i2l hx hb dX5_isFree_9 rfl ?_
  obtain ⟨u5, hg, hf⟩ := ob_s hf
  refine kc_calli (wn := fun _ => (wM cx aM xw xh xk xj xb xr xc xv xn xl yR yT yC yW yA yE yU yM yV yF yZ yI yD)) (va_runS (As := [.long x1.toInt64, .long (0 : Int64), .long (xw - (1 : Int32)).toInt64]) (rest := []) ⟨hx, hb, hml, hown, hts⟩ (metX5_in l D cx   x1.toInt64 (0 : Int64) (xw - (1 : Int32)).toInt64 N H.size u5 hg) ⟨callB_of 3 hts (kc_gI wd_587) rfl rfl rfl (hts _ wd_46) (hts _ wd_585) (by decide +kernel) ⟨Nat.le_of_ble_eq_true rfl, Nat.le_of_ble_eq_true rfl⟩, hts _ wd_586⟩ ⟨kc_blind _ _ _ _ _, kc_pre _ hK hN (hP.sub [] rfl) (hD.sub [] (by decide) rfl)⟩ rfl rfl hl.1 rfl (lv_room (Nat.le_of_ble_eq_true rfl)) dX5_isFree_10 ⟨Nat.zero_le _, Nat.zero_le _⟩) hP hD hS hA [] [0, 1, 2, 3, 4, 5, 6, 7, 8, 9, 10, 11, 12, 13] [0, 1, 2, 3, 4, 5, 6, 7, 8, 9, 10, 11, 12, 13] rfl rfl (by decide) (by decide) (fun _ => rfl) (by decide) (fun _ H locs hP hD hS => ?_)
  have hP : va_P D classes (wM cx aM xw xh xk xj xb xr xc xv xn xl yR yT yC yW yA yE yU yM yV yF yZ yI yD) H := hP
  have hD : va_D A (wM cx aM xw xh xk xj xb xr xc xv xn xl yR yT yC yW yA yE yU yM yV yF yZ yI yD) := hD
  refine lv_if_eq (tgt := 36) hx hb dX5_isFree_13 (by decide) (fun c6 => ?_) (fun c6 => ?_)
  · replace hf := it_t c6 hf
    refine lv_iconst (v := (0 : Int32)) hx hb dX5_isFree_36 (by decide) ?_
    obtain rfl := Option.some.inj hf
    exact kc_zret () hx hb hr hk hP hD hS rfl rfl dX5_isFree_37
  · replace hf := it_f c6 hf
    refine lv_aload_n hx hb dX5_isFree_16 rfl (lv_at hl 0 rfl) ?_
    refine lv_aload_n hx hb dX5_isFree_17 rfl (lv_at hl 0 rfl) ?_
    refine va_get (D := D) (ci := 5) (v := .int xn) (C := RX5) (T := TX5) (N := 23) hx hb hts iX5 hown hK hP 0 rfl rfl 17 (by decide) (hts _ wd_657) (fun _ h9 => h9) rfl dX5_isFree_18 ?_
    refine lv_iload_n hx hb dX5_isFree_21 rfl (lv_at hl 1 rfl) ?_
    obtain ⟨u7, hg, hf⟩ := ob_s hf
    refine kc_calli (wn := fun _ => (wM cx aM xw xh xk xj xb xr xc xv xn xl yR yT yC yW yA yE yU yM yV yF yZ yI yD)) (va_runV (As := [.int xn, .int x1]) (rest := []) ⟨hx, hb, hml, hown, hts⟩ (metX5_heightOf l D cx aM xw xh xk xj xb xr xc xv xn xl yR yT yC yW yA yE yU yM yV yF yZ yI yD xn x1 N H.size u7 hg) ⟨callB_of 2 hts (kc_gI wd_611) rfl rfl rfl (hts _ wd_46) (hts _ wd_608) (by decide +kernel) ⟨Nat.le_of_ble_eq_true rfl, Nat.le_of_ble_eq_true rfl⟩, hts _ wd_610, hts _ wd_23⟩ ⟨kc_blind _ _ _ _ _, va_recv hK hP (ci := 5) (q0 := 0) rfl rfl, kc_pre _ hK hN (hP.sub [0, 1, 2, 3, 4, 5, 6, 7, 8, 9, 10, 11, 12, 13] rfl) (hD.sub [0, 1, 2, 3, 4, 5, 6, 7, 8, 9, 10, 11, 12, 13] (by decide) rfl)⟩ rfl rfl hl.1 rfl (lv_room (Nat.le_of_ble_eq_true rfl)) dX5_isFree_22 ⟨Nat.zero_le _, Nat.zero_le _⟩) hP hD hS hA [0, 1, 2, 3, 4, 5, 6, 7, 8, 9, 10, 11, 12, 13] [] [0, 1, 2, 3, 4, 5, 6, 7, 8, 9, 10, 11, 12, 13] rfl rfl (by decide) (by decide) (fun _ => rfl) (by decide) (fun _ H locs hP hD hS => ?_)
    have hP : va_P D classes (wM cx aM xw xh xk xj xb xr xc xv xn xl yR yT yC yW yA yE yU yM yV yF yZ yI yD) H := hP
    have hD : va_D A (wM cx aM xw xh xk xj xb xr xc xv xn xl yR yT yC yW yA yE yU yM yV yF yZ yI yD) := hD
    refine lv_aload_n hx hb dX5_isFree_25 rfl (lv_at hl 0 rfl) ?_
    refine va_get (D := D) (ci := 5) (v := .int xh) (C := RX5) (T := TX5) (N := 23) hx hb hts iX5 hown hK hP 0 rfl rfl 1 (by decide) (hts _ wd_641) (fun _ h9 => h9) rfl dX5_isFree_26 ?_
    refine lv_icmp_ge (tgt := 36) hx hb dX5_isFree_29 (by decide) (fun c8 => ?_) (fun c8 => ?_)
    · replace hf := it_t c8 hf
      refine lv_iconst (v := (0 : Int32)) hx hb dX5_isFree_36 (by decide) ?_
      obtain rfl := Option.some.inj hf
      exact kc_zret () hx hb hr hk hP hD hS rfl rfl dX5_isFree_37
    · replace hf := it_f c8 hf
      refine lv_iconst (v := (1 : Int32)) hx hb dX5_isFree_32 (by decide) ?_
      refine lv_goto (tgt := 37) hx hb dX5_isFree_33 (by decide) ?_
      obtain rfl := Option.some.inj hf
      exact kc_zret () hx hb hr hk hP hD hS rfl rfl dX5_isFree_37
abbrev rmX5_go : Room := { frames := 3, cells := 0, slots := 0, locals := 69 }
set_option maxHeartbeats 4000000 in
set_option maxRecDepth 100000 in
theorem metX5_go (l : Launch) (D : va_G) (cx : Nat → ClassId) (aM : Nat → Nat) (xw : Int32) (xh : Int32) (xk : Int32) (xj : Int32) (xb : Int32) (xr : Int32) (xc : Int32) (xv : Int32) (xn : Int32) (xl : Int32) (yR : Nat → Int32) (yT : Nat → Int32) (yC : Nat → Int32) (yW : Nat → Int32) (yA : Nat → Int32) (yE : Nat → Int32) (yU : Nat → Int32) (yM : Nat → Int32) (yV : Nat → Int32) (yF : Nat → Int32) (yZ : Nat → Int32) (yI : Nat → Int32) (yD : Nat → Int32) (x1 : Int32) (N : Nat) (sz : Nat) (v : Int32 × Int32 × (Nat → Int32)) (hf : fX5_go N xh xv xn yV x1 = some v) : Met l yX5_go (.code yX5_go cX5_go 2 none :: kc_TB) rmX5_go (kc_Pre D cx (wM cx aM xw xh xk xj xb xr xc xv xn xl yR yT yC yW yA yE yU yM yV yF yZ yI yD) [.ref (aM 0), .int x1] sz) (kc_Pv D (fun _ : Unit => (wM cx aM xw xh xk xj xb xr xc v.1 v.2.1 xl yR yT yC yW yA yE yU yM v.2.2 yF yZ yI yD)) (va_A (wM cx aM xw xh xk xj xb xr xc xv xn xl yR yT yC yW yA yE yU yM yV yF yZ yI yD) sz)) 0 0 (va_A (wM cx aM xw xh xk xj xb xr xc xv xn xl yR yT yC yW yA yE yU yM yV yF yZ yI yD) sz) := by
  refine kc_entry (Qc := fun A => (kc_Pv D (fun _ : Unit => (wM cx aM xw xh xk xj xb xr xc v.1 v.2.1 xl yR yT yC yW yA yE yU yM v.2.2 yF yZ yI yD)) A)) (by decide) (Nat.le_of_ble_eq_true rfl) ?_
  intro p e s m below meth c A hx hb hr hk hml hown hin hts hN hK hP hD hS hA ls hl
  have hown : s.vm.findClass RX5 = some m.cls := hown
  have hl : lv_has ls 2 [(0, .ref (aM 0)), (1, .int x1)] := hl
  unfold fX5_go at hf
  have hP : va_P D classes (wM cx aM xw xh xk xj xb xr xc xv xn xl yR yT yC yW yA yE yU yM yV yF yZ yI yD) s.heap := hP
  obtain ⟨H, hH⟩ : ∃ H, H = s.heap := ⟨_, rfl⟩
  obtain ⟨locs, hL⟩ : ∃ locs : List Loc, locs = [] := ⟨_, rfl⟩
  have hS : va_S A s.heap H locs := by rw [hH, hL]; exact hS
  have hP : va_P D classes (wM cx aM xw xh xk xj xb xr xc xv xn xl yR yT yC yW yA yE yU yM yV yF yZ yI yD) H := by rw [hH]; exact hP
  suffices hW : W p l e rmX5_go s m ([.ref (aM 0), .int x1] : List Value).toArray below meth c H locs 0 0 (MQ below (kc_Pv D (fun _ : Unit => (wM cx aM xw xh xk xj xb xr xc v.1 v.2.1 xl yR yT yC yW yA yE yU yM v.2.2 yF yZ yI yD)) A) ([.ref (aM 0), .int x1] : List Value).toArray s 0 0 A) (F0 m 0 ls []) by rw [hH, hL] at hW; exact hW
  clear hH hL
  refine lv_aload_n hx hb dX5_go_0 rfl (lv_at hl 0 rfl) ?_
  refine lv_aload_n hx hb dX5_go_1 rfl (lv_at hl 0 rfl) ?_
  refine lv_aload_n hx hb dX5_go_2 rfl (lv_at hl 0 rfl) ?_
  refine va_get (D := D) (ci := 5) (v := .int xn) (C := RX5) (T := TX5) (N := 23) hx hb hts iX5 hown hK hP 0 rfl rfl 17 (by decide) (hts _ wd_657) (fun _ h9 => h9) rfl dX5_go_3 ?_
  refine lv_iload_n hx hb dX5_go_6 rfl (lv_at hl 1 rfl) ?_
  refine lv_aload_n hx hb dX5_go_7 rfl (lv_at hl 0 rfl) ?_
  refine va_get (D := D) (ci := 5) (v := .int xv) (C := RX5) (T := TX5) (N := 23) hx hb hts iX5 hown hK hP 0 rfl rfl 15 (by decide) (hts _ wd_655) (fun _ h9 => h9) rfl dX5_go_8 ?_
  refine lv_iconst (v := (2 : Int32)) hx hb dX5_go_11 (by decide) ?_
  refine lv_irem hx hb dX5_go_12 (by decide) ?_
  obtain ⟨u2, hg, hf⟩ := ob_s hf
  refine kc_calli (wn := fun _ => (wM cx aM xw xh xk xj xb xr xc xv xn xl yR yT yC yW yA yE yU yM yV yF yZ yI yD)) (va_runV (As := [.int xn, .int x1, .int (xv - xv / (2 : Int32) * (2 : Int32))]) (rest := [.ref (aM 0)]) ⟨hx, hb, hml, hown, hts⟩ (metX5_dropped l D cx aM xw xh xk xj xb xr xc xv xn xl yR yT yC yW yA yE yU yM yV yF yZ yI yD xn x1 (xv - xv / (2 : Int32) * (2 : Int32)) N H.size u2 hg) ⟨callB_of 3 hts (kc_gI wd_623) rfl rfl rfl (hts _ wd_46) (hts _ wd_620) (by decide +kernel) ⟨Nat.le_of_ble_eq_true rfl, Nat.le_of_ble_eq_true rfl⟩, hts _ wd_622, hts _ wd_26⟩ ⟨kc_blind _ _ _ _ _, va_recv hK hP (ci := 5) (q0 := 0) rfl rfl, kc_pre _ hK hN (hP.sub [0, 1, 2, 3, 4, 5, 6, 7, 8, 9, 10, 11, 12, 13] rfl) (hD.sub [0, 1, 2, 3, 4, 5, 6, 7, 8, 9, 10, 11, 12, 13] (by decide) rfl)⟩ rfl rfl hl.1 rfl (lv_room (Nat.le_of_ble_eq_true rfl)) dX5_go_13 ⟨Nat.zero_le _, Nat.zero_le _⟩) hP hD hS hA [0, 1, 2, 3, 4, 5, 6, 7, 8, 9, 10, 11, 12, 13] [] [0, 1, 2, 3, 4, 5, 6, 7, 8, 9, 10, 11, 12, 13] rfl rfl (by decide) (by decide) (fun _ => rfl) (by decide) (fun _ H locs hP hD hS => ?_)
  have hP : va_P D classes (wM cx aM xw xh xk xj xb xr xc xv xn xl yR yT yC yW yA yE yU yM yV yF yZ yI yD) H := hP
  have hD : va_D A (wM cx aM xw xh xk xj xb xr xc xv xn xl yR yT yC yW yA yE yU yM yV yF yZ yI yD) := hD
  refine va_put (D := D) (ci := 5) (v := .int u2) (ty := .int) (C := RX5) (T := TX5) (N := 23) hx hb hts iX5 tyX5 tyX5_ok nmX5 hown hK hP hD hS 0 rfl rfl 17 (by decide) (hts _ wd_657) (fun _ h9 => h9) rfl (by decide +kernel) rfl rfl (Nat.le_of_ble_eq_true rfl) dX5_go_16 (fun H locs hP hD hS => ?_)
  have hP : va_P D classes (wM cx aM xw xh xk xj xb xr xc xv u2 xl yR yT yC yW yA yE yU yM yV yF yZ yI yD) H := hP
  have hD : va_D A (wM cx aM xw xh xk xj xb xr xc xv u2 xl yR yT yC yW yA yE yU yM yV yF yZ yI yD) := hD
  refine lv_aload_n hx hb dX5_go_19 rfl (lv_at hl 0 rfl) ?_
  refine va_get (D := D) (ci := 5) (v := .ref (aM 9)) (C := RX5) (T := TX5) (N := 23) hx hb hts iX5 hown hK hP 0 rfl rfl 16 (by decide) (hts _ wd_656) (fun _ h9 => h9) rfl dX5_go_20 ?_
  refine lv_aload_n hx hb dX5_go_23 rfl (lv_at hl 0 rfl) ?_
  refine va_get (D := D) (ci := 5) (v := .int xv) (C := RX5) (T := TX5) (N := 23) hx hb hts iX5 hown hK hP 0 rfl rfl 15 (by decide) (hts _ wd_655) (fun _ h9 => h9) rfl dX5_go_24 ?_
  refine lv_iload_n hx hb dX5_go_27 rfl (lv_at hl 1 rfl) ?_
  obtain ⟨hz, hf⟩ := okb_s hf
  refine va_iast (D := D) hx hb hK hP hD hS 9 0 rfl rfl (inb_s hz) dX5_go_28 (fun H locs hP hD hS => ?_)
  have hP : va_P D classes (wM cx aM xw xh xk xj xb xr xc xv u2 xl yR yT yC yW yA yE yU yM (upd yV xv.toNatClampNeg x1) yF yZ yI yD) H := hP
  have hD : va_D A (wM cx aM xw xh xk xj xb xr xc xv u2 xl yR yT yC yW yA yE yU yM (upd yV xv.toNatClampNeg x1) yF yZ yI yD) := hD
  refine lv_aload_n hx hb dX5_go_29 rfl (lv_at hl 0 rfl) ?_
  refine lv_dup hx hb dX5_go_30 rfl ?_
  refine va_get (D := D) (ci := 5) (v := .int xv) (C := RX5) (T := TX5) (N := 23) hx hb hts iX5 hown hK hP 0 rfl rfl 15 (by decide) (hts _ wd_655) (fun _ h9 => h9) rfl dX5_go_31 ?_
  refine lv_iconst (v := (1 : Int32)) hx hb dX5_go_34 (by decide) ?_
  refine lv_iadd hx hb dX5_go_35 ?_
  refine va_put (D := D) (ci := 5) (v := .int (xv + (1 : Int32))) (ty := .int) (C := RX5) (T := TX5) (N := 23) hx hb hts iX5 tyX5 tyX5_ok nmX5 hown hK hP hD hS 0 rfl rfl 15 (by decide) (hts _ wd_655) (fun _ h9 => h9) rfl (by decide +kernel) rfl rfl (Nat.le_of_ble_eq_true rfl) dX5_go_36 (fun H locs hP hD hS => ?_)
  have hP : va_P D classes (wM cx aM xw xh xk xj xb xr xc (xv + (1 : Int32)) u2 xl yR yT yC yW yA yE yU yM (upd yV xv.toNatClampNeg x1) yF yZ yI yD) H := hP
  have hD : va_D A (wM cx aM xw xh xk xj xb xr xc (xv + (1 : Int32)) u2 xl yR yT yC yW yA yE yU yM (upd yV xv.toNatClampNeg x1) yF yZ yI yD) := hD
  obtain rfl := Option.some.inj hf
  exact kc_vret () hx hb hr hk hP hD hS dX5_go_39
abbrev rmX5_drop : Room := { frames := 4, cells := 0, slots := 0, locals := 90 }
set_option maxHeartbeats 4000000 in
set_option maxRecDepth 100000 in
theorem metX5_drop (l : Launch) (D : va_G) (cx : Nat → ClassId) (aM : Nat → Nat) (xw : Int32) (xh : Int32) (xk : Int32) (xj : Int32) (xb : Int32) (xr : Int32) (xc : Int32) (xv : Int32) (xn : Int32) (xl : Int32) (yR : Nat → Int32) (yT : Nat → Int32) (yC : Nat → Int32) (yW : Nat → Int32) (yA : Nat → Int32) (yE : Nat → Int32) (yU : Nat → Int32) (yM : Nat → Int32) (yV : Nat → Int32) (yF : Nat → Int32) (yZ : Nat → Int32) (yI : Nat → Int32) (yD : Nat → Int32) (x1 : Int32) (N : Nat) (sz : Nat) (v : Int32 × Int32 × Int32 × (Nat → Int32)) (hf : fX5_drop N xw xh xv xn yT yV x1 = some v) : Met l yX5_drop (.code yX5_drop cX5_drop 3 (some .int) :: kc_TB) rmX5_drop (kc_Pre D cx (wM cx aM xw xh xk xj xb xr xc xv xn xl yR yT yC yW yA yE yU yM yV yF yZ yI yD) [.ref (aM 0), .int x1] sz) (kc_Pi D (fun _ : Unit => (wM cx aM xw xh xk xj xb xr xc v.2.1 v.2.2.1 xl yR yT yC yW yA yE yU yM v.2.2.2 yF yZ yI yD)) v.1 (va_A (wM cx aM xw xh xk xj xb xr xc xv xn xl yR yT yC yW yA yE yU yM yV yF yZ yI yD) sz)) 0 0 (va_A (wM cx aM xw xh xk xj xb xr xc xv xn xl yR yT yC yW yA yE yU yM yV yF yZ yI yD) sz) := by
  refine kc_entry (Qc := fun A => (kc_Pi D (fun _ : Unit => (wM cx aM xw xh xk xj xb xr xc v.2.1 v.2.2.1 xl yR yT yC yW yA yE yU yM v.2.2.2 yF yZ yI yD)) v.1 A)) (by decide) (Nat.le_of_ble_eq_true rfl) ?_
  intro p e s m below meth c A hx hb hr hk hml hown hin hts hN hK hP hD hS hA ls hl
  have hown : s.vm.findClass RX5 = some m.cls := hown
  have hl : lv_has ls 3 [(0, .ref (aM 0)), (1, .int x1)] := hl
  unfold fX5_drop at hf
  have hP : va_P D classes (wM cx aM xw xh xk xj xb xr xc xv xn xl yR yT yC yW yA yE yU yM yV yF yZ yI yD) s.heap := hP
  obtain ⟨H, hH⟩ : ∃ H, H = s.heap := ⟨_, rfl⟩
  obtain ⟨locs, hL⟩ : ∃ locs : List Loc, locs = [] := ⟨_, rfl⟩
  have hS : va_S A s.heap H locs := by rw [hH, hL]; exact hS
  have hP : va_P D classes (wM cx aM xw xh xk xj xb xr xc xv xn xl yR yT yC yW yA yE yU yM yV yF yZ yI yD) H := by rw [hH]; exact hP
  suffices hW : W p l e rmX5_drop s m ([.ref (aM 0), .int x1] : List Value).toArray below meth c H locs 0 0 (MQ below (kc_Pi D (fun _ : Unit => (wM cx aM xw xh xk xj xb xr xc v.2.1 v.2.2.1 xl yR yT yC yW yA yE yU yM v.2.2.2 yF yZ yI yD)) v.1 A) ([.ref (aM 0), .int x1] : List Value).toArray s 0 0 A) (F0 m 0 ls []) by rw [hH, hL] at hW; exact hW
  clear hH hL
  refine lv_aload_n hx hb dX5_drop_0 rfl (lv_at hl 0 rfl) ?_
  refine lv_iload_n hx hb dX5_drop_1 rfl (lv_at hl 1 rfl) ?_
  obtain ⟨u7, hg, hf⟩ := ob_s hf
  refine kc_calli (wn := fun _ => (wM cx aM xw xh xk xj xb xr xc xv xn xl yR yT yC yW yA yE yU yM yV yF yZ yI yD)) (va_runV (As := [.int x1]) (rest := []) ⟨hx, hb, hml, hown, hts⟩ (metX5_isFree l D cx aM xw xh xk xj xb xr xc xv xn xl yR yT yC yW yA yE yU yM yV yF yZ yI yD x1 N H.size u7 hg) ⟨callB_of 1 hts (kc_gI wd_726) rfl rfl rfl (hts _ wd_46) (hts _ wd_723) (by decide +kernel) ⟨Nat.le_of_ble_eq_true rfl, Nat.le_of_ble_eq_true rfl⟩, hts _ wd_725, hts _ wd_31⟩ ⟨kc_blind _ _ _ _ _, va_recv hK hP (ci := 5) (q0 := 0) rfl rfl, kc_pre _ hK hN (hP.sub [0, 1, 2, 3, 4, 5, 6, 7, 8, 9, 10, 11, 12, 13] rfl) (hD.sub [0, 1, 2, 3, 4, 5, 6, 7, 8, 9, 10, 11, 12, 13] (by decide) rfl)⟩ rfl rfl hl.1 rfl (lv_room (Nat.le_of_ble_eq_true rfl)) dX5_drop_2 ⟨Nat.zero_le _, Nat.zero_le _⟩) hP hD hS hA [0, 1, 2, 3, 4, 5, 6, 7, 8, 9, 10, 11, 12, 13] [] [0, 1, 2, 3, 4, 5, 6, 7, 8, 9, 10, 11, 12, 13] rfl rfl (by decide) (by decide) (fun _ => rfl) (by decide) (fun _ H locs hP hD hS => ?_)
  have hP : va_P D classes (wM cx aM xw xh xk xj xb xr xc xv xn xl yR yT yC yW yA yE yU yM yV yF yZ yI yD) H := hP
  have hD : va_D A (wM cx aM xw xh xk xj xb xr xc xv xn xl yR yT yC yW yA yE yU yM yV yF yZ yI yD) := hD
  refine lv_if_ne (tgt := 12) hx hb dX5_drop_5 (by decide) (fun c8 => ?_) (fun c8 => ?_)
  · replace hf := it_f c8 hf
    refine lv_aload_n hx hb dX5_drop_12 rfl (lv_at hl 0 rfl) ?_
    obtain ⟨u9, hg, hf⟩ := ob_s hf
    refine kc_calli (wn := fun _ => (wM cx aM xw xh xk xj xb xr xc xv xn xl yR yT yC yW yA yE yU yM yV yF yZ yI yD)) (va_runV (As := []) (rest := []) ⟨hx, hb, hml, hown, hts⟩ (metX5_isOver l D cx aM xw xh xk xj xb xr xc xv xn xl yR yT yC yW yA yE yU yM yV yF yZ yI yD  N H.size u9 hg) ⟨callB_of 0 hts (kc_gI wd_730) rfl rfl rfl (hts _ wd_46) (hts _ wd_727) (by decide +kernel) ⟨Nat.le_of_ble_eq_true rfl, Nat.le_of_ble_eq_true rfl⟩, hts _ wd_729, hts _ wd_32⟩ ⟨kc_blind _ _ _ _ _, va_recv hK hP (ci := 5) (q0 := 0) rfl rfl, kc_pre _ hK hN (hP.sub [0, 1, 2, 3, 4, 5, 6, 7, 8, 9, 10, 11, 12, 13] rfl) (hD.sub [0, 1, 2, 3, 4, 5, 6, 7, 8, 9, 10, 11, 12, 13] (by decide) rfl)⟩ rfl rfl hl.1 rfl (lv_room (Nat.le_of_ble_eq_true rfl)) dX5_drop_13 ⟨Nat.zero_le _, Nat.zero_le _⟩) hP hD hS hA [0, 1, 2, 3, 4, 5, 6, 7, 8, 9, 10, 11, 12, 13] [] [0, 1, 2, 3, 4, 5, 6, 7, 8, 9, 10, 11, 12, 13] rfl rfl (by decide) (by decide) (fun _ => rfl) (by decide) (fun _ H locs hP hD hS => ?_)
    have hP : va_P D classes (wM cx aM xw xh xk xj xb xr xc xv xn xl yR yT yC yW yA yE yU yM yV yF yZ yI yD) H := hP
    have hD : va_D A (wM cx aM xw xh xk xj xb xr xc xv xn xl yR yT yC yW yA yE yU yM yV yF yZ yI yD) := hD
    refine lv_if_eq (tgt := 23) hx hb dX5_drop_16 (by decide) (fun c10 => ?_) (fun c10 => ?_)
    · replace hf := it_t c10 hf
      refine lv_aload_n hx hb dX5_drop_23 rfl (lv_at hl 0 rfl) ?_
      refine va_get (D := D) (ci := 5) (v := .int xw) (C := RX5) (T := TX5) (N := 23) hx hb hts iX5 hown hK hP 0 rfl rfl 0 (by decide) (hts _ wd_640) (fun _ h9 => h9) rfl dX5_drop_24 ?_
      refine lv_aload_n hx hb dX5_drop_27 rfl (lv_at hl 0 rfl) ?_
      refine lv_aload_n hx hb dX5_drop_28 rfl (lv_at hl 0 rfl) ?_
      refine va_get (D := D) (ci := 5) (v := .int xn) (C := RX5) (T := TX5) (N := 23) hx hb hts iX5 hown hK hP 0 rfl rfl 17 (by decide) (hts _ wd_657) (fun _ h9 => h9) rfl dX5_drop_29 ?_
      refine lv_iload_n hx hb dX5_drop_32 rfl (lv_at hl 1 rfl) ?_
      obtain ⟨u11, hg, hf⟩ := ob_s hf
      refine kc_calli (wn := fun _ => (wM cx aM xw xh xk xj xb xr xc xv xn xl yR yT yC yW yA yE yU yM yV yF yZ yI yD)) (va_runV (As := [.int xn, .int x1]) (rest := [.int xw]) ⟨hx, hb, hml, hown, hts⟩ (metX5_heightOf l D cx aM xw xh xk xj xb xr xc xv xn xl yR yT yC yW yA yE yU yM yV yF yZ yI yD xn x1 N H.size u11 hg) ⟨callB_of 2 hts (kc_gI wd_611) rfl rfl rfl (hts _ wd_46) (hts _ wd_608) (by decide +kernel) ⟨Nat.le_of_ble_eq_true rfl, Nat.le_of_ble_eq_true rfl⟩, hts _ wd_610, hts _ wd_23⟩ ⟨kc_blind _ _ _ _ _, va_recv hK hP (ci := 5) (q0 := 0) rfl rfl, kc_pre _ hK hN (hP.sub [0, 1, 2, 3, 4, 5, 6, 7, 8, 9, 10, 11, 12, 13] rfl) (hD.sub [0, 1, 2, 3, 4, 5, 6, 7, 8, 9, 10, 11, 12, 13] (by decide) rfl)⟩ rfl rfl hl.1 rfl (lv_room (Nat.le_of_ble_eq_true rfl)) dX5_drop_33 ⟨Nat.zero_le _, Nat.zero_le _⟩) hP hD hS hA [0, 1, 2, 3, 4, 5, 6, 7, 8, 9, 10, 11, 12, 13] [] [0, 1, 2, 3, 4, 5, 6, 7, 8, 9, 10, 11, 12, 13] rfl rfl (by decide) (by decide) (fun _ => rfl) (by decide) (fun _ H locs hP hD hS => ?_)
      have hP : va_P D classes (wM cx aM xw xh xk xj xb xr xc xv xn xl yR yT yC yW yA yE yU yM yV yF yZ yI yD) H := hP
      have hD : va_D A (wM cx aM xw xh xk xj xb xr xc xv xn xl yR yT yC yW yA yE yU yM yV yF yZ yI yD) := hD
      refine lv_imul hx hb dX5_drop_36 ?_
      refine lv_iload_n hx hb dX5_drop_37 rfl (lv_at hl 1 rfl) ?_
      refine lv_iadd hx hb dX5_drop_38 ?_
      refine lv_istore_n (lv' := [(2, .int ((xw * u11) + x1)), (0, .ref (aM 0)), (1, .int x1)]) hx hb dX5_drop_39 rfl hl (by decide) rfl (fun ls hl => ?_)
      refine lv_aload_n hx hb dX5_drop_40 rfl (lv_at hl 1 rfl) ?_
      refine lv_iload_n hx hb dX5_drop_41 rfl (lv_at hl 2 rfl) ?_
      obtain ⟨u12, hg, hf⟩ := ob_s hf
      refine kc_callv (wn := fun _ => (wM cx aM xw xh xk xj xb xr xc u12.1 u12.2.1 xl yR yT yC yW yA yE yU yM u12.2.2 yF yZ yI yD)) (va_runV (As := [.int x1]) (rest := []) ⟨hx, hb, hml, hown, hts⟩ (metX5_go l D cx aM xw xh xk xj xb xr xc xv xn xl yR yT yC yW yA yE yU yM yV yF yZ yI yD x1 N H.size u12 hg) ⟨callB_of 1 hts (kc_gI wd_734) rfl rfl rfl (hts _ wd_46) (hts _ wd_731) (by decide +kernel) ⟨Nat.le_of_ble_eq_true rfl, Nat.le_of_ble_eq_true rfl⟩, hts _ wd_733, hts _ wd_33⟩ ⟨kc_blind _ _ _ _ _, va_recv hK hP (ci := 5) (q0 := 0) rfl rfl, kc_pre _ hK hN (hP.sub [0, 1, 2, 3, 4, 5, 6, 7, 8, 9, 10, 11, 12, 13] rfl) (hD.sub [0, 1, 2, 3, 4, 5, 6, 7, 8, 9, 10, 11, 12, 13] (by decide) rfl)⟩ rfl rfl hl.1 rfl (lv_room (Nat.le_of_ble_eq_true rfl)) dX5_drop_42 ⟨Nat.zero_le _, Nat.zero_le _⟩) hP hD hS hA [0, 1, 2, 3, 4, 5, 6, 7, 8, 9, 10, 11, 12, 13] [] [0, 1, 2, 3, 4, 5, 6, 7, 8, 9, 10, 11, 12, 13] rfl rfl (by decide) (by decide) (fun _ => rfl) (by decide) (fun _ H locs hP hD hS => ?_)
      have hP : va_P D classes (wM cx aM xw xh xk xj xb xr xc u12.1 u12.2.1 xl yR yT yC yW yA yE yU yM u12.2.2 yF yZ yI yD) H := hP
      have hD : va_D A (wM cx aM xw xh xk xj xb xr xc u12.1 u12.2.1 xl yR yT yC yW yA yE yU yM u12.2.2 yF yZ yI yD) := hD
      refine lv_iload_n hx hb dX5_drop_45 rfl (lv_at hl 0 rfl) ?_
      obtain rfl := Option.some.inj hf
      exact kc_iret () hx hb hr hk hP hD hS rfl dX5_drop_46
    · replace hf := it_f c10 hf
      refine lv_sipush (v := (-201 : Int32)) hx hb dX5_drop_19 (by decide) ?_
      obtain rfl := Option.some.inj hf
      exact kc_iret () hx hb hr hk hP hD hS rfl dX5_drop_22
  · replace hf := it_t c8 hf
    refine lv_sipush (v := (-200 : Int32)) hx hb dX5_drop_8 (by decide) ?_
    obtain rfl := Option.some.inj hf
    exact kc_iret () hx hb hr hk hP hD hS rfl dX5_drop_11
abbrev rmX5_back : Room := { frames := 4, cells := 0, slots := 0, locals := 90 }
set_option maxHeartbeats 4000000 in
set_option maxRecDepth 100000 in
theorem metX5_back (l : Launch) (D : va_G) (cx : Nat → ClassId) (aM : Nat → Nat) (xw : Int32) (xh : Int32) (xk : Int32) (xj : Int32) (xb : Int32) (xr : Int32) (xc : Int32) (xv : Int32) (xn : Int32) (xl : Int32) (yR : Nat → Int32) (yT : Nat → Int32) (yC : Nat → Int32) (yW : Nat → Int32) (yA : Nat → Int32) (yE : Nat → Int32) (yU : Nat → Int32) (yM : Nat → Int32) (yV : Nat → Int32) (yF : Nat → Int32) (yZ : Nat → Int32) (yI : Nat → Int32) (yD : Nat → Int32) (x1 : Int32) (N : Nat) (sz : Nat) (v : Int32 × Int32 × Int32) (hf : fX5_back N xw xh xv xn yV x1 = some v) : Met l yX5_back (.code yX5_back cX5_back 2 (some .int) :: kc_TB) rmX5_back (kc_Pre D cx (wM cx aM xw xh xk xj xb xr xc xv xn xl yR yT yC yW yA yE yU yM yV yF yZ yI yD) [.ref (aM 0), .int x1] sz) (kc_Pi D (fun _ : Unit => (wM cx aM xw xh xk xj xb xr xc v.2.1 v.2.2 xl yR yT yC yW yA yE yU yM yV yF yZ yI yD)) v.1 (va_A (wM cx aM xw xh xk xj xb xr xc xv xn xl yR yT yC yW yA yE yU yM yV yF yZ yI yD) sz)) 0 0 (va_A (wM cx aM xw xh xk xj xb xr xc xv xn xl yR yT yC yW yA yE yU yM yV yF yZ yI yD) sz) := by
  refine kc_entry (Qc := fun A => (kc_Pi D (fun _ : Unit => (wM cx aM xw xh xk xj xb xr xc v.2.1 v.2.2 xl yR yT yC yW yA yE yU yM yV yF yZ yI yD)) v.1 A)) (by decide) (Nat.le_of_ble_eq_true rfl) ?_
  intro p e s m below meth c A hx hb hr hk hml hown hin hts hN hK hP hD hS hA ls hl
  have hown : s.vm.findClass RX5 = some m.cls := hown
  have hl : lv_has ls 2 [(0, .ref (aM 0)), (1, .int x1)] := hl
  unfold fX5_back at hf
  have hP : va_P D classes (wM cx aM xw xh xk xj xb xr xc xv xn xl yR yT yC yW yA yE yU yM yV yF yZ yI yD) s.heap := hP
  obtain ⟨H, hH⟩ : ∃ H, H = s.heap := ⟨_, rfl⟩
  obtain ⟨locs, hL⟩ : ∃ locs : List Loc, locs = [] := ⟨_, rfl⟩
  have hS : va_S A s.heap H locs := by rw [hH, hL]; exact hS
  have hP : va_P D classes (wM cx aM xw xh xk xj xb xr xc xv xn xl yR yT yC yW yA yE yU yM yV yF yZ yI yD) H := by rw [hH]; exact hP
  suffices hW : W p l e rmX5_back s m ([.ref (aM 0), .int x1] : List Value).toArray below meth c H locs 0 0 (MQ below (kc_Pi D (fun _ : Unit => (wM cx aM xw xh xk xj xb xr xc v.2.1 v.2.2 xl yR yT yC yW yA yE yU yM yV yF yZ yI yD)) v.1 A) ([.ref (aM 0), .int x1] : List Value).toArray s 0 0 A) (F0 m 0 ls []) by rw [hH, hL] at hW; exact hW
  clear hH hL
  refine lv_iload_n hx hb dX5_back_0 rfl (lv_at hl 1 rfl) ?_
  refine lv_i2l hx hb dX5_back_1 rfl ?_
  refine lv_lconst (v := (0 : Int64)) hx hb dX5_back_2 (by decide) ?_
  refine lv_aload_n hx hb dX5_back_3 rfl (lv_at hl 0 rfl) ?_
  refine va_get (D := D) (ci := 5) (v := .int xv) (C := RX5) (T := TX5) (N := 23) hx hb hts iX5 hown hK hP 0 rfl rfl 15 (by decide) (hts _ wd_655) (fun _ h9 => h9) rfl dX5_back_4 ?_
  refine lv_i2l hx hb dX5_back_7 rfl ?_
  obtain ⟨u4, hg, hf⟩ := ob_s hf
  refine kc_calli (wn := fun _ => (wM cx aM xw xh xk xj xb xr xc xv xn xl yR yT yC yW yA yE yU yM yV yF yZ yI yD)) (va_runS (As := [.long x1.toInt64, .long (0 : Int64), .long xv.toInt64]) (rest := []) ⟨hx, hb, hml, hown, hts⟩ (metX5_in l D cx   x1.toInt64 (0 : Int64) xv.toInt64 N H.size u4 hg) ⟨callB_of 3 hts (kc_gI wd_587) rfl rfl rfl (hts _ wd_46) (hts _ wd_585) (by decide +kernel) ⟨Nat.le_of_ble_eq_true rfl, Nat.le_of_ble_eq_true rfl⟩, hts _ wd_586⟩ ⟨kc_blind _ _ _ _ _, kc_pre _ hK hN (hP.sub [] rfl) (hD.sub [] (by decide) rfl)⟩ rfl rfl hl.1 rfl (lv_room (Nat.le_of_ble_eq_true rfl)) dX5_back_8 ⟨Nat.zero_le _, Nat.zero_le _⟩) hP hD hS hA [] [0, 1, 2, 3, 4, 5, 6, 7, 8, 9, 10, 11, 12, 13] [0, 1, 2, 3, 4, 5, 6, 7, 8, 9, 10, 11, 12, 13] rfl rfl (by decide) (by decide) (fun _ => rfl) (by decide) (fun _ H locs hP hD hS => ?_)
  have hP : va_P D classes (wM cx aM xw xh xk xj xb xr xc xv xn xl yR yT yC yW yA yE yU yM yV yF yZ yI yD) H := hP
  have hD : va_D A (wM cx aM xw xh xk xj xb xr xc xv xn xl yR yT yC yW yA yE yU yM yV yF yZ yI yD) := hD
  refine lv_if_ne (tgt := 18) hx hb dX5_back_11 (by decide) (fun c5 => ?_) (fun c5 => ?_)
  · replace hf := it_f c5 hf
    refine lv_aload_n hx hb dX5_back_18 rfl (lv_at hl 0 rfl) ?_
    refine lv_dup hx hb dX5_back_19 rfl ?_
    refine va_get (D := D) (ci := 5) (v := .int xv) (C := RX5) (T := TX5) (N := 23) hx hb hts iX5 hown hK hP 0 rfl rfl 15 (by decide) (hts _ wd_655) (fun _ h9 => h9) rfl dX5_back_20 ?_
    refine lv_iload_n hx hb dX5_back_23 rfl (lv_at hl 1 rfl) ?_
    refine lv_isub hx hb dX5_back_24 ?_
    refine va_put (D := D) (ci := 5) (v := .int (xv - x1)) (ty := .int) (C := RX5) (T := TX5) (N := 23) hx hb hts iX5 tyX5 tyX5_ok nmX5 hown hK hP hD hS 0 rfl rfl 15 (by decide) (hts _ wd_655) (fun _ h9 => h9) rfl (by decide +kernel) rfl rfl (Nat.le_of_ble_eq_true rfl) dX5_back_25 (fun H locs hP hD hS => ?_)
    have hP : va_P D classes (wM cx aM xw xh xk xj xb xr xc (xv - x1) xn xl yR yT yC yW yA yE yU yM yV yF yZ yI yD) H := hP
    have hD : va_D A (wM cx aM xw xh xk xj xb xr xc (xv - x1) xn xl yR yT yC yW yA yE yU yM yV yF yZ yI yD) := hD
    refine lv_aload_n hx hb dX5_back_28 rfl (lv_at hl 0 rfl) ?_
    obtain ⟨u6, hg, hf⟩ := ob_s hf
    refine kc_callv (wn := fun _ => (wM cx aM xw xh xk xj xb xr xc (xv - x1) u6 xl yR yT yC yW yA yE yU yM yV yF yZ yI yD)) (va_runV (As := []) (rest := []) ⟨hx, hb, hml, hown, hts⟩ (metX5_place l D cx aM xw xh xk xj xb xr xc (xv - x1) xn xl yR yT yC yW yA yE yU yM yV yF yZ yI yD  N H.size u6 hg) ⟨callB_of 0 hts (kc_gI wd_639) rfl rfl rfl (hts _ wd_46) (hts _ wd_636) (by decide +kernel) ⟨Nat.le_of_ble_eq_true rfl, Nat.le_of_ble_eq_true rfl⟩, hts _ wd_638, hts _ wd_30⟩ ⟨kc_blind _ _ _ _ _, va_recv hK hP (ci := 5) (q0 := 0) rfl rfl, kc_pre _ hK hN (hP.sub [0, 1, 2, 3, 4, 5, 6, 7, 8, 9, 10, 11, 12, 13] rfl) (hD.sub [0, 1, 2, 3, 4, 5, 6, 7, 8, 9, 10, 11, 12, 13] (by decide) rfl)⟩ rfl rfl hl.1 rfl (lv_room (Nat.le_of_ble_eq_true rfl)) dX5_back_29 ⟨Nat.zero_le _, Nat.zero_le _⟩) hP hD hS hA [0, 1, 2, 3, 4, 5, 6, 7, 8, 9, 10, 11, 12, 13] [] [0, 1, 2, 3, 4, 5, 6, 7, 8, 9, 10, 11, 12, 13] rfl rfl (by decide) (by decide) (fun _ => rfl) (by decide) (fun _ H locs hP hD hS => ?_)
    have hP : va_P D classes (wM cx aM xw xh xk xj xb xr xc (xv - x1) u6 xl yR yT yC yW yA yE yU yM yV yF yZ yI yD) H := hP
    have hD : va_D A (wM cx aM xw xh xk xj xb xr xc (xv - x1) u6 xl yR yT yC yW yA yE yU yM yV yF yZ yI yD) := hD
    refine lv_aload_n hx hb dX5_back_32 rfl (lv_at hl 0 rfl) ?_
    refine va_get (D := D) (ci := 5) (v := .int (xv - x1)) (C := RX5) (T := TX5) (N := 23) hx hb hts iX5 hown hK hP 0 rfl rfl 15 (by decide) (hts _ wd_655) (fun _ h9 => h9) rfl dX5_back_33 ?_
    obtain rfl := Option.some.inj hf
    exact kc_iret () hx hb hr hk hP hD hS rfl dX5_back_36
  · replace hf := it_t c5 hf
    refine lv_sipush (v := (-200 : Int32)) hx hb dX5_back_14 (by decide) ?_
    obtain rfl := Option.some.inj hf
    exact kc_iret () hx hb hr hk hP hD hS rfl dX5_back_17
abbrev rmX5_move : Room := { frames := 1, cells := 0, slots := 0, locals := 25 }
set_option maxHeartbeats 4000000 in
set_option maxRecDepth 100000 in
theorem metX5_move (l : Launch) (D : va_G) (cx : Nat → ClassId) (aM : Nat → Nat) (xw : Int32) (xh : Int32) (xk : Int32) (xj : Int32) (xb : Int32) (xr : Int32) (xc : Int32) (xv : Int32) (xn : Int32) (xl : Int32) (yR : Nat → Int32) (yT : Nat → Int32) (yC : Nat → Int32) (yW : Nat → Int32) (yA : Nat → Int32) (yE : Nat → Int32) (yU : Nat → Int32) (yM : Nat → Int32) (yV : Nat → Int32) (yF : Nat → Int32) (yZ : Nat → Int32) (yI : Nat → Int32) (yD : Nat → Int32) (x1 : Int32) (N : Nat) (sz : Nat) (v : Int32) (hf : fX5_move N xv yV x1 = some v) : Met l yX5_move (.code yX5_move cX5_move 2 (some .int) :: kc_TB) rmX5_move (kc_Pre D cx (wM cx aM xw xh xk xj xb xr xc xv xn xl yR yT yC yW yA yE yU yM yV yF yZ yI yD) [.ref (aM 0), .int x1] sz) (kc_Pi D (fun _ : Unit => (wM cx aM xw xh xk xj xb xr xc xv xn xl yR yT yC yW yA yE yU yM yV yF yZ yI yD)) v (va_A (wM cx aM xw xh xk xj xb xr xc xv xn xl yR yT yC yW yA yE yU yM yV yF yZ yI yD) sz)) 0 0 (va_A (wM cx aM xw xh xk xj xb xr xc xv xn xl yR yT yC yW yA yE yU yM yV yF yZ yI yD) sz) := by
  refine kc_entry (Qc := fun A => (kc_Pi D (fun _ : Unit => (wM cx aM xw xh xk xj xb xr xc xv xn xl yR yT yC yW yA yE yU yM yV yF yZ yI yD)) v A)) (by decide) (Nat.le_of_ble_eq_true rfl) ?_
  intro p e s m below meth c A hx hb hr hk hml hown hin hts hN hK hP hD hS hA ls hl
  have hown : s.vm.findClass RX5 = some m.cls := hown
  have hl : lv_has ls 2 [(0, .ref (aM 0)), (1, .int x1)] := hl
  unfold fX5_move at hf
  have hP : va_P D classes (wM cx aM xw xh xk xj xb xr xc xv xn xl yR yT yC yW yA yE yU yM yV yF yZ yI yD) s.heap := hP
  obtain ⟨H, hH⟩ : ∃ H, H = s.heap := ⟨_, rfl⟩
  obtain ⟨locs, hL⟩ : ∃ locs : List Loc, locs = [] := ⟨_, rfl⟩
  have hS : va_S A s.heap H locs := by rw [hH, hL]; exact hS
  have hP : va_P D classes (wM cx aM xw xh xk xj xb xr xc xv xn xl yR yT yC yW yA yE yU yM yV yF yZ yI yD) H := by rw [hH]; exact hP
  suffices hW : W p l e rmX5_move s m ([.ref (aM 0), .int x1] : List Value).toArray below meth c H locs 0 0 (MQ below (kc_Pi D (fun _ : Unit => (wM cx aM xw xh xk xj xb xr xc xv xn xl yR yT yC yW yA yE yU yM yV yF yZ yI yD)) v A) ([.ref (aM 0), .int x1] : List Value).toArray s 0 0 A) (F0 m 0 ls []) by rw [hH, hL] at hW; exact hW
  clear hH hL
  refine lv_iload_n hx hb dX5_move_0 rfl (lv_at hl 1 rfl) ?_
  refine lv_i2l hx hb dX5_move_1 rfl ?_
  refine lv_lconst (v := (0 : Int64)) hx hb dX5_move_2 (by decide) ?_
  refine lv_aload_n hx hb dX5_move_3 rfl (lv_at hl 0 rfl) ?_
  refine va_get (D := D) (ci := 5) (v := .int xv) (C := RX5) (T := TX5) (N := 23) hx hb hts iX5 hown hK hP 0 rfl rfl 15 (by decide) (hts _ wd_655) (fun _ h9 => h9) rfl dX5_move_4 ?_
  refine lv_iconst (v := (1 : Int32)) hx hb dX5_move_7 (by decide) ?_
  refine lv_isub hx hb dX5_move_8 ?_
  refine lv_i2l hx hb dX5_move_9 rfl ?_
  obtain ⟨u3, hg, hf⟩ := ob_s hf
  refine kc_calli (wn := fun _ => (wM cx aM xw xh xk xj xb xr xc xv xn xl yR yT yC yW yA yE yU yM yV yF yZ yI yD)) (va_runS (As := [.long x1.toInt64, .long (0 : Int64), .long (xv - (1 : Int32)).toInt64]) (rest := []) ⟨hx, hb, hml, hown, hts⟩ (metX5_in l D cx   x1.toInt64 (0 : Int64) (xv - (1 : Int32)).toInt64 N H.size u3 hg) ⟨callB_of 3 hts (kc_gI wd_587) rfl rfl rfl (hts _ wd_46) (hts _ wd_585) (by decide +kernel) ⟨Nat.le_of_ble_eq_true rfl, Nat.le_of_ble_eq_true rfl⟩, hts _ wd_586⟩ ⟨kc_blind _ _ _ _ _, kc_pre _ hK hN (hP.sub [] rfl) (hD.sub [] (by decide) rfl)⟩ rfl rfl hl.1 rfl (lv_room (Nat.le_of_ble_eq_true rfl)) dX5_move_10 ⟨Nat.zero_le _, Nat.zero_le _⟩) hP hD hS hA [] [0, 1, 2, 3, 4, 5, 6, 7, 8, 9, 10, 11, 12, 13] [0, 1, 2, 3, 4, 5, 6, 7, 8, 9, 10, 11, 12, 13] rfl rfl (by decide) (by decide) (fun _ => rfl) (by decide) (fun _ H locs hP hD hS => ?_)
  have hP : va_P D classes (wM cx aM xw xh xk xj xb xr xc xv xn xl yR yT yC yW yA yE yU yM yV yF yZ yI yD) H := hP
  have hD : va_D A (wM cx aM xw xh xk xj xb xr xc xv xn xl yR yT yC yW yA yE yU yM yV yF yZ yI yD) := hD
  refine lv_if_eq (tgt := 25) hx hb dX5_move_13 (by decide) (fun c4 => ?_) (fun c4 => ?_)
  · replace hf := it_t c4 hf
    refine lv_sipush (v := (-200 : Int32)) hx hb dX5_move_25 (by decide) ?_
    obtain rfl := Option.some.inj hf
    exact kc_iret () hx hb hr hk hP hD hS rfl dX5_move_28
  · replace hf := it_f c4 hf
    refine lv_aload_n hx hb dX5_move_16 rfl (lv_at hl 0 rfl) ?_
    refine va_get (D := D) (ci := 5) (v := .ref (aM 9)) (C := RX5) (T := TX5) (N := 23) hx hb hts iX5 hown hK hP 0 rfl rfl 16 (by decide) (hts _ wd_656) (fun _ h9 => h9) rfl dX5_move_17 ?_
    refine lv_iload_n hx hb dX5_move_20 rfl (lv_at hl 1 rfl) ?_
    obtain ⟨hz, hf⟩ := okb_s hf
    refine va_iald (D := D) hx hb hK hP 9 0 rfl rfl (inb_s hz) dX5_move_21 ?_
    refine lv_goto (tgt := 28) hx hb dX5_move_22 (by decide) ?_
    obtain rfl := Option.some.inj hf
    exact kc_iret () hx hb hr hk hP hD hS rfl dX5_move_28
abbrev rmX5_at : Room := { frames := 3, cells := 0, slots := 0, locals := 71 }
set_option maxHeartbeats 4000000 in
set_option maxRecDepth 100000 in
theorem metX5_at (l : Launch) (D : va_G) (cx : Nat → ClassId) (aM : Nat → Nat) (xw : Int32) (xh : Int32) (xk : Int32) (xj : Int32) (xb : Int32) (xr : Int32) (xc : Int32) (xv : Int32) (xn : Int32) (xl : Int32) (yR : Nat → Int32) (yT : Nat → Int32) (yC : Nat → Int32) (yW : Nat → Int32) (yA : Nat → Int32) (yE : Nat → Int32) (yU : Nat → Int32) (yM : Nat → Int32) (yV : Nat → Int32) (yF : Nat → Int32) (yZ : Nat → Int32) (yI : Nat → Int32) (yD : Nat → Int32) (x1 : Int32) (N : Nat) (sz : Nat) (v : Int32 × Int32 × (Nat → Int32)) (hf : fX5_at N xw xh xc xn yM x1 = some v) : Met l yX5_at (.code yX5_at cX5_at 2 (some .int) :: kc_TB) rmX5_at (kc_Pre D cx (wM cx aM xw xh xk xj xb xr xc xv xn xl yR yT yC yW yA yE yU yM yV yF yZ yI yD) [.ref (aM 0), .int x1] sz) (kc_Pi D (fun _ : Unit => (wM cx aM xw xh xk xj xb xr v.2.1 xv xn xl yR yT yC yW yA yE yU v.2.2 yV yF yZ yI yD)) v.1 (va_A (wM cx aM xw xh xk xj xb xr xc xv xn xl yR yT yC yW yA yE yU yM yV yF yZ yI yD) sz)) 0 0 (va_A (wM cx aM xw xh xk xj xb xr xc xv xn xl yR yT yC yW yA yE yU yM yV yF yZ yI yD) sz) := by
  refine kc_entry (Qc := fun A => (kc_Pi D (fun _ : Unit => (wM cx aM xw xh xk xj xb xr v.2.1 xv xn xl yR yT yC yW yA yE yU v.2.2 yV yF yZ yI yD)) v.1 A)) (by decide) (Nat.le_of_ble_eq_true rfl) ?_
  intro p e s m below meth c A hx hb hr hk hml hown hin hts hN hK hP hD hS hA ls hl
  have hown : s.vm.findClass RX5 = some m.cls := hown
  have hl : lv_has ls 2 [(0, .ref (aM 0)), (1, .int x1)] := hl
  unfold fX5_at at hf
  have hP : va_P D classes (wM cx aM xw xh xk xj xb xr xc xv xn xl yR yT yC yW yA yE yU yM yV yF yZ yI yD) s.heap := hP
  obtain ⟨H, hH⟩ : ∃ H, H = s.heap := ⟨_, rfl⟩
  obtain ⟨locs, hL⟩ : ∃ locs : List Loc, locs = [] := ⟨_, rfl⟩
  have hS : va_S A s.heap H locs := by rw [hH, hL]; exact hS
  have hP : va_P D classes (wM cx aM xw xh xk xj xb xr xc xv xn xl yR yT yC yW yA yE yU yM yV yF yZ yI yD) H := by rw [hH]; exact hP
  suffices hW : W p l e rmX5_at s m ([.ref (aM 0), .int x1] : List Value).toArray below meth c H locs 0 0 (MQ below (kc_Pi D (fun _ : Unit => (wM cx aM xw xh xk xj xb xr v.2.1 xv xn xl yR yT yC yW yA yE yU v.2.2 yV yF yZ yI yD)) v.1 A) ([.ref (aM 0), .int x1] : List Value).toArray s 0 0 A) (F0 m 0 ls []) by rw [hH, hL] at hW; exact hW
  clear hH hL
  refine lv_iload_n hx hb dX5_at_0 rfl (lv_at hl 1 rfl) ?_
  refine lv_i2l hx hb dX5_at_1 rfl ?_
  refine lv_lconst (v := (0 : Int64)) hx hb dX5_at_2 (by decide) ?_
  refine lv_aload_n hx hb dX5_at_3 rfl (lv_at hl 0 rfl) ?_
  refine va_get (D := D) (ci := 5) (v := .int xw) (C := RX5) (T := TX5) (N := 23) hx hb hts iX5 hown hK hP 0 rfl rfl 0 (by decide) (hts _ wd_640) (fun _ h9 => h9) rfl dX5_at_4 ?_
  refine lv_aload_n hx hb dX5_at_7 rfl (lv_at hl 0 rfl) ?_
  refine va_get (D := D) (ci := 5) (v := .int xh) (C := RX5) (T := TX5) (N := 23) hx hb hts iX5 hown hK hP 0 rfl rfl 1 (by decide) (hts _ wd_641) (fun _ h9 => h9) rfl dX5_at_8 ?_
  refine lv_imul hx hb dX5_at_11 ?_
  refine lv_iconst (v := (1 : Int32)) hx hb dX5_at_12 (by decide) ?_
  refine lv_isub hx hb dX5_at_13 ?_
  refine lv_i2l hx hb dX5_at_14 rfl ?_
  obtain ⟨u6, hg, hf⟩ := ob_s hf
  refine kc_calli (wn := fun _ => (wM cx aM xw xh xk xj xb xr xc xv xn xl yR yT yC yW yA yE yU yM yV yF yZ yI yD)) (va_runS (As := [.long x1.toInt64, .long (0 : Int64), .long ((xw * xh) - (1 : Int32)).toInt64]) (rest := []) ⟨hx, hb, hml, hown, hts⟩ (metX5_in l D cx   x1.toInt64 (0 : Int64) ((xw * xh) - (1 : Int32)).toInt64 N H.size u6 hg) ⟨callB_of 3 hts (kc_gI wd_587) rfl rfl rfl (hts _ wd_46) (hts _ wd_585) (by decide +kernel) ⟨Nat.le_of_ble_eq_true rfl, Nat.le_of_ble_eq_true rfl⟩, hts _ wd_586⟩ ⟨kc_blind _ _ _ _ _, kc_pre _ hK hN (hP.sub [] rfl) (hD.sub [] (by decide) rfl)⟩ rfl rfl hl.1 rfl (lv_room (Nat.le_of_ble_eq_true rfl)) dX5_at_15 ⟨Nat.zero_le _, Nat.zero_le _⟩) hP hD hS hA [] [0, 1, 2, 3, 4, 5, 6, 7, 8, 9, 10, 11, 12, 13] [0, 1, 2, 3, 4, 5, 6, 7, 8, 9, 10, 11, 12, 13] rfl rfl (by decide) (by decide) (fun _ => rfl) (by decide) (fun _ H locs hP hD hS => ?_)
  have hP : va_P D classes (wM cx aM xw xh xk xj xb xr xc xv xn xl yR yT yC yW yA yE yU yM yV yF yZ yI yD) H := hP
  have hD : va_D A (wM cx aM xw xh xk xj xb xr xc xv xn xl yR yT yC yW yA yE yU yM yV yF yZ yI yD) := hD
  refine lv_if_ne (tgt := 25) hx hb dX5_at_18 (by decide) (fun c7 => ?_) (fun c7 => ?_)
  · replace hf := it_f c7 hf
    refine lv_aload_n hx hb dX5_at_25 rfl (lv_at hl 0 rfl) ?_
    refine lv_aload_n hx hb dX5_at_26 rfl (lv_at hl 0 rfl) ?_
    refine va_get (D := D) (ci := 5) (v := .int xn) (C := RX5) (T := TX5) (N := 23) hx hb hts iX5 hown hK hP 0 rfl rfl 17 (by decide) (hts _ wd_657) (fun _ h9 => h9) rfl dX5_at_27 ?_
    obtain ⟨u8, hg, hf⟩ := ob_s hf
    refine kc_callv (wn := fun _ => (wM cx aM xw xh xk xj xb xr u8.1 xv xn xl yR yT yC yW yA yE yU u8.2 yV yF yZ yI yD)) (va_runV (As := [.int xn]) (rest := []) ⟨hx, hb, hml, hown, hts⟩ (metX5_decode l D cx aM xw xh xk xj xb xr xc xv xn xl yR yT yC yW yA yE yU yM yV yF yZ yI yD xn N H.size u8 hg) ⟨callB_of 1 hts (kc_gI wd_607) rfl rfl rfl (hts _ wd_46) (hts _ wd_604) (by decide +kernel) ⟨Nat.le_of_ble_eq_true rfl, Nat.le_of_ble_eq_true rfl⟩, hts _ wd_606, hts _ wd_22⟩ ⟨kc_blind _ _ _ _ _, va_recv hK hP (ci := 5) (q0 := 0) rfl rfl, kc_pre _ hK hN (hP.sub [0, 1, 2, 3, 4, 5, 6, 7, 8, 9, 10, 11, 12, 13] rfl) (hD.sub [0, 1, 2, 3, 4, 5, 6, 7, 8, 9, 10, 11, 12, 13] (by decide) rfl)⟩ rfl rfl hl.1 rfl (lv_room (Nat.le_of_ble_eq_true rfl)) dX5_at_30 ⟨Nat.zero_le _, Nat.zero_le _⟩) hP hD hS hA [0, 1, 2, 3, 4, 5, 6, 7, 8, 9, 10, 11, 12, 13] [] [0, 1, 2, 3, 4, 5, 6, 7, 8, 9, 10, 11, 12, 13] rfl rfl (by decide) (by decide) (fun _ => rfl) (by decide) (fun _ H locs hP hD hS => ?_)
    have hP : va_P D classes (wM cx aM xw xh xk xj xb xr u8.1 xv xn xl yR yT yC yW yA yE yU u8.2 yV yF yZ yI yD) H := hP
    have hD : va_D A (wM cx aM xw xh xk xj xb xr u8.1 xv xn xl yR yT yC yW yA yE yU u8.2 yV yF yZ yI yD) := hD
    refine lv_aload_n hx hb dX5_at_33 rfl (lv_at hl 0 rfl) ?_
    refine va_get (D := D) (ci := 5) (v := .ref (aM 8)) (C := RX5) (T := TX5) (N := 23) hx hb hts iX5 hown hK hP 0 rfl rfl 13 (by decide) (hts _ wd_653) (fun _ h9 => h9) rfl dX5_at_34 ?_
    refine lv_iconst (v := (0 : Int32)) hx hb dX5_at_37 (by decide) ?_
    obtain ⟨hz, hf⟩ := okb_s hf
    refine va_iald (D := D) hx hb hK hP 8 0 rfl rfl (inb_s hz) dX5_at_38 ?_
    refine lv_iload_n hx hb dX5_at_39 rfl (lv_at hl 1 rfl) ?_
    refine lv_ishr hx hb dX5_at_40 ?_
    refine lv_iconst (v := (1 : Int32)) hx hb dX5_at_41 (by decide) ?_
    refine lv_iand hx hb dX5_at_42 ?_
    refine lv_iconst (v := (1 : Int32)) hx hb dX5_at_43 (by decide) ?_
    refine lv_icmp_ne (tgt := 51) hx hb dX5_at_44 (by decide) (fun c9 => ?_) (fun c9 => ?_)
    · replace hf := it_f c9 hf
      refine lv_aload_n hx hb dX5_at_51 rfl (lv_at hl 0 rfl) ?_
      refine va_get (D := D) (ci := 5) (v := .ref (aM 8)) (C := RX5) (T := TX5) (N := 23) hx hb hts iX5 hown hK hP 0 rfl rfl 13 (by decide) (hts _ wd_653) (fun _ h9 => h9) rfl dX5_at_52 ?_
      refine lv_iconst (v := (1 : Int32)) hx hb dX5_at_55 (by decide) ?_
      obtain ⟨hz, hf⟩ := okb_s hf
      refine va_iald (D := D) hx hb hK hP 8 0 rfl rfl (inb_s hz) dX5_at_56 ?_
      refine lv_iload_n hx hb dX5_at_57 rfl (lv_at hl 1 rfl) ?_
      refine lv_ishr hx hb dX5_at_58 ?_
      refine lv_iconst (v := (1 : Int32)) hx hb dX5_at_59 (by decide) ?_
      refine lv_iand hx hb dX5_at_60 ?_
      refine lv_iconst (v := (1 : Int32)) hx hb dX5_at_61 (by decide) ?_
      refine lv_icmp_ne (tgt := 69) hx hb dX5_at_62 (by decide) (fun c10 => ?_) (fun c10 => ?_)
      · replace hf := it_f c10 hf
        refine lv_iconst (v := (-1 : Int32)) hx hb dX5_at_69 (by decide) ?_
        obtain rfl := Option.some.inj hf
        exact kc_iret () hx hb hr hk hP hD hS rfl dX5_at_70
      · replace hf := it_t c10 hf
        refine lv_iconst (v := (1 : Int32)) hx hb dX5_at_65 (by decide) ?_
        refine lv_goto (tgt := 70) hx hb dX5_at_66 (by decide) ?_
        obtain rfl := Option.some.inj hf
        exact kc_iret () hx hb hr hk hP hD hS rfl dX5_at_70
    · replace hf := it_t c9 hf
      refine lv_iconst (v := (0 : Int32)) hx hb dX5_at_47 (by decide) ?_
      refine lv_goto (tgt := 70) hx hb dX5_at_48 (by decide) ?_
      obtain rfl := Option.some.inj hf
      exact kc_iret () hx hb hr hk hP hD hS rfl dX5_at_70
  · replace hf := it_t c7 hf
    refine lv_sipush (v := (-200 : Int32)) hx hb dX5_at_21 (by decide) ?_
    obtain rfl := Option.some.inj hf
    exact kc_iret () hx hb hr hk hP hD hS rfl dX5_at_24
abbrev rmX5_game : Room := { frames := 3, cells := 0, slots := 0, locals := 71 }
set_option maxHeartbeats 4000000 in
set_option maxRecDepth 100000 in
theorem metX5_game (l : Launch) (D : va_G) (cx : Nat → ClassId) (aM : Nat → Nat) (xw : Int32) (xh : Int32) (xk : Int32) (xj : Int32) (xb : Int32) (xr : Int32) (xc : Int32) (xv : Int32) (xn : Int32) (xl : Int32) (yR : Nat → Int32) (yT : Nat → Int32) (yC : Nat → Int32) (yW : Nat → Int32) (yA : Nat → Int32) (yE : Nat → Int32) (yU : Nat → Int32) (yM : Nat → Int32) (yV : Nat → Int32) (yF : Nat → Int32) (yZ : Nat → Int32) (yI : Nat → Int32) (yD : Nat → Int32) (x1 : Int32) (N : Nat) (sz : Nat) (v : Int32 × Int32 × (Nat → Int32)) (hf : fX5_game N xw xh xr xc xv xn yR yT yM x1 = some v) : Met l yX5_game (.code yX5_game cX5_game 4 (some .int) :: kc_TB) rmX5_game (kc_Pre D cx (wM cx aM xw xh xk xj xb xr xc xv xn xl yR yT yC yW yA yE yU yM yV yF yZ yI yD) [.ref (aM 0), .int x1] sz) (kc_Pi D (fun _ : Unit => (wM cx aM xw xh xk xj xb xr v.2.1 xv xn xl yR yT yC yW yA yE yU v.2.2 yV yF yZ yI yD)) v.1 (va_A (wM cx aM xw xh xk xj xb xr xc xv xn xl yR yT yC yW yA yE yU yM yV yF yZ yI yD) sz)) 0 0 (va_A (wM cx aM xw xh xk xj xb xr xc xv xn xl yR yT yC yW yA yE yU yM yV yF yZ yI yD) sz) := by
  refine kc_entry (Qc := fun A => (kc_Pi D (fun _ : Unit => (wM cx aM xw xh xk xj xb xr v.2.1 xv xn xl yR yT yC yW yA yE yU v.2.2 yV yF yZ yI yD)) v.1 A)) (by decide) (Nat.le_of_ble_eq_true rfl) ?_
  intro p e s m below meth c A hx hb hr hk hml hown hin hts hN hK hP hD hS hA ls hl
  have hown : s.vm.findClass RX5 = some m.cls := hown
  have hl : lv_has ls 4 [(0, .ref (aM 0)), (1, .int x1)] := hl
  unfold fX5_game at hf
  have hP : va_P D classes (wM cx aM xw xh xk xj xb xr xc xv xn xl yR yT yC yW yA yE yU yM yV yF yZ yI yD) s.heap := hP
  obtain ⟨H, hH⟩ : ∃ H, H = s.heap := ⟨_, rfl⟩
  obtain ⟨locs, hL⟩ : ∃ locs : List Loc, locs = [] := ⟨_, rfl⟩
  have hS : va_S A s.heap H locs := by rw [hH, hL]; exact hS
  have hP : va_P D classes (wM cx aM xw xh xk xj xb xr xc xv xn xl yR yT yC yW yA yE yU yM yV yF yZ yI yD) H := by rw [hH]; exact hP
  suffices hW : W p l e rmX5_game s m ([.ref (aM 0), .int x1] : List Value).toArray below meth c H locs 0 0 (MQ below (kc_Pi D (fun _ : Unit => (wM cx aM xw xh xk xj xb xr v.2.1 xv xn xl yR yT yC yW yA yE yU v.2.2 yV yF yZ yI yD)) v.1 A) ([.ref (aM 0), .int x1] : List Value).toArray s 0 0 A) (F0 m 0 ls []) by rw [hH, hL] at hW; exact hW
  clear hH hL
  refine lv_iconst (v := (0 : Int32)) hx hb dX5_game_0 (by decide) ?_
  refine lv_istore_n (lv' := [(2, .int (0 : Int32)), (0, .ref (aM 0)), (1, .int x1)]) hx hb dX5_game_1 rfl hl (by decide) rfl (fun ls hl => ?_)
  refine lv_iload_n hx hb dX5_game_2 rfl (lv_at hl 2 rfl) ?_
  by_cases c35 : x1 = (0 : Int32)
  · replace hf := it_t c35 hf
    refine lv_tableIn (tgt := 36) (off := 33) hx hb dX5_game_3 (by rw [c35]; decide) (by rw [c35]; decide) (by rw [c35]; decide) (by decide) ?_
    refine lv_aload_n hx hb dX5_game_36 rfl (lv_at hl 1 rfl) ?_
    refine va_get (D := D) (ci := 5) (v := .int xv) (C := RX5) (T := TX5) (N := 23) hx hb hts iX5 hown hK hP 0 rfl rfl 15 (by decide) (hts _ wd_655) (fun _ h9 => h9) rfl dX5_game_37 ?_
    refine lv_iconst (v := (2 : Int32)) hx hb dX5_game_40 (by decide) ?_
    refine lv_irem hx hb dX5_game_41 (by decide) ?_
    obtain rfl := Option.some.inj hf
    exact kc_iret () hx hb hr hk hP hD hS rfl dX5_game_42
  · replace hf := it_f c35 hf
    by_cases c36 : x1 = (1 : Int32)
    · replace hf := it_t c36 hf
      refine lv_tableIn (tgt := 43) (off := 40) hx hb dX5_game_3 (by rw [c36]; decide) (by rw [c36]; decide) (by rw [c36]; decide) (by decide) ?_
      refine lv_aload_n hx hb dX5_game_43 rfl (lv_at hl 1 rfl) ?_
      refine va_get (D := D) (ci := 5) (v := .int xv) (C := RX5) (T := TX5) (N := 23) hx hb hts iX5 hown hK hP 0 rfl rfl 15 (by decide) (hts _ wd_655) (fun _ h9 => h9) rfl dX5_game_44 ?_
      obtain rfl := Option.some.inj hf
      exact kc_iret () hx hb hr hk hP hD hS rfl dX5_game_47
    · replace hf := it_f c36 hf
      by_cases c37 : x1 = (2 : Int32)
      · replace hf := it_t c37 hf
        refine lv_tableIn (tgt := 48) (off := 45) hx hb dX5_game_3 (by rw [c37]; decide) (by rw [c37]; decide) (by rw [c37]; decide) (by decide) ?_
        refine lv_aload_n hx hb dX5_game_48 rfl (lv_at hl 1 rfl) ?_
        refine va_get (D := D) (ci := 5) (v := .ref (aM 2)) (C := RX5) (T := TX5) (N := 23) hx hb hts iX5 hown hK hP 0 rfl rfl 7 (by decide) (hts _ wd_647) (fun _ h9 => h9) rfl dX5_game_49 ?_
        refine lv_aload_n hx hb dX5_game_52 rfl (lv_at hl 1 rfl) ?_
        refine va_get (D := D) (ci := 5) (v := .int xn) (C := RX5) (T := TX5) (N := 23) hx hb hts iX5 hown hK hP 0 rfl rfl 17 (by decide) (hts _ wd_657) (fun _ h9 => h9) rfl dX5_game_53 ?_
        obtain ⟨hz, hf⟩ := okb_s hf
        refine va_bald (D := D) hx hb hK hP 2 1 rfl rfl (inb_s hz) dX5_game_56 ?_
        refine lv_bipush (v := (127 : Int32)) hx hb dX5_game_57 (by decide) ?_
        refine lv_icmp_ne (tgt := 66) hx hb dX5_game_59 (by decide) (fun c16 => ?_) (fun c16 => ?_)
        · replace hf := it_f c16 hf
          refine lv_aload_n hx hb dX5_game_66 rfl (lv_at hl 1 rfl) ?_
          refine va_get (D := D) (ci := 5) (v := .ref (aM 2)) (C := RX5) (T := TX5) (N := 23) hx hb hts iX5 hown hK hP 0 rfl rfl 7 (by decide) (hts _ wd_647) (fun _ h9 => h9) rfl dX5_game_67 ?_
          refine lv_aload_n hx hb dX5_game_70 rfl (lv_at hl 1 rfl) ?_
          refine va_get (D := D) (ci := 5) (v := .int xn) (C := RX5) (T := TX5) (N := 23) hx hb hts iX5 hown hK hP 0 rfl rfl 17 (by decide) (hts _ wd_657) (fun _ h9 => h9) rfl dX5_game_71 ?_
          obtain ⟨hz, hf⟩ := okb_s hf
          refine va_bald (D := D) hx hb hK hP 2 1 rfl rfl (inb_s hz) dX5_game_74 ?_
          refine lv_bipush (v := (126 : Int32)) hx hb dX5_game_75 (by decide) ?_
          refine lv_icmp_ne (tgt := 84) hx hb dX5_game_77 (by decide) (fun c17 => ?_) (fun c17 => ?_)
          · replace hf := it_f c17 hf
            refine lv_iconst (v := (0 : Int32)) hx hb dX5_game_84 (by decide) ?_
            obtain rfl := Option.some.inj hf
            exact kc_iret () hx hb hr hk hP hD hS rfl dX5_game_85
          · replace hf := it_t c17 hf
            refine lv_iconst (v := (2 : Int32)) hx hb dX5_game_80 (by decide) ?_
            refine lv_goto (tgt := 85) hx hb dX5_game_81 (by decide) ?_
            obtain rfl := Option.some.inj hf
            exact kc_iret () hx hb hr hk hP hD hS rfl dX5_game_85
        · replace hf := it_t c16 hf
          refine lv_iconst (v := (1 : Int32)) hx hb dX5_game_62 (by decide) ?_
          refine lv_goto (tgt := 85) hx hb dX5_game_63 (by decide) ?_
          obtain rfl := Option.some.inj hf
          exact kc_iret () hx hb hr hk hP hD hS rfl dX5_game_85
      · replace hf := it_f c37 hf
        by_cases c38 : x1 = (3 : Int32)
        · replace hf := it_t c38 hf
          refine lv_tableIn (tgt := 86) (off := 83) hx hb dX5_game_3 (by rw [c38]; decide) (by rw [c38]; decide) (by rw [c38]; decide) (by decide) ?_
          refine lv_iconst (v := (0 : Int32)) hx hb dX5_game_86 (by decide) ?_
          refine lv_istore_n (lv' := [(3, .int (0 : Int32)), (2, .int (0 : Int32)), (0, .ref (aM 0)), (1, .int x1)]) hx hb dX5_game_87 rfl hl (by decide) rfl (fun ls hl => ?_)
          have L88 : ∀ (ct : Nat) (x2 : Int32) (x3 : Int32) (v88 : Int32), fX5_game_L88 N xw xh xn ct x2 x3 = some v88 → ∀ (H : Heap) (locs : List Loc) (ls : Array Slot), va_P D classes (wM cx aM xw xh xk xj xb xr xc xv xn xl yR yT yC yW yA yE yU yM yV yF yZ yI yD) H → va_D A (wM cx aM xw xh xk xj xb xr xc xv xn xl yR yT yC yW yA yE yU yM yV yF yZ yI yD) → va_S A s.heap H locs → lv_has ls 4 [(0, .ref (aM 0)), (2, .int x2), (3, .int x3)] → (∀ (H : Heap) (locs : List Loc) (ls : Array Slot), va_P D classes (wM cx aM xw xh xk xj xb xr xc xv xn xl yR yT yC yW yA yE yU yM yV yF yZ yI yD) H → va_D A (wM cx aM xw xh xk xj xb xr xc xv xn xl yR yT yC yW yA yE yU yM yV yF yZ yI yD) → va_S A s.heap H locs → lv_has ls 4 [(2, .int v88)] → W p l e rmX5_game s m ([.ref (aM 0), .int x1] : List Value).toArray below meth c H locs 0 0 (MQ below (kc_Pi D (fun _ : Unit => (wM cx aM xw xh xk xj xb xr v.2.1 xv xn xl yR yT yC yW yA yE yU v.2.2 yV yF yZ yI yD)) v.1 A) ([.ref (aM 0), .int x1] : List Value).toArray s 0 0 A) (F0 m 118 ls [])) → W p l e rmX5_game s m ([.ref (aM 0), .int x1] : List Value).toArray below meth c H locs 0 0 (MQ below (kc_Pi D (fun _ : Unit => (wM cx aM xw xh xk xj xb xr v.2.1 xv xn xl yR yT yC yW yA yE yU v.2.2 yV yF yZ yI yD)) v.1 A) ([.ref (aM 0), .int x1] : List Value).toArray s 0 0 A) (F0 m 88 ls []) := by
            intro ct
            induction ct with
            | zero =>
              intro x2 x3 v88 hf
              exact absurd (show (none : Option (Int32)) = some v88 from hf) (fun q => by cases q)
            | succ ct ih =>
              intro x2 x3 v88 hf H locs ls hP hD hS hl hE
              rw [fX5_game_L88] at hf
              refine lv_iload_n hx hb dX5_game_88 rfl (lv_at hl 2 rfl) ?_
              refine lv_aload_n hx hb dX5_game_89 rfl (lv_at hl 0 rfl) ?_
              refine va_get (D := D) (ci := 5) (v := .int xw) (C := RX5) (T := TX5) (N := 23) hx hb hts iX5 hown hK hP 0 rfl rfl 0 (by decide) (hts _ wd_640) (fun _ h9 => h9) rfl dX5_game_90 ?_
              refine lv_icmp_ge (tgt := 118) hx hb dX5_game_93 (by decide) (fun c21 => ?_) (fun c21 => ?_)
              · replace hf := it_t c21 hf
                obtain rfl := Option.some.inj hf
                exact hE H locs ls hP hD hS (lv_sub hl [1] rfl)
              · replace hf := it_f c21 hf
                refine lv_iload_n hx hb dX5_game_96 rfl (lv_at hl 1 rfl) ?_
                refine lv_aload_n hx hb dX5_game_97 rfl (lv_at hl 0 rfl) ?_
                refine lv_iload_n hx hb dX5_game_98 rfl (lv_at hl 2 rfl) ?_
                obtain ⟨u22, hg, hf⟩ := ob_s hf
                refine kc_calli (wn := fun _ => (wM cx aM xw xh xk xj xb xr xc xv xn xl yR yT yC yW yA yE yU yM yV yF yZ yI yD)) (va_runV (As := [.int x3]) (rest := [.int x2]) ⟨hx, hb, hml, hown, hts⟩ (metX5_isFree l D cx aM xw xh xk xj xb xr xc xv xn xl yR yT yC yW yA yE yU yM yV yF yZ yI yD x3 N H.size u22 hg) ⟨callB_of 1 hts (kc_gI wd_726) rfl rfl rfl (hts _ wd_46) (hts _ wd_723) (by decide +kernel) ⟨Nat.le_of_ble_eq_true rfl, Nat.le_of_ble_eq_true rfl⟩, hts _ wd_725, hts _ wd_31⟩ ⟨kc_blind _ _ _ _ _, va_recv hK hP (ci := 5) (q0 := 0) rfl rfl, kc_pre _ hK hN (hP.sub [0, 1, 2, 3, 4, 5, 6, 7, 8, 9, 10, 11, 12, 13] rfl) (hD.sub [0, 1, 2, 3, 4, 5, 6, 7, 8, 9, 10, 11, 12, 13] (by decide) rfl)⟩ rfl rfl hl.1 rfl (lv_room (Nat.le_of_ble_eq_true rfl)) dX5_game_99 ⟨Nat.zero_le _, Nat.zero_le _⟩) hP hD hS hA [0, 1, 2, 3, 4, 5, 6, 7, 8, 9, 10, 11, 12, 13] [] [0, 1, 2, 3, 4, 5, 6, 7, 8, 9, 10, 11, 12, 13] rfl rfl (by decide) (by decide) (fun _ => rfl) (by decide) (fun _ H locs hP hD hS => ?_)
                have hP : va_P D classes (wM cx aM xw xh xk xj xb xr xc xv xn xl yR yT yC yW yA yE yU yM yV yF yZ yI yD) H := hP
                have hD : va_D A (wM cx aM xw xh xk xj xb xr xc xv xn xl yR yT yC yW yA yE yU yM yV yF yZ yI yD) := hD
                refine lv_if_eq (tgt := 109) hx hb dX5_game_102 (by decide) (fun c23 => ?_) (fun c23 => ?_)
                · replace hf := it_t c23 hf
                  refine lv_iconst (v := (0 : Int32)) hx hb dX5_game_109 (by decide) ?_
                  refine lv_iadd hx hb dX5_game_110 ?_
                  refine lv_istore_n (lv' := [(2, .int (x2 + (0 : Int32))), (0, .ref (aM 0)), (3, .int x3)]) hx hb dX5_game_111 rfl hl (by decide) rfl (fun ls hl => ?_)
                  refine lv_iinc (v := (x3 + (1 : Int32))) (lv' := [(3, .int (x3 + (1 : Int32))), (2, .int (x2 + (0 : Int32))), (0, .ref (aM 0))]) hx hb dX5_game_112 hl (k := 2) rfl rfl (by decide) rfl (fun ls hl => ?_)
                  refine lv_goto (tgt := 88) hx hb dX5_game_115 (by decide) ?_
                  exact ih (x2 + (0 : Int32)) (x3 + (1 : Int32)) _ hf H locs ls hP hD hS (lv_sub hl [2, 1, 0] rfl) hE
                · replace hf := it_f c23 hf
                  refine lv_iconst (v := (1 : Int32)) hx hb dX5_game_105 (by decide) ?_
                  refine lv_goto (tgt := 110) hx hb dX5_game_106 (by decide) ?_
                  refine lv_iadd hx hb dX5_game_110 ?_
                  refine lv_istore_n (lv' := [(2, .int (x2 + (1 : Int32))), (0, .ref (aM 0)), (3, .int x3)]) hx hb dX5_game_111 rfl hl (by decide) rfl (fun ls hl => ?_)
                  refine lv_iinc (v := (x3 + (1 : Int32))) (lv' := [(3, .int (x3 + (1 : Int32))), (2, .int (x2 + (1 : Int32))), (0, .ref (aM 0))]) hx hb dX5_game_112 hl (k := 2) rfl rfl (by decide) rfl (fun ls hl => ?_)
                  refine lv_goto (tgt := 88) hx hb dX5_game_115 (by decide) ?_
                  exact ih (x2 + (1 : Int32)) (x3 + (1 : Int32)) _ hf H locs ls hP hD hS (lv_sub hl [2, 1, 0] rfl) hE
          obtain ⟨u24, hg, hf⟩ := ob_s hf
          refine L88 _ (0 : Int32) (0 : Int32) u24 hg H locs ls hP hD hS (lv_sub hl [2, 1, 0] rfl) (fun H locs ls hP hD hS hl => ?_)
          refine lv_iload_n hx hb dX5_game_118 rfl (lv_at hl 0 rfl) ?_
          obtain rfl := Option.some.inj hf
          exact kc_iret () hx hb hr hk hP hD hS rfl dX5_game_119
        · replace hf := it_f c38 hf
          by_cases c39 : x1 = (4 : Int32)
          · replace hf := it_t c39 hf
            refine lv_tableIn (tgt := 120) (off := 117) hx hb dX5_game_3 (by rw [c39]; decide) (by rw [c39]; decide) (by rw [c39]; decide) (by decide) ?_
            refine lv_aload_n hx hb dX5_game_120 rfl (lv_at hl 1 rfl) ?_
            refine lv_aload_n hx hb dX5_game_121 rfl (lv_at hl 1 rfl) ?_
            refine va_get (D := D) (ci := 5) (v := .int xn) (C := RX5) (T := TX5) (N := 23) hx hb hts iX5 hown hK hP 0 rfl rfl 17 (by decide) (hts _ wd_657) (fun _ h9 => h9) rfl dX5_game_122 ?_
            obtain ⟨u25, hg, hf⟩ := ob_s hf
            refine kc_callv (wn := fun _ => (wM cx aM xw xh xk xj xb xr u25.1 xv xn xl yR yT yC yW yA yE yU u25.2 yV yF yZ yI yD)) (va_runV (As := [.int xn]) (rest := []) ⟨hx, hb, hml, hown, hts⟩ (metX5_decode l D cx aM xw xh xk xj xb xr xc xv xn xl yR yT yC yW yA yE yU yM yV yF yZ yI yD xn N H.size u25 hg) ⟨callB_of 1 hts (kc_gI wd_607) rfl rfl rfl (hts _ wd_46) (hts _ wd_604) (by decide +kernel) ⟨Nat.le_of_ble_eq_true rfl, Nat.le_of_ble_eq_true rfl⟩, hts _ wd_606, hts _ wd_22⟩ ⟨kc_blind _ _ _ _ _, va_recv hK hP (ci := 5) (q0 := 0) rfl rfl, kc_pre _ hK hN (hP.sub [0, 1, 2, 3, 4, 5, 6, 7, 8, 9, 10, 11, 12, 13] rfl) (hD.sub [0, 1, 2, 3, 4, 5, 6, 7, 8, 9, 10, 11, 12, 13] (by decide) rfl)⟩ rfl rfl hl.1 rfl (lv_room (Nat.le_of_ble_eq_true rfl)) dX5_game_125 ⟨Nat.zero_le _, Nat.zero_le _⟩) hP hD hS hA [0, 1, 2, 3, 4, 5, 6, 7, 8, 9, 10, 11, 12, 13] [] [0, 1, 2, 3, 4, 5, 6, 7, 8, 9, 10, 11, 12, 13] rfl rfl (by decide) (by decide) (fun _ => rfl) (by decide) (fun _ H locs hP hD hS => ?_)
            have hP : va_P D classes (wM cx aM xw xh xk xj xb xr u25.1 xv xn xl yR yT yC yW yA yE yU u25.2 yV yF yZ yI yD) H := hP
            have hD : va_D A (wM cx aM xw xh xk xj xb xr u25.1 xv xn xl yR yT yC yW yA yE yU u25.2 yV yF yZ yI yD) := hD
            refine lv_iconst (v := (0 : Int32)) hx hb dX5_game_128 (by decide) ?_
            refine lv_istore_n (lv' := [(3, .int (0 : Int32)), (2, .int (0 : Int32)), (0, .ref (aM 0)), (1, .int x1)]) hx hb dX5_game_129 rfl hl (by decide) rfl (fun ls hl => ?_)
            have L130 : ∀ (ct : Nat) (x2 : Int32) (x3 : Int32) (v130 : Int32), fX5_game_L130 N xr yR u25.2 ct x2 x3 = some v130 → ∀ (H : Heap) (locs : List Loc) (ls : Array Slot), va_P D classes (wM cx aM xw xh xk xj xb xr u25.1 xv xn xl yR yT yC yW yA yE yU u25.2 yV yF yZ yI yD) H → va_D A (wM cx aM xw xh xk xj xb xr u25.1 xv xn xl yR yT yC yW yA yE yU u25.2 yV yF yZ yI yD) → va_S A s.heap H locs → lv_has ls 4 [(0, .ref (aM 0)), (2, .int x2), (3, .int x3)] → (∀ (H : Heap) (locs : List Loc) (ls : Array Slot), va_P D classes (wM cx aM xw xh xk xj xb xr u25.1 xv xn xl yR yT yC yW yA yE yU u25.2 yV yF yZ yI yD) H → va_D A (wM cx aM xw xh xk xj xb xr u25.1 xv xn xl yR yT yC yW yA yE yU u25.2 yV yF yZ yI yD) → va_S A s.heap H locs → lv_has ls 4 [(2, .int v130)] → W p l e rmX5_game s m ([.ref (aM 0), .int x1] : List Value).toArray below meth c H locs 0 0 (MQ below (kc_Pi D (fun _ : Unit => (wM cx aM xw xh xk xj xb xr v.2.1 xv xn xl yR yT yC yW yA yE yU v.2.2 yV yF yZ yI yD)) v.1 A) ([.ref (aM 0), .int x1] : List Value).toArray s 0 0 A) (F0 m 192 ls [])) → W p l e rmX5_game s m ([.ref (aM 0), .int x1] : List Value).toArray below meth c H locs 0 0 (MQ below (kc_Pi D (fun _ : Unit => (wM cx aM xw xh xk xj xb xr v.2.1 xv xn xl yR yT yC yW yA yE yU v.2.2 yV yF yZ yI yD)) v.1 A) ([.ref (aM 0), .int x1] : List Value).toArray s 0 0 A) (F0 m 130 ls []) := by
              intro ct
              induction ct with
              | zero =>
                intro x2 x3 v130 hf
                exact absurd (show (none : Option (Int32)) = some v130 from hf) (fun q => by cases q)
              | succ ct ih =>
                intro x2 x3 v130 hf H locs ls hP hD hS hl hE
                rw [fX5_game_L130] at hf
                refine lv_iload_n hx hb dX5_game_130 rfl (lv_at hl 2 rfl) ?_
                refine lv_aload_n hx hb dX5_game_131 rfl (lv_at hl 0 rfl) ?_
                refine va_get (D := D) (ci := 5) (v := .int xr) (C := RX5) (T := TX5) (N := 23) hx hb hts iX5 hown hK hP 0 rfl rfl 5 (by decide) (hts _ wd_645) (fun _ h9 => h9) rfl dX5_game_132 ?_
                refine lv_icmp_ge (tgt := 192) hx hb dX5_game_135 (by decide) (fun c30 => ?_) (fun c30 => ?_)
                · replace hf := it_t c30 hf
                  obtain rfl := Option.some.inj hf
                  exact hE H locs ls hP hD hS (lv_sub hl [1] rfl)
                · replace hf := it_f c30 hf
                  refine lv_iload_n hx hb dX5_game_138 rfl (lv_at hl 1 rfl) ?_
                  refine lv_aload_n hx hb dX5_game_139 rfl (lv_at hl 0 rfl) ?_
                  refine va_get (D := D) (ci := 5) (v := .ref (aM 1)) (C := RX5) (T := TX5) (N := 23) hx hb hts iX5 hown hK hP 0 rfl rfl 6 (by decide) (hts _ wd_646) (fun _ h9 => h9) rfl dX5_game_140 ?_
                  refine lv_iload_n hx hb dX5_game_143 rfl (lv_at hl 2 rfl) ?_
                  obtain ⟨hz, hf⟩ := okb_s hf
                  refine va_iald (D := D) hx hb hK hP 1 0 rfl rfl (inb_s hz) dX5_game_144 ?_
                  refine lv_aload_n hx hb dX5_game_145 rfl (lv_at hl 0 rfl) ?_
                  refine va_get (D := D) (ci := 5) (v := .ref (aM 8)) (C := RX5) (T := TX5) (N := 23) hx hb hts iX5 hown hK hP 0 rfl rfl 13 (by decide) (hts _ wd_653) (fun _ h9 => h9) rfl dX5_game_146 ?_
                  refine lv_iconst (v := (0 : Int32)) hx hb dX5_game_149 (by decide) ?_
                  obtain ⟨hz, hf⟩ := okb_s hf
                  refine va_iald (D := D) hx hb hK hP 8 0 rfl rfl (inb_s hz) dX5_game_150 ?_
                  refine lv_iand hx hb dX5_game_151 ?_
                  refine lv_if_ne (tgt := 159) hx hb dX5_game_152 (by decide) (fun c31 => ?_) (fun c31 => ?_)
                  · replace hf := it_f c31 hf
                    refine lv_iconst (v := (0 : Int32)) hx hb dX5_game_159 (by decide) ?_
                    refine lv_iadd hx hb dX5_game_160 ?_
                    refine lv_istore_n (lv' := [(2, .int (x2 + (0 : Int32))), (0, .ref (aM 0)), (3, .int x3)]) hx hb dX5_game_161 rfl hl (by decide) rfl (fun ls hl => ?_)
                    refine lv_iload_n hx hb dX5_game_162 rfl (lv_at hl 0 rfl) ?_
                    refine lv_aload_n hx hb dX5_game_163 rfl (lv_at hl 1 rfl) ?_
                    refine va_get (D := D) (ci := 5) (v := .ref (aM 1)) (C := RX5) (T := TX5) (N := 23) hx hb hts iX5 hown hK hP 0 rfl rfl 6 (by decide) (hts _ wd_646) (fun _ h9 => h9) rfl dX5_game_164 ?_
                    refine lv_iload_n hx hb dX5_game_167 rfl (lv_at hl 2 rfl) ?_
                    obtain ⟨hz, hf⟩ := okb_s hf
                    refine va_iald (D := D) hx hb hK hP 1 0 rfl rfl (inb_s hz) dX5_game_168 ?_
                    refine lv_aload_n hx hb dX5_game_169 rfl (lv_at hl 1 rfl) ?_
                    refine va_get (D := D) (ci := 5) (v := .ref (aM 8)) (C := RX5) (T := TX5) (N := 23) hx hb hts iX5 hown hK hP 0 rfl rfl 13 (by decide) (hts _ wd_653) (fun _ h9 => h9) rfl dX5_game_170 ?_
                    refine lv_iconst (v := (1 : Int32)) hx hb dX5_game_173 (by decide) ?_
                    obtain ⟨hz, hf⟩ := okb_s hf
                    refine va_iald (D := D) hx hb hK hP 8 0 rfl rfl (inb_s hz) dX5_game_174 ?_
                    refine lv_iand hx hb dX5_game_175 ?_
                    refine lv_if_ne (tgt := 183) hx hb dX5_game_176 (by decide) (fun c32 => ?_) (fun c32 => ?_)
                    · replace hf := it_f c32 hf
                      refine lv_iconst (v := (0 : Int32)) hx hb dX5_game_183 (by decide) ?_
                      refine lv_iadd hx hb dX5_game_184 ?_
                      refine lv_istore_n (lv' := [(2, .int ((x2 + (0 : Int32)) + (0 : Int32))), (0, .ref (aM 0)), (3, .int x3)]) hx hb dX5_game_185 rfl hl (by decide) rfl (fun ls hl => ?_)
                      refine lv_iinc (v := (x3 + (1 : Int32))) (lv' := [(3, .int (x3 + (1 : Int32))), (2, .int ((x2 + (0 : Int32)) + (0 : Int32))), (0, .ref (aM 0))]) hx hb dX5_game_186 hl (k := 2) rfl rfl (by decide) rfl (fun ls hl => ?_)
                      refine lv_goto (tgt := 130) hx hb dX5_game_189 (by decide) ?_
                      exact ih ((x2 + (0 : Int32)) + (0 : Int32)) (x3 + (1 : Int32)) _ hf H locs ls hP hD hS (lv_sub hl [2, 1, 0] rfl) hE
                    · replace hf := it_t c32 hf
                      refine lv_iconst (v := (1 : Int32)) hx hb dX5_game_179 (by decide) ?_
                      refine lv_goto (tgt := 184) hx hb dX5_game_180 (by decide) ?_
                      refine lv_iadd hx hb dX5_game_184 ?_
                      refine lv_istore_n (lv' := [(2, .int ((x2 + (0 : Int32)) + (1 : Int32))), (0, .ref (aM 0)), (3, .int x3)]) hx hb dX5_game_185 rfl hl (by decide) rfl (fun ls hl => ?_)
                      refine lv_iinc (v := (x3 + (1 : Int32))) (lv' := [(3, .int (x3 + (1 : Int32))), (2, .int ((x2 + (0 : Int32)) + (1 : Int32))), (0, .ref (aM 0))]) hx hb dX5_game_186 hl (k := 2) rfl rfl (by decide) rfl (fun ls hl => ?_)
                      refine lv_goto (tgt := 130) hx hb dX5_game_189 (by decide) ?_
                      exact ih ((x2 + (0 : Int32)) + (1 : Int32)) (x3 + (1 : Int32)) _ hf H locs ls hP hD hS (lv_sub hl [2, 1, 0] rfl) hE
                  · replace hf := it_t c31 hf
                    refine lv_iconst (v := (1 : Int32)) hx hb dX5_game_155 (by decide) ?_
                    refine lv_goto (tgt := 160) hx hb dX5_game_156 (by decide) ?_
                    refine lv_iadd hx hb dX5_game_160 ?_
                    refine lv_istore_n (lv' := [(2, .int (x2 + (1 : Int32))), (0, .ref (aM 0)), (3, .int x3)]) hx hb dX5_game_161 rfl hl (by decide) rfl (fun ls hl => ?_)
                    refine lv_iload_n hx hb dX5_game_162 rfl (lv_at hl 0 rfl) ?_
                    refine lv_aload_n hx hb dX5_game_163 rfl (lv_at hl 1 rfl) ?_
                    refine va_get (D := D) (ci := 5) (v := .ref (aM 1)) (C := RX5) (T := TX5) (N := 23) hx hb hts iX5 hown hK hP 0 rfl rfl 6 (by decide) (hts _ wd_646) (fun _ h9 => h9) rfl dX5_game_164 ?_
                    refine lv_iload_n hx hb dX5_game_167 rfl (lv_at hl 2 rfl) ?_
                    obtain ⟨hz, hf⟩ := okb_s hf
                    refine va_iald (D := D) hx hb hK hP 1 0 rfl rfl (inb_s hz) dX5_game_168 ?_
                    refine lv_aload_n hx hb dX5_game_169 rfl (lv_at hl 1 rfl) ?_
                    refine va_get (D := D) (ci := 5) (v := .ref (aM 8)) (C := RX5) (T := TX5) (N := 23) hx hb hts iX5 hown hK hP 0 rfl rfl 13 (by decide) (hts _ wd_653) (fun _ h9 => h9) rfl dX5_game_170 ?_
                    refine lv_iconst (v := (1 : Int32)) hx hb dX5_game_173 (by decide) ?_
                    obtain ⟨hz, hf⟩ := okb_s hf
                    refine va_iald (D := D) hx hb hK hP 8 0 rfl rfl (inb_s hz) dX5_game_174 ?_
                    refine lv_iand hx hb dX5_game_175 ?_
                    refine lv_if_ne (tgt := 183) hx hb dX5_game_176 (by decide) (fun c33 => ?_) (fun c33 => ?_)
                    · replace hf := it_f c33 hf
                      refine lv_iconst (v := (0 : Int32)) hx hb dX5_game_183 (by decide) ?_
                      refine lv_iadd hx hb dX5_game_184 ?_
                      refine lv_istore_n (lv' := [(2, .int ((x2 + (1 : Int32)) + (0 : Int32))), (0, .ref (aM 0)), (3, .int x3)]) hx hb dX5_game_185 rfl hl (by decide) rfl (fun ls hl => ?_)
                      refine lv_iinc (v := (x3 + (1 : Int32))) (lv' := [(3, .int (x3 + (1 : Int32))), (2, .int ((x2 + (1 : Int32)) + (0 : Int32))), (0, .ref (aM 0))]) hx hb dX5_game_186 hl (k := 2) rfl rfl (by decide) rfl (fun ls hl => ?_)
                      refine lv_goto (tgt := 130) hx hb dX5_game_189 (by decide) ?_
                      exact ih ((x2 + (1 : Int32)) + (0 : Int32)) (x3 + (1 : Int32)) _ hf H locs ls hP hD hS (lv_sub hl [2, 1, 0] rfl) hE
                    · replace hf := it_t c33 hf
                      refine lv_iconst (v := (1 : Int32)) hx hb dX5_game_179 (by decide) ?_
                      refine lv_goto (tgt := 184) hx hb dX5_game_180 (by decide) ?_
                      refine lv_iadd hx hb dX5_game_184 ?_
                      refine lv_istore_n (lv' := [(2, .int ((x2 + (1 : Int32)) + (1 : Int32))), (0, .ref (aM 0)), (3, .int x3)]) hx hb dX5_game_185 rfl hl (by decide) rfl (fun ls hl => ?_)
                      refine lv_iinc (v := (x3 + (1 : Int32))) (lv' := [(3, .int (x3 + (1 : Int32))), (2, .int ((x2 + (1 : Int32)) + (1 : Int32))), (0, .ref (aM 0))]) hx hb dX5_game_186 hl (k := 2) rfl rfl (by decide) rfl (fun ls hl => ?_)
                      refine lv_goto (tgt := 130) hx hb dX5_game_189 (by decide) ?_
                      exact ih ((x2 + (1 : Int32)) + (1 : Int32)) (x3 + (1 : Int32)) _ hf H locs ls hP hD hS (lv_sub hl [2, 1, 0] rfl) hE
            obtain ⟨u34, hg, hf⟩ := ob_s hf
            refine L130 _ (0 : Int32) (0 : Int32) u34 hg H locs ls hP hD hS (lv_sub hl [2, 1, 0] rfl) (fun H locs ls hP hD hS hl => ?_)
            refine lv_iload_n hx hb dX5_game_192 rfl (lv_at hl 0 rfl) ?_
            obtain rfl := Option.some.inj hf
            exact kc_iret () hx hb hr hk hP hD hS rfl dX5_game_193
          · replace hf := it_f c39 hf
            refine lv_tableOut (tgt := 194) hx hb dX5_game_3 (sw_out4 c35 c36 c37 c38 c39) (by decide) ?_
            refine lv_sipush (v := (-200 : Int32)) hx hb dX5_game_194 (by decide) ?_
            obtain rfl := Option.some.inj hf
            exact kc_iret () hx hb hr hk hP hD hS rfl dX5_game_197
abbrev rmX5_bitOf : Room := { frames := 0, cells := 0, slots := 0, locals := 0 }
set_option maxHeartbeats 4000000 in
set_option maxRecDepth 100000 in
theorem metX5_bitOf (l : Launch) (D : va_G) (cx : Nat → ClassId)   (x0 : Int32) (x1 : Int32) (N : Nat) (sz : Nat) (v : Int32) (hf : fX5_bitOf N x0 x1 = some v) : Met l yX5_bitOf (.code yX5_bitOf cX5_bitOf 4 (some .int) :: kc_TB) rmX5_bitOf (kc_Pre D cx ([] : va_W) [.int x0, .int x1] sz) (kc_Pi D (fun _ : Unit => ([] : va_W)) v (va_A ([] : va_W) sz)) 0 0 (va_A ([] : va_W) sz) := by
  refine kc_entry (Qc := fun A => (kc_Pi D (fun _ : Unit => ([] : va_W)) v A)) (by decide) (Nat.le_of_ble_eq_true rfl) ?_
  intro p e s m below meth c A hx hb hr hk hml hown hin hts hN hK hP hD hS hA ls hl
  have hown : s.vm.findClass RX5 = some m.cls := hown
  have hl : lv_has ls 4 [(0, .int x0), (1, .int x1)] := hl
  unfold fX5_bitOf at hf
  have hP : va_P D classes ([] : va_W) s.heap := hP
  obtain ⟨H, hH⟩ : ∃ H, H = s.heap := ⟨_, rfl⟩
  obtain ⟨locs, hL⟩ : ∃ locs : List Loc, locs = [] := ⟨_, rfl⟩
  have hS : va_S A s.heap H locs := by rw [hH, hL]; exact hS
  have hP : va_P D classes ([] : va_W) H := by rw [hH]; exact hP
  suffices hW : W p l e rmX5_bitOf s m ([.int x0, .int x1] : List Value).toArray below meth c H locs 0 0 (MQ below (kc_Pi D (fun _ : Unit => ([] : va_W)) v A) ([.int x0, .int x1] : List Value).toArray s 0 0 A) (F0 m 0 ls []) by rw [hH, hL] at hW; exact hW
  clear hH hL
  refine lv_iload_n hx hb dX5_bitOf_0 rfl (lv_at hl 1 rfl) ?_
  refine lv_istore_n (lv' := [(2, .int x1), (0, .int x0), (1, .int x1)]) hx hb dX5_bitOf_1 rfl hl (by decide) rfl (fun ls hl => ?_)
  refine lv_iconst (v := (0 : Int32)) hx hb dX5_bitOf_2 (by decide) ?_
  refine lv_istore_n (lv' := [(3, .int (0 : Int32)), (2, .int x1), (0, .int x0), (1, .int x1)]) hx hb dX5_bitOf_3 rfl hl (by decide) rfl (fun ls hl => ?_)
  have L4 : ∀ (ct : Nat) (x2 : Int32) (x3 : Int32) (v4 : (Int32) ⊕ (Unit)), fX5_bitOf_L4 N x0 x1 ct x2 x3 = some v4 → ∀ (H : Heap) (locs : List Loc) (ls : Array Slot), va_P D classes ([] : va_W) H → va_D A ([] : va_W) → va_S A s.heap H locs → lv_has ls 4 [(0, .int x0), (1, .int x1), (2, .int x2), (3, .int x3)] → (∀ (e4 : Unit), v4 = .inr e4 → ∀ (H : Heap) (locs : List Loc) (ls : Array Slot), va_P D classes ([] : va_W) H → va_D A ([] : va_W) → va_S A s.heap H locs → lv_has ls 4 [] → W p l e rmX5_bitOf s m ([.int x0, .int x1] : List Value).toArray below meth c H locs 0 0 (MQ below (kc_Pi D (fun _ : Unit => ([] : va_W)) v A) ([.int x0, .int x1] : List Value).toArray s 0 0 A) (F0 m 38 ls [])) → (∀ (r4 : Int32), v4 = .inl r4 → ∀ (pc : Nat) (H : Heap) (locs : List Loc) (ls : Array Slot), va_P D classes ([] : va_W) H → va_D A ([] : va_W) → va_S A s.heap H locs → decode cX5_bitOf pc = .ok (.ireturn, 1) → W p l e rmX5_bitOf s m ([.int x0, .int x1] : List Value).toArray below meth c H locs 0 0 (MQ below (kc_Pi D (fun _ : Unit => ([] : va_W)) v A) ([.int x0, .int x1] : List Value).toArray s 0 0 A) (F0 m pc ls [.int r4])) → W p l e rmX5_bitOf s m ([.int x0, .int x1] : List Value).toArray below meth c H locs 0 0 (MQ below (kc_Pi D (fun _ : Unit => ([] : va_W)) v A) ([.int x0, .int x1] : List Value).toArray s 0 0 A) (F0 m 4 ls []) := by
    intro ct
    induction ct with
    | zero =>
      intro x2 x3 v4 hf
      exact absurd (show (none : Option ((Int32) ⊕ (Unit))) = some v4 from hf) (fun q => by cases q)
    | succ ct ih =>
      intro x2 x3 v4 hf H locs ls hP hD hS hl hE hR
      rw [fX5_bitOf_L4] at hf
      refine lv_iload_n hx hb dX5_bitOf_4 rfl (lv_at hl 3 rfl) ?_
      refine lv_bipush (v := (16 : Int32)) hx hb dX5_bitOf_5 (by decide) ?_
      refine lv_icmp_ge (tgt := 38) hx hb dX5_bitOf_7 (by decide) (fun c9 => ?_) (fun c9 => ?_)
      · replace hf := it_t c9 hf
        obtain rfl := Option.some.inj hf
        exact hE _ rfl H locs ls hP hD hS (lv_sub hl [] rfl)
      · replace hf := it_f c9 hf
        refine lv_iload_n hx hb dX5_bitOf_10 rfl (lv_at hl 1 rfl) ?_
        refine lv_if_lt (tgt := 38) hx hb dX5_bitOf_11 (by decide) (fun c10 => ?_) (fun c10 => ?_)
        · replace hf := it_t c10 hf
          obtain rfl := Option.some.inj hf
          exact hE _ rfl H locs ls hP hD hS (lv_sub hl [] rfl)
        · replace hf := it_f c10 hf
          refine lv_iload_n hx hb dX5_bitOf_14 rfl (lv_at hl 0 rfl) ?_
          refine lv_iload_n hx hb dX5_bitOf_15 rfl (lv_at hl 3 rfl) ?_
          refine lv_ishr hx hb dX5_bitOf_16 ?_
          refine lv_iconst (v := (1 : Int32)) hx hb dX5_bitOf_17 (by decide) ?_
          refine lv_iand hx hb dX5_bitOf_18 ?_
          refine lv_iconst (v := (1 : Int32)) hx hb dX5_bitOf_19 (by decide) ?_
          refine lv_icmp_ne (tgt := 32) hx hb dX5_bitOf_20 (by decide) (fun c11 => ?_) (fun c11 => ?_)
          · replace hf := it_f c11 hf
            refine lv_iinc (v := (x3 + (1 : Int32))) (lv' := [(3, .int (x3 + (1 : Int32))), (0, .int x0), (1, .int x1), (2, .int x2)]) hx hb dX5_bitOf_32 hl (k := 3) rfl rfl (by decide) rfl (fun ls hl => ?_)
            refine lv_goto (tgt := 4) hx hb dX5_bitOf_35 (by decide) ?_
            exact ih x2 (x3 + (1 : Int32)) _ hf H locs ls hP hD hS (lv_sub hl [1, 2, 3, 0] rfl) hE hR
          · replace hf := it_t c11 hf
            refine lv_iload_n hx hb dX5_bitOf_23 rfl (lv_at hl 2 rfl) ?_
            refine lv_if_ne (tgt := 29) hx hb dX5_bitOf_24 (by decide) (fun c12 => ?_) (fun c12 => ?_)
            · replace hf := it_f c12 hf
              refine lv_iinc (v := (x2 + (-1 : Int32))) (lv' := [(2, .int (x2 + (-1 : Int32))), (0, .int x0), (1, .int x1), (3, .int x3)]) hx hb dX5_bitOf_29 hl (k := 2) rfl rfl (by decide) rfl (fun ls hl => ?_)
              refine lv_iinc (v := (x3 + (1 : Int32))) (lv' := [(3, .int (x3 + (1 : Int32))), (2, .int (x2 + (-1 : Int32))), (0, .int x0), (1, .int x1)]) hx hb dX5_bitOf_32 hl (k := 3) rfl rfl (by decide) rfl (fun ls hl => ?_)
              refine lv_goto (tgt := 4) hx hb dX5_bitOf_35 (by decide) ?_
              exact ih (x2 + (-1 : Int32)) (x3 + (1 : Int32)) _ hf H locs ls hP hD hS (lv_sub hl [2, 3, 1, 0] rfl) hE hR
            · replace hf := it_t c12 hf
              refine lv_iload_n hx hb dX5_bitOf_27 rfl (lv_at hl 3 rfl) ?_
              obtain rfl := Option.some.inj hf
              exact hR _ rfl _ H locs ls hP hD hS dX5_bitOf_28
  obtain ⟨u13, hg, hf⟩ := ob_s hf
  refine L4 _ x1 (0 : Int32) u13 hg H locs ls hP hD hS (lv_sub hl [2, 3, 1, 0] rfl) (fun e14 ee H locs ls hP hD hS hl => ?_) (fun r15 ee pc H locs ls hP hD hS hd => ?_)
  · subst ee
    replace hf := onS_r hf
    refine lv_iconst (v := (-1 : Int32)) hx hb dX5_bitOf_38 (by decide) ?_
    obtain rfl := Option.some.inj hf
    exact kc_iret () hx hb hr hk hP hD hS rfl dX5_bitOf_39
  · subst ee
    replace hf := onS_l hf
    obtain rfl := Option.some.inj hf
    exact kc_iret () hx hb hr hk hP hD hS rfl hd
abbrev rmX5_isAhead : Room := { frames := 1, cells := 0, slots := 0, locals := 23 }
set_option maxHeartbeats 4000000 in
set_option maxRecDepth 100000 in
theorem metX5_isAhead (l : Launch) (D : va_G) (cx : Nat → ClassId)   (x0 : Int32) (x1 : Int32) (N : Nat) (sz : Nat) (v : Int32) (hf : fX5_isAhead N x0 x1 = some v) : Met l yX5_isAhead (.code yX5_isAhead cX5_isAhead 4 (some .boolean) :: kc_TB) rmX5_isAhead (kc_Pre D cx ([] : va_W) [.int x0, .int x1] sz) (kc_Pi D (fun _ : Unit => ([] : va_W)) v (va_A ([] : va_W) sz)) 0 0 (va_A ([] : va_W) sz) := by
  refine kc_entry (Qc := fun A => (kc_Pi D (fun _ : Unit => ([] : va_W)) v A)) (by decide) (Nat.le_of_ble_eq_true rfl) ?_
  intro p e s m below meth c A hx hb hr hk hml hown hin hts hN hK hP hD hS hA ls hl
  have hown : s.vm.findClass RX5 = some m.cls := hown
  have hl : lv_has ls 4 [(0, .int x0), (1, .int x1)] := hl
  unfold fX5_isAhead at hf
  have hP : va_P D classes ([] : va_W) s.heap := hP
  obtain ⟨H, hH⟩ : ∃ H, H = s.heap := ⟨_, rfl⟩
  obtain ⟨locs, hL⟩ : ∃ locs : List Loc, locs = [] := ⟨_, rfl⟩
  have hS : va_S A s.heap H locs := by rw [hH, hL]; exact hS
  have hP : va_P D classes ([] : va_W) H := by rw [hH]; exact hP
  suffices hW : W p l e rmX5_isAhead s m ([.int x0, .int x1] : List Value).toArray below meth c H locs 0 0 (MQ below (kc_Pi D (fun _ : Unit => ([] : va_W)) v A) ([.int x0, .int x1] : List Value).toArray s 0 0 A) (F0 m 0 ls []) by rw [hH, hL] at hW; exact hW
  clear hH hL
  refine lv_iload_n hx hb dX5_isAhead_0 rfl (lv_at hl 0 rfl) ?_
  refine lv_iload_n hx hb dX5_isAhead_1 rfl (lv_at hl 1 rfl) ?_
  refine lv_ixor hx hb dX5_isAhead_2 ?_
  refine lv_istore_n (lv' := [(2, .int (x0 ^^^ x1)), (0, .int x0), (1, .int x1)]) hx hb dX5_isAhead_3 rfl hl (by decide) rfl (fun ls hl => ?_)
  refine lv_iload_n hx hb dX5_isAhead_4 rfl (lv_at hl 0 rfl) ?_
  refine lv_iconst (v := (0 : Int32)) hx hb dX5_isAhead_5 (by decide) ?_
  obtain ⟨u4, hg, hf⟩ := ob_s hf
  refine kc_calli (wn := fun _ => ([] : va_W)) (va_runS (As := [.int (x0 ^^^ x1), .int (0 : Int32)]) (rest := []) ⟨hx, hb, hml, hown, hts⟩ (metX5_bitOf l D cx   (x0 ^^^ x1) (0 : Int32) N H.size u4 hg) ⟨callB_of 2 hts (kc_gI wd_760) rfl rfl rfl (hts _ wd_46) (hts _ wd_758) (by decide +kernel) ⟨Nat.le_of_ble_eq_true rfl, Nat.le_of_ble_eq_true rfl⟩, hts _ wd_759⟩ ⟨kc_blind _ _ _ _ _, kc_pre _ hK hN (hP.sub [] rfl) (hD.sub [] (by decide) rfl)⟩ rfl rfl hl.1 rfl (lv_room (Nat.le_of_ble_eq_true rfl)) dX5_isAhead_6 ⟨Nat.zero_le _, Nat.zero_le _⟩) hP hD hS hA [] [] [] rfl rfl (by decide) (by decide) (fun _ => rfl) (by decide) (fun _ H locs hP hD hS => ?_)
  have hP : va_P D classes ([] : va_W) H := hP
  have hD : va_D A ([] : va_W) := hD
  refine lv_istore_n (lv' := [(3, .int u4), (2, .int (x0 ^^^ x1)), (0, .int x0), (1, .int x1)]) hx hb dX5_isAhead_9 rfl hl (by decide) rfl (fun ls hl => ?_)
  refine lv_iload_n hx hb dX5_isAhead_10 rfl (lv_at hl 0 rfl) ?_
  refine lv_if_lt (tgt := 27) hx hb dX5_isAhead_11 (by decide) (fun c5 => ?_) (fun c5 => ?_)
  · replace hf := it_t c5 hf
    refine lv_iconst (v := (0 : Int32)) hx hb dX5_isAhead_27 (by decide) ?_
    obtain rfl := Option.some.inj hf
    exact kc_zret () hx hb hr hk hP hD hS rfl rfl dX5_isAhead_28
  · replace hf := it_f c5 hf
    refine lv_iload_n hx hb dX5_isAhead_14 rfl (lv_at hl 2 rfl) ?_
    refine lv_iload_n hx hb dX5_isAhead_15 rfl (lv_at hl 0 rfl) ?_
    refine lv_ishr hx hb dX5_isAhead_16 ?_
    refine lv_iconst (v := (1 : Int32)) hx hb dX5_isAhead_17 (by decide) ?_
    refine lv_iand hx hb dX5_isAhead_18 ?_
    refine lv_iconst (v := (1 : Int32)) hx hb dX5_isAhead_19 (by decide) ?_
    refine lv_icmp_ne (tgt := 27) hx hb dX5_isAhead_20 (by decide) (fun c6 => ?_) (fun c6 => ?_)
    · replace hf := it_f c6 hf
      refine lv_iconst (v := (0 : Int32)) hx hb dX5_isAhead_27 (by decide) ?_
      obtain rfl := Option.some.inj hf
      exact kc_zret () hx hb hr hk hP hD hS rfl rfl dX5_isAhead_28
    · replace hf := it_t c6 hf
      refine lv_iconst (v := (1 : Int32)) hx hb dX5_isAhead_23 (by decide) ?_
      refine lv_goto (tgt := 28) hx hb dX5_isAhead_24 (by decide) ?_
      obtain rfl := Option.some.inj hf
      exact kc_zret () hx hb hr hk hP hD hS rfl rfl dX5_isAhead_28
abbrev rmX5_won : Room := { frames := 3, cells := 0, slots := 0, locals := 71 }
set_option maxHeartbeats 4000000 in
set_option maxRecDepth 100000 in
theorem metX5_won (l : Launch) (D : va_G) (cx : Nat → ClassId) (aM : Nat → Nat) (xw : Int32) (xh : Int32) (xk : Int32) (xj : Int32) (xb : Int32) (xr : Int32) (xc : Int32) (xv : Int32) (xn : Int32) (xl : Int32) (yR : Nat → Int32) (yT : Nat → Int32) (yC : Nat → Int32) (yW : Nat → Int32) (yA : Nat → Int32) (yE : Nat → Int32) (yU : Nat → Int32) (yM : Nat → Int32) (yV : Nat → Int32) (yF : Nat → Int32) (yZ : Nat → Int32) (yI : Nat → Int32) (yD : Nat → Int32) (x1 : Int32) (N : Nat) (sz : Nat) (v : Int32 × Int32 × (Nat → Int32)) (hf : fX5_won N xw xh xk xr xc xv xn yR yT yM x1 = some v) : Met l yX5_won (.code yX5_won cX5_won 5 (some .int) :: kc_TB) rmX5_won (kc_Pre D cx (wM cx aM xw xh xk xj xb xr xc xv xn xl yR yT yC yW yA yE yU yM yV yF yZ yI yD) [.ref (aM 0), .int x1] sz) (kc_Pi D (fun _ : Unit => (wM cx aM xw xh xk xj xb xr v.2.1 xv xn xl yR yT yC yW yA yE yU v.2.2 yV yF yZ yI yD)) v.1 (va_A (wM cx aM xw xh xk xj xb xr xc xv xn xl yR yT yC yW yA yE yU yM yV yF yZ yI yD) sz)) 0 0 (va_A (wM cx aM xw xh xk xj xb xr xc xv xn xl yR yT yC yW yA yE yU yM yV yF yZ yI yD) sz) := by
  refine kc_entry (Qc := fun A => (kc_Pi D (fun _ : Unit => (wM cx aM xw xh xk xj xb xr v.2.1 xv xn xl yR yT yC yW yA yE yU v.2.2 yV yF yZ yI yD)) v.1 A)) (by decide) (Nat.le_of_ble_eq_true rfl) ?_
  intro p e s m below meth c A hx hb hr hk hml hown hin hts hN hK hP hD hS hA ls hl
  have hown : s.vm.findClass RX5 = some m.cls := hown
  have hl : lv_has ls 5 [(0, .ref (aM 0)), (1, .int x1)] := hl
  unfold fX5_won at hf
  have hP : va_P D classes (wM cx aM xw xh xk xj xb xr xc xv xn xl yR yT yC yW yA yE yU yM yV yF yZ yI yD) s.heap := hP
  obtain ⟨H, hH⟩ : ∃ H, H = s.heap := ⟨_, rfl⟩
  obtain ⟨locs, hL⟩ : ∃ locs : List Loc, locs = [] := ⟨_, rfl⟩
  have hS : va_S A s.heap H locs := by rw [hH, hL]; exact hS
  have hP : va_P D classes (wM cx aM xw xh xk xj xb xr xc xv xn xl yR yT yC yW yA yE yU yM yV yF yZ yI yD) H := by rw [hH]; exact hP
  suffices hW : W p l e rmX5_won s m ([.ref (aM 0), .int x1] : List Value).toArray below meth c H locs 0 0 (MQ below (kc_Pi D (fun _ : Unit => (wM cx aM xw xh xk xj xb xr v.2.1 xv xn xl yR yT yC yW yA yE yU v.2.2 yV yF yZ yI yD)) v.1 A) ([.ref (aM 0), .int x1] : List Value).toArray s 0 0 A) (F0 m 0 ls []) by rw [hH, hL] at hW; exact hW
  clear hH hL
  refine lv_aload_n hx hb dX5_won_0 rfl (lv_at hl 0 rfl) ?_
  refine va_get (D := D) (ci := 5) (v := .ref (aM 2)) (C := RX5) (T := TX5) (N := 23) hx hb hts iX5 hown hK hP 0 rfl rfl 7 (by decide) (hts _ wd_647) (fun _ h9 => h9) rfl dX5_won_1 ?_
  refine lv_aload_n hx hb dX5_won_4 rfl (lv_at hl 0 rfl) ?_
  refine va_get (D := D) (ci := 5) (v := .int xn) (C := RX5) (T := TX5) (N := 23) hx hb hts iX5 hown hK hP 0 rfl rfl 17 (by decide) (hts _ wd_657) (fun _ h9 => h9) rfl dX5_won_5 ?_
  obtain ⟨hz, hf⟩ := okb_s hf
  refine va_bald (D := D) hx hb hK hP 2 1 rfl rfl (inb_s hz) dX5_won_8 ?_
  refine lv_bipush (v := (127 : Int32)) hx hb dX5_won_9 (by decide) ?_
  refine lv_icmp_ne (tgt := 30) hx hb dX5_won_11 (by decide) (fun c11 => ?_) (fun c11 => ?_)
  · replace hf := it_f c11 hf
    refine lv_sipush (v := (-200 : Int32)) hx hb dX5_won_30 (by decide) ?_
    obtain rfl := Option.some.inj hf
    exact kc_iret () hx hb hr hk hP hD hS rfl dX5_won_33
  · replace hf := it_t c11 hf
    refine lv_iload_n hx hb dX5_won_14 rfl (lv_at hl 1 rfl) ?_
    refine lv_i2l hx hb dX5_won_15 rfl ?_
    refine lv_lconst (v := (0 : Int64)) hx hb dX5_won_16 (by decide) ?_
    refine lv_aload_n hx hb dX5_won_17 rfl (lv_at hl 0 rfl) ?_
    refine va_get (D := D) (ci := 5) (v := .int xk) (C := RX5) (T := TX5) (N := 23) hx hb hts iX5 hown hK hP 0 rfl rfl 2 (by decide) (hts _ wd_642) (fun _ h9 => h9) rfl dX5_won_18 ?_
    refine lv_iconst (v := (1 : Int32)) hx hb dX5_won_21 (by decide) ?_
    refine lv_isub hx hb dX5_won_22 ?_
    refine lv_i2l hx hb dX5_won_23 rfl ?_
    obtain ⟨u12, hg, hf⟩ := ob_s hf
    refine kc_calli (wn := fun _ => (wM cx aM xw xh xk xj xb xr xc xv xn xl yR yT yC yW yA yE yU yM yV yF yZ yI yD)) (va_runS (As := [.long x1.toInt64, .long (0 : Int64), .long (xk - (1 : Int32)).toInt64]) (rest := []) ⟨hx, hb, hml, hown, hts⟩ (metX5_in l D cx   x1.toInt64 (0 : Int64) (xk - (1 : Int32)).toInt64 N H.size u12 hg) ⟨callB_of 3 hts (kc_gI wd_587) rfl rfl rfl (hts _ wd_46) (hts _ wd_585) (by decide +kernel) ⟨Nat.le_of_ble_eq_true rfl, Nat.le_of_ble_eq_true rfl⟩, hts _ wd_586⟩ ⟨kc_blind _ _ _ _ _, kc_pre _ hK hN (hP.sub [] rfl) (hD.sub [] (by decide) rfl)⟩ rfl rfl hl.1 rfl (lv_room (Nat.le_of_ble_eq_true rfl)) dX5_won_24 ⟨Nat.zero_le _, Nat.zero_le _⟩) hP hD hS hA [] [0, 1, 2, 3, 4, 5, 6, 7, 8, 9, 10, 11, 12, 13] [0, 1, 2, 3, 4, 5, 6, 7, 8, 9, 10, 11, 12, 13] rfl rfl (by decide) (by decide) (fun _ => rfl) (by decide) (fun _ H locs hP hD hS => ?_)
    have hP : va_P D classes (wM cx aM xw xh xk xj xb xr xc xv xn xl yR yT yC yW yA yE yU yM yV yF yZ yI yD) H := hP
    have hD : va_D A (wM cx aM xw xh xk xj xb xr xc xv xn xl yR yT yC yW yA yE yU yM yV yF yZ yI yD) := hD
    refine lv_if_ne (tgt := 34) hx hb dX5_won_27 (by decide) (fun c13 => ?_) (fun c13 => ?_)
    · replace hf := it_f c13 hf
      refine lv_aload_n hx hb dX5_won_34 rfl (lv_at hl 0 rfl) ?_
      refine lv_aload_n hx hb dX5_won_35 rfl (lv_at hl 0 rfl) ?_
      refine va_get (D := D) (ci := 5) (v := .int xn) (C := RX5) (T := TX5) (N := 23) hx hb hts iX5 hown hK hP 0 rfl rfl 17 (by decide) (hts _ wd_657) (fun _ h9 => h9) rfl dX5_won_36 ?_
      obtain ⟨u14, hg, hf⟩ := ob_s hf
      refine kc_callv (wn := fun _ => (wM cx aM xw xh xk xj xb xr u14.1 xv xn xl yR yT yC yW yA yE yU u14.2 yV yF yZ yI yD)) (va_runV (As := [.int xn]) (rest := []) ⟨hx, hb, hml, hown, hts⟩ (metX5_decode l D cx aM xw xh xk xj xb xr xc xv xn xl yR yT yC yW yA yE yU yM yV yF yZ yI yD xn N H.size u14 hg) ⟨callB_of 1 hts (kc_gI wd_607) rfl rfl rfl (hts _ wd_46) (hts _ wd_604) (by decide +kernel) ⟨Nat.le_of_ble_eq_true rfl, Nat.le_of_ble_eq_true rfl⟩, hts _ wd_606, hts _ wd_22⟩ ⟨kc_blind _ _ _ _ _, va_recv hK hP (ci := 5) (q0 := 0) rfl rfl, kc_pre _ hK hN (hP.sub [0, 1, 2, 3, 4, 5, 6, 7, 8, 9, 10, 11, 12, 13] rfl) (hD.sub [0, 1, 2, 3, 4, 5, 6, 7, 8, 9, 10, 11, 12, 13] (by decide) rfl)⟩ rfl rfl hl.1 rfl (lv_room (Nat.le_of_ble_eq_true rfl)) dX5_won_39 ⟨Nat.zero_le _, Nat.zero_le _⟩) hP hD hS hA [0, 1, 2, 3, 4, 5, 6, 7, 8, 9, 10, 11, 12, 13] [] [0, 1, 2, 3, 4, 5, 6, 7, 8, 9, 10, 11, 12, 13] rfl rfl (by decide) (by decide) (fun _ => rfl) (by decide) (fun _ H locs hP hD hS => ?_)
      have hP : va_P D classes (wM cx aM xw xh xk xj xb xr u14.1 xv xn xl yR yT yC yW yA yE yU u14.2 yV yF yZ yI yD) H := hP
      have hD : va_D A (wM cx aM xw xh xk xj xb xr u14.1 xv xn xl yR yT yC yW yA yE yU u14.2 yV yF yZ yI yD) := hD
      refine lv_aload_n hx hb dX5_won_42 rfl (lv_at hl 0 rfl) ?_
      refine va_get (D := D) (ci := 5) (v := .ref (aM 8)) (C := RX5) (T := TX5) (N := 23) hx hb hts iX5 hown hK hP 0 rfl rfl 13 (by decide) (hts _ wd_653) (fun _ h9 => h9) rfl dX5_won_43 ?_
      refine lv_iconst (v := (1 : Int32)) hx hb dX5_won_46 (by decide) ?_
      refine lv_aload_n hx hb dX5_won_47 rfl (lv_at hl 0 rfl) ?_
      refine va_get (D := D) (ci := 5) (v := .int xv) (C := RX5) (T := TX5) (N := 23) hx hb hts iX5 hown hK hP 0 rfl rfl 15 (by decide) (hts _ wd_655) (fun _ h9 => h9) rfl dX5_won_48 ?_
      refine lv_iconst (v := (2 : Int32)) hx hb dX5_won_51 (by decide) ?_
      refine lv_irem hx hb dX5_won_52 (by decide) ?_
      refine lv_isub hx hb dX5_won_53 ?_
      obtain ⟨hz, hf⟩ := okb_s hf
      refine va_iald (D := D) hx hb hK hP 8 0 rfl rfl (inb_s hz) dX5_won_54 ?_
      refine lv_istore_n (lv' := [(2, .int (u14.2 ((1 : Int32) - (xv - xv / (2 : Int32) * (2 : Int32))).toNatClampNeg)), (0, .ref (aM 0)), (1, .int x1)]) hx hb dX5_won_55 rfl hl (by decide) rfl (fun ls hl => ?_)
      refine lv_iconst (v := (0 : Int32)) hx hb dX5_won_56 (by decide) ?_
      refine lv_istore_n (lv' := [(3, .int (0 : Int32)), (2, .int (u14.2 ((1 : Int32) - (xv - xv / (2 : Int32) * (2 : Int32))).toNatClampNeg)), (0, .ref (aM 0)), (1, .int x1)]) hx hb dX5_won_57 rfl hl (by decide) rfl (fun ls hl => ?_)
      refine lv_iconst (v := (0 : Int32)) hx hb dX5_won_58 (by decide) ?_
      refine lv_istore (lv' := [(4, .int (0 : Int32)), (3, .int (0 : Int32)), (2, .int (u14.2 ((1 : Int32) - (xv - xv / (2 : Int32) * (2 : Int32))).toNatClampNeg)), (0, .ref (aM 0)), (1, .int x1)]) hx hb dX5_won_59 hl (by decide) rfl (fun ls hl => ?_)
      have L61 : ∀ (ct : Nat) (x3 : Int32) (x4 : Int32) (v61 : Int32), fX5_won_L61 N xr yR (u14.2 ((1 : Int32) - (xv - xv / (2 : Int32) * (2 : Int32))).toNatClampNeg) ct x3 x4 = some v61 → ∀ (H : Heap) (locs : List Loc) (ls : Array Slot), va_P D classes (wM cx aM xw xh xk xj xb xr u14.1 xv xn xl yR yT yC yW yA yE yU u14.2 yV yF yZ yI yD) H → va_D A (wM cx aM xw xh xk xj xb xr u14.1 xv xn xl yR yT yC yW yA yE yU u14.2 yV yF yZ yI yD) → va_S A s.heap H locs → lv_has ls 5 [(0, .ref (aM 0)), (1, .int x1), (2, .int (u14.2 ((1 : Int32) - (xv - xv / (2 : Int32) * (2 : Int32))).toNatClampNeg)), (3, .int x3), (4, .int x4)] → (∀ (H : Heap) (locs : List Loc) (ls : Array Slot), va_P D classes (wM cx aM xw xh xk xj xb xr u14.1 xv xn xl yR yT yC yW yA yE yU u14.2 yV yF yZ yI yD) H → va_D A (wM cx aM xw xh xk xj xb xr u14.1 xv xn xl yR yT yC yW yA yE yU u14.2 yV yF yZ yI yD) → va_S A s.heap H locs → lv_has ls 5 [(1, .int x1), (3, .int v61)] → W p l e rmX5_won s m ([.ref (aM 0), .int x1] : List Value).toArray below meth c H locs 0 0 (MQ below (kc_Pi D (fun _ : Unit => (wM cx aM xw xh xk xj xb xr v.2.1 xv xn xl yR yT yC yW yA yE yU v.2.2 yV yF yZ yI yD)) v.1 A) ([.ref (aM 0), .int x1] : List Value).toArray s 0 0 A) (F0 m 121 ls [])) → W p l e rmX5_won s m ([.ref (aM 0), .int x1] : List Value).toArray below meth c H locs 0 0 (MQ below (kc_Pi D (fun _ : Unit => (wM cx aM xw xh xk xj xb xr v.2.1 xv xn xl yR yT yC yW yA yE yU v.2.2 yV yF yZ yI yD)) v.1 A) ([.ref (aM 0), .int x1] : List Value).toArray s 0 0 A) (F0 m 61 ls []) := by
        intro ct
        induction ct with
        | zero =>
          intro x3 x4 v61 hf
          exact absurd (show (none : Option (Int32)) = some v61 from hf) (fun q => by cases q)
        | succ ct ih =>
          intro x3 x4 v61 hf H locs ls hP hD hS hl hE
          rw [fX5_won_L61] at hf
          refine lv_iload hx hb dX5_won_61 (lv_at hl 4 rfl) ?_
          refine lv_aload_n hx hb dX5_won_63 rfl (lv_at hl 0 rfl) ?_
          refine va_get (D := D) (ci := 5) (v := .int xr) (C := RX5) (T := TX5) (N := 23) hx hb hts iX5 hown hK hP 0 rfl rfl 5 (by decide) (hts _ wd_645) (fun _ h9 => h9) rfl dX5_won_64 ?_
          refine lv_icmp_ge (tgt := 121) hx hb dX5_won_67 (by decide) (fun c20 => ?_) (fun c20 => ?_)
          · replace hf := it_t c20 hf
            obtain rfl := Option.some.inj hf
            exact hE H locs ls hP hD hS (lv_sub hl [1, 3] rfl)
          · replace hf := it_f c20 hf
            refine lv_aload_n hx hb dX5_won_70 rfl (lv_at hl 0 rfl) ?_
            refine va_get (D := D) (ci := 5) (v := .ref (aM 1)) (C := RX5) (T := TX5) (N := 23) hx hb hts iX5 hown hK hP 0 rfl rfl 6 (by decide) (hts _ wd_646) (fun _ h9 => h9) rfl dX5_won_71 ?_
            refine lv_iload hx hb dX5_won_74 (lv_at hl 4 rfl) ?_
            obtain ⟨hz, hf⟩ := okb_s hf
            refine va_iald (D := D) hx hb hK hP 1 0 rfl rfl (inb_s hz) dX5_won_76 ?_
            refine lv_iload_n hx hb dX5_won_77 rfl (lv_at hl 2 rfl) ?_
            refine lv_iand hx hb dX5_won_78 ?_
            refine lv_aload_n hx hb dX5_won_79 rfl (lv_at hl 0 rfl) ?_
            refine va_get (D := D) (ci := 5) (v := .ref (aM 1)) (C := RX5) (T := TX5) (N := 23) hx hb hts iX5 hown hK hP 0 rfl rfl 6 (by decide) (hts _ wd_646) (fun _ h9 => h9) rfl dX5_won_80 ?_
            refine lv_iload hx hb dX5_won_83 (lv_at hl 4 rfl) ?_
            obtain ⟨hz, hf⟩ := okb_s hf
            refine va_iald (D := D) hx hb hK hP 1 0 rfl rfl (inb_s hz) dX5_won_85 ?_
            refine lv_icmp_ne (tgt := 115) hx hb dX5_won_86 (by decide) (fun c21 => ?_) (fun c21 => ?_)
            · replace hf := it_f c21 hf
              refine lv_iinc (v := (x4 + (1 : Int32))) (lv' := [(4, .int (x4 + (1 : Int32))), (0, .ref (aM 0)), (1, .int x1), (2, .int (u14.2 ((1 : Int32) - (xv - xv / (2 : Int32) * (2 : Int32))).toNatClampNeg)), (3, .int x3)]) hx hb dX5_won_115 hl (k := 4) rfl rfl (by decide) rfl (fun ls hl => ?_)
              refine lv_goto (tgt := 61) hx hb dX5_won_118 (by decide) ?_
              exact ih x3 (x4 + (1 : Int32)) _ hf H locs ls hP hD hS (lv_sub hl [1, 2, 3, 4, 0] rfl) hE
            · replace hf := it_t c21 hf
              refine lv_iload_n hx hb dX5_won_89 rfl (lv_at hl 3 rfl) ?_
              refine lv_if_eq (tgt := 107) hx hb dX5_won_90 (by decide) (fun c22 => ?_) (fun c22 => ?_)
              · replace hf := it_t c22 hf
                refine lv_aload_n hx hb dX5_won_107 rfl (lv_at hl 0 rfl) ?_
                refine va_get (D := D) (ci := 5) (v := .ref (aM 1)) (C := RX5) (T := TX5) (N := 23) hx hb hts iX5 hown hK hP 0 rfl rfl 6 (by decide) (hts _ wd_646) (fun _ h9 => h9) rfl dX5_won_108 ?_
                refine lv_iload hx hb dX5_won_111 (lv_at hl 4 rfl) ?_
                obtain ⟨hz, hf⟩ := okb_s hf
                refine va_iald (D := D) hx hb hK hP 1 0 rfl rfl (inb_s hz) dX5_won_113 ?_
                refine lv_istore_n (lv' := [(3, .int (yR x4.toNatClampNeg)), (0, .ref (aM 0)), (1, .int x1), (2, .int (u14.2 ((1 : Int32) - (xv - xv / (2 : Int32) * (2 : Int32))).toNatClampNeg)), (4, .int x4)]) hx hb dX5_won_114 rfl hl (by decide) rfl (fun ls hl => ?_)
                refine lv_iinc (v := (x4 + (1 : Int32))) (lv' := [(4, .int (x4 + (1 : Int32))), (3, .int (yR x4.toNatClampNeg)), (0, .ref (aM 0)), (1, .int x1), (2, .int (u14.2 ((1 : Int32) - (xv - xv / (2 : Int32) * (2 : Int32))).toNatClampNeg))]) hx hb dX5_won_115 hl (k := 4) rfl rfl (by decide) rfl (fun ls hl => ?_)
                refine lv_goto (tgt := 61) hx hb dX5_won_118 (by decide) ?_
                exact ih (yR x4.toNatClampNeg) (x4 + (1 : Int32)) _ hf H locs ls hP hD hS (lv_sub hl [2, 3, 4, 1, 0] rfl) hE
              · replace hf := it_f c22 hf
                refine lv_aload_n hx hb dX5_won_93 rfl (lv_at hl 0 rfl) ?_
                refine va_get (D := D) (ci := 5) (v := .ref (aM 1)) (C := RX5) (T := TX5) (N := 23) hx hb hts iX5 hown hK hP 0 rfl rfl 6 (by decide) (hts _ wd_646) (fun _ h9 => h9) rfl dX5_won_94 ?_
                refine lv_iload hx hb dX5_won_97 (lv_at hl 4 rfl) ?_
                obtain ⟨hz, hf⟩ := okb_s hf
                refine va_iald (D := D) hx hb hK hP 1 0 rfl rfl (inb_s hz) dX5_won_99 ?_
                refine lv_iload_n hx hb dX5_won_100 rfl (lv_at hl 3 rfl) ?_
                obtain ⟨u23, hg, hf⟩ := ob_s hf
                refine kc_calli (wn := fun _ => (wM cx aM xw xh xk xj xb xr u14.1 xv xn xl yR yT yC yW yA yE yU u14.2 yV yF yZ yI yD)) (va_runS (As := [.int (yR x4.toNatClampNeg), .int x3]) (rest := []) ⟨hx, hb, hml, hown, hts⟩ (metX5_isAhead l D cx   (yR x4.toNatClampNeg) x3 N H.size u23 hg) ⟨callB_of 2 hts (kc_gI wd_757) rfl rfl rfl (hts _ wd_46) (hts _ wd_755) (by decide +kernel) ⟨Nat.le_of_ble_eq_true rfl, Nat.le_of_ble_eq_true rfl⟩, hts _ wd_756⟩ ⟨kc_blind _ _ _ _ _, kc_pre _ hK hN (hP.sub [] rfl) (hD.sub [] (by decide) rfl)⟩ rfl rfl hl.1 rfl (lv_room (Nat.le_of_ble_eq_true rfl)) dX5_won_101 ⟨Nat.zero_le _, Nat.zero_le _⟩) hP hD hS hA [] [0, 1, 2, 3, 4, 5, 6, 7, 8, 9, 10, 11, 12, 13] [0, 1, 2, 3, 4, 5, 6, 7, 8, 9, 10, 11, 12, 13] rfl rfl (by decide) (by decide) (fun _ => rfl) (by decide) (fun _ H locs hP hD hS => ?_)
                have hP : va_P D classes (wM cx aM xw xh xk xj xb xr u14.1 xv xn xl yR yT yC yW yA yE yU u14.2 yV yF yZ yI yD) H := hP
                have hD : va_D A (wM cx aM xw xh xk xj xb xr u14.1 xv xn xl yR yT yC yW yA yE yU u14.2 yV yF yZ yI yD) := hD
                refine lv_if_eq (tgt := 115) hx hb dX5_won_104 (by decide) (fun c24 => ?_) (fun c24 => ?_)
                · replace hf := it_t c24 hf
                  refine lv_iinc (v := (x4 + (1 : Int32))) (lv' := [(4, .int (x4 + (1 : Int32))), (0, .ref (aM 0)), (1, .int x1), (2, .int (u14.2 ((1 : Int32) - (xv - xv / (2 : Int32) * (2 : Int32))).toNatClampNeg)), (3, .int x3)]) hx hb dX5_won_115 hl (k := 4) rfl rfl (by decide) rfl (fun ls hl => ?_)
                  refine lv_goto (tgt := 61) hx hb dX5_won_118 (by decide) ?_
                  exact ih x3 (x4 + (1 : Int32)) _ hf H locs ls hP hD hS (lv_sub hl [1, 2, 3, 4, 0] rfl) hE
                · replace hf := it_f c24 hf
                  refine lv_aload_n hx hb dX5_won_107 rfl (lv_at hl 0 rfl) ?_
                  refine va_get (D := D) (ci := 5) (v := .ref (aM 1)) (C := RX5) (T := TX5) (N := 23) hx hb hts iX5 hown hK hP 0 rfl rfl 6 (by decide) (hts _ wd_646) (fun _ h9 => h9) rfl dX5_won_108 ?_
                  refine lv_iload hx hb dX5_won_111 (lv_at hl 4 rfl) ?_
                  obtain ⟨hz, hf⟩ := okb_s hf
                  refine va_iald (D := D) hx hb hK hP 1 0 rfl rfl (inb_s hz) dX5_won_113 ?_
                  refine lv_istore_n (lv' := [(3, .int (yR x4.toNatClampNeg)), (0, .ref (aM 0)), (1, .int x1), (2, .int (u14.2 ((1 : Int32) - (xv - xv / (2 : Int32) * (2 : Int32))).toNatClampNeg)), (4, .int x4)]) hx hb dX5_won_114 rfl hl (by decide) rfl (fun ls hl => ?_)
                  refine lv_iinc (v := (x4 + (1 : Int32))) (lv' := [(4, .int (x4 + (1 : Int32))), (3, .int (yR x4.toNatClampNeg)), (0, .ref (aM 0)), (1, .int x1), (2, .int (u14.2 ((1 : Int32) - (xv - xv / (2 : Int32) * (2 : Int32))).toNatClampNeg))]) hx hb dX5_won_115 hl (k := 4) rfl rfl (by decide) rfl (fun ls hl => ?_)
                  refine lv_goto (tgt := 61) hx hb dX5_won_118 (by decide) ?_
                  exact ih (yR x4.toNatClampNeg) (x4 + (1 : Int32)) _ hf H locs ls hP hD hS (lv_sub hl [2, 3, 4, 1, 0] rfl) hE
      obtain ⟨u25, hg, hf⟩ := ob_s hf
      refine L61 _ (0 : Int32) (0 : Int32) u25 hg H locs ls hP hD hS (lv_sub hl [3, 4, 2, 1, 0] rfl) (fun H locs ls hP hD hS hl => ?_)
      refine lv_iload_n hx hb dX5_won_121 rfl (lv_at hl 1 rfl) ?_
      refine lv_iload_n hx hb dX5_won_122 rfl (lv_at hl 0 rfl) ?_
      obtain ⟨u26, hg, hf⟩ := ob_s hf
      refine kc_calli (wn := fun _ => (wM cx aM xw xh xk xj xb xr u14.1 xv xn xl yR yT yC yW yA yE yU u14.2 yV yF yZ yI yD)) (va_runS (As := [.int u25, .int x1]) (rest := []) ⟨hx, hb, hml, hown, hts⟩ (metX5_bitOf l D cx   u25 x1 N H.size u26 hg) ⟨callB_of 2 hts (kc_gI wd_760) rfl rfl rfl (hts _ wd_46) (hts _ wd_758) (by decide +kernel) ⟨Nat.le_of_ble_eq_true rfl, Nat.le_of_ble_eq_true rfl⟩, hts _ wd_759⟩ ⟨kc_blind _ _ _ _ _, kc_pre _ hK hN (hP.sub [] rfl) (hD.sub [] (by decide) rfl)⟩ rfl rfl hl.1 rfl (lv_room (Nat.le_of_ble_eq_true rfl)) dX5_won_123 ⟨Nat.zero_le _, Nat.zero_le _⟩) hP hD hS hA [] [0, 1, 2, 3, 4, 5, 6, 7, 8, 9, 10, 11, 12, 13] [0, 1, 2, 3, 4, 5, 6, 7, 8, 9, 10, 11, 12, 13] rfl rfl (by decide) (by decide) (fun _ => rfl) (by decide) (fun _ H locs hP hD hS => ?_)
      have hP : va_P D classes (wM cx aM xw xh xk xj xb xr u14.1 xv xn xl yR yT yC yW yA yE yU u14.2 yV yF yZ yI yD) H := hP
      have hD : va_D A (wM cx aM xw xh xk xj xb xr u14.1 xv xn xl yR yT yC yW yA yE yU u14.2 yV yF yZ yI yD) := hD
      obtain rfl := Option.some.inj hf
      exact kc_iret () hx hb hr hk hP hD hS rfl dX5_won_126
    · replace hf := it_t c13 hf
      refine lv_sipush (v := (-200 : Int32)) hx hb dX5_won_30 (by decide) ?_
      obtain rfl := Option.some.inj hf
      exact kc_iret () hx hb hr hk hP hD hS rfl dX5_won_33
abbrev rmX5_worth : Room := { frames := 1, cells := 0, slots := 0, locals := 20 }
set_option maxHeartbeats 4000000 in
set_option maxRecDepth 100000 in
theorem metX5_worth (l : Launch) (D : va_G) (cx : Nat → ClassId) (aM : Nat → Nat) (xw : Int32) (xh : Int32) (xk : Int32) (xj : Int32) (xb : Int32) (xr : Int32) (xc : Int32) (xv : Int32) (xn : Int32) (xl : Int32) (yR : Nat → Int32) (yT : Nat → Int32) (yC : Nat → Int32) (yW : Nat → Int32) (yA : Nat → Int32) (yE : Nat → Int32) (yU : Nat → Int32) (yM : Nat → Int32) (yV : Nat → Int32) (yF : Nat → Int32) (yZ : Nat → Int32) (yI : Nat → Int32) (yD : Nat → Int32)  (N : Nat) (sz : Nat) (v : Int32) (hf : fX5_worth N xn yT = some v) : Met l yX5_worth (.code yX5_worth cX5_worth 1 (some .int) :: kc_TB) rmX5_worth (kc_Pre D cx (wM cx aM xw xh xk xj xb xr xc xv xn xl yR yT yC yW yA yE yU yM yV yF yZ yI yD) [.ref (aM 0)] sz) (kc_Pi D (fun _ : Unit => (wM cx aM xw xh xk xj xb xr xc xv xn xl yR yT yC yW yA yE yU yM yV yF yZ yI yD)) v (va_A (wM cx aM xw xh xk xj xb xr xc xv xn xl yR yT yC yW yA yE yU yM yV yF yZ yI yD) sz)) 0 0 (va_A (wM cx aM xw xh xk xj xb xr xc xv xn xl yR yT yC yW yA yE yU yM yV yF yZ yI yD) sz) := by
  refine kc_entry (Qc := fun A => (kc_Pi D (fun _ : Unit => (wM cx aM xw xh xk xj xb xr xc xv xn xl yR yT yC yW yA yE yU yM yV yF yZ yI yD)) v A)) (by decide) (Nat.le_of_ble_eq_true rfl) ?_
  intro p e s m below meth c A hx hb hr hk hml hown hin hts hN hK hP hD hS hA ls hl
  have hown : s.vm.findClass RX5 = some m.cls := hown
  have hl : lv_has ls 1 [(0, .ref (aM 0))] := hl
  unfold fX5_worth at hf
  have hP : va_P D classes (wM cx aM xw xh xk xj xb xr xc xv xn xl yR yT yC yW yA yE yU yM yV yF yZ yI yD) s.heap := hP
  obtain ⟨H, hH⟩ : ∃ H, H = s.heap := ⟨_, rfl⟩
  obtain ⟨locs, hL⟩ : ∃ locs : List Loc, locs = [] := ⟨_, rfl⟩
  have hS : va_S A s.heap H locs := by rw [hH, hL]; exact hS
  have hP : va_P D classes (wM cx aM xw xh xk xj xb xr xc xv xn xl yR yT yC yW yA yE yU yM yV yF yZ yI yD) H := by rw [hH]; exact hP
  suffices hW : W p l e rmX5_worth s m ([.ref (aM 0)] : List Value).toArray below meth c H locs 0 0 (MQ below (kc_Pi D (fun _ : Unit => (wM cx aM xw xh xk xj xb xr xc xv xn xl yR yT yC yW yA yE yU yM yV yF yZ yI yD)) v A) ([.ref (aM 0)] : List Value).toArray s 0 0 A) (F0 m 0 ls []) by rw [hH, hL] at hW; exact hW
  clear hH hL
  refine lv_aload_n hx hb dX5_worth_0 rfl (lv_at hl 0 rfl) ?_
  obtain ⟨u3, hg, hf⟩ := ob_s hf
  refine kc_calli (wn := fun _ => (wM cx aM xw xh xk xj xb xr xc xv xn xl yR yT yC yW yA yE yU yM yV yF yZ yI yD)) (va_runV (As := []) (rest := []) ⟨hx, hb, hml, hown, hts⟩ (metX5_isOver l D cx aM xw xh xk xj xb xr xc xv xn xl yR yT yC yW yA yE yU yM yV yF yZ yI yD  N H.size u3 hg) ⟨callB_of 0 hts (kc_gI wd_730) rfl rfl rfl (hts _ wd_46) (hts _ wd_727) (by decide +kernel) ⟨Nat.le_of_ble_eq_true rfl, Nat.le_of_ble_eq_true rfl⟩, hts _ wd_729, hts _ wd_32⟩ ⟨kc_blind _ _ _ _ _, va_recv hK hP (ci := 5) (q0 := 0) rfl rfl, kc_pre _ hK hN (hP.sub [0, 1, 2, 3, 4, 5, 6, 7, 8, 9, 10, 11, 12, 13] rfl) (hD.sub [0, 1, 2, 3, 4, 5, 6, 7, 8, 9, 10, 11, 12, 13] (by decide) rfl)⟩ rfl rfl hl.1 rfl (lv_room (Nat.le_of_ble_eq_true rfl)) dX5_worth_1 ⟨Nat.zero_le _, Nat.zero_le _⟩) hP hD hS hA [0, 1, 2, 3, 4, 5, 6, 7, 8, 9, 10, 11, 12, 13] [] [0, 1, 2, 3, 4, 5, 6, 7, 8, 9, 10, 11, 12, 13] rfl rfl (by decide) (by decide) (fun _ => rfl) (by decide) (fun _ H locs hP hD hS => ?_)
  have hP : va_P D classes (wM cx aM xw xh xk xj xb xr xc xv xn xl yR yT yC yW yA yE yU yM yV yF yZ yI yD) H := hP
  have hD : va_D A (wM cx aM xw xh xk xj xb xr xc xv xn xl yR yT yC yW yA yE yU yM yV yF yZ yI yD) := hD
  refine lv_if_eq (tgt := 13) hx hb dX5_worth_4 (by decide) (fun c4 => ?_) (fun c4 => ?_)
  · replace hf := it_t c4 hf
    refine lv_aload_n hx hb dX5_worth_13 rfl (lv_at hl 0 rfl) ?_
    refine va_get (D := D) (ci := 5) (v := .ref (aM 2)) (C := RX5) (T := TX5) (N := 23) hx hb hts iX5 hown hK hP 0 rfl rfl 7 (by decide) (hts _ wd_647) (fun _ h9 => h9) rfl dX5_worth_14 ?_
    refine lv_aload_n hx hb dX5_worth_17 rfl (lv_at hl 0 rfl) ?_
    refine va_get (D := D) (ci := 5) (v := .int xn) (C := RX5) (T := TX5) (N := 23) hx hb hts iX5 hown hK hP 0 rfl rfl 17 (by decide) (hts _ wd_657) (fun _ h9 => h9) rfl dX5_worth_18 ?_
    obtain ⟨hz, hf⟩ := okb_s hf
    refine va_bald (D := D) hx hb hK hP 2 1 rfl rfl (inb_s hz) dX5_worth_21 ?_
    obtain rfl := Option.some.inj hf
    exact kc_iret () hx hb hr hk hP hD hS rfl dX5_worth_22
  · replace hf := it_f c4 hf
    refine lv_sipush (v := (-201 : Int32)) hx hb dX5_worth_7 (by decide) ?_
    refine lv_goto (tgt := 22) hx hb dX5_worth_10 (by decide) ?_
    obtain rfl := Option.some.inj hf
    exact kc_iret () hx hb hr hk hP hD hS rfl dX5_worth_22
abbrev rmX5_worthOf : Room := { frames := 4, cells := 0, slots := 0, locals := 93 }
set_option maxHeartbeats 4000000 in
set_option maxRecDepth 100000 in
theorem metX5_worthOf (l : Launch) (D : va_G) (cx : Nat → ClassId) (aM : Nat → Nat) (xw : Int32) (xh : Int32) (xk : Int32) (xj : Int32) (xb : Int32) (xr : Int32) (xc : Int32) (xv : Int32) (xn : Int32) (xl : Int32) (yR : Nat → Int32) (yT : Nat → Int32) (yC : Nat → Int32) (yW : Nat → Int32) (yA : Nat → Int32) (yE : Nat → Int32) (yU : Nat → Int32) (yM : Nat → Int32) (yV : Nat → Int32) (yF : Nat → Int32) (yZ : Nat → Int32) (yI : Nat → Int32) (yD : Nat → Int32) (x1 : Int32) (N : Nat) (sz : Nat) (v : Int32) (hf : fX5_worthOf N xw xh xv xn yT x1 = some v) : Met l yX5_worthOf (.code yX5_worthOf cX5_worthOf 2 (some .int) :: kc_TB) rmX5_worthOf (kc_Pre D cx (wM cx aM xw xh xk xj xb xr xc xv xn xl yR yT yC yW yA yE yU yM yV yF yZ yI yD) [.ref (aM 0), .int x1] sz) (kc_Pi D (fun _ : Unit => (wM cx aM xw xh xk xj xb xr xc xv xn xl yR yT yC yW yA yE yU yM yV yF yZ yI yD)) v (va_A (wM cx aM xw xh xk xj xb xr xc xv xn xl yR yT yC yW yA yE yU yM yV yF yZ yI yD) sz)) 0 0 (va_A (wM cx aM xw xh xk xj xb xr xc xv xn xl yR yT yC yW yA yE yU yM yV yF yZ yI yD) sz) := by
  refine kc_entry (Qc := fun A => (kc_Pi D (fun _ : Unit => (wM cx aM xw xh xk xj xb xr xc xv xn xl yR yT yC yW yA yE yU yM yV yF yZ yI yD)) v A)) (by decide) (Nat.le_of_ble_eq_true rfl) ?_
  intro p e s m below meth c A hx hb hr hk hml hown hin hts hN hK hP hD hS hA ls hl
  have hown : s.vm.findClass RX5 = some m.cls := hown
  have hl : lv_has ls 2 [(0, .ref (aM 0)), (1, .int x1)] := hl
  unfold fX5_worthOf at hf
  have hP : va_P D classes (wM cx aM xw xh xk xj xb xr xc xv xn xl yR yT yC yW yA yE yU yM yV yF yZ yI yD) s.heap := hP
  obtain ⟨H, hH⟩ : ∃ H, H = s.heap := ⟨_, rfl⟩
  obtain ⟨locs, hL⟩ : ∃ locs : List Loc, locs = [] := ⟨_, rfl⟩
  have hS : va_S A s.heap H locs := by rw [hH, hL]; exact hS
  have hP : va_P D classes (wM cx aM xw xh xk xj xb xr xc xv xn xl yR yT yC yW yA yE yU yM yV yF yZ yI yD) H := by rw [hH]; exact hP
  suffices hW : W p l e rmX5_worthOf s m ([.ref (aM 0), .int x1] : List Value).toArray below meth c H locs 0 0 (MQ below (kc_Pi D (fun _ : Unit => (wM cx aM xw xh xk xj xb xr xc xv xn xl yR yT yC yW yA yE yU yM yV yF yZ yI yD)) v A) ([.ref (aM 0), .int x1] : List Value).toArray s 0 0 A) (F0 m 0 ls []) by rw [hH, hL] at hW; exact hW
  clear hH hL
  refine lv_aload_n hx hb dX5_worthOf_0 rfl (lv_at hl 0 rfl) ?_
  obtain ⟨u6, hg, hf⟩ := ob_s hf
  refine kc_calli (wn := fun _ => (wM cx aM xw xh xk xj xb xr xc xv xn xl yR yT yC yW yA yE yU yM yV yF yZ yI yD)) (va_runV (As := []) (rest := []) ⟨hx, hb, hml, hown, hts⟩ (metX5_isOver l D cx aM xw xh xk xj xb xr xc xv xn xl yR yT yC yW yA yE yU yM yV yF yZ yI yD  N H.size u6 hg) ⟨callB_of 0 hts (kc_gI wd_730) rfl rfl rfl (hts _ wd_46) (hts _ wd_727) (by decide +kernel) ⟨Nat.le_of_ble_eq_true rfl, Nat.le_of_ble_eq_true rfl⟩, hts _ wd_729, hts _ wd_32⟩ ⟨kc_blind _ _ _ _ _, va_recv hK hP (ci := 5) (q0 := 0) rfl rfl, kc_pre _ hK hN (hP.sub [0, 1, 2, 3, 4, 5, 6, 7, 8, 9, 10, 11, 12, 13] rfl) (hD.sub [0, 1, 2, 3, 4, 5, 6, 7, 8, 9, 10, 11, 12, 13] (by decide) rfl)⟩ rfl rfl hl.1 rfl (lv_room (Nat.le_of_ble_eq_true rfl)) dX5_worthOf_1 ⟨Nat.zero_le _, Nat.zero_le _⟩) hP hD hS hA [0, 1, 2, 3, 4, 5, 6, 7, 8, 9, 10, 11, 12, 13] [] [0, 1, 2, 3, 4, 5, 6, 7, 8, 9, 10, 11, 12, 13] rfl rfl (by decide) (by decide) (fun _ => rfl) (by decide) (fun _ H locs hP hD hS => ?_)
  have hP : va_P D classes (wM cx aM xw xh xk xj xb xr xc xv xn xl yR yT yC yW yA yE yU yM yV yF yZ yI yD) H := hP
  have hD : va_D A (wM cx aM xw xh xk xj xb xr xc xv xn xl yR yT yC yW yA yE yU yM yV yF yZ yI yD) := hD
  refine lv_if_eq (tgt := 11) hx hb dX5_worthOf_4 (by decide) (fun c7 => ?_) (fun c7 => ?_)
  · replace hf := it_t c7 hf
    refine lv_aload_n hx hb dX5_worthOf_11 rfl (lv_at hl 0 rfl) ?_
    refine lv_iload_n hx hb dX5_worthOf_12 rfl (lv_at hl 1 rfl) ?_
    obtain ⟨u8, hg, hf⟩ := ob_s hf
    refine kc_calli (wn := fun _ => (wM cx aM xw xh xk xj xb xr xc xv xn xl yR yT yC yW yA yE yU yM yV yF yZ yI yD)) (va_runV (As := [.int x1]) (rest := []) ⟨hx, hb, hml, hown, hts⟩ (metX5_isFree l D cx aM xw xh xk xj xb xr xc xv xn xl yR yT yC yW yA yE yU yM yV yF yZ yI yD x1 N H.size u8 hg) ⟨callB_of 1 hts (kc_gI wd_726) rfl rfl rfl (hts _ wd_46) (hts _ wd_723) (by decide +kernel) ⟨Nat.le_of_ble_eq_true rfl, Nat.le_of_ble_eq_true rfl⟩, hts _ wd_725, hts _ wd_31⟩ ⟨kc_blind _ _ _ _ _, va_recv hK hP (ci := 5) (q0 := 0) rfl rfl, kc_pre _ hK hN (hP.sub [0, 1, 2, 3, 4, 5, 6, 7, 8, 9, 10, 11, 12, 13] rfl) (hD.sub [0, 1, 2, 3, 4, 5, 6, 7, 8, 9, 10, 11, 12, 13] (by decide) rfl)⟩ rfl rfl hl.1 rfl (lv_room (Nat.le_of_ble_eq_true rfl)) dX5_worthOf_13 ⟨Nat.zero_le _, Nat.zero_le _⟩) hP hD hS hA [0, 1, 2, 3, 4, 5, 6, 7, 8, 9, 10, 11, 12, 13] [] [0, 1, 2, 3, 4, 5, 6, 7, 8, 9, 10, 11, 12, 13] rfl rfl (by decide) (by decide) (fun _ => rfl) (by decide) (fun _ H locs hP hD hS => ?_)
    have hP : va_P D classes (wM cx aM xw xh xk xj xb xr xc xv xn xl yR yT yC yW yA yE yU yM yV yF yZ yI yD) H := hP
    have hD : va_D A (wM cx aM xw xh xk xj xb xr xc xv xn xl yR yT yC yW yA yE yU yM yV yF yZ yI yD) := hD
    refine lv_if_eq (tgt := 37) hx hb dX5_worthOf_16 (by decide) (fun c9 => ?_) (fun c9 => ?_)
    · replace hf := it_t c9 hf
      refine lv_sipush (v := (-200 : Int32)) hx hb dX5_worthOf_37 (by decide) ?_
      obtain rfl := Option.some.inj hf
      exact kc_iret () hx hb hr hk hP hD hS rfl dX5_worthOf_40
    · replace hf := it_f c9 hf
      refine lv_aload_n hx hb dX5_worthOf_19 rfl (lv_at hl 0 rfl) ?_
      refine lv_aload_n hx hb dX5_worthOf_20 rfl (lv_at hl 0 rfl) ?_
      refine va_get (D := D) (ci := 5) (v := .int xn) (C := RX5) (T := TX5) (N := 23) hx hb hts iX5 hown hK hP 0 rfl rfl 17 (by decide) (hts _ wd_657) (fun _ h9 => h9) rfl dX5_worthOf_21 ?_
      refine lv_iload_n hx hb dX5_worthOf_24 rfl (lv_at hl 1 rfl) ?_
      refine lv_aload_n hx hb dX5_worthOf_25 rfl (lv_at hl 0 rfl) ?_
      refine va_get (D := D) (ci := 5) (v := .int xv) (C := RX5) (T := TX5) (N := 23) hx hb hts iX5 hown hK hP 0 rfl rfl 15 (by decide) (hts _ wd_655) (fun _ h9 => h9) rfl dX5_worthOf_26 ?_
      refine lv_iconst (v := (2 : Int32)) hx hb dX5_worthOf_29 (by decide) ?_
      refine lv_irem hx hb dX5_worthOf_30 (by decide) ?_
      obtain ⟨u10, hg, hf⟩ := ob_s hf
      refine kc_calli (wn := fun _ => (wM cx aM xw xh xk xj xb xr xc xv xn xl yR yT yC yW yA yE yU yM yV yF yZ yI yD)) (va_runV (As := [.int xn, .int x1, .int (xv - xv / (2 : Int32) * (2 : Int32))]) (rest := []) ⟨hx, hb, hml, hown, hts⟩ (metX5_worthBy l D cx aM xw xh xk xj xb xr xc xv xn xl yR yT yC yW yA yE yU yM yV yF yZ yI yD xn x1 (xv - xv / (2 : Int32) * (2 : Int32)) N H.size u10 hg) ⟨callB_of 3 hts (kc_gI wd_635) rfl rfl rfl (hts _ wd_46) (hts _ wd_632) (by decide +kernel) ⟨Nat.le_of_ble_eq_true rfl, Nat.le_of_ble_eq_true rfl⟩, hts _ wd_634, hts _ wd_29⟩ ⟨kc_blind _ _ _ _ _, va_recv hK hP (ci := 5) (q0 := 0) rfl rfl, kc_pre _ hK hN (hP.sub [0, 1, 2, 3, 4, 5, 6, 7, 8, 9, 10, 11, 12, 13] rfl) (hD.sub [0, 1, 2, 3, 4, 5, 6, 7, 8, 9, 10, 11, 12, 13] (by decide) rfl)⟩ rfl rfl hl.1 rfl (lv_room (Nat.le_of_ble_eq_true rfl)) dX5_worthOf_31 ⟨Nat.zero_le _, Nat.zero_le _⟩) hP hD hS hA [0, 1, 2, 3, 4, 5, 6, 7, 8, 9, 10, 11, 12, 13] [] [0, 1, 2, 3, 4, 5, 6, 7, 8, 9, 10, 11, 12, 13] rfl rfl (by decide) (by decide) (fun _ => rfl) (by decide) (fun _ H locs hP hD hS => ?_)
      have hP : va_P D classes (wM cx aM xw xh xk xj xb xr xc xv xn xl yR yT yC yW yA yE yU yM yV yF yZ yI yD) H := hP
      have hD : va_D A (wM cx aM xw xh xk xj xb xr xc xv xn xl yR yT yC yW yA yE yU yM yV yF yZ yI yD) := hD
      refine lv_goto (tgt := 40) hx hb dX5_worthOf_34 (by decide) ?_
      obtain rfl := Option.some.inj hf
      exact kc_iret () hx hb hr hk hP hD hS rfl dX5_worthOf_40
  · replace hf := it_f c7 hf
    refine lv_sipush (v := (-201 : Int32)) hx hb dX5_worthOf_7 (by decide) ?_
    obtain rfl := Option.some.inj hf
    exact kc_iret () hx hb hr hk hP hD hS rfl dX5_worthOf_10
abbrev rmX5_bestMove : Room := { frames := 4, cells := 0, slots := 0, locals := 93 }
set_option maxHeartbeats 4000000 in
set_option maxRecDepth 100000 in
theorem metX5_bestMove (l : Launch) (D : va_G) (cx : Nat → ClassId) (aM : Nat → Nat) (xw : Int32) (xh : Int32) (xk : Int32) (xj : Int32) (xb : Int32) (xr : Int32) (xc : Int32) (xv : Int32) (xn : Int32) (xl : Int32) (yR : Nat → Int32) (yT : Nat → Int32) (yC : Nat → Int32) (yW : Nat → Int32) (yA : Nat → Int32) (yE : Nat → Int32) (yU : Nat → Int32) (yM : Nat → Int32) (yV : Nat → Int32) (yF : Nat → Int32) (yZ : Nat → Int32) (yI : Nat → Int32) (yD : Nat → Int32)  (N : Nat) (sz : Nat) (v : Int32) (hf : fX5_bestMove N xw xh xv xn yT = some v) : Met l yX5_bestMove (.code yX5_bestMove cX5_bestMove 2 (some .int) :: kc_TB) rmX5_bestMove (kc_Pre D cx (wM cx aM xw xh xk xj xb xr xc xv xn xl yR yT yC yW yA yE yU yM yV yF yZ yI yD) [.ref (aM 0)] sz) (kc_Pi D (fun _ : Unit => (wM cx aM xw xh xk xj xb xr xc xv xn xl yR yT yC yW yA yE yU yM yV yF yZ yI yD)) v (va_A (wM cx aM xw xh xk xj xb xr xc xv xn xl yR yT yC yW yA yE yU yM yV yF yZ yI yD) sz)) 0 0 (va_A (wM cx aM xw xh xk xj xb xr xc xv xn xl yR yT yC yW yA yE yU yM yV yF yZ yI yD) sz) := by
  refine kc_entry (Qc := fun A => (kc_Pi D (fun _ : Unit => (wM cx aM xw xh xk xj xb xr xc xv xn xl yR yT yC yW yA yE yU yM yV yF yZ yI yD)) v A)) (by decide) (Nat.le_of_ble_eq_true rfl) ?_
  intro p e s m below meth c A hx hb hr hk hml hown hin hts hN hK hP hD hS hA ls hl
  have hown : s.vm.findClass RX5 = some m.cls := hown
  have hl : lv_has ls 2 [(0, .ref (aM 0))] := hl
  unfold fX5_bestMove at hf
  have hP : va_P D classes (wM cx aM xw xh xk xj xb xr xc xv xn xl yR yT yC yW yA yE yU yM yV yF yZ yI yD) s.heap := hP
  obtain ⟨H, hH⟩ : ∃ H, H = s.heap := ⟨_, rfl⟩
  obtain ⟨locs, hL⟩ : ∃ locs : List Loc, locs = [] := ⟨_, rfl⟩
  have hS : va_S A s.heap H locs := by rw [hH, hL]; exact hS
  have hP : va_P D classes (wM cx aM xw xh xk xj xb xr xc xv xn xl yR yT yC yW yA yE yU yM yV yF yZ yI yD) H := by rw [hH]; exact hP
  suffices hW : W p l e rmX5_bestMove s m ([.ref (aM 0)] : List Value).toArray below meth c H locs 0 0 (MQ below (kc_Pi D (fun _ : Unit => (wM cx aM xw xh xk xj xb xr xc xv xn xl yR yT yC yW yA yE yU yM yV yF yZ yI yD)) v A) ([.ref (aM 0)] : List Value).toArray s 0 0 A) (F0 m 0 ls []) by rw [hH, hL] at hW; exact hW
  clear hH hL
  refine lv_iconst (v := (0 : Int32)) hx hb dX5_bestMove_0 (by decide) ?_
  refine lv_istore_n (lv' := [(1, .int (0 : Int32)), (0, .ref (aM 0))]) hx hb dX5_bestMove_1 rfl hl (by decide) rfl (fun ls hl => ?_)
  have L2 : ∀ (ct : Nat) (x1 : Int32) (v2 : Int32), fX5_bestMove_L2 N xw xh xv xn yT ct x1 = some v2 → ∀ (H : Heap) (locs : List Loc) (ls : Array Slot), va_P D classes (wM cx aM xw xh xk xj xb xr xc xv xn xl yR yT yC yW yA yE yU yM yV yF yZ yI yD) H → va_D A (wM cx aM xw xh xk xj xb xr xc xv xn xl yR yT yC yW yA yE yU yM yV yF yZ yI yD) → va_S A s.heap H locs → lv_has ls 2 [(0, .ref (aM 0)), (1, .int x1)] → (∀ (H : Heap) (locs : List Loc) (ls : Array Slot), va_P D classes (wM cx aM xw xh xk xj xb xr xc xv xn xl yR yT yC yW yA yE yU yM yV yF yZ yI yD) H → va_D A (wM cx aM xw xh xk xj xb xr xc xv xn xl yR yT yC yW yA yE yU yM yV yF yZ yI yD) → va_S A s.heap H locs → lv_has ls 2 [(1, .int v2)] → W p l e rmX5_bestMove s m ([.ref (aM 0)] : List Value).toArray below meth c H locs 0 0 (MQ below (kc_Pi D (fun _ : Unit => (wM cx aM xw xh xk xj xb xr xc xv xn xl yR yT yC yW yA yE yU yM yV yF yZ yI yD)) v A) ([.ref (aM 0)] : List Value).toArray s 0 0 A) (F0 m 43 ls [])) → W p l e rmX5_bestMove s m ([.ref (aM 0)] : List Value).toArray below meth c H locs 0 0 (MQ below (kc_Pi D (fun _ : Unit => (wM cx aM xw xh xk xj xb xr xc xv xn xl yR yT yC yW yA yE yU yM yV yF yZ yI yD)) v A) ([.ref (aM 0)] : List Value).toArray s 0 0 A) (F0 m 2 ls []) := by
    intro ct
    induction ct with
    | zero =>
      intro x1 v2 hf
      exact absurd (show (none : Option (Int32)) = some v2 from hf) (fun q => by cases q)
    | succ ct ih =>
      intro x1 v2 hf H locs ls hP hD hS hl hE
      rw [fX5_bestMove_L2] at hf
      refine lv_aload_n hx hb dX5_bestMove_2 rfl (lv_at hl 0 rfl) ?_
      refine lv_iload_n hx hb dX5_bestMove_3 rfl (lv_at hl 1 rfl) ?_
      obtain ⟨u9, hg, hf⟩ := ob_s hf
      refine kc_calli (wn := fun _ => (wM cx aM xw xh xk xj xb xr xc xv xn xl yR yT yC yW yA yE yU yM yV yF yZ yI yD)) (va_runV (As := [.int x1]) (rest := []) ⟨hx, hb, hml, hown, hts⟩ (metX5_isFree l D cx aM xw xh xk xj xb xr xc xv xn xl yR yT yC yW yA yE yU yM yV yF yZ yI yD x1 N H.size u9 hg) ⟨callB_of 1 hts (kc_gI wd_726) rfl rfl rfl (hts _ wd_46) (hts _ wd_723) (by decide +kernel) ⟨Nat.le_of_ble_eq_true rfl, Nat.le_of_ble_eq_true rfl⟩, hts _ wd_725, hts _ wd_31⟩ ⟨kc_blind _ _ _ _ _, va_recv hK hP (ci := 5) (q0 := 0) rfl rfl, kc_pre _ hK hN (hP.sub [0, 1, 2, 3, 4, 5, 6, 7, 8, 9, 10, 11, 12, 13] rfl) (hD.sub [0, 1, 2, 3, 4, 5, 6, 7, 8, 9, 10, 11, 12, 13] (by decide) rfl)⟩ rfl rfl hl.1 rfl (lv_room (Nat.le_of_ble_eq_true rfl)) dX5_bestMove_4 ⟨Nat.zero_le _, Nat.zero_le _⟩) hP hD hS hA [0, 1, 2, 3, 4, 5, 6, 7, 8, 9, 10, 11, 12, 13] [] [0, 1, 2, 3, 4, 5, 6, 7, 8, 9, 10, 11, 12, 13] rfl rfl (by decide) (by decide) (fun _ => rfl) (by decide) (fun _ H locs hP hD hS => ?_)
      have hP : va_P D classes (wM cx aM xw xh xk xj xb xr xc xv xn xl yR yT yC yW yA yE yU yM yV yF yZ yI yD) H := hP
      have hD : va_D A (wM cx aM xw xh xk xj xb xr xc xv xn xl yR yT yC yW yA yE yU yM yV yF yZ yI yD) := hD
      refine lv_if_eq (tgt := 37) hx hb dX5_bestMove_7 (by decide) (fun c10 => ?_) (fun c10 => ?_)
      · replace hf := it_t c10 hf
        refine lv_iinc (v := (x1 + (1 : Int32))) (lv' := [(1, .int (x1 + (1 : Int32))), (0, .ref (aM 0))]) hx hb dX5_bestMove_37 hl (k := 1) rfl rfl (by decide) rfl (fun ls hl => ?_)
        refine lv_goto (tgt := 2) hx hb dX5_bestMove_40 (by decide) ?_
        exact ih (x1 + (1 : Int32)) _ hf H locs ls hP hD hS (lv_sub hl [1, 0] rfl) hE
      · replace hf := it_f c10 hf
        refine lv_aload_n hx hb dX5_bestMove_10 rfl (lv_at hl 0 rfl) ?_
        refine lv_aload_n hx hb dX5_bestMove_11 rfl (lv_at hl 0 rfl) ?_
        refine va_get (D := D) (ci := 5) (v := .int xn) (C := RX5) (T := TX5) (N := 23) hx hb hts iX5 hown hK hP 0 rfl rfl 17 (by decide) (hts _ wd_657) (fun _ h9 => h9) rfl dX5_bestMove_12 ?_
        refine lv_iload_n hx hb dX5_bestMove_15 rfl (lv_at hl 1 rfl) ?_
        refine lv_aload_n hx hb dX5_bestMove_16 rfl (lv_at hl 0 rfl) ?_
        refine va_get (D := D) (ci := 5) (v := .int xv) (C := RX5) (T := TX5) (N := 23) hx hb hts iX5 hown hK hP 0 rfl rfl 15 (by decide) (hts _ wd_655) (fun _ h9 => h9) rfl dX5_bestMove_17 ?_
        refine lv_iconst (v := (2 : Int32)) hx hb dX5_bestMove_20 (by decide) ?_
        refine lv_irem hx hb dX5_bestMove_21 (by decide) ?_
        obtain ⟨u11, hg, hf⟩ := ob_s hf
        refine kc_calli (wn := fun _ => (wM cx aM xw xh xk xj xb xr xc xv xn xl yR yT yC yW yA yE yU yM yV yF yZ yI yD)) (va_runV (As := [.int xn, .int x1, .int (xv - xv / (2 : Int32) * (2 : Int32))]) (rest := []) ⟨hx, hb, hml, hown, hts⟩ (metX5_worthBy l D cx aM xw xh xk xj xb xr xc xv xn xl yR yT yC yW yA yE yU yM yV yF yZ yI yD xn x1 (xv - xv / (2 : Int32) * (2 : Int32)) N H.size u11 hg) ⟨callB_of 3 hts (kc_gI wd_635) rfl rfl rfl (hts _ wd_46) (hts _ wd_632) (by decide +kernel) ⟨Nat.le_of_ble_eq_true rfl, Nat.le_of_ble_eq_true rfl⟩, hts _ wd_634, hts _ wd_29⟩ ⟨kc_blind _ _ _ _ _, va_recv hK hP (ci := 5) (q0 := 0) rfl rfl, kc_pre _ hK hN (hP.sub [0, 1, 2, 3, 4, 5, 6, 7, 8, 9, 10, 11, 12, 13] rfl) (hD.sub [0, 1, 2, 3, 4, 5, 6, 7, 8, 9, 10, 11, 12, 13] (by decide) rfl)⟩ rfl rfl hl.1 rfl (lv_room (Nat.le_of_ble_eq_true rfl)) dX5_bestMove_22 ⟨Nat.zero_le _, Nat.zero_le _⟩) hP hD hS hA [0, 1, 2, 3, 4, 5, 6, 7, 8, 9, 10, 11, 12, 13] [] [0, 1, 2, 3, 4, 5, 6, 7, 8, 9, 10, 11, 12, 13] rfl rfl (by decide) (by decide) (fun _ => rfl) (by decide) (fun _ H locs hP hD hS => ?_)
        have hP : va_P D classes (wM cx aM xw xh xk xj xb xr xc xv xn xl yR yT yC yW yA yE yU yM yV yF yZ yI yD) H := hP
        have hD : va_D A (wM cx aM xw xh xk xj xb xr xc xv xn xl yR yT yC yW yA yE yU yM yV yF yZ yI yD) := hD
        refine lv_aload_n hx hb dX5_bestMove_25 rfl (lv_at hl 0 rfl) ?_
        refine va_get (D := D) (ci := 5) (v := .ref (aM 2)) (C := RX5) (T := TX5) (N := 23) hx hb hts iX5 hown hK hP 0 rfl rfl 7 (by decide) (hts _ wd_647) (fun _ h9 => h9) rfl dX5_bestMove_26 ?_
        refine lv_aload_n hx hb dX5_bestMove_29 rfl (lv_at hl 0 rfl) ?_
        refine va_get (D := D) (ci := 5) (v := .int xn) (C := RX5) (T := TX5) (N := 23) hx hb hts iX5 hown hK hP 0 rfl rfl 17 (by decide) (hts _ wd_657) (fun _ h9 => h9) rfl dX5_bestMove_30 ?_
        obtain ⟨hz, hf⟩ := okb_s hf
        refine va_bald (D := D) hx hb hK hP 2 1 rfl rfl (inb_s hz) dX5_bestMove_33 ?_
        refine lv_icmp_eq (tgt := 43) hx hb dX5_bestMove_34 (by decide) (fun c12 => ?_) (fun c12 => ?_)
        · replace hf := it_t c12 hf
          obtain rfl := Option.some.inj hf
          exact hE H locs ls hP hD hS (lv_sub hl [1] rfl)
        · replace hf := it_f c12 hf
          refine lv_iinc (v := (x1 + (1 : Int32))) (lv' := [(1, .int (x1 + (1 : Int32))), (0, .ref (aM 0))]) hx hb dX5_bestMove_37 hl (k := 1) rfl rfl (by decide) rfl (fun ls hl => ?_)
          refine lv_goto (tgt := 2) hx hb dX5_bestMove_40 (by decide) ?_
          exact ih (x1 + (1 : Int32)) _ hf H locs ls hP hD hS (lv_sub hl [1, 0] rfl) hE
  obtain ⟨u13, hg, hf⟩ := ob_s hf
  refine L2 _ (0 : Int32) u13 hg H locs ls hP hD hS (lv_sub hl [1, 0] rfl) (fun H locs ls hP hD hS hl => ?_)
  refine lv_iload_n hx hb dX5_bestMove_43 rfl (lv_at hl 0 rfl) ?_
  obtain rfl := Option.some.inj hf
  exact kc_iret () hx hb hr hk hP hD hS rfl dX5_bestMove_44
abbrev rmX5_best : Room := { frames := 5, cells := 0, slots := 0, locals := 114 }
set_option maxHeartbeats 4000000 in
set_option maxRecDepth 100000 in
theorem metX5_best (l : Launch) (D : va_G) (cx : Nat → ClassId) (aM : Nat → Nat) (xw : Int32) (xh : Int32) (xk : Int32) (xj : Int32) (xb : Int32) (xr : Int32) (xc : Int32) (xv : Int32) (xn : Int32) (xl : Int32) (yR : Nat → Int32) (yT : Nat → Int32) (yC : Nat → Int32) (yW : Nat → Int32) (yA : Nat → Int32) (yE : Nat → Int32) (yU : Nat → Int32) (yM : Nat → Int32) (yV : Nat → Int32) (yF : Nat → Int32) (yZ : Nat → Int32) (yI : Nat → Int32) (yD : Nat → Int32)  (N : Nat) (sz : Nat) (v : Int32) (hf : fX5_best N xw xh xv xn yT = some v) : Met l yX5_best (.code yX5_best cX5_best 1 (some .int) :: kc_TB) rmX5_best (kc_Pre D cx (wM cx aM xw xh xk xj xb xr xc xv xn xl yR yT yC yW yA yE yU yM yV yF yZ yI yD) [.ref (aM 0)] sz) (kc_Pi D (fun _ : Unit => (wM cx aM xw xh xk xj xb xr xc xv xn xl yR yT yC yW yA yE yU yM yV yF yZ yI yD)) v (va_A (wM cx aM xw xh xk xj xb xr xc xv xn xl yR yT yC yW yA yE yU yM yV yF yZ yI yD) sz)) 0 0 (va_A (wM cx aM xw xh xk xj xb xr xc xv xn xl yR yT yC yW yA yE yU yM yV yF yZ yI yD) sz) := by
  refine kc_entry (Qc := fun A => (kc_Pi D (fun _ : Unit => (wM cx aM xw xh xk xj xb xr xc xv xn xl yR yT yC yW yA yE yU yM yV yF yZ yI yD)) v A)) (by decide) (Nat.le_of_ble_eq_true rfl) ?_
  intro p e s m below meth c A hx hb hr hk hml hown hin hts hN hK hP hD hS hA ls hl
  have hown : s.vm.findClass RX5 = some m.cls := hown
  have hl : lv_has ls 1 [(0, .ref (aM 0))] := hl
  unfold fX5_best at hf
  have hP : va_P D classes (wM cx aM xw xh xk xj xb xr xc xv xn xl yR yT yC yW yA yE yU yM yV yF yZ yI yD) s.heap := hP
  obtain ⟨H, hH⟩ : ∃ H, H = s.heap := ⟨_, rfl⟩
  obtain ⟨locs, hL⟩ : ∃ locs : List Loc, locs = [] := ⟨_, rfl⟩
  have hS : va_S A s.heap H locs := by rw [hH, hL]; exact hS
  have hP : va_P D classes (wM cx aM xw xh xk xj xb xr xc xv xn xl yR yT yC yW yA yE yU yM yV yF yZ yI yD) H := by rw [hH]; exact hP
  suffices hW : W p l e rmX5_best s m ([.ref (aM 0)] : List Value).toArray below meth c H locs 0 0 (MQ below (kc_Pi D (fun _ : Unit => (wM cx aM xw xh xk xj xb xr xc xv xn xl yR yT yC yW yA yE yU yM yV yF yZ yI yD)) v A) ([.ref (aM 0)] : List Value).toArray s 0 0 A) (F0 m 0 ls []) by rw [hH, hL] at hW; exact hW
  clear hH hL
  refine lv_aload_n hx hb dX5_best_0 rfl (lv_at hl 0 rfl) ?_
  obtain ⟨u4, hg, hf⟩ := ob_s hf
  refine kc_calli (wn := fun _ => (wM cx aM xw xh xk xj xb xr xc xv xn xl yR yT yC yW yA yE yU yM yV yF yZ yI yD)) (va_runV (As := []) (rest := []) ⟨hx, hb, hml, hown, hts⟩ (metX5_isOver l D cx aM xw xh xk xj xb xr xc xv xn xl yR yT yC yW yA yE yU yM yV yF yZ yI yD  N H.size u4 hg) ⟨callB_of 0 hts (kc_gI wd_730) rfl rfl rfl (hts _ wd_46) (hts _ wd_727) (by decide +kernel) ⟨Nat.le_of_ble_eq_true rfl, Nat.le_of_ble_eq_true rfl⟩, hts _ wd_729, hts _ wd_32⟩ ⟨kc_blind _ _ _ _ _, va_recv hK hP (ci := 5) (q0 := 0) rfl rfl, kc_pre _ hK hN (hP.sub [0, 1, 2, 3, 4, 5, 6, 7, 8, 9, 10, 11, 12, 13] rfl) (hD.sub [0, 1, 2, 3, 4, 5, 6, 7, 8, 9, 10, 11, 12, 13] (by decide) rfl)⟩ rfl rfl hl.1 rfl (lv_room (Nat.le_of_ble_eq_true rfl)) dX5_best_1 ⟨Nat.zero_le _, Nat.zero_le _⟩) hP hD hS hA [0, 1, 2, 3, 4, 5, 6, 7, 8, 9, 10, 11, 12, 13] [] [0, 1, 2, 3, 4, 5, 6, 7, 8, 9, 10, 11, 12, 13] rfl rfl (by decide) (by decide) (fun _ => rfl) (by decide) (fun _ H locs hP hD hS => ?_)
  have hP : va_P D classes (wM cx aM xw xh xk xj xb xr xc xv xn xl yR yT yC yW yA yE yU yM yV yF yZ yI yD) H := hP
  have hD : va_D A (wM cx aM xw xh xk xj xb xr xc xv xn xl yR yT yC yW yA yE yU yM yV yF yZ yI yD) := hD
  refine lv_if_eq (tgt := 13) hx hb dX5_best_4 (by decide) (fun c5 => ?_) (fun c5 => ?_)
  · replace hf := it_t c5 hf
    refine lv_aload_n hx hb dX5_best_13 rfl (lv_at hl 0 rfl) ?_
    obtain ⟨u6, hg, hf⟩ := ob_s hf
    refine kc_calli (wn := fun _ => (wM cx aM xw xh xk xj xb xr xc xv xn xl yR yT yC yW yA yE yU yM yV yF yZ yI yD)) (va_runV (As := []) (rest := []) ⟨hx, hb, hml, hown, hts⟩ (metX5_bestMove l D cx aM xw xh xk xj xb xr xc xv xn xl yR yT yC yW yA yE yU yM yV yF yZ yI yD  N H.size u6 hg) ⟨callB_of 0 hts (kc_gI wd_776) rfl rfl rfl (hts _ wd_46) (hts _ wd_773) (by decide +kernel) ⟨Nat.le_of_ble_eq_true rfl, Nat.le_of_ble_eq_true rfl⟩, hts _ wd_775, hts _ wd_34⟩ ⟨kc_blind _ _ _ _ _, va_recv hK hP (ci := 5) (q0 := 0) rfl rfl, kc_pre _ hK hN (hP.sub [0, 1, 2, 3, 4, 5, 6, 7, 8, 9, 10, 11, 12, 13] rfl) (hD.sub [0, 1, 2, 3, 4, 5, 6, 7, 8, 9, 10, 11, 12, 13] (by decide) rfl)⟩ rfl rfl hl.1 rfl (lv_room (Nat.le_of_ble_eq_true rfl)) dX5_best_14 ⟨Nat.zero_le _, Nat.zero_le _⟩) hP hD hS hA [0, 1, 2, 3, 4, 5, 6, 7, 8, 9, 10, 11, 12, 13] [] [0, 1, 2, 3, 4, 5, 6, 7, 8, 9, 10, 11, 12, 13] rfl rfl (by decide) (by decide) (fun _ => rfl) (by decide) (fun _ H locs hP hD hS => ?_)
    have hP : va_P D classes (wM cx aM xw xh xk xj xb xr xc xv xn xl yR yT yC yW yA yE yU yM yV yF yZ yI yD) H := hP
    have hD : va_D A (wM cx aM xw xh xk xj xb xr xc xv xn xl yR yT yC yW yA yE yU yM yV yF yZ yI yD) := hD
    obtain rfl := Option.some.inj hf
    exact kc_iret () hx hb hr hk hP hD hS rfl dX5_best_17
  · replace hf := it_f c5 hf
    refine lv_sipush (v := (-201 : Int32)) hx hb dX5_best_7 (by decide) ?_
    refine lv_goto (tgt := 17) hx hb dX5_best_10 (by decide) ?_
    obtain rfl := Option.some.inj hf
    exact kc_iret () hx hb hr hk hP hD hS rfl dX5_best_17
abbrev rmX5_as : Room := { frames := 4, cells := 0, slots := 0, locals := 93 }
set_option maxHeartbeats 4000000 in
set_option maxRecDepth 100000 in
theorem metX5_as (l : Launch) (D : va_G) (cx : Nat → ClassId) (aM : Nat → Nat) (xw : Int32) (xh : Int32) (xk : Int32) (xj : Int32) (xb : Int32) (xr : Int32) (xc : Int32) (xv : Int32) (xn : Int32) (xl : Int32) (yR : Nat → Int32) (yT : Nat → Int32) (yC : Nat → Int32) (yW : Nat → Int32) (yA : Nat → Int32) (yE : Nat → Int32) (yU : Nat → Int32) (yM : Nat → Int32) (yV : Nat → Int32) (yF : Nat → Int32) (yZ : Nat → Int32) (yI : Nat → Int32) (yD : Nat → Int32)  (N : Nat) (sz : Nat) (v : Int32) (hf : fX5_as N xw xh xv xn yT = some v) : Met l yX5_as (.code yX5_as cX5_as 3 (some .int) :: kc_TB) rmX5_as (kc_Pre D cx (wM cx aM xw xh xk xj xb xr xc xv xn xl yR yT yC yW yA yE yU yM yV yF yZ yI yD) [.ref (aM 0)] sz) (kc_Pi D (fun _ : Unit => (wM cx aM xw xh xk xj xb xr xc xv xn xl yR yT yC yW yA yE yU yM yV yF yZ yI yD)) v (va_A (wM cx aM xw xh xk xj xb xr xc xv xn xl yR yT yC yW yA yE yU yM yV yF yZ yI yD) sz)) 0 0 (va_A (wM cx aM xw xh xk xj xb xr xc xv xn xl yR yT yC yW yA yE yU yM yV yF yZ yI yD) sz) := by
  refine kc_entry (Qc := fun A => (kc_Pi D (fun _ : Unit => (wM cx aM xw xh xk xj xb xr xc xv xn xl yR yT yC yW yA yE yU yM yV yF yZ yI yD)) v A)) (by decide) (Nat.le_of_ble_eq_true rfl) ?_
  intro p e s m below meth c A hx hb hr hk hml hown hin hts hN hK hP hD hS hA ls hl
  have hown : s.vm.findClass RX5 = some m.cls := hown
  have hl : lv_has ls 3 [(0, .ref (aM 0))] := hl
  unfold fX5_as at hf
  have hP : va_P D classes (wM cx aM xw xh xk xj xb xr xc xv xn xl yR yT yC yW yA yE yU yM yV yF yZ yI yD) s.heap := hP
  obtain ⟨H, hH⟩ : ∃ H, H = s.heap := ⟨_, rfl⟩
  obtain ⟨locs, hL⟩ : ∃ locs : List Loc, locs = [] := ⟨_, rfl⟩
  have hS : va_S A s.heap H locs := by rw [hH, hL]; exact hS
  have hP : va_P D classes (wM cx aM xw xh xk xj xb xr xc xv xn xl yR yT yC yW yA yE yU yM yV yF yZ yI yD) H := by rw [hH]; exact hP
  suffices hW : W p l e rmX5_as s m ([.ref (aM 0)] : List Value).toArray below meth c H locs 0 0 (MQ below (kc_Pi D (fun _ : Unit => (wM cx aM xw xh xk xj xb xr xc xv xn xl yR yT yC yW yA yE yU yM yV yF yZ yI yD)) v A) ([.ref (aM 0)] : List Value).toArray s 0 0 A) (F0 m 0 ls []) by rw [hH, hL] at hW; exact hW
  clear hH hL
  refine lv_aload_n hx hb dX5_as_0 rfl (lv_at hl 0 rfl) ?_
  obtain ⟨u8, hg, hf⟩ := ob_s hf
  refine kc_calli (wn := fun _ => (wM cx aM xw xh xk xj xb xr xc xv xn xl yR yT yC yW yA yE yU yM yV yF yZ yI yD)) (va_runV (As := []) (rest := []) ⟨hx, hb, hml, hown, hts⟩ (metX5_isOver l D cx aM xw xh xk xj xb xr xc xv xn xl yR yT yC yW yA yE yU yM yV yF yZ yI yD  N H.size u8 hg) ⟨callB_of 0 hts (kc_gI wd_730) rfl rfl rfl (hts _ wd_46) (hts _ wd_727) (by decide +kernel) ⟨Nat.le_of_ble_eq_true rfl, Nat.le_of_ble_eq_true rfl⟩, hts _ wd_729, hts _ wd_32⟩ ⟨kc_blind _ _ _ _ _, va_recv hK hP (ci := 5) (q0 := 0) rfl rfl, kc_pre _ hK hN (hP.sub [0, 1, 2, 3, 4, 5, 6, 7, 8, 9, 10, 11, 12, 13] rfl) (hD.sub [0, 1, 2, 3, 4, 5, 6, 7, 8, 9, 10, 11, 12, 13] (by decide) rfl)⟩ rfl rfl hl.1 rfl (lv_room (Nat.le_of_ble_eq_true rfl)) dX5_as_1 ⟨Nat.zero_le _, Nat.zero_le _⟩) hP hD hS hA [0, 1, 2, 3, 4, 5, 6, 7, 8, 9, 10, 11, 12, 13] [] [0, 1, 2, 3, 4, 5, 6, 7, 8, 9, 10, 11, 12, 13] rfl rfl (by decide) (by decide) (fun _ => rfl) (by decide) (fun _ H locs hP hD hS => ?_)
  have hP : va_P D classes (wM cx aM xw xh xk xj xb xr xc xv xn xl yR yT yC yW yA yE yU yM yV yF yZ yI yD) H := hP
  have hD : va_D A (wM cx aM xw xh xk xj xb xr xc xv xn xl yR yT yC yW yA yE yU yM yV yF yZ yI yD) := hD
  refine lv_if_eq (tgt := 11) hx hb dX5_as_4 (by decide) (fun c9 => ?_) (fun c9 => ?_)
  · replace hf := it_t c9 hf
    refine lv_iconst (v := (0 : Int32)) hx hb dX5_as_11 (by decide) ?_
    refine lv_istore_n (lv' := [(1, .int (0 : Int32)), (0, .ref (aM 0))]) hx hb dX5_as_12 rfl hl (by decide) rfl (fun ls hl => ?_)
    refine lv_iconst (v := (0 : Int32)) hx hb dX5_as_13 (by decide) ?_
    refine lv_istore_n (lv' := [(2, .int (0 : Int32)), (1, .int (0 : Int32)), (0, .ref (aM 0))]) hx hb dX5_as_14 rfl hl (by decide) rfl (fun ls hl => ?_)
    have L15 : ∀ (ct : Nat) (x1 : Int32) (x2 : Int32) (v15 : Int32), fX5_as_L15 N xw xh xv xn yT ct x1 x2 = some v15 → ∀ (H : Heap) (locs : List Loc) (ls : Array Slot), va_P D classes (wM cx aM xw xh xk xj xb xr xc xv xn xl yR yT yC yW yA yE yU yM yV yF yZ yI yD) H → va_D A (wM cx aM xw xh xk xj xb xr xc xv xn xl yR yT yC yW yA yE yU yM yV yF yZ yI yD) → va_S A s.heap H locs → lv_has ls 3 [(0, .ref (aM 0)), (1, .int x1), (2, .int x2)] → (∀ (H : Heap) (locs : List Loc) (ls : Array Slot), va_P D classes (wM cx aM xw xh xk xj xb xr xc xv xn xl yR yT yC yW yA yE yU yM yV yF yZ yI yD) H → va_D A (wM cx aM xw xh xk xj xb xr xc xv xn xl yR yT yC yW yA yE yU yM yV yF yZ yI yD) → va_S A s.heap H locs → lv_has ls 3 [(1, .int v15)] → W p l e rmX5_as s m ([.ref (aM 0)] : List Value).toArray below meth c H locs 0 0 (MQ below (kc_Pi D (fun _ : Unit => (wM cx aM xw xh xk xj xb xr xc xv xn xl yR yT yC yW yA yE yU yM yV yF yZ yI yD)) v A) ([.ref (aM 0)] : List Value).toArray s 0 0 A) (F0 m 72 ls [])) → W p l e rmX5_as s m ([.ref (aM 0)] : List Value).toArray below meth c H locs 0 0 (MQ below (kc_Pi D (fun _ : Unit => (wM cx aM xw xh xk xj xb xr xc xv xn xl yR yT yC yW yA yE yU yM yV yF yZ yI yD)) v A) ([.ref (aM 0)] : List Value).toArray s 0 0 A) (F0 m 15 ls []) := by
      intro ct
      induction ct with
      | zero =>
        intro x1 x2 v15 hf
        exact absurd (show (none : Option (Int32)) = some v15 from hf) (fun q => by cases q)
      | succ ct ih =>
        intro x1 x2 v15 hf H locs ls hP hD hS hl hE
        rw [fX5_as_L15] at hf
        refine lv_iload_n hx hb dX5_as_15 rfl (lv_at hl 2 rfl) ?_
        refine lv_aload_n hx hb dX5_as_16 rfl (lv_at hl 0 rfl) ?_
        refine va_get (D := D) (ci := 5) (v := .int xw) (C := RX5) (T := TX5) (N := 23) hx hb hts iX5 hown hK hP 0 rfl rfl 0 (by decide) (hts _ wd_640) (fun _ h9 => h9) rfl dX5_as_17 ?_
        refine lv_icmp_ge (tgt := 72) hx hb dX5_as_20 (by decide) (fun c15 => ?_) (fun c15 => ?_)
        · replace hf := it_t c15 hf
          obtain rfl := Option.some.inj hf
          exact hE H locs ls hP hD hS (lv_sub hl [1] rfl)
        · replace hf := it_f c15 hf
          refine lv_iload_n hx hb dX5_as_23 rfl (lv_at hl 1 rfl) ?_
          refine lv_aload_n hx hb dX5_as_24 rfl (lv_at hl 0 rfl) ?_
          refine lv_iload_n hx hb dX5_as_25 rfl (lv_at hl 2 rfl) ?_
          obtain ⟨u16, hg, hf⟩ := ob_s hf
          refine kc_calli (wn := fun _ => (wM cx aM xw xh xk xj xb xr xc xv xn xl yR yT yC yW yA yE yU yM yV yF yZ yI yD)) (va_runV (As := [.int x2]) (rest := [.int x1]) ⟨hx, hb, hml, hown, hts⟩ (metX5_isFree l D cx aM xw xh xk xj xb xr xc xv xn xl yR yT yC yW yA yE yU yM yV yF yZ yI yD x2 N H.size u16 hg) ⟨callB_of 1 hts (kc_gI wd_726) rfl rfl rfl (hts _ wd_46) (hts _ wd_723) (by decide +kernel) ⟨Nat.le_of_ble_eq_true rfl, Nat.le_of_ble_eq_true rfl⟩, hts _ wd_725, hts _ wd_31⟩ ⟨kc_blind _ _ _ _ _, va_recv hK hP (ci := 5) (q0 := 0) rfl rfl, kc_pre _ hK hN (hP.sub [0, 1, 2, 3, 4, 5, 6, 7, 8, 9, 10, 11, 12, 13] rfl) (hD.sub [0, 1, 2, 3, 4, 5, 6, 7, 8, 9, 10, 11, 12, 13] (by decide) rfl)⟩ rfl rfl hl.1 rfl (lv_room (Nat.le_of_ble_eq_true rfl)) dX5_as_26 ⟨Nat.zero_le _, Nat.zero_le _⟩) hP hD hS hA [0, 1, 2, 3, 4, 5, 6, 7, 8, 9, 10, 11, 12, 13] [] [0, 1, 2, 3, 4, 5, 6, 7, 8, 9, 10, 11, 12, 13] rfl rfl (by decide) (by decide) (fun _ => rfl) (by decide) (fun _ H locs hP hD hS => ?_)
          have hP : va_P D classes (wM cx aM xw xh xk xj xb xr xc xv xn xl yR yT yC yW yA yE yU yM yV yF yZ yI yD) H := hP
          have hD : va_D A (wM cx aM xw xh xk xj xb xr xc xv xn xl yR yT yC yW yA yE yU yM yV yF yZ yI yD) := hD
          refine lv_if_eq (tgt := 63) hx hb dX5_as_29 (by decide) (fun c17 => ?_) (fun c17 => ?_)
          · replace hf := it_t c17 hf
            refine lv_iconst (v := (0 : Int32)) hx hb dX5_as_63 (by decide) ?_
            refine lv_iadd hx hb dX5_as_64 ?_
            refine lv_istore_n (lv' := [(1, .int (x1 + (0 : Int32))), (0, .ref (aM 0)), (2, .int x2)]) hx hb dX5_as_65 rfl hl (by decide) rfl (fun ls hl => ?_)
            refine lv_iinc (v := (x2 + (1 : Int32))) (lv' := [(2, .int (x2 + (1 : Int32))), (1, .int (x1 + (0 : Int32))), (0, .ref (aM 0))]) hx hb dX5_as_66 hl (k := 2) rfl rfl (by decide) rfl (fun ls hl => ?_)
            refine lv_goto (tgt := 15) hx hb dX5_as_69 (by decide) ?_
            exact ih (x1 + (0 : Int32)) (x2 + (1 : Int32)) _ hf H locs ls hP hD hS (lv_sub hl [2, 1, 0] rfl) hE
          · replace hf := it_f c17 hf
            refine lv_aload_n hx hb dX5_as_32 rfl (lv_at hl 0 rfl) ?_
            refine lv_aload_n hx hb dX5_as_33 rfl (lv_at hl 0 rfl) ?_
            refine va_get (D := D) (ci := 5) (v := .int xn) (C := RX5) (T := TX5) (N := 23) hx hb hts iX5 hown hK hP 0 rfl rfl 17 (by decide) (hts _ wd_657) (fun _ h9 => h9) rfl dX5_as_34 ?_
            refine lv_iload_n hx hb dX5_as_37 rfl (lv_at hl 2 rfl) ?_
            refine lv_aload_n hx hb dX5_as_38 rfl (lv_at hl 0 rfl) ?_
            refine va_get (D := D) (ci := 5) (v := .int xv) (C := RX5) (T := TX5) (N := 23) hx hb hts iX5 hown hK hP 0 rfl rfl 15 (by decide) (hts _ wd_655) (fun _ h9 => h9) rfl dX5_as_39 ?_
            refine lv_iconst (v := (2 : Int32)) hx hb dX5_as_42 (by decide) ?_
            refine lv_irem hx hb dX5_as_43 (by decide) ?_
            obtain ⟨u18, hg, hf⟩ := ob_s hf
            refine kc_calli (wn := fun _ => (wM cx aM xw xh xk xj xb xr xc xv xn xl yR yT yC yW yA yE yU yM yV yF yZ yI yD)) (va_runV (As := [.int xn, .int x2, .int (xv - xv / (2 : Int32) * (2 : Int32))]) (rest := [.int x1]) ⟨hx, hb, hml, hown, hts⟩ (metX5_worthBy l D cx aM xw xh xk xj xb xr xc xv xn xl yR yT yC yW yA yE yU yM yV yF yZ yI yD xn x2 (xv - xv / (2 : Int32) * (2 : Int32)) N H.size u18 hg) ⟨callB_of 3 hts (kc_gI wd_635) rfl rfl rfl (hts _ wd_46) (hts _ wd_632) (by decide +kernel) ⟨Nat.le_of_ble_eq_true rfl, Nat.le_of_ble_eq_true rfl⟩, hts _ wd_634, hts _ wd_29⟩ ⟨kc_blind _ _ _ _ _, va_recv hK hP (ci := 5) (q0 := 0) rfl rfl, kc_pre _ hK hN (hP.sub [0, 1, 2, 3, 4, 5, 6, 7, 8, 9, 10, 11, 12, 13] rfl) (hD.sub [0, 1, 2, 3, 4, 5, 6, 7, 8, 9, 10, 11, 12, 13] (by decide) rfl)⟩ rfl rfl hl.1 rfl (lv_room (Nat.le_of_ble_eq_true rfl)) dX5_as_44 ⟨Nat.zero_le _, Nat.zero_le _⟩) hP hD hS hA [0, 1, 2, 3, 4, 5, 6, 7, 8, 9, 10, 11, 12, 13] [] [0, 1, 2, 3, 4, 5, 6, 7, 8, 9, 10, 11, 12, 13] rfl rfl (by decide) (by decide) (fun _ => rfl) (by decide) (fun _ H locs hP hD hS => ?_)
            have hP : va_P D classes (wM cx aM xw xh xk xj xb xr xc xv xn xl yR yT yC yW yA yE yU yM yV yF yZ yI yD) H := hP
            have hD : va_D A (wM cx aM xw xh xk xj xb xr xc xv xn xl yR yT yC yW yA yE yU yM yV yF yZ yI yD) := hD
            refine lv_aload_n hx hb dX5_as_47 rfl (lv_at hl 0 rfl) ?_
            refine va_get (D := D) (ci := 5) (v := .ref (aM 2)) (C := RX5) (T := TX5) (N := 23) hx hb hts iX5 hown hK hP 0 rfl rfl 7 (by decide) (hts _ wd_647) (fun _ h9 => h9) rfl dX5_as_48 ?_
            refine lv_aload_n hx hb dX5_as_51 rfl (lv_at hl 0 rfl) ?_
            refine va_get (D := D) (ci := 5) (v := .int xn) (C := RX5) (T := TX5) (N := 23) hx hb hts iX5 hown hK hP 0 rfl rfl 17 (by decide) (hts _ wd_657) (fun _ h9 => h9) rfl dX5_as_52 ?_
            obtain ⟨hz, hf⟩ := okb_s hf
            refine va_bald (D := D) hx hb hK hP 2 1 rfl rfl (inb_s hz) dX5_as_55 ?_
            refine lv_icmp_ne (tgt := 63) hx hb dX5_as_56 (by decide) (fun c19 => ?_) (fun c19 => ?_)
            · replace hf := it_f c19 hf
              refine lv_iconst (v := (0 : Int32)) hx hb dX5_as_63 (by decide) ?_
              refine lv_iadd hx hb dX5_as_64 ?_
              refine lv_istore_n (lv' := [(1, .int (x1 + (0 : Int32))), (0, .ref (aM 0)), (2, .int x2)]) hx hb dX5_as_65 rfl hl (by decide) rfl (fun ls hl => ?_)
              refine lv_iinc (v := (x2 + (1 : Int32))) (lv' := [(2, .int (x2 + (1 : Int32))), (1, .int (x1 + (0 : Int32))), (0, .ref (aM 0))]) hx hb dX5_as_66 hl (k := 2) rfl rfl (by decide) rfl (fun ls hl => ?_)
              refine lv_goto (tgt := 15) hx hb dX5_as_69 (by decide) ?_
              exact ih (x1 + (0 : Int32)) (x2 + (1 : Int32)) _ hf H locs ls hP hD hS (lv_sub hl [2, 1, 0] rfl) hE
            · replace hf := it_t c19 hf
              refine lv_iconst (v := (1 : Int32)) hx hb dX5_as_59 (by decide) ?_
              refine lv_goto (tgt := 64) hx hb dX5_as_60 (by decide) ?_
              refine lv_iadd hx hb dX5_as_64 ?_
              refine lv_istore_n (lv' := [(1, .int (x1 + (1 : Int32))), (0, .ref (aM 0)), (2, .int x2)]) hx hb dX5_as_65 rfl hl (by decide) rfl (fun ls hl => ?_)
              refine lv_iinc (v := (x2 + (1 : Int32))) (lv' := [(2, .int (x2 + (1 : Int32))), (1, .int (x1 + (1 : Int32))), (0, .ref (aM 0))]) hx hb dX5_as_66 hl (k := 2) rfl rfl (by decide) rfl (fun ls hl => ?_)
              refine lv_goto (tgt := 15) hx hb dX5_as_69 (by decide) ?_
              exact ih (x1 + (1 : Int32)) (x2 + (1 : Int32)) _ hf H locs ls hP hD hS (lv_sub hl [2, 1, 0] rfl) hE
    obtain ⟨u20, hg, hf⟩ := ob_s hf
    refine L15 _ (0 : Int32) (0 : Int32) u20 hg H locs ls hP hD hS (lv_sub hl [2, 1, 0] rfl) (fun H locs ls hP hD hS hl => ?_)
    refine lv_iload_n hx hb dX5_as_72 rfl (lv_at hl 0 rfl) ?_
    obtain rfl := Option.some.inj hf
    exact kc_iret () hx hb hr hk hP hD hS rfl dX5_as_73
  · replace hf := it_f c9 hf
    refine lv_sipush (v := (-201 : Int32)) hx hb dX5_as_7 (by decide) ?_
    obtain rfl := Option.some.inj hf
    exact kc_iret () hx hb hr hk hP hD hS rfl dX5_as_10
abbrev rmX5_play : Room := { frames := 5, cells := 0, slots := 0, locals := 114 }
set_option maxHeartbeats 4000000 in
set_option maxRecDepth 100000 in
theorem metX5_play (l : Launch) (D : va_G) (cx : Nat → ClassId) (aM : Nat → Nat) (xw : Int32) (xh : Int32) (xk : Int32) (xj : Int32) (xb : Int32) (xr : Int32) (xc : Int32) (xv : Int32) (xn : Int32) (xl : Int32) (yR : Nat → Int32) (yT : Nat → Int32) (yC : Nat → Int32) (yW : Nat → Int32) (yA : Nat → Int32) (yE : Nat → Int32) (yU : Nat → Int32) (yM : Nat → Int32) (yV : Nat → Int32) (yF : Nat → Int32) (yZ : Nat → Int32) (yI : Nat → Int32) (yD : Nat → Int32)  (N : Nat) (sz : Nat) (v : Int32 × Int32 × Int32 × (Nat → Int32)) (hf : fX5_play N xw xh xv xn yT yV = some v) : Met l yX5_play (.code yX5_play cX5_play 2 (some .int) :: kc_TB) rmX5_play (kc_Pre D cx (wM cx aM xw xh xk xj xb xr xc xv xn xl yR yT yC yW yA yE yU yM yV yF yZ yI yD) [.ref (aM 0)] sz) (kc_Pi D (fun _ : Unit => (wM cx aM xw xh xk xj xb xr xc v.2.1 v.2.2.1 xl yR yT yC yW yA yE yU yM v.2.2.2 yF yZ yI yD)) v.1 (va_A (wM cx aM xw xh xk xj xb xr xc xv xn xl yR yT yC yW yA yE yU yM yV yF yZ yI yD) sz)) 0 0 (va_A (wM cx aM xw xh xk xj xb xr xc xv xn xl yR yT yC yW yA yE yU yM yV yF yZ yI yD) sz) := by
  refine kc_entry (Qc := fun A => (kc_Pi D (fun _ : Unit => (wM cx aM xw xh xk xj xb xr xc v.2.1 v.2.2.1 xl yR yT yC yW yA yE yU yM v.2.2.2 yF yZ yI yD)) v.1 A)) (by decide) (Nat.le_of_ble_eq_true rfl) ?_
  intro p e s m below meth c A hx hb hr hk hml hown hin hts hN hK hP hD hS hA ls hl
  have hown : s.vm.findClass RX5 = some m.cls := hown
  have hl : lv_has ls 2 [(0, .ref (aM 0))] := hl
  unfold fX5_play at hf
  have hP : va_P D classes (wM cx aM xw xh xk xj xb xr xc xv xn xl yR yT yC yW yA yE yU yM yV yF yZ yI yD) s.heap := hP
  obtain ⟨H, hH⟩ : ∃ H, H = s.heap := ⟨_, rfl⟩
  obtain ⟨locs, hL⟩ : ∃ locs : List Loc, locs = [] := ⟨_, rfl⟩
  have hS : va_S A s.heap H locs := by rw [hH, hL]; exact hS
  have hP : va_P D classes (wM cx aM xw xh xk xj xb xr xc xv xn xl yR yT yC yW yA yE yU yM yV yF yZ yI yD) H := by rw [hH]; exact hP
  suffices hW : W p l e rmX5_play s m ([.ref (aM 0)] : List Value).toArray below meth c H locs 0 0 (MQ below (kc_Pi D (fun _ : Unit => (wM cx aM xw xh xk xj xb xr xc v.2.1 v.2.2.1 xl yR yT yC yW yA yE yU yM v.2.2.2 yF yZ yI yD)) v.1 A) ([.ref (aM 0)] : List Value).toArray s 0 0 A) (F0 m 0 ls []) by rw [hH, hL] at hW; exact hW
  clear hH hL
  refine lv_aload_n hx hb dX5_play_0 rfl (lv_at hl 0 rfl) ?_
  obtain ⟨u7, hg, hf⟩ := ob_s hf
  refine kc_calli (wn := fun _ => (wM cx aM xw xh xk xj xb xr xc xv xn xl yR yT yC yW yA yE yU yM yV yF yZ yI yD)) (va_runV (As := []) (rest := []) ⟨hx, hb, hml, hown, hts⟩ (metX5_isOver l D cx aM xw xh xk xj xb xr xc xv xn xl yR yT yC yW yA yE yU yM yV yF yZ yI yD  N H.size u7 hg) ⟨callB_of 0 hts (kc_gI wd_730) rfl rfl rfl (hts _ wd_46) (hts _ wd_727) (by decide +kernel) ⟨Nat.le_of_ble_eq_true rfl, Nat.le_of_ble_eq_true rfl⟩, hts _ wd_729, hts _ wd_32⟩ ⟨kc_blind _ _ _ _ _, va_recv hK hP (ci := 5) (q0 := 0) rfl rfl, kc_pre _ hK hN (hP.sub [0, 1, 2, 3, 4, 5, 6, 7, 8, 9, 10, 11, 12, 13] rfl) (hD.sub [0, 1, 2, 3, 4, 5, 6, 7, 8, 9, 10, 11, 12, 13] (by decide) rfl)⟩ rfl rfl hl.1 rfl (lv_room (Nat.le_of_ble_eq_true rfl)) dX5_play_1 ⟨Nat.zero_le _, Nat.zero_le _⟩) hP hD hS hA [0, 1, 2, 3, 4, 5, 6, 7, 8, 9, 10, 11, 12, 13] [] [0, 1, 2, 3, 4, 5, 6, 7, 8, 9, 10, 11, 12, 13] rfl rfl (by decide) (by decide) (fun _ => rfl) (by decide) (fun _ H locs hP hD hS => ?_)
  have hP : va_P D classes (wM cx aM xw xh xk xj xb xr xc xv xn xl yR yT yC yW yA yE yU yM yV yF yZ yI yD) H := hP
  have hD : va_D A (wM cx aM xw xh xk xj xb xr xc xv xn xl yR yT yC yW yA yE yU yM yV yF yZ yI yD) := hD
  refine lv_if_eq (tgt := 11) hx hb dX5_play_4 (by decide) (fun c8 => ?_) (fun c8 => ?_)
  · replace hf := it_t c8 hf
    refine lv_iconst (v := (0 : Int32)) hx hb dX5_play_11 (by decide) ?_
    refine lv_istore_n (lv' := [(1, .int (0 : Int32)), (0, .ref (aM 0))]) hx hb dX5_play_12 rfl hl (by decide) rfl (fun ls hl => ?_)
    have L13 : ∀ (ct : Nat) (xv : Int32) (xn : Int32) (yV : Nat → Int32) (x1 : Int32) (v13 : Int32 × Int32 × (Nat → Int32) × Int32), fX5_play_L13 N xw xh yT ct xv xn yV x1 = some v13 → ∀ (H : Heap) (locs : List Loc) (ls : Array Slot), va_P D classes (wM cx aM xw xh xk xj xb xr xc xv xn xl yR yT yC yW yA yE yU yM yV yF yZ yI yD) H → va_D A (wM cx aM xw xh xk xj xb xr xc xv xn xl yR yT yC yW yA yE yU yM yV yF yZ yI yD) → va_S A s.heap H locs → lv_has ls 2 [(0, .ref (aM 0)), (1, .int x1)] → (∀ (H : Heap) (locs : List Loc) (ls : Array Slot), va_P D classes (wM cx aM xw xh xk xj xb xr xc v13.1 v13.2.1 xl yR yT yC yW yA yE yU yM v13.2.2.1 yF yZ yI yD) H → va_D A (wM cx aM xw xh xk xj xb xr xc v13.1 v13.2.1 xl yR yT yC yW yA yE yU yM v13.2.2.1 yF yZ yI yD) → va_S A s.heap H locs → lv_has ls 2 [(1, .int v13.2.2.2)] → W p l e rmX5_play s m ([.ref (aM 0)] : List Value).toArray below meth c H locs 0 0 (MQ below (kc_Pi D (fun _ : Unit => (wM cx aM xw xh xk xj xb xr xc v.2.1 v.2.2.1 xl yR yT yC yW yA yE yU yM v.2.2.2 yF yZ yI yD)) v.1 A) ([.ref (aM 0)] : List Value).toArray s 0 0 A) (F0 m 34 ls [])) → W p l e rmX5_play s m ([.ref (aM 0)] : List Value).toArray below meth c H locs 0 0 (MQ below (kc_Pi D (fun _ : Unit => (wM cx aM xw xh xk xj xb xr xc v.2.1 v.2.2.1 xl yR yT yC yW yA yE yU yM v.2.2.2 yF yZ yI yD)) v.1 A) ([.ref (aM 0)] : List Value).toArray s 0 0 A) (F0 m 13 ls []) := by
      intro ct
      induction ct with
      | zero =>
        intro xv xn yV x1 v13 hf
        exact absurd (show (none : Option (Int32 × Int32 × (Nat → Int32) × Int32)) = some v13 from hf) (fun q => by cases q)
      | succ ct ih =>
        intro xv xn yV x1 v13 hf H locs ls hP hD hS hl hE
        rw [fX5_play_L13] at hf
        refine lv_aload_n hx hb dX5_play_13 rfl (lv_at hl 0 rfl) ?_
        obtain ⟨u13, hg, hf⟩ := ob_s hf
        refine kc_calli (wn := fun _ => (wM cx aM xw xh xk xj xb xr xc xv xn xl yR yT yC yW yA yE yU yM yV yF yZ yI yD)) (va_runV (As := []) (rest := []) ⟨hx, hb, hml, hown, hts⟩ (metX5_isOver l D cx aM xw xh xk xj xb xr xc xv xn xl yR yT yC yW yA yE yU yM yV yF yZ yI yD  N H.size u13 hg) ⟨callB_of 0 hts (kc_gI wd_730) rfl rfl rfl (hts _ wd_46) (hts _ wd_727) (by decide +kernel) ⟨Nat.le_of_ble_eq_true rfl, Nat.le_of_ble_eq_true rfl⟩, hts _ wd_729, hts _ wd_32⟩ ⟨kc_blind _ _ _ _ _, va_recv hK hP (ci := 5) (q0 := 0) rfl rfl, kc_pre _ hK hN (hP.sub [0, 1, 2, 3, 4, 5, 6, 7, 8, 9, 10, 11, 12, 13] rfl) (hD.sub [0, 1, 2, 3, 4, 5, 6, 7, 8, 9, 10, 11, 12, 13] (by decide) rfl)⟩ rfl rfl hl.1 rfl (lv_room (Nat.le_of_ble_eq_true rfl)) dX5_play_14 ⟨Nat.zero_le _, Nat.zero_le _⟩) hP hD hS hA [0, 1, 2, 3, 4, 5, 6, 7, 8, 9, 10, 11, 12, 13] [] [0, 1, 2, 3, 4, 5, 6, 7, 8, 9, 10, 11, 12, 13] rfl rfl (by decide) (by decide) (fun _ => rfl) (by decide) (fun _ H locs hP hD hS => ?_)
        have hP : va_P D classes (wM cx aM xw xh xk xj xb xr xc xv xn xl yR yT yC yW yA yE yU yM yV yF yZ yI yD) H := hP
        have hD : va_D A (wM cx aM xw xh xk xj xb xr xc xv xn xl yR yT yC yW yA yE yU yM yV yF yZ yI yD) := hD
        refine lv_if_ne (tgt := 34) hx hb dX5_play_17 (by decide) (fun c14 => ?_) (fun c14 => ?_)
        · replace hf := it_f c14 hf
          obtain rfl := Option.some.inj hf
          exact hE H locs ls hP hD hS (lv_sub hl [1] rfl)
        · replace hf := it_t c14 hf
          refine lv_aload_n hx hb dX5_play_20 rfl (lv_at hl 0 rfl) ?_
          refine lv_aload_n hx hb dX5_play_21 rfl (lv_at hl 0 rfl) ?_
          obtain ⟨u15, hg, hf⟩ := ob_s hf
          refine kc_calli (wn := fun _ => (wM cx aM xw xh xk xj xb xr xc xv xn xl yR yT yC yW yA yE yU yM yV yF yZ yI yD)) (va_runV (As := []) (rest := [.ref (aM 0)]) ⟨hx, hb, hml, hown, hts⟩ (metX5_bestMove l D cx aM xw xh xk xj xb xr xc xv xn xl yR yT yC yW yA yE yU yM yV yF yZ yI yD  N H.size u15 hg) ⟨callB_of 0 hts (kc_gI wd_776) rfl rfl rfl (hts _ wd_46) (hts _ wd_773) (by decide +kernel) ⟨Nat.le_of_ble_eq_true rfl, Nat.le_of_ble_eq_true rfl⟩, hts _ wd_775, hts _ wd_34⟩ ⟨kc_blind _ _ _ _ _, va_recv hK hP (ci := 5) (q0 := 0) rfl rfl, kc_pre _ hK hN (hP.sub [0, 1, 2, 3, 4, 5, 6, 7, 8, 9, 10, 11, 12, 13] rfl) (hD.sub [0, 1, 2, 3, 4, 5, 6, 7, 8, 9, 10, 11, 12, 13] (by decide) rfl)⟩ rfl rfl hl.1 rfl (lv_room (Nat.le_of_ble_eq_true rfl)) dX5_play_22 ⟨Nat.zero_le _, Nat.zero_le _⟩) hP hD hS hA [0, 1, 2, 3, 4, 5, 6, 7, 8, 9, 10, 11, 12, 13] [] [0, 1, 2, 3, 4, 5, 6, 7, 8, 9, 10, 11, 12, 13] rfl rfl (by decide) (by decide) (fun _ => rfl) (by decide) (fun _ H locs hP hD hS => ?_)
          have hP : va_P D classes (wM cx aM xw xh xk xj xb xr xc xv xn xl yR yT yC yW yA yE yU yM yV yF yZ yI yD) H := hP
          have hD : va_D A (wM cx aM xw xh xk xj xb xr xc xv xn xl yR yT yC yW yA yE yU yM yV yF yZ yI yD) := hD
          obtain ⟨u16, hg, hf⟩ := ob_s hf
          refine kc_callv (wn := fun _ => (wM cx aM xw xh xk xj xb xr xc u16.1 u16.2.1 xl yR yT yC yW yA yE yU yM u16.2.2 yF yZ yI yD)) (va_runV (As := [.int u15]) (rest := []) ⟨hx, hb, hml, hown, hts⟩ (metX5_go l D cx aM xw xh xk xj xb xr xc xv xn xl yR yT yC yW yA yE yU yM yV yF yZ yI yD u15 N H.size u16 hg) ⟨callB_of 1 hts (kc_gI wd_734) rfl rfl rfl (hts _ wd_46) (hts _ wd_731) (by decide +kernel) ⟨Nat.le_of_ble_eq_true rfl, Nat.le_of_ble_eq_true rfl⟩, hts _ wd_733, hts _ wd_33⟩ ⟨kc_blind _ _ _ _ _, va_recv hK hP (ci := 5) (q0 := 0) rfl rfl, kc_pre _ hK hN (hP.sub [0, 1, 2, 3, 4, 5, 6, 7, 8, 9, 10, 11, 12, 13] rfl) (hD.sub [0, 1, 2, 3, 4, 5, 6, 7, 8, 9, 10, 11, 12, 13] (by decide) rfl)⟩ rfl rfl hl.1 rfl (lv_room (Nat.le_of_ble_eq_true rfl)) dX5_play_25 ⟨Nat.zero_le _, Nat.zero_le _⟩) hP hD hS hA [0, 1, 2, 3, 4, 5, 6, 7, 8, 9, 10, 11, 12, 13] [] [0, 1, 2, 3, 4, 5, 6, 7, 8, 9, 10, 11, 12, 13] rfl rfl (by decide) (by decide) (fun _ => rfl) (by decide) (fun _ H locs hP hD hS => ?_)
          have hP : va_P D classes (wM cx aM xw xh xk xj xb xr xc u16.1 u16.2.1 xl yR yT yC yW yA yE yU yM u16.2.2 yF yZ yI yD) H := hP
          have hD : va_D A (wM cx aM xw xh xk xj xb xr xc u16.1 u16.2.1 xl yR yT yC yW yA yE yU yM u16.2.2 yF yZ yI yD) := hD
          refine lv_iinc (v := (x1 + (1 : Int32))) (lv' := [(1, .int (x1 + (1 : Int32))), (0, .ref (aM 0))]) hx hb dX5_play_28 hl (k := 1) rfl rfl (by decide) rfl (fun ls hl => ?_)
          refine lv_goto (tgt := 13) hx hb dX5_play_31 (by decide) ?_
          exact ih u16.1 u16.2.1 u16.2.2 (x1 + (1 : Int32)) _ hf H locs ls hP hD hS (lv_sub hl [1, 0] rfl) hE
    obtain ⟨u17, hg, hf⟩ := ob_s hf
    refine L13 _ xv xn yV (0 : Int32) u17 hg H locs ls hP hD hS (lv_sub hl [1, 0] rfl) (fun H locs ls hP hD hS hl => ?_)
    refine lv_iload_n hx hb dX5_play_34 rfl (lv_at hl 0 rfl) ?_
    obtain rfl := Option.some.inj hf
    exact kc_iret () hx hb hr hk hP hD hS rfl dX5_play_35
  · replace hf := it_f c8 hf
    refine lv_sipush (v := (-201 : Int32)) hx hb dX5_play_7 (by decide) ?_
    obtain rfl := Option.some.inj hf
    exact kc_iret () hx hb hr hk hP hD hS rfl dX5_play_10
abbrev rmX5_positions : Room := { frames := 1, cells := 0, slots := 0, locals := 25 }
set_option maxHeartbeats 4000000 in
set_option maxRecDepth 100000 in
theorem metX5_positions (l : Launch) (D : va_G) (cx : Nat → ClassId) (aM : Nat → Nat) (xw : Int32) (xh : Int32) (xk : Int32) (xj : Int32) (xb : Int32) (xr : Int32) (xc : Int32) (xv : Int32) (xn : Int32) (xl : Int32) (yR : Nat → Int32) (yT : Nat → Int32) (yC : Nat → Int32) (yW : Nat → Int32) (yA : Nat → Int32) (yE : Nat → Int32) (yU : Nat → Int32) (yM : Nat → Int32) (yV : Nat → Int32) (yF : Nat → Int32) (yZ : Nat → Int32) (yI : Nat → Int32) (yD : Nat → Int32) (x1 : Int32) (N : Nat) (sz : Nat) (v : Int32) (hf : fX5_positions N xw xh yC x1 = some v) : Met l yX5_positions (.code yX5_positions cX5_positions 2 (some .int) :: kc_TB) rmX5_positions (kc_Pre D cx (wM cx aM xw xh xk xj xb xr xc xv xn xl yR yT yC yW yA yE yU yM yV yF yZ yI yD) [.ref (aM 0), .int x1] sz) (kc_Pi D (fun _ : Unit => (wM cx aM xw xh xk xj xb xr xc xv xn xl yR yT yC yW yA yE yU yM yV yF yZ yI yD)) v (va_A (wM cx aM xw xh xk xj xb xr xc xv xn xl yR yT yC yW yA yE yU yM yV yF yZ yI yD) sz)) 0 0 (va_A (wM cx aM xw xh xk xj xb xr xc xv xn xl yR yT yC yW yA yE yU yM yV yF yZ yI yD) sz) := by
  refine kc_entry (Qc := fun A => (kc_Pi D (fun _ : Unit => (wM cx aM xw xh xk xj xb xr xc xv xn xl yR yT yC yW yA yE yU yM yV yF yZ yI yD)) v A)) (by decide) (Nat.le_of_ble_eq_true rfl) ?_
  intro p e s m below meth c A hx hb hr hk hml hown hin hts hN hK hP hD hS hA ls hl
  have hown : s.vm.findClass RX5 = some m.cls := hown
  have hl : lv_has ls 2 [(0, .ref (aM 0)), (1, .int x1)] := hl
  unfold fX5_positions at hf
  have hP : va_P D classes (wM cx aM xw xh xk xj xb xr xc xv xn xl yR yT yC yW yA yE yU yM yV yF yZ yI yD) s.heap := hP
  obtain ⟨H, hH⟩ : ∃ H, H = s.heap := ⟨_, rfl⟩
  obtain ⟨locs, hL⟩ : ∃ locs : List Loc, locs = [] := ⟨_, rfl⟩
  have hS : va_S A s.heap H locs := by rw [hH, hL]; exact hS
  have hP : va_P D classes (wM cx aM xw xh xk xj xb xr xc xv xn xl yR yT yC yW yA yE yU yM yV yF yZ yI yD) H := by rw [hH]; exact hP
  suffices hW : W p l e rmX5_positions s m ([.ref (aM 0), .int x1] : List Value).toArray below meth c H locs 0 0 (MQ below (kc_Pi D (fun _ : Unit => (wM cx aM xw xh xk xj xb xr xc xv xn xl yR yT yC yW yA yE yU yM yV yF yZ yI yD)) v A) ([.ref (aM 0), .int x1] : List Value).toArray s 0 0 A) (F0 m 0 ls []) by rw [hH, hL] at hW; exact hW
  clear hH hL
  refine lv_iload_n hx hb dX5_positions_0 rfl (lv_at hl 1 rfl) ?_
  refine lv_i2l hx hb dX5_positions_1 rfl ?_
  refine lv_lconst (v := (0 : Int64)) hx hb dX5_positions_2 (by decide) ?_
  refine lv_aload_n hx hb dX5_positions_3 rfl (lv_at hl 0 rfl) ?_
  refine va_get (D := D) (ci := 5) (v := .int xw) (C := RX5) (T := TX5) (N := 23) hx hb hts iX5 hown hK hP 0 rfl rfl 0 (by decide) (hts _ wd_640) (fun _ h9 => h9) rfl dX5_positions_4 ?_
  refine lv_aload_n hx hb dX5_positions_7 rfl (lv_at hl 0 rfl) ?_
  refine va_get (D := D) (ci := 5) (v := .int xh) (C := RX5) (T := TX5) (N := 23) hx hb hts iX5 hown hK hP 0 rfl rfl 1 (by decide) (hts _ wd_641) (fun _ h9 => h9) rfl dX5_positions_8 ?_
  refine lv_imul hx hb dX5_positions_11 ?_
  refine lv_i2l hx hb dX5_positions_12 rfl ?_
  obtain ⟨u3, hg, hf⟩ := ob_s hf
  refine kc_calli (wn := fun _ => (wM cx aM xw xh xk xj xb xr xc xv xn xl yR yT yC yW yA yE yU yM yV yF yZ yI yD)) (va_runS (As := [.long x1.toInt64, .long (0 : Int64), .long (xw * xh).toInt64]) (rest := []) ⟨hx, hb, hml, hown, hts⟩ (metX5_in l D cx   x1.toInt64 (0 : Int64) (xw * xh).toInt64 N H.size u3 hg) ⟨callB_of 3 hts (kc_gI wd_587) rfl rfl rfl (hts _ wd_46) (hts _ wd_585) (by decide +kernel) ⟨Nat.le_of_ble_eq_true rfl, Nat.le_of_ble_eq_true rfl⟩, hts _ wd_586⟩ ⟨kc_blind _ _ _ _ _, kc_pre _ hK hN (hP.sub [] rfl) (hD.sub [] (by decide) rfl)⟩ rfl rfl hl.1 rfl (lv_room (Nat.le_of_ble_eq_true rfl)) dX5_positions_13 ⟨Nat.zero_le _, Nat.zero_le _⟩) hP hD hS hA [] [0, 1, 2, 3, 4, 5, 6, 7, 8, 9, 10, 11, 12, 13] [0, 1, 2, 3, 4, 5, 6, 7, 8, 9, 10, 11, 12, 13] rfl rfl (by decide) (by decide) (fun _ => rfl) (by decide) (fun _ H locs hP hD hS => ?_)
  have hP : va_P D classes (wM cx aM xw xh xk xj xb xr xc xv xn xl yR yT yC yW yA yE yU yM yV yF yZ yI yD) H := hP
  have hD : va_D A (wM cx aM xw xh xk xj xb xr xc xv xn xl yR yT yC yW yA yE yU yM yV yF yZ yI yD) := hD
  refine lv_if_eq (tgt := 28) hx hb dX5_positions_16 (by decide) (fun c4 => ?_) (fun c4 => ?_)
  · replace hf := it_t c4 hf
    refine lv_sipush (v := (-200 : Int32)) hx hb dX5_positions_28 (by decide) ?_
    obtain rfl := Option.some.inj hf
    exact kc_iret () hx hb hr hk hP hD hS rfl dX5_positions_31
  · replace hf := it_f c4 hf
    refine lv_aload_n hx hb dX5_positions_19 rfl (lv_at hl 0 rfl) ?_
    refine va_get (D := D) (ci := 5) (v := .ref (aM 3)) (C := RX5) (T := TX5) (N := 23) hx hb hts iX5 hown hK hP 0 rfl rfl 8 (by decide) (hts _ wd_648) (fun _ h9 => h9) rfl dX5_positions_20 ?_
    refine lv_iload_n hx hb dX5_positions_23 rfl (lv_at hl 1 rfl) ?_
    obtain ⟨hz, hf⟩ := okb_s hf
    refine va_iald (D := D) hx hb hK hP 3 0 rfl rfl (inb_s hz) dX5_positions_24 ?_
    refine lv_goto (tgt := 31) hx hb dX5_positions_25 (by decide) ?_
    obtain rfl := Option.some.inj hf
    exact kc_iret () hx hb hr hk hP hD hS rfl dX5_positions_31
abbrev rmX5_wins : Room := { frames := 1, cells := 0, slots := 0, locals := 25 }
set_option maxHeartbeats 4000000 in
set_option maxRecDepth 100000 in
theorem metX5_wins (l : Launch) (D : va_G) (cx : Nat → ClassId) (aM : Nat → Nat) (xw : Int32) (xh : Int32) (xk : Int32) (xj : Int32) (xb : Int32) (xr : Int32) (xc : Int32) (xv : Int32) (xn : Int32) (xl : Int32) (yR : Nat → Int32) (yT : Nat → Int32) (yC : Nat → Int32) (yW : Nat → Int32) (yA : Nat → Int32) (yE : Nat → Int32) (yU : Nat → Int32) (yM : Nat → Int32) (yV : Nat → Int32) (yF : Nat → Int32) (yZ : Nat → Int32) (yI : Nat → Int32) (yD : Nat → Int32) (x1 : Int32) (N : Nat) (sz : Nat) (v : Int32) (hf : fX5_wins N xw xh yW x1 = some v) : Met l yX5_wins (.code yX5_wins cX5_wins 2 (some .int) :: kc_TB) rmX5_wins (kc_Pre D cx (wM cx aM xw xh xk xj xb xr xc xv xn xl yR yT yC yW yA yE yU yM yV yF yZ yI yD) [.ref (aM 0), .int x1] sz) (kc_Pi D (fun _ : Unit => (wM cx aM xw xh xk xj xb xr xc xv xn xl yR yT yC yW yA yE yU yM yV yF yZ yI yD)) v (va_A (wM cx aM xw xh xk xj xb xr xc xv xn xl yR yT yC yW yA yE yU yM yV yF yZ yI yD) sz)) 0 0 (va_A (wM cx aM xw xh xk xj xb xr xc xv xn xl yR yT yC yW yA yE yU yM yV yF yZ yI yD) sz) := by
  refine kc_entry (Qc := fun A => (kc_Pi D (fun _ : Unit => (wM cx aM xw xh xk xj xb xr xc xv xn xl yR yT yC yW yA yE yU yM yV yF yZ yI yD)) v A)) (by decide) (Nat.le_of_ble_eq_true rfl) ?_
  intro p e s m below meth c A hx hb hr hk hml hown hin hts hN hK hP hD hS hA ls hl
  have hown : s.vm.findClass RX5 = some m.cls := hown
  have hl : lv_has ls 2 [(0, .ref (aM 0)), (1, .int x1)] := hl
  unfold fX5_wins at hf
  have hP : va_P D classes (wM cx aM xw xh xk xj xb xr xc xv xn xl yR yT yC yW yA yE yU yM yV yF yZ yI yD) s.heap := hP
  obtain ⟨H, hH⟩ : ∃ H, H = s.heap := ⟨_, rfl⟩
  obtain ⟨locs, hL⟩ : ∃ locs : List Loc, locs = [] := ⟨_, rfl⟩
  have hS : va_S A s.heap H locs := by rw [hH, hL]; exact hS
  have hP : va_P D classes (wM cx aM xw xh xk xj xb xr xc xv xn xl yR yT yC yW yA yE yU yM yV yF yZ yI yD) H := by rw [hH]; exact hP
  suffices hW : W p l e rmX5_wins s m ([.ref (aM 0), .int x1] : List Value).toArray below meth c H locs 0 0 (MQ below (kc_Pi D (fun _ : Unit => (wM cx aM xw xh xk xj xb xr xc xv xn xl yR yT yC yW yA yE yU yM yV yF yZ yI yD)) v A) ([.ref (aM 0), .int x1] : List Value).toArray s 0 0 A) (F0 m 0 ls []) by rw [hH, hL] at hW; exact hW
  clear hH hL
  refine lv_iload_n hx hb dX5_wins_0 rfl (lv_at hl 1 rfl) ?_
  refine lv_i2l hx hb dX5_wins_1 rfl ?_
  refine lv_lconst (v := (0 : Int64)) hx hb dX5_wins_2 (by decide) ?_
  refine lv_aload_n hx hb dX5_wins_3 rfl (lv_at hl 0 rfl) ?_
  refine va_get (D := D) (ci := 5) (v := .int xw) (C := RX5) (T := TX5) (N := 23) hx hb hts iX5 hown hK hP 0 rfl rfl 0 (by decide) (hts _ wd_640) (fun _ h9 => h9) rfl dX5_wins_4 ?_
  refine lv_aload_n hx hb dX5_wins_7 rfl (lv_at hl 0 rfl) ?_
  refine va_get (D := D) (ci := 5) (v := .int xh) (C := RX5) (T := TX5) (N := 23) hx hb hts iX5 hown hK hP 0 rfl rfl 1 (by decide) (hts _ wd_641) (fun _ h9 => h9) rfl dX5_wins_8 ?_
  refine lv_imul hx hb dX5_wins_11 ?_
  refine lv_i2l hx hb dX5_wins_12 rfl ?_
  obtain ⟨u3, hg, hf⟩ := ob_s hf
  refine kc_calli (wn := fun _ => (wM cx aM xw xh xk xj xb xr xc xv xn xl yR yT yC yW yA yE yU yM yV yF yZ yI yD)) (va_runS (As := [.long x1.toInt64, .long (0 : Int64), .long (xw * xh).toInt64]) (rest := []) ⟨hx, hb, hml, hown, hts⟩ (metX5_in l D cx   x1.toInt64 (0 : Int64) (xw * xh).toInt64 N H.size u3 hg) ⟨callB_of 3 hts (kc_gI wd_587) rfl rfl rfl (hts _ wd_46) (hts _ wd_585) (by decide +kernel) ⟨Nat.le_of_ble_eq_true rfl, Nat.le_of_ble_eq_true rfl⟩, hts _ wd_586⟩ ⟨kc_blind _ _ _ _ _, kc_pre _ hK hN (hP.sub [] rfl) (hD.sub [] (by decide) rfl)⟩ rfl rfl hl.1 rfl (lv_room (Nat.le_of_ble_eq_true rfl)) dX5_wins_13 ⟨Nat.zero_le _, Nat.zero_le _⟩) hP hD hS hA [] [0, 1, 2, 3, 4, 5, 6, 7, 8, 9, 10, 11, 12, 13] [0, 1, 2, 3, 4, 5, 6, 7, 8, 9, 10, 11, 12, 13] rfl rfl (by decide) (by decide) (fun _ => rfl) (by decide) (fun _ H locs hP hD hS => ?_)
  have hP : va_P D classes (wM cx aM xw xh xk xj xb xr xc xv xn xl yR yT yC yW yA yE yU yM yV yF yZ yI yD) H := hP
  have hD : va_D A (wM cx aM xw xh xk xj xb xr xc xv xn xl yR yT yC yW yA yE yU yM yV yF yZ yI yD) := hD
  refine lv_if_eq (tgt := 28) hx hb dX5_wins_16 (by decide) (fun c4 => ?_) (fun c4 => ?_)
  · replace hf := it_t c4 hf
    refine lv_sipush (v := (-200 : Int32)) hx hb dX5_wins_28 (by decide) ?_
    obtain rfl := Option.some.inj hf
    exact kc_iret () hx hb hr hk hP hD hS rfl dX5_wins_31
  · replace hf := it_f c4 hf
    refine lv_aload_n hx hb dX5_wins_19 rfl (lv_at hl 0 rfl) ?_
    refine va_get (D := D) (ci := 5) (v := .ref (aM 4)) (C := RX5) (T := TX5) (N := 23) hx hb hts iX5 hown hK hP 0 rfl rfl 9 (by decide) (hts _ wd_649) (fun _ h9 => h9) rfl dX5_wins_20 ?_
    refine lv_iload_n hx hb dX5_wins_23 rfl (lv_at hl 1 rfl) ?_
    obtain ⟨hz, hf⟩ := okb_s hf
    refine va_iald (D := D) hx hb hK hP 4 0 rfl rfl (inb_s hz) dX5_wins_24 ?_
    refine lv_goto (tgt := 31) hx hb dX5_wins_25 (by decide) ?_
    obtain rfl := Option.some.inj hf
    exact kc_iret () hx hb hr hk hP hD hS rfl dX5_wins_31
abbrev rmX5_share : Room := { frames := 1, cells := 0, slots := 0, locals := 25 }
set_option maxHeartbeats 4000000 in
set_option maxRecDepth 100000 in
theorem metX5_share (l : Launch) (D : va_G) (cx : Nat → ClassId) (aM : Nat → Nat) (xw : Int32) (xh : Int32) (xk : Int32) (xj : Int32) (xb : Int32) (xr : Int32) (xc : Int32) (xv : Int32) (xn : Int32) (xl : Int32) (yR : Nat → Int32) (yT : Nat → Int32) (yC : Nat → Int32) (yW : Nat → Int32) (yA : Nat → Int32) (yE : Nat → Int32) (yU : Nat → Int32) (yM : Nat → Int32) (yV : Nat → Int32) (yF : Nat → Int32) (yZ : Nat → Int32) (yI : Nat → Int32) (yD : Nat → Int32) (x1 : Int32) (x2 : Int32) (N : Nat) (sz : Nat) (v : Int32) (hf : fX5_share N xw xh yA yE yU x1 x2 = some v) : Met l yX5_share (.code yX5_share cX5_share 3 (some .int) :: kc_TB) rmX5_share (kc_Pre D cx (wM cx aM xw xh xk xj xb xr xc xv xn xl yR yT yC yW yA yE yU yM yV yF yZ yI yD) [.ref (aM 0), .int x1, .int x2] sz) (kc_Pi D (fun _ : Unit => (wM cx aM xw xh xk xj xb xr xc xv xn xl yR yT yC yW yA yE yU yM yV yF yZ yI yD)) v (va_A (wM cx aM xw xh xk xj xb xr xc xv xn xl yR yT yC yW yA yE yU yM yV yF yZ yI yD) sz)) 0 0 (va_A (wM cx aM xw xh xk xj xb xr xc xv xn xl yR yT yC yW yA yE yU yM yV yF yZ yI yD) sz) := by
  refine kc_entry (Qc := fun A => (kc_Pi D (fun _ : Unit => (wM cx aM xw xh xk xj xb xr xc xv xn xl yR yT yC yW yA yE yU yM yV yF yZ yI yD)) v A)) (by decide) (Nat.le_of_ble_eq_true rfl) ?_
  intro p e s m below meth c A hx hb hr hk hml hown hin hts hN hK hP hD hS hA ls hl
  have hown : s.vm.findClass RX5 = some m.cls := hown
  have hl : lv_has ls 3 [(0, .ref (aM 0)), (1, .int x1), (2, .int x2)] := hl
  unfold fX5_share at hf
  have hP : va_P D classes (wM cx aM xw xh xk xj xb xr xc xv xn xl yR yT yC yW yA yE yU yM yV yF yZ yI yD) s.heap := hP
  obtain ⟨H, hH⟩ : ∃ H, H = s.heap := ⟨_, rfl⟩
  obtain ⟨locs, hL⟩ : ∃ locs : List Loc, locs = [] := ⟨_, rfl⟩
  have hS : va_S A s.heap H locs := by rw [hH, hL]; exact hS
  have hP : va_P D classes (wM cx aM xw xh xk xj xb xr xc xv xn xl yR yT yC yW yA yE yU yM yV yF yZ yI yD) H := by rw [hH]; exact hP
  suffices hW : W p l e rmX5_share s m ([.ref (aM 0), .int x1, .int x2] : List Value).toArray below meth c H locs 0 0 (MQ below (kc_Pi D (fun _ : Unit => (wM cx aM xw xh xk xj xb xr xc xv xn xl yR yT yC yW yA yE yU yM yV yF yZ yI yD)) v A) ([.ref (aM 0), .int x1, .int x2] : List Value).toArray s 0 0 A) (F0 m 0 ls []) by rw [hH, hL] at hW; exact hW
  clear hH hL
  refine lv_iload_n hx hb dX5_share_0 rfl (lv_at hl 1 rfl) ?_
  refine lv_i2l hx hb dX5_share_1 rfl ?_
  refine lv_lconst (v := (0 : Int64)) hx hb dX5_share_2 (by decide) ?_
  refine lv_aload_n hx hb dX5_share_3 rfl (lv_at hl 0 rfl) ?_
  refine va_get (D := D) (ci := 5) (v := .int xw) (C := RX5) (T := TX5) (N := 23) hx hb hts iX5 hown hK hP 0 rfl rfl 0 (by decide) (hts _ wd_640) (fun _ h9 => h9) rfl dX5_share_4 ?_
  refine lv_aload_n hx hb dX5_share_7 rfl (lv_at hl 0 rfl) ?_
  refine va_get (D := D) (ci := 5) (v := .int xh) (C := RX5) (T := TX5) (N := 23) hx hb hts iX5 hown hK hP 0 rfl rfl 1 (by decide) (hts _ wd_641) (fun _ h9 => h9) rfl dX5_share_8 ?_
  refine lv_imul hx hb dX5_share_11 ?_
  refine lv_i2l hx hb dX5_share_12 rfl ?_
  obtain ⟨u7, hg, hf⟩ := ob_s hf
  refine kc_calli (wn := fun _ => (wM cx aM xw xh xk xj xb xr xc xv xn xl yR yT yC yW yA yE yU yM yV yF yZ yI yD)) (va_runS (As := [.long x1.toInt64, .long (0 : Int64), .long (xw * xh).toInt64]) (rest := []) ⟨hx, hb, hml, hown, hts⟩ (metX5_in l D cx   x1.toInt64 (0 : Int64) (xw * xh).toInt64 N H.size u7 hg) ⟨callB_of 3 hts (kc_gI wd_587) rfl rfl rfl (hts _ wd_46) (hts _ wd_585) (by decide +kernel) ⟨Nat.le_of_ble_eq_true rfl, Nat.le_of_ble_eq_true rfl⟩, hts _ wd_586⟩ ⟨kc_blind _ _ _ _ _, kc_pre _ hK hN (hP.sub [] rfl) (hD.sub [] (by decide) rfl)⟩ rfl rfl hl.1 rfl (lv_room (Nat.le_of_ble_eq_true rfl)) dX5_share_13 ⟨Nat.zero_le _, Nat.zero_le _⟩) hP hD hS hA [] [0, 1, 2, 3, 4, 5, 6, 7, 8, 9, 10, 11, 12, 13] [0, 1, 2, 3, 4, 5, 6, 7, 8, 9, 10, 11, 12, 13] rfl rfl (by decide) (by decide) (fun _ => rfl) (by decide) (fun _ H locs hP hD hS => ?_)
  have hP : va_P D classes (wM cx aM xw xh xk xj xb xr xc xv xn xl yR yT yC yW yA yE yU yM yV yF yZ yI yD) H := hP
  have hD : va_D A (wM cx aM xw xh xk xj xb xr xc xv xn xl yR yT yC yW yA yE yU yM yV yF yZ yI yD) := hD
  refine lv_if_eq (tgt := 31) hx hb dX5_share_16 (by decide) (fun c8 => ?_) (fun c8 => ?_)
  · replace hf := it_t c8 hf
    refine lv_sipush (v := (-200 : Int32)) hx hb dX5_share_31 (by decide) ?_
    obtain rfl := Option.some.inj hf
    exact kc_iret () hx hb hr hk hP hD hS rfl dX5_share_34
  · replace hf := it_f c8 hf
    refine lv_iload_n hx hb dX5_share_19 rfl (lv_at hl 2 rfl) ?_
    refine lv_i2l hx hb dX5_share_20 rfl ?_
    refine lv_ldc2 hx hb hown (hts _ wd_797) dX5_share_21 ?_
    refine lv_lconst (v := (1 : Int64)) hx hb dX5_share_24 (by decide) ?_
    obtain ⟨u9, hg, hf⟩ := ob_s hf
    refine kc_calli (wn := fun _ => (wM cx aM xw xh xk xj xb xr xc xv xn xl yR yT yC yW yA yE yU yM yV yF yZ yI yD)) (va_runS (As := [.long x2.toInt64, .long (-1 : Int64), .long (1 : Int64)]) (rest := []) ⟨hx, hb, hml, hown, hts⟩ (metX5_in l D cx   x2.toInt64 (-1 : Int64) (1 : Int64) N H.size u9 hg) ⟨callB_of 3 hts (kc_gI wd_587) rfl rfl rfl (hts _ wd_46) (hts _ wd_585) (by decide +kernel) ⟨Nat.le_of_ble_eq_true rfl, Nat.le_of_ble_eq_true rfl⟩, hts _ wd_586⟩ ⟨kc_blind _ _ _ _ _, kc_pre _ hK hN (hP.sub [] rfl) (hD.sub [] (by decide) rfl)⟩ rfl rfl hl.1 rfl (lv_room (Nat.le_of_ble_eq_true rfl)) dX5_share_25 ⟨Nat.zero_le _, Nat.zero_le _⟩) hP hD hS hA [] [0, 1, 2, 3, 4, 5, 6, 7, 8, 9, 10, 11, 12, 13] [0, 1, 2, 3, 4, 5, 6, 7, 8, 9, 10, 11, 12, 13] rfl rfl (by decide) (by decide) (fun _ => rfl) (by decide) (fun _ H locs hP hD hS => ?_)
    have hP : va_P D classes (wM cx aM xw xh xk xj xb xr xc xv xn xl yR yT yC yW yA yE yU yM yV yF yZ yI yD) H := hP
    have hD : va_D A (wM cx aM xw xh xk xj xb xr xc xv xn xl yR yT yC yW yA yE yU yM yV yF yZ yI yD) := hD
    refine lv_if_ne (tgt := 35) hx hb dX5_share_28 (by decide) (fun c10 => ?_) (fun c10 => ?_)
    · replace hf := it_f c10 hf
      refine lv_iload_n hx hb dX5_share_35 rfl (lv_at hl 2 rfl) ?_
      refine lv_if_le (tgt := 48) hx hb dX5_share_36 (by decide) (fun c11 => ?_) (fun c11 => ?_)
      · replace hf := it_t c11 hf
        refine lv_iload_n hx hb dX5_share_48 rfl (lv_at hl 2 rfl) ?_
        refine lv_if_ne (tgt := 61) hx hb dX5_share_49 (by decide) (fun c12 => ?_) (fun c12 => ?_)
        · replace hf := it_f c12 hf
          refine lv_aload_n hx hb dX5_share_61 rfl (lv_at hl 0 rfl) ?_
          refine va_get (D := D) (ci := 5) (v := .ref (aM 7)) (C := RX5) (T := TX5) (N := 23) hx hb hts iX5 hown hK hP 0 rfl rfl 12 (by decide) (hts _ wd_652) (fun _ h9 => h9) rfl dX5_share_62 ?_
          refine lv_iload_n hx hb dX5_share_65 rfl (lv_at hl 1 rfl) ?_
          obtain ⟨hz, hf⟩ := okb_s hf
          refine va_iald (D := D) hx hb hK hP 7 0 rfl rfl (inb_s hz) dX5_share_66 ?_
          obtain rfl := Option.some.inj hf
          exact kc_iret () hx hb hr hk hP hD hS rfl dX5_share_67
        · replace hf := it_t c12 hf
          refine lv_aload_n hx hb dX5_share_52 rfl (lv_at hl 0 rfl) ?_
          refine va_get (D := D) (ci := 5) (v := .ref (aM 6)) (C := RX5) (T := TX5) (N := 23) hx hb hts iX5 hown hK hP 0 rfl rfl 11 (by decide) (hts _ wd_651) (fun _ h9 => h9) rfl dX5_share_53 ?_
          refine lv_iload_n hx hb dX5_share_56 rfl (lv_at hl 1 rfl) ?_
          obtain ⟨hz, hf⟩ := okb_s hf
          refine va_iald (D := D) hx hb hK hP 6 0 rfl rfl (inb_s hz) dX5_share_57 ?_
          refine lv_goto (tgt := 67) hx hb dX5_share_58 (by decide) ?_
          obtain rfl := Option.some.inj hf
          exact kc_iret () hx hb hr hk hP hD hS rfl dX5_share_67
      · replace hf := it_f c11 hf
        refine lv_aload_n hx hb dX5_share_39 rfl (lv_at hl 0 rfl) ?_
        refine va_get (D := D) (ci := 5) (v := .ref (aM 5)) (C := RX5) (T := TX5) (N := 23) hx hb hts iX5 hown hK hP 0 rfl rfl 10 (by decide) (hts _ wd_650) (fun _ h9 => h9) rfl dX5_share_40 ?_
        refine lv_iload_n hx hb dX5_share_43 rfl (lv_at hl 1 rfl) ?_
        obtain ⟨hz, hf⟩ := okb_s hf
        refine va_iald (D := D) hx hb hK hP 5 0 rfl rfl (inb_s hz) dX5_share_44 ?_
        refine lv_goto (tgt := 67) hx hb dX5_share_45 (by decide) ?_
        obtain rfl := Option.some.inj hf
        exact kc_iret () hx hb hr hk hP hD hS rfl dX5_share_67
    · replace hf := it_t c10 hf
      refine lv_sipush (v := (-200 : Int32)) hx hb dX5_share_31 (by decide) ?_
      obtain rfl := Option.some.inj hf
      exact kc_iret () hx hb hr hk hP hD hS rfl dX5_share_34
abbrev rmX5_even : Room := { frames := 1, cells := 0, slots := 0, locals := 22 }
set_option maxHeartbeats 4000000 in
set_option maxRecDepth 100000 in
theorem metX5_even (l : Launch) (D : va_G) (cx : Nat → ClassId) (aM : Nat → Nat) (xw : Int32) (xh : Int32) (xk : Int32) (xj : Int32) (xb : Int32) (xr : Int32) (xc : Int32) (xv : Int32) (xn : Int32) (xl : Int32) (yR : Nat → Int32) (yT : Nat → Int32) (yC : Nat → Int32) (yW : Nat → Int32) (yA : Nat → Int32) (yE : Nat → Int32) (yU : Nat → Int32) (yM : Nat → Int32) (yV : Nat → Int32) (yF : Nat → Int32) (yZ : Nat → Int32) (yI : Nat → Int32) (yD : Nat → Int32)  (N : Nat) (sz : Nat) (v : Int32) (hf : fX5_even N xw xh xn = some v) : Met l yX5_even (.code yX5_even cX5_even 3 (some .int) :: kc_TB) rmX5_even (kc_Pre D cx (wM cx aM xw xh xk xj xb xr xc xv xn xl yR yT yC yW yA yE yU yM yV yF yZ yI yD) [.ref (aM 0)] sz) (kc_Pi D (fun _ : Unit => (wM cx aM xw xh xk xj xb xr xc xv xn xl yR yT yC yW yA yE yU yM yV yF yZ yI yD)) v (va_A (wM cx aM xw xh xk xj xb xr xc xv xn xl yR yT yC yW yA yE yU yM yV yF yZ yI yD) sz)) 0 0 (va_A (wM cx aM xw xh xk xj xb xr xc xv xn xl yR yT yC yW yA yE yU yM yV yF yZ yI yD) sz) := by
  refine kc_entry (Qc := fun A => (kc_Pi D (fun _ : Unit => (wM cx aM xw xh xk xj xb xr xc xv xn xl yR yT yC yW yA yE yU yM yV yF yZ yI yD)) v A)) (by decide) (Nat.le_of_ble_eq_true rfl) ?_
  intro p e s m below meth c A hx hb hr hk hml hown hin hts hN hK hP hD hS hA ls hl
  have hown : s.vm.findClass RX5 = some m.cls := hown
  have hl : lv_has ls 3 [(0, .ref (aM 0))] := hl
  unfold fX5_even at hf
  have hP : va_P D classes (wM cx aM xw xh xk xj xb xr xc xv xn xl yR yT yC yW yA yE yU yM yV yF yZ yI yD) s.heap := hP
  obtain ⟨H, hH⟩ : ∃ H, H = s.heap := ⟨_, rfl⟩
  obtain ⟨locs, hL⟩ : ∃ locs : List Loc, locs = [] := ⟨_, rfl⟩
  have hS : va_S A s.heap H locs := by rw [hH, hL]; exact hS
  have hP : va_P D classes (wM cx aM xw xh xk xj xb xr xc xv xn xl yR yT yC yW yA yE yU yM yV yF yZ yI yD) H := by rw [hH]; exact hP
  suffices hW : W p l e rmX5_even s m ([.ref (aM 0)] : List Value).toArray below meth c H locs 0 0 (MQ below (kc_Pi D (fun _ : Unit => (wM cx aM xw xh xk xj xb xr xc xv xn xl yR yT yC yW yA yE yU yM yV yF yZ yI yD)) v A) ([.ref (aM 0)] : List Value).toArray s 0 0 A) (F0 m 0 ls []) by rw [hH, hL] at hW; exact hW
  clear hH hL
  refine lv_iconst (v := (1 : Int32)) hx hb dX5_even_0 (by decide) ?_
  refine lv_istore_n (lv' := [(1, .int (1 : Int32)), (0, .ref (aM 0))]) hx hb dX5_even_1 rfl hl (by decide) rfl (fun ls hl => ?_)
  refine lv_iconst (v := (0 : Int32)) hx hb dX5_even_2 (by decide) ?_
  refine lv_istore_n (lv' := [(2, .int (0 : Int32)), (1, .int (1 : Int32)), (0, .ref (aM 0))]) hx hb dX5_even_3 rfl hl (by decide) rfl (fun ls hl => ?_)
  have L4 : ∀ (ct : Nat) (x1 : Int32) (x2 : Int32) (v4 : Int32), fX5_even_L4 N xw xh xn ct x1 x2 = some v4 → ∀ (H : Heap) (locs : List Loc) (ls : Array Slot), va_P D classes (wM cx aM xw xh xk xj xb xr xc xv xn xl yR yT yC yW yA yE yU yM yV yF yZ yI yD) H → va_D A (wM cx aM xw xh xk xj xb xr xc xv xn xl yR yT yC yW yA yE yU yM yV yF yZ yI yD) → va_S A s.heap H locs → lv_has ls 3 [(0, .ref (aM 0)), (1, .int x1), (2, .int x2)] → (∀ (H : Heap) (locs : List Loc) (ls : Array Slot), va_P D classes (wM cx aM xw xh xk xj xb xr xc xv xn xl yR yT yC yW yA yE yU yM yV yF yZ yI yD) H → va_D A (wM cx aM xw xh xk xj xb xr xc xv xn xl yR yT yC yW yA yE yU yM yV yF yZ yI yD) → va_S A s.heap H locs → lv_has ls 3 [(1, .int v4)] → W p l e rmX5_even s m ([.ref (aM 0)] : List Value).toArray below meth c H locs 0 0 (MQ below (kc_Pi D (fun _ : Unit => (wM cx aM xw xh xk xj xb xr xc xv xn xl yR yT yC yW yA yE yU yM yV yF yZ yI yD)) v A) ([.ref (aM 0)] : List Value).toArray s 0 0 A) (F0 m 56 ls [])) → W p l e rmX5_even s m ([.ref (aM 0)] : List Value).toArray below meth c H locs 0 0 (MQ below (kc_Pi D (fun _ : Unit => (wM cx aM xw xh xk xj xb xr xc xv xn xl yR yT yC yW yA yE yU yM yV yF yZ yI yD)) v A) ([.ref (aM 0)] : List Value).toArray s 0 0 A) (F0 m 4 ls []) := by
    intro ct
    induction ct with
    | zero =>
      intro x1 x2 v4 hf
      exact absurd (show (none : Option (Int32)) = some v4 from hf) (fun q => by cases q)
    | succ ct ih =>
      intro x1 x2 v4 hf H locs ls hP hD hS hl hE
      rw [fX5_even_L4] at hf
      refine lv_iload_n hx hb dX5_even_4 rfl (lv_at hl 2 rfl) ?_
      refine lv_aload_n hx hb dX5_even_5 rfl (lv_at hl 0 rfl) ?_
      refine va_get (D := D) (ci := 5) (v := .int xw) (C := RX5) (T := TX5) (N := 23) hx hb hts iX5 hown hK hP 0 rfl rfl 0 (by decide) (hts _ wd_640) (fun _ h9 => h9) rfl dX5_even_6 ?_
      refine lv_icmp_ge (tgt := 56) hx hb dX5_even_9 (by decide) (fun c12 => ?_) (fun c12 => ?_)
      · replace hf := it_t c12 hf
        obtain rfl := Option.some.inj hf
        exact hE H locs ls hP hD hS (lv_sub hl [1] rfl)
      · replace hf := it_f c12 hf
        refine lv_iload_n hx hb dX5_even_12 rfl (lv_at hl 1 rfl) ?_
        refine lv_if_eq (tgt := 48) hx hb dX5_even_13 (by decide) (fun c13 => ?_) (fun c13 => ?_)
        · replace hf := it_t c13 hf
          refine lv_iconst (v := (0 : Int32)) hx hb dX5_even_48 (by decide) ?_
          refine lv_istore_n (lv' := [(1, .int (0 : Int32)), (0, .ref (aM 0)), (2, .int x2)]) hx hb dX5_even_49 rfl hl (by decide) rfl (fun ls hl => ?_)
          refine lv_iinc (v := (x2 + (1 : Int32))) (lv' := [(2, .int (x2 + (1 : Int32))), (1, .int (0 : Int32)), (0, .ref (aM 0))]) hx hb dX5_even_50 hl (k := 2) rfl rfl (by decide) rfl (fun ls hl => ?_)
          refine lv_goto (tgt := 4) hx hb dX5_even_53 (by decide) ?_
          exact ih (0 : Int32) (x2 + (1 : Int32)) _ hf H locs ls hP hD hS (lv_sub hl [2, 1, 0] rfl) hE
        · replace hf := it_f c13 hf
          refine lv_aload_n hx hb dX5_even_16 rfl (lv_at hl 0 rfl) ?_
          refine lv_aload_n hx hb dX5_even_17 rfl (lv_at hl 0 rfl) ?_
          refine va_get (D := D) (ci := 5) (v := .int xn) (C := RX5) (T := TX5) (N := 23) hx hb hts iX5 hown hK hP 0 rfl rfl 17 (by decide) (hts _ wd_657) (fun _ h9 => h9) rfl dX5_even_18 ?_
          refine lv_iload_n hx hb dX5_even_21 rfl (lv_at hl 2 rfl) ?_
          obtain ⟨u14, hg, hf⟩ := ob_s hf
          refine kc_calli (wn := fun _ => (wM cx aM xw xh xk xj xb xr xc xv xn xl yR yT yC yW yA yE yU yM yV yF yZ yI yD)) (va_runV (As := [.int xn, .int x2]) (rest := []) ⟨hx, hb, hml, hown, hts⟩ (metX5_columnOf l D cx aM xw xh xk xj xb xr xc xv xn xl yR yT yC yW yA yE yU yM yV yF yZ yI yD xn x2 N H.size u14 hg) ⟨callB_of 2 hts (kc_gI wd_615) rfl rfl rfl (hts _ wd_46) (hts _ wd_612) (by decide +kernel) ⟨Nat.le_of_ble_eq_true rfl, Nat.le_of_ble_eq_true rfl⟩, hts _ wd_614, hts _ wd_24⟩ ⟨kc_blind _ _ _ _ _, va_recv hK hP (ci := 5) (q0 := 0) rfl rfl, kc_pre _ hK hN (hP.sub [0, 1, 2, 3, 4, 5, 6, 7, 8, 9, 10, 11, 12, 13] rfl) (hD.sub [0, 1, 2, 3, 4, 5, 6, 7, 8, 9, 10, 11, 12, 13] (by decide) rfl)⟩ rfl rfl hl.1 rfl (lv_room (Nat.le_of_ble_eq_true rfl)) dX5_even_22 ⟨Nat.zero_le _, Nat.zero_le _⟩) hP hD hS hA [0, 1, 2, 3, 4, 5, 6, 7, 8, 9, 10, 11, 12, 13] [] [0, 1, 2, 3, 4, 5, 6, 7, 8, 9, 10, 11, 12, 13] rfl rfl (by decide) (by decide) (fun _ => rfl) (by decide) (fun _ H locs hP hD hS => ?_)
          have hP : va_P D classes (wM cx aM xw xh xk xj xb xr xc xv xn xl yR yT yC yW yA yE yU yM yV yF yZ yI yD) H := hP
          have hD : va_D A (wM cx aM xw xh xk xj xb xr xc xv xn xl yR yT yC yW yA yE yU yM yV yF yZ yI yD) := hD
          refine lv_aload_n hx hb dX5_even_25 rfl (lv_at hl 0 rfl) ?_
          refine lv_aload_n hx hb dX5_even_26 rfl (lv_at hl 0 rfl) ?_
          refine va_get (D := D) (ci := 5) (v := .int xn) (C := RX5) (T := TX5) (N := 23) hx hb hts iX5 hown hK hP 0 rfl rfl 17 (by decide) (hts _ wd_657) (fun _ h9 => h9) rfl dX5_even_27 ?_
          refine lv_aload_n hx hb dX5_even_30 rfl (lv_at hl 0 rfl) ?_
          refine va_get (D := D) (ci := 5) (v := .int xw) (C := RX5) (T := TX5) (N := 23) hx hb hts iX5 hown hK hP 0 rfl rfl 0 (by decide) (hts _ wd_640) (fun _ h9 => h9) rfl dX5_even_31 ?_
          refine lv_iconst (v := (1 : Int32)) hx hb dX5_even_34 (by decide) ?_
          refine lv_isub hx hb dX5_even_35 ?_
          refine lv_iload_n hx hb dX5_even_36 rfl (lv_at hl 2 rfl) ?_
          refine lv_isub hx hb dX5_even_37 ?_
          obtain ⟨u15, hg, hf⟩ := ob_s hf
          refine kc_calli (wn := fun _ => (wM cx aM xw xh xk xj xb xr xc xv xn xl yR yT yC yW yA yE yU yM yV yF yZ yI yD)) (va_runV (As := [.int xn, .int ((xw - (1 : Int32)) - x2)]) (rest := [.int u14]) ⟨hx, hb, hml, hown, hts⟩ (metX5_columnOf l D cx aM xw xh xk xj xb xr xc xv xn xl yR yT yC yW yA yE yU yM yV yF yZ yI yD xn ((xw - (1 : Int32)) - x2) N H.size u15 hg) ⟨callB_of 2 hts (kc_gI wd_615) rfl rfl rfl (hts _ wd_46) (hts _ wd_612) (by decide +kernel) ⟨Nat.le_of_ble_eq_true rfl, Nat.le_of_ble_eq_true rfl⟩, hts _ wd_614, hts _ wd_24⟩ ⟨kc_blind _ _ _ _ _, va_recv hK hP (ci := 5) (q0 := 0) rfl rfl, kc_pre _ hK hN (hP.sub [0, 1, 2, 3, 4, 5, 6, 7, 8, 9, 10, 11, 12, 13] rfl) (hD.sub [0, 1, 2, 3, 4, 5, 6, 7, 8, 9, 10, 11, 12, 13] (by decide) rfl)⟩ rfl rfl hl.1 rfl (lv_room (Nat.le_of_ble_eq_true rfl)) dX5_even_38 ⟨Nat.zero_le _, Nat.zero_le _⟩) hP hD hS hA [0, 1, 2, 3, 4, 5, 6, 7, 8, 9, 10, 11, 12, 13] [] [0, 1, 2, 3, 4, 5, 6, 7, 8, 9, 10, 11, 12, 13] rfl rfl (by decide) (by decide) (fun _ => rfl) (by decide) (fun _ H locs hP hD hS => ?_)
          have hP : va_P D classes (wM cx aM xw xh xk xj xb xr xc xv xn xl yR yT yC yW yA yE yU yM yV yF yZ yI yD) H := hP
          have hD : va_D A (wM cx aM xw xh xk xj xb xr xc xv xn xl yR yT yC yW yA yE yU yM yV yF yZ yI yD) := hD
          refine lv_icmp_ne (tgt := 48) hx hb dX5_even_41 (by decide) (fun c16 => ?_) (fun c16 => ?_)
          · replace hf := it_f c16 hf
            refine lv_iconst (v := (0 : Int32)) hx hb dX5_even_48 (by decide) ?_
            refine lv_istore_n (lv' := [(1, .int (0 : Int32)), (0, .ref (aM 0)), (2, .int x2)]) hx hb dX5_even_49 rfl hl (by decide) rfl (fun ls hl => ?_)
            refine lv_iinc (v := (x2 + (1 : Int32))) (lv' := [(2, .int (x2 + (1 : Int32))), (1, .int (0 : Int32)), (0, .ref (aM 0))]) hx hb dX5_even_50 hl (k := 2) rfl rfl (by decide) rfl (fun ls hl => ?_)
            refine lv_goto (tgt := 4) hx hb dX5_even_53 (by decide) ?_
            exact ih (0 : Int32) (x2 + (1 : Int32)) _ hf H locs ls hP hD hS (lv_sub hl [2, 1, 0] rfl) hE
          · replace hf := it_t c16 hf
            refine lv_iconst (v := (1 : Int32)) hx hb dX5_even_44 (by decide) ?_
            refine lv_goto (tgt := 49) hx hb dX5_even_45 (by decide) ?_
            refine lv_istore_n (lv' := [(1, .int (1 : Int32)), (0, .ref (aM 0)), (2, .int x2)]) hx hb dX5_even_49 rfl hl (by decide) rfl (fun ls hl => ?_)
            refine lv_iinc (v := (x2 + (1 : Int32))) (lv' := [(2, .int (x2 + (1 : Int32))), (1, .int (1 : Int32)), (0, .ref (aM 0))]) hx hb dX5_even_50 hl (k := 2) rfl rfl (by decide) rfl (fun ls hl => ?_)
            refine lv_goto (tgt := 4) hx hb dX5_even_53 (by decide) ?_
            exact ih (1 : Int32) (x2 + (1 : Int32)) _ hf H locs ls hP hD hS (lv_sub hl [2, 1, 0] rfl) hE
  obtain ⟨u17, hg, hf⟩ := ob_s hf
  refine L4 _ (1 : Int32) (0 : Int32) u17 hg H locs ls hP hD hS (lv_sub hl [2, 1, 0] rfl) (fun H locs ls hP hD hS hl => ?_)
  refine lv_iload_n hx hb dX5_even_56 rfl (lv_at hl 0 rfl) ?_
  refine lv_if_eq (tgt := 64) hx hb dX5_even_57 (by decide) (fun c18 => ?_) (fun c18 => ?_)
  · replace hf := it_t c18 hf
    refine lv_iconst (v := (0 : Int32)) hx hb dX5_even_64 (by decide) ?_
    obtain rfl := Option.some.inj hf
    exact kc_iret () hx hb hr hk hP hD hS rfl dX5_even_65
  · replace hf := it_f c18 hf
    refine lv_iconst (v := (1 : Int32)) hx hb dX5_even_60 (by decide) ?_
    refine lv_goto (tgt := 65) hx hb dX5_even_61 (by decide) ?_
    obtain rfl := Option.some.inj hf
    exact kc_iret () hx hb hr hk hP hD hS rfl dX5_even_65
abbrev rmX5_threatsOf : Room := { frames := 1, cells := 0, slots := 0, locals := 22 }
set_option maxHeartbeats 4000000 in
set_option maxRecDepth 100000 in
theorem metX5_threatsOf (l : Launch) (D : va_G) (cx : Nat → ClassId) (aM : Nat → Nat) (xw : Int32) (xh : Int32) (xk : Int32) (xj : Int32) (xb : Int32) (xr : Int32) (xc : Int32) (xv : Int32) (xn : Int32) (xl : Int32) (yR : Nat → Int32) (yT : Nat → Int32) (yC : Nat → Int32) (yW : Nat → Int32) (yA : Nat → Int32) (yE : Nat → Int32) (yU : Nat → Int32) (yM : Nat → Int32) (yV : Nat → Int32) (yF : Nat → Int32) (yZ : Nat → Int32) (yI : Nat → Int32) (yD : Nat → Int32) (x1 : Int32) (N : Nat) (sz : Nat) (v : Int32) (hf : fX5_threatsOf N xw xh xr yR yM x1 = some v) : Met l yX5_threatsOf (.code yX5_threatsOf cX5_threatsOf 6 (some .int) :: kc_TB) rmX5_threatsOf (kc_Pre D cx (wM cx aM xw xh xk xj xb xr xc xv xn xl yR yT yC yW yA yE yU yM yV yF yZ yI yD) [.ref (aM 0), .int x1] sz) (kc_Pi D (fun _ : Unit => (wM cx aM xw xh xk xj xb xr xc xv xn xl yR yT yC yW yA yE yU yM yV yF yZ yI yD)) v (va_A (wM cx aM xw xh xk xj xb xr xc xv xn xl yR yT yC yW yA yE yU yM yV yF yZ yI yD) sz)) 0 0 (va_A (wM cx aM xw xh xk xj xb xr xc xv xn xl yR yT yC yW yA yE yU yM yV yF yZ yI yD) sz) := by
  refine kc_entry (Qc := fun A => (kc_Pi D (fun _ : Unit => (wM cx aM xw xh xk xj xb xr xc xv xn xl yR yT yC yW yA yE yU yM yV yF yZ yI yD)) v A)) (by decide) (Nat.le_of_ble_eq_true rfl) ?_
  intro p e s m below meth c A hx hb hr hk hml hown hin hts hN hK hP hD hS hA ls hl
  have hown : s.vm.findClass RX5 = some m.cls := hown
  have hl : lv_has ls 6 [(0, .ref (aM 0)), (1, .int x1)] := hl
  unfold fX5_threatsOf at hf
  have hP : va_P D classes (wM cx aM xw xh xk xj xb xr xc xv xn xl yR yT yC yW yA yE yU yM yV yF yZ yI yD) s.heap := hP
  obtain ⟨H, hH⟩ : ∃ H, H = s.heap := ⟨_, rfl⟩
  obtain ⟨locs, hL⟩ : ∃ locs : List Loc, locs = [] := ⟨_, rfl⟩
  have hS : va_S A s.heap H locs := by rw [hH, hL]; exact hS
  have hP : va_P D classes (wM cx aM xw xh xk xj xb xr xc xv xn xl yR yT yC yW yA yE yU yM yV yF yZ yI yD) H := by rw [hH]; exact hP
  suffices hW : W p l e rmX5_threatsOf s m ([.ref (aM 0), .int x1] : List Value).toArray below meth c H locs 0 0 (MQ below (kc_Pi D (fun _ : Unit => (wM cx aM xw xh xk xj xb xr xc xv xn xl yR yT yC yW yA yE yU yM yV yF yZ yI yD)) v A) ([.ref (aM 0), .int x1] : List Value).toArray s 0 0 A) (F0 m 0 ls []) by rw [hH, hL] at hW; exact hW
  clear hH hL
  refine lv_iconst (v := (0 : Int32)) hx hb dX5_threatsOf_0 (by decide) ?_
  refine lv_istore_n (lv' := [(2, .int (0 : Int32)), (0, .ref (aM 0)), (1, .int x1)]) hx hb dX5_threatsOf_1 rfl hl (by decide) rfl (fun ls hl => ?_)
  refine lv_iconst (v := (0 : Int32)) hx hb dX5_threatsOf_2 (by decide) ?_
  refine lv_istore_n (lv' := [(3, .int (0 : Int32)), (2, .int (0 : Int32)), (0, .ref (aM 0)), (1, .int x1)]) hx hb dX5_threatsOf_3 rfl hl (by decide) rfl (fun ls hl => ?_)
  have L4 : ∀ (ct : Nat) (x2 : Int32) (x3 : Int32) (v4 : Int32), fX5_threatsOf_L4 N xw xh xr yR yM x1 ct x2 x3 = some v4 → ∀ (H : Heap) (locs : List Loc) (ls : Array Slot), va_P D classes (wM cx aM xw xh xk xj xb xr xc xv xn xl yR yT yC yW yA yE yU yM yV yF yZ yI yD) H → va_D A (wM cx aM xw xh xk xj xb xr xc xv xn xl yR yT yC yW yA yE yU yM yV yF yZ yI yD) → va_S A s.heap H locs → lv_has ls 6 [(0, .ref (aM 0)), (1, .int x1), (2, .int x2), (3, .int x3)] → (∀ (H : Heap) (locs : List Loc) (ls : Array Slot), va_P D classes (wM cx aM xw xh xk xj xb xr xc xv xn xl yR yT yC yW yA yE yU yM yV yF yZ yI yD) H → va_D A (wM cx aM xw xh xk xj xb xr xc xv xn xl yR yT yC yW yA yE yU yM yV yF yZ yI yD) → va_S A s.heap H locs → lv_has ls 6 [(2, .int v4)] → W p l e rmX5_threatsOf s m ([.ref (aM 0), .int x1] : List Value).toArray below meth c H locs 0 0 (MQ below (kc_Pi D (fun _ : Unit => (wM cx aM xw xh xk xj xb xr xc xv xn xl yR yT yC yW yA yE yU yM yV yF yZ yI yD)) v A) ([.ref (aM 0), .int x1] : List Value).toArray s 0 0 A) (F0 m 84 ls [])) → W p l e rmX5_threatsOf s m ([.ref (aM 0), .int x1] : List Value).toArray below meth c H locs 0 0 (MQ below (kc_Pi D (fun _ : Unit => (wM cx aM xw xh xk xj xb xr xc xv xn xl yR yT yC yW yA yE yU yM yV yF yZ yI yD)) v A) ([.ref (aM 0), .int x1] : List Value).toArray s 0 0 A) (F0 m 4 ls []) := by
    intro ct
    induction ct with
    | zero =>
      intro x2 x3 v4 hf
      exact absurd (show (none : Option (Int32)) = some v4 from hf) (fun q => by cases q)
    | succ ct ih =>
      intro x2 x3 v4 hf H locs ls hP hD hS hl hE
      rw [fX5_threatsOf_L4] at hf
      refine lv_iload_n hx hb dX5_threatsOf_4 rfl (lv_at hl 3 rfl) ?_
      refine lv_aload_n hx hb dX5_threatsOf_5 rfl (lv_at hl 0 rfl) ?_
      refine va_get (D := D) (ci := 5) (v := .int xw) (C := RX5) (T := TX5) (N := 23) hx hb hts iX5 hown hK hP 0 rfl rfl 0 (by decide) (hts _ wd_640) (fun _ h9 => h9) rfl dX5_threatsOf_6 ?_
      refine lv_aload_n hx hb dX5_threatsOf_9 rfl (lv_at hl 0 rfl) ?_
      refine va_get (D := D) (ci := 5) (v := .int xh) (C := RX5) (T := TX5) (N := 23) hx hb hts iX5 hown hK hP 0 rfl rfl 1 (by decide) (hts _ wd_641) (fun _ h9 => h9) rfl dX5_threatsOf_10 ?_
      refine lv_imul hx hb dX5_threatsOf_13 ?_
      refine lv_icmp_ge (tgt := 84) hx hb dX5_threatsOf_14 (by decide) (fun c17 => ?_) (fun c17 => ?_)
      · replace hf := it_t c17 hf
        obtain rfl := Option.some.inj hf
        exact hE H locs ls hP hD hS (lv_sub hl [2] rfl)
      · replace hf := it_f c17 hf
        refine lv_iconst (v := (1 : Int32)) hx hb dX5_threatsOf_17 (by decide) ?_
        refine lv_iload_n hx hb dX5_threatsOf_18 rfl (lv_at hl 3 rfl) ?_
        refine lv_ishl hx hb dX5_threatsOf_19 ?_
        refine lv_istore (lv' := [(4, .int ((1 : Int32) <<< (x3 &&& 31))), (0, .ref (aM 0)), (1, .int x1), (2, .int x2), (3, .int x3)]) hx hb dX5_threatsOf_20 hl (by decide) rfl (fun ls hl => ?_)
        refine lv_aload_n hx hb dX5_threatsOf_22 rfl (lv_at hl 1 rfl) ?_
        refine va_get (D := D) (ci := 5) (v := .ref (aM 8)) (C := RX5) (T := TX5) (N := 23) hx hb hts iX5 hown hK hP 0 rfl rfl 13 (by decide) (hts _ wd_653) (fun _ h9 => h9) rfl dX5_threatsOf_23 ?_
        refine lv_iconst (v := (0 : Int32)) hx hb dX5_threatsOf_26 (by decide) ?_
        obtain ⟨hz, hf⟩ := okb_s hf
        refine va_iald (D := D) hx hb hK hP 8 0 rfl rfl (inb_s hz) dX5_threatsOf_27 ?_
        refine lv_aload_n hx hb dX5_threatsOf_28 rfl (lv_at hl 1 rfl) ?_
        refine va_get (D := D) (ci := 5) (v := .ref (aM 8)) (C := RX5) (T := TX5) (N := 23) hx hb hts iX5 hown hK hP 0 rfl rfl 13 (by decide) (hts _ wd_653) (fun _ h9 => h9) rfl dX5_threatsOf_29 ?_
        refine lv_iconst (v := (1 : Int32)) hx hb dX5_threatsOf_32 (by decide) ?_
        obtain ⟨hz, hf⟩ := okb_s hf
        refine va_iald (D := D) hx hb hK hP 8 0 rfl rfl (inb_s hz) dX5_threatsOf_33 ?_
        refine lv_ior hx hb dX5_threatsOf_34 ?_
        refine lv_iload hx hb dX5_threatsOf_35 (lv_at hl 0 rfl) ?_
        refine lv_iand hx hb dX5_threatsOf_37 ?_
        refine lv_if_ne (tgt := 45) hx hb dX5_threatsOf_38 (by decide) (fun c18 => ?_) (fun c18 => ?_)
        · replace hf := it_f c18 hf
          refine lv_iconst (v := (0 : Int32)) hx hb dX5_threatsOf_45 (by decide) ?_
          refine lv_istore (lv' := [(5, .int (0 : Int32)), (4, .int ((1 : Int32) <<< (x3 &&& 31))), (0, .ref (aM 0)), (1, .int x1), (2, .int x2), (3, .int x3)]) hx hb dX5_threatsOf_46 hl (by decide) rfl (fun ls hl => ?_)
          refine lv_iload_n hx hb dX5_threatsOf_48 rfl (lv_at hl 4 rfl) ?_
          refine lv_iload hx hb dX5_threatsOf_49 (lv_at hl 0 rfl) ?_
          refine lv_if_eq (tgt := 75) hx hb dX5_threatsOf_51 (by decide) (fun c19 => ?_) (fun c19 => ?_)
          · replace hf := it_t c19 hf
            refine lv_iconst (v := (0 : Int32)) hx hb dX5_threatsOf_75 (by decide) ?_
            refine lv_ior hx hb dX5_threatsOf_76 ?_
            refine lv_istore_n (lv' := [(2, .int (x2 ||| (0 : Int32))), (5, .int (0 : Int32)), (4, .int ((1 : Int32) <<< (x3 &&& 31))), (0, .ref (aM 0)), (1, .int x1), (3, .int x3)]) hx hb dX5_threatsOf_77 rfl hl (by decide) rfl (fun ls hl => ?_)
            refine lv_iinc (v := (x3 + (1 : Int32))) (lv' := [(3, .int (x3 + (1 : Int32))), (2, .int (x2 ||| (0 : Int32))), (5, .int (0 : Int32)), (4, .int ((1 : Int32) <<< (x3 &&& 31))), (0, .ref (aM 0)), (1, .int x1)]) hx hb dX5_threatsOf_78 hl (k := 5) rfl rfl (by decide) rfl (fun ls hl => ?_)
            refine lv_goto (tgt := 4) hx hb dX5_threatsOf_81 (by decide) ?_
            exact ih (x2 ||| (0 : Int32)) (x3 + (1 : Int32)) _ hf H locs ls hP hD hS (lv_sub hl [4, 5, 1, 0] rfl) hE
          · replace hf := it_f c19 hf
            refine lv_aload_n hx hb dX5_threatsOf_54 rfl (lv_at hl 2 rfl) ?_
            refine lv_aload_n hx hb dX5_threatsOf_55 rfl (lv_at hl 2 rfl) ?_
            refine va_get (D := D) (ci := 5) (v := .ref (aM 8)) (C := RX5) (T := TX5) (N := 23) hx hb hts iX5 hown hK hP 0 rfl rfl 13 (by decide) (hts _ wd_653) (fun _ h9 => h9) rfl dX5_threatsOf_56 ?_
            refine lv_iload_n hx hb dX5_threatsOf_59 rfl (lv_at hl 3 rfl) ?_
            obtain ⟨hz, hf⟩ := okb_s hf
            refine va_iald (D := D) hx hb hK hP 8 0 rfl rfl (inb_s hz) dX5_threatsOf_60 ?_
            refine lv_iload hx hb dX5_threatsOf_61 (lv_at hl 1 rfl) ?_
            refine lv_ior hx hb dX5_threatsOf_63 ?_
            obtain ⟨u20, hg, hf⟩ := ob_s hf
            refine kc_calli (wn := fun _ => (wM cx aM xw xh xk xj xb xr xc xv xn xl yR yT yC yW yA yE yU yM yV yF yZ yI yD)) (va_runV (As := [.int ((yM x1.toNatClampNeg) ||| ((1 : Int32) <<< (x3 &&& 31)))]) (rest := [.int x2]) ⟨hx, hb, hml, hown, hts⟩ (metX5_has l D cx aM xw xh xk xj xb xr xc xv xn xl yR yT yC yW yA yE yU yM yV yF yZ yI yD ((yM x1.toNatClampNeg) ||| ((1 : Int32) <<< (x3 &&& 31))) N H.size u20 hg) ⟨callB_of 1 hts (kc_gI wd_619) rfl rfl rfl (hts _ wd_46) (hts _ wd_616) (by decide +kernel) ⟨Nat.le_of_ble_eq_true rfl, Nat.le_of_ble_eq_true rfl⟩, hts _ wd_618, hts _ wd_25⟩ ⟨kc_blind _ _ _ _ _, va_recv hK hP (ci := 5) (q0 := 0) rfl rfl, kc_pre _ hK hN (hP.sub [0, 1, 2, 3, 4, 5, 6, 7, 8, 9, 10, 11, 12, 13] rfl) (hD.sub [0, 1, 2, 3, 4, 5, 6, 7, 8, 9, 10, 11, 12, 13] (by decide) rfl)⟩ rfl rfl hl.1 rfl (lv_room (Nat.le_of_ble_eq_true rfl)) dX5_threatsOf_64 ⟨Nat.zero_le _, Nat.zero_le _⟩) hP hD hS hA [0, 1, 2, 3, 4, 5, 6, 7, 8, 9, 10, 11, 12, 13] [] [0, 1, 2, 3, 4, 5, 6, 7, 8, 9, 10, 11, 12, 13] rfl rfl (by decide) (by decide) (fun _ => rfl) (by decide) (fun _ H locs hP hD hS => ?_)
            have hP : va_P D classes (wM cx aM xw xh xk xj xb xr xc xv xn xl yR yT yC yW yA yE yU yM yV yF yZ yI yD) H := hP
            have hD : va_D A (wM cx aM xw xh xk xj xb xr xc xv xn xl yR yT yC yW yA yE yU yM yV yF yZ yI yD) := hD
            refine lv_if_eq (tgt := 75) hx hb dX5_threatsOf_67 (by decide) (fun c21 => ?_) (fun c21 => ?_)
            · replace hf := it_t c21 hf
              refine lv_iconst (v := (0 : Int32)) hx hb dX5_threatsOf_75 (by decide) ?_
              refine lv_ior hx hb dX5_threatsOf_76 ?_
              refine lv_istore_n (lv' := [(2, .int (x2 ||| (0 : Int32))), (5, .int (0 : Int32)), (4, .int ((1 : Int32) <<< (x3 &&& 31))), (0, .ref (aM 0)), (1, .int x1), (3, .int x3)]) hx hb dX5_threatsOf_77 rfl hl (by decide) rfl (fun ls hl => ?_)
              refine lv_iinc (v := (x3 + (1 : Int32))) (lv' := [(3, .int (x3 + (1 : Int32))), (2, .int (x2 ||| (0 : Int32))), (5, .int (0 : Int32)), (4, .int ((1 : Int32) <<< (x3 &&& 31))), (0, .ref (aM 0)), (1, .int x1)]) hx hb dX5_threatsOf_78 hl (k := 5) rfl rfl (by decide) rfl (fun ls hl => ?_)
              refine lv_goto (tgt := 4) hx hb dX5_threatsOf_81 (by decide) ?_
              exact ih (x2 ||| (0 : Int32)) (x3 + (1 : Int32)) _ hf H locs ls hP hD hS (lv_sub hl [4, 5, 1, 0] rfl) hE
            · replace hf := it_f c21 hf
              refine lv_iload hx hb dX5_threatsOf_70 (lv_at hl 1 rfl) ?_
              refine lv_goto (tgt := 76) hx hb dX5_threatsOf_72 (by decide) ?_
              refine lv_ior hx hb dX5_threatsOf_76 ?_
              refine lv_istore_n (lv' := [(2, .int (x2 ||| ((1 : Int32) <<< (x3 &&& 31)))), (5, .int (0 : Int32)), (4, .int ((1 : Int32) <<< (x3 &&& 31))), (0, .ref (aM 0)), (1, .int x1), (3, .int x3)]) hx hb dX5_threatsOf_77 rfl hl (by decide) rfl (fun ls hl => ?_)
              refine lv_iinc (v := (x3 + (1 : Int32))) (lv' := [(3, .int (x3 + (1 : Int32))), (2, .int (x2 ||| ((1 : Int32) <<< (x3 &&& 31)))), (5, .int (0 : Int32)), (4, .int ((1 : Int32) <<< (x3 &&& 31))), (0, .ref (aM 0)), (1, .int x1)]) hx hb dX5_threatsOf_78 hl (k := 5) rfl rfl (by decide) rfl (fun ls hl => ?_)
              refine lv_goto (tgt := 4) hx hb dX5_threatsOf_81 (by decide) ?_
              exact ih (x2 ||| ((1 : Int32) <<< (x3 &&& 31))) (x3 + (1 : Int32)) _ hf H locs ls hP hD hS (lv_sub hl [4, 5, 1, 0] rfl) hE
        · replace hf := it_t c18 hf
          refine lv_iconst (v := (1 : Int32)) hx hb dX5_threatsOf_41 (by decide) ?_
          refine lv_goto (tgt := 46) hx hb dX5_threatsOf_42 (by decide) ?_
          refine lv_istore (lv' := [(5, .int (1 : Int32)), (4, .int ((1 : Int32) <<< (x3 &&& 31))), (0, .ref (aM 0)), (1, .int x1), (2, .int x2), (3, .int x3)]) hx hb dX5_threatsOf_46 hl (by decide) rfl (fun ls hl => ?_)
          refine lv_iload_n hx hb dX5_threatsOf_48 rfl (lv_at hl 4 rfl) ?_
          refine lv_iload hx hb dX5_threatsOf_49 (lv_at hl 0 rfl) ?_
          refine lv_if_eq (tgt := 75) hx hb dX5_threatsOf_51 (by decide) (fun c22 => ?_) (fun c22 => ?_)
          · replace hf := it_t c22 hf
            refine lv_iconst (v := (0 : Int32)) hx hb dX5_threatsOf_75 (by decide) ?_
            refine lv_ior hx hb dX5_threatsOf_76 ?_
            refine lv_istore_n (lv' := [(2, .int (x2 ||| (0 : Int32))), (5, .int (1 : Int32)), (4, .int ((1 : Int32) <<< (x3 &&& 31))), (0, .ref (aM 0)), (1, .int x1), (3, .int x3)]) hx hb dX5_threatsOf_77 rfl hl (by decide) rfl (fun ls hl => ?_)
            refine lv_iinc (v := (x3 + (1 : Int32))) (lv' := [(3, .int (x3 + (1 : Int32))), (2, .int (x2 ||| (0 : Int32))), (5, .int (1 : Int32)), (4, .int ((1 : Int32) <<< (x3 &&& 31))), (0, .ref (aM 0)), (1, .int x1)]) hx hb dX5_threatsOf_78 hl (k := 5) rfl rfl (by decide) rfl (fun ls hl => ?_)
            refine lv_goto (tgt := 4) hx hb dX5_threatsOf_81 (by decide) ?_
            exact ih (x2 ||| (0 : Int32)) (x3 + (1 : Int32)) _ hf H locs ls hP hD hS (lv_sub hl [4, 5, 1, 0] rfl) hE
          · replace hf := it_f c22 hf
            refine lv_aload_n hx hb dX5_threatsOf_54 rfl (lv_at hl 2 rfl) ?_
            refine lv_aload_n hx hb dX5_threatsOf_55 rfl (lv_at hl 2 rfl) ?_
            refine va_get (D := D) (ci := 5) (v := .ref (aM 8)) (C := RX5) (T := TX5) (N := 23) hx hb hts iX5 hown hK hP 0 rfl rfl 13 (by decide) (hts _ wd_653) (fun _ h9 => h9) rfl dX5_threatsOf_56 ?_
            refine lv_iload_n hx hb dX5_threatsOf_59 rfl (lv_at hl 3 rfl) ?_
            obtain ⟨hz, hf⟩ := okb_s hf
            refine va_iald (D := D) hx hb hK hP 8 0 rfl rfl (inb_s hz) dX5_threatsOf_60 ?_
            refine lv_iload hx hb dX5_threatsOf_61 (lv_at hl 1 rfl) ?_
            refine lv_ior hx hb dX5_threatsOf_63 ?_
            obtain ⟨u23, hg, hf⟩ := ob_s hf
            refine kc_calli (wn := fun _ => (wM cx aM xw xh xk xj xb xr xc xv xn xl yR yT yC yW yA yE yU yM yV yF yZ yI yD)) (va_runV (As := [.int ((yM x1.toNatClampNeg) ||| ((1 : Int32) <<< (x3 &&& 31)))]) (rest := [.int x2]) ⟨hx, hb, hml, hown, hts⟩ (metX5_has l D cx aM xw xh xk xj xb xr xc xv xn xl yR yT yC yW yA yE yU yM yV yF yZ yI yD ((yM x1.toNatClampNeg) ||| ((1 : Int32) <<< (x3 &&& 31))) N H.size u23 hg) ⟨callB_of 1 hts (kc_gI wd_619) rfl rfl rfl (hts _ wd_46) (hts _ wd_616) (by decide +kernel) ⟨Nat.le_of_ble_eq_true rfl, Nat.le_of_ble_eq_true rfl⟩, hts _ wd_618, hts _ wd_25⟩ ⟨kc_blind _ _ _ _ _, va_recv hK hP (ci := 5) (q0 := 0) rfl rfl, kc_pre _ hK hN (hP.sub [0, 1, 2, 3, 4, 5, 6, 7, 8, 9, 10, 11, 12, 13] rfl) (hD.sub [0, 1, 2, 3, 4, 5, 6, 7, 8, 9, 10, 11, 12, 13] (by decide) rfl)⟩ rfl rfl hl.1 rfl (lv_room (Nat.le_of_ble_eq_true rfl)) dX5_threatsOf_64 ⟨Nat.zero_le _, Nat.zero_le _⟩) hP hD hS hA [0, 1, 2, 3, 4, 5, 6, 7, 8, 9, 10, 11, 12, 13] [] [0, 1, 2, 3, 4, 5, 6, 7, 8, 9, 10, 11, 12, 13] rfl rfl (by decide) (by decide) (fun _ => rfl) (by decide) (fun _ H locs hP hD hS => ?_)
            have hP : va_P D classes (wM cx aM xw xh xk xj xb xr xc xv xn xl yR yT yC yW yA yE yU yM yV yF yZ yI yD) H := hP
            have hD : va_D A (wM cx aM xw xh xk xj xb xr xc xv xn xl yR yT yC yW yA yE yU yM yV yF yZ yI yD) := hD
            refine lv_if_eq (tgt := 75) hx hb dX5_threatsOf_67 (by decide) (fun c24 => ?_) (fun c24 => ?_)
            · replace hf := it_t c24 hf
              refine lv_iconst (v := (0 : Int32)) hx hb dX5_threatsOf_75 (by decide) ?_
              refine lv_ior hx hb dX5_threatsOf_76 ?_
              refine lv_istore_n (lv' := [(2, .int (x2 ||| (0 : Int32))), (5, .int (1 : Int32)), (4, .int ((1 : Int32) <<< (x3 &&& 31))), (0, .ref (aM 0)), (1, .int x1), (3, .int x3)]) hx hb dX5_threatsOf_77 rfl hl (by decide) rfl (fun ls hl => ?_)
              refine lv_iinc (v := (x3 + (1 : Int32))) (lv' := [(3, .int (x3 + (1 : Int32))), (2, .int (x2 ||| (0 : Int32))), (5, .int (1 : Int32)), (4, .int ((1 : Int32) <<< (x3 &&& 31))), (0, .ref (aM 0)), (1, .int x1)]) hx hb dX5_threatsOf_78 hl (k := 5) rfl rfl (by decide) rfl (fun ls hl => ?_)
              refine lv_goto (tgt := 4) hx hb dX5_threatsOf_81 (by decide) ?_
              exact ih (x2 ||| (0 : Int32)) (x3 + (1 : Int32)) _ hf H locs ls hP hD hS (lv_sub hl [4, 5, 1, 0] rfl) hE
            · replace hf := it_f c24 hf
              refine lv_iload hx hb dX5_threatsOf_70 (lv_at hl 1 rfl) ?_
              refine lv_goto (tgt := 76) hx hb dX5_threatsOf_72 (by decide) ?_
              refine lv_ior hx hb dX5_threatsOf_76 ?_
              refine lv_istore_n (lv' := [(2, .int (x2 ||| ((1 : Int32) <<< (x3 &&& 31)))), (5, .int (1 : Int32)), (4, .int ((1 : Int32) <<< (x3 &&& 31))), (0, .ref (aM 0)), (1, .int x1), (3, .int x3)]) hx hb dX5_threatsOf_77 rfl hl (by decide) rfl (fun ls hl => ?_)
              refine lv_iinc (v := (x3 + (1 : Int32))) (lv' := [(3, .int (x3 + (1 : Int32))), (2, .int (x2 ||| ((1 : Int32) <<< (x3 &&& 31)))), (5, .int (1 : Int32)), (4, .int ((1 : Int32) <<< (x3 &&& 31))), (0, .ref (aM 0)), (1, .int x1)]) hx hb dX5_threatsOf_78 hl (k := 5) rfl rfl (by decide) rfl (fun ls hl => ?_)
              refine lv_goto (tgt := 4) hx hb dX5_threatsOf_81 (by decide) ?_
              exact ih (x2 ||| ((1 : Int32) <<< (x3 &&& 31))) (x3 + (1 : Int32)) _ hf H locs ls hP hD hS (lv_sub hl [4, 5, 1, 0] rfl) hE
  obtain ⟨u25, hg, hf⟩ := ob_s hf
  refine L4 _ (0 : Int32) (0 : Int32) u25 hg H locs ls hP hD hS (lv_sub hl [2, 3, 1, 0] rfl) (fun H locs ls hP hD hS hl => ?_)
  refine lv_iload_n hx hb dX5_threatsOf_84 rfl (lv_at hl 0 rfl) ?_
  obtain rfl := Option.some.inj hf
  exact kc_iret () hx hb hr hk hP hD hS rfl dX5_threatsOf_85
abbrev rmX5_threats : Room := { frames := 3, cells := 0, slots := 0, locals := 71 }
set_option maxHeartbeats 4000000 in
set_option maxRecDepth 100000 in
theorem metX5_threats (l : Launch) (D : va_G) (cx : Nat → ClassId) (aM : Nat → Nat) (xw : Int32) (xh : Int32) (xk : Int32) (xj : Int32) (xb : Int32) (xr : Int32) (xc : Int32) (xv : Int32) (xn : Int32) (xl : Int32) (yR : Nat → Int32) (yT : Nat → Int32) (yC : Nat → Int32) (yW : Nat → Int32) (yA : Nat → Int32) (yE : Nat → Int32) (yU : Nat → Int32) (yM : Nat → Int32) (yV : Nat → Int32) (yF : Nat → Int32) (yZ : Nat → Int32) (yI : Nat → Int32) (yD : Nat → Int32) (x1 : Int32) (N : Nat) (sz : Nat) (v : Int32 × Int32 × (Nat → Int32)) (hf : fX5_threats N xw xh xr xc xn yR yM x1 = some v) : Met l yX5_threats (.code yX5_threats cX5_threats 4 (some .int) :: kc_TB) rmX5_threats (kc_Pre D cx (wM cx aM xw xh xk xj xb xr xc xv xn xl yR yT yC yW yA yE yU yM yV yF yZ yI yD) [.ref (aM 0), .int x1] sz) (kc_Pi D (fun _ : Unit => (wM cx aM xw xh xk xj xb xr v.2.1 xv xn xl yR yT yC yW yA yE yU v.2.2 yV yF yZ yI yD)) v.1 (va_A (wM cx aM xw xh xk xj xb xr xc xv xn xl yR yT yC yW yA yE yU yM yV yF yZ yI yD) sz)) 0 0 (va_A (wM cx aM xw xh xk xj xb xr xc xv xn xl yR yT yC yW yA yE yU yM yV yF yZ yI yD) sz) := by
  refine kc_entry (Qc := fun A => (kc_Pi D (fun _ : Unit => (wM cx aM xw xh xk xj xb xr v.2.1 xv xn xl yR yT yC yW yA yE yU v.2.2 yV yF yZ yI yD)) v.1 A)) (by decide) (Nat.le_of_ble_eq_true rfl) ?_
  intro p e s m below meth c A hx hb hr hk hml hown hin hts hN hK hP hD hS hA ls hl
  have hown : s.vm.findClass RX5 = some m.cls := hown
  have hl : lv_has ls 4 [(0, .ref (aM 0)), (1, .int x1)] := hl
  unfold fX5_threats at hf
  have hP : va_P D classes (wM cx aM xw xh xk xj xb xr xc xv xn xl yR yT yC yW yA yE yU yM yV yF yZ yI yD) s.heap := hP
  obtain ⟨H, hH⟩ : ∃ H, H = s.heap := ⟨_, rfl⟩
  obtain ⟨locs, hL⟩ : ∃ locs : List Loc, locs = [] := ⟨_, rfl⟩
  have hS : va_S A s.heap H locs := by rw [hH, hL]; exact hS
  have hP : va_P D classes (wM cx aM xw xh xk xj xb xr xc xv xn xl yR yT yC yW yA yE yU yM yV yF yZ yI yD) H := by rw [hH]; exact hP
  suffices hW : W p l e rmX5_threats s m ([.ref (aM 0), .int x1] : List Value).toArray below meth c H locs 0 0 (MQ below (kc_Pi D (fun _ : Unit => (wM cx aM xw xh xk xj xb xr v.2.1 xv xn xl yR yT yC yW yA yE yU v.2.2 yV yF yZ yI yD)) v.1 A) ([.ref (aM 0), .int x1] : List Value).toArray s 0 0 A) (F0 m 0 ls []) by rw [hH, hL] at hW; exact hW
  clear hH hL
  refine lv_iload_n hx hb dX5_threats_0 rfl (lv_at hl 1 rfl) ?_
  refine lv_i2l hx hb dX5_threats_1 rfl ?_
  refine lv_lconst (v := (0 : Int64)) hx hb dX5_threats_2 (by decide) ?_
  refine lv_lconst (v := (1 : Int64)) hx hb dX5_threats_3 (by decide) ?_
  obtain ⟨u6, hg, hf⟩ := ob_s hf
  refine kc_calli (wn := fun _ => (wM cx aM xw xh xk xj xb xr xc xv xn xl yR yT yC yW yA yE yU yM yV yF yZ yI yD)) (va_runS (As := [.long x1.toInt64, .long (0 : Int64), .long (1 : Int64)]) (rest := []) ⟨hx, hb, hml, hown, hts⟩ (metX5_in l D cx   x1.toInt64 (0 : Int64) (1 : Int64) N H.size u6 hg) ⟨callB_of 3 hts (kc_gI wd_587) rfl rfl rfl (hts _ wd_46) (hts _ wd_585) (by decide +kernel) ⟨Nat.le_of_ble_eq_true rfl, Nat.le_of_ble_eq_true rfl⟩, hts _ wd_586⟩ ⟨kc_blind _ _ _ _ _, kc_pre _ hK hN (hP.sub [] rfl) (hD.sub [] (by decide) rfl)⟩ rfl rfl hl.1 rfl (lv_room (Nat.le_of_ble_eq_true rfl)) dX5_threats_4 ⟨Nat.zero_le _, Nat.zero_le _⟩) hP hD hS hA [] [0, 1, 2, 3, 4, 5, 6, 7, 8, 9, 10, 11, 12, 13] [0, 1, 2, 3, 4, 5, 6, 7, 8, 9, 10, 11, 12, 13] rfl rfl (by decide) (by decide) (fun _ => rfl) (by decide) (fun _ H locs hP hD hS => ?_)
  have hP : va_P D classes (wM cx aM xw xh xk xj xb xr xc xv xn xl yR yT yC yW yA yE yU yM yV yF yZ yI yD) H := hP
  have hD : va_D A (wM cx aM xw xh xk xj xb xr xc xv xn xl yR yT yC yW yA yE yU yM yV yF yZ yI yD) := hD
  refine lv_if_ne (tgt := 14) hx hb dX5_threats_7 (by decide) (fun c7 => ?_) (fun c7 => ?_)
  · replace hf := it_f c7 hf
    refine lv_aload_n hx hb dX5_threats_14 rfl (lv_at hl 0 rfl) ?_
    refine lv_aload_n hx hb dX5_threats_15 rfl (lv_at hl 0 rfl) ?_
    refine va_get (D := D) (ci := 5) (v := .int xn) (C := RX5) (T := TX5) (N := 23) hx hb hts iX5 hown hK hP 0 rfl rfl 17 (by decide) (hts _ wd_657) (fun _ h9 => h9) rfl dX5_threats_16 ?_
    obtain ⟨u8, hg, hf⟩ := ob_s hf
    refine kc_callv (wn := fun _ => (wM cx aM xw xh xk xj xb xr u8.1 xv xn xl yR yT yC yW yA yE yU u8.2 yV yF yZ yI yD)) (va_runV (As := [.int xn]) (rest := []) ⟨hx, hb, hml, hown, hts⟩ (metX5_decode l D cx aM xw xh xk xj xb xr xc xv xn xl yR yT yC yW yA yE yU yM yV yF yZ yI yD xn N H.size u8 hg) ⟨callB_of 1 hts (kc_gI wd_607) rfl rfl rfl (hts _ wd_46) (hts _ wd_604) (by decide +kernel) ⟨Nat.le_of_ble_eq_true rfl, Nat.le_of_ble_eq_true rfl⟩, hts _ wd_606, hts _ wd_22⟩ ⟨kc_blind _ _ _ _ _, va_recv hK hP (ci := 5) (q0 := 0) rfl rfl, kc_pre _ hK hN (hP.sub [0, 1, 2, 3, 4, 5, 6, 7, 8, 9, 10, 11, 12, 13] rfl) (hD.sub [0, 1, 2, 3, 4, 5, 6, 7, 8, 9, 10, 11, 12, 13] (by decide) rfl)⟩ rfl rfl hl.1 rfl (lv_room (Nat.le_of_ble_eq_true rfl)) dX5_threats_19 ⟨Nat.zero_le _, Nat.zero_le _⟩) hP hD hS hA [0, 1, 2, 3, 4, 5, 6, 7, 8, 9, 10, 11, 12, 13] [] [0, 1, 2, 3, 4, 5, 6, 7, 8, 9, 10, 11, 12, 13] rfl rfl (by decide) (by decide) (fun _ => rfl) (by decide) (fun _ H locs hP hD hS => ?_)
    have hP : va_P D classes (wM cx aM xw xh xk xj xb xr u8.1 xv xn xl yR yT yC yW yA yE yU u8.2 yV yF yZ yI yD) H := hP
    have hD : va_D A (wM cx aM xw xh xk xj xb xr u8.1 xv xn xl yR yT yC yW yA yE yU u8.2 yV yF yZ yI yD) := hD
    refine lv_aload_n hx hb dX5_threats_22 rfl (lv_at hl 0 rfl) ?_
    refine lv_iload_n hx hb dX5_threats_23 rfl (lv_at hl 1 rfl) ?_
    obtain ⟨u9, hg, hf⟩ := ob_s hf
    refine kc_calli (wn := fun _ => (wM cx aM xw xh xk xj xb xr u8.1 xv xn xl yR yT yC yW yA yE yU u8.2 yV yF yZ yI yD)) (va_runV (As := [.int x1]) (rest := []) ⟨hx, hb, hml, hown, hts⟩ (metX5_threatsOf l D cx aM xw xh xk xj xb xr u8.1 xv xn xl yR yT yC yW yA yE yU u8.2 yV yF yZ yI yD x1 N H.size u9 hg) ⟨callB_of 1 hts (kc_gI wd_809) rfl rfl rfl (hts _ wd_46) (hts _ wd_806) (by decide +kernel) ⟨Nat.le_of_ble_eq_true rfl, Nat.le_of_ble_eq_true rfl⟩, hts _ wd_808, hts _ wd_35⟩ ⟨kc_blind _ _ _ _ _, va_recv hK hP (ci := 5) (q0 := 0) rfl rfl, kc_pre _ hK hN (hP.sub [0, 1, 2, 3, 4, 5, 6, 7, 8, 9, 10, 11, 12, 13] rfl) (hD.sub [0, 1, 2, 3, 4, 5, 6, 7, 8, 9, 10, 11, 12, 13] (by decide) rfl)⟩ rfl rfl hl.1 rfl (lv_room (Nat.le_of_ble_eq_true rfl)) dX5_threats_24 ⟨Nat.zero_le _, Nat.zero_le _⟩) hP hD hS hA [0, 1, 2, 3, 4, 5, 6, 7, 8, 9, 10, 11, 12, 13] [] [0, 1, 2, 3, 4, 5, 6, 7, 8, 9, 10, 11, 12, 13] rfl rfl (by decide) (by decide) (fun _ => rfl) (by decide) (fun _ H locs hP hD hS => ?_)
    have hP : va_P D classes (wM cx aM xw xh xk xj xb xr u8.1 xv xn xl yR yT yC yW yA yE yU u8.2 yV yF yZ yI yD) H := hP
    have hD : va_D A (wM cx aM xw xh xk xj xb xr u8.1 xv xn xl yR yT yC yW yA yE yU u8.2 yV yF yZ yI yD) := hD
    refine lv_istore_n (lv' := [(2, .int u9), (0, .ref (aM 0)), (1, .int x1)]) hx hb dX5_threats_27 rfl hl (by decide) rfl (fun ls hl => ?_)
    refine lv_iconst (v := (0 : Int32)) hx hb dX5_threats_28 (by decide) ?_
    refine lv_istore_n (lv' := [(3, .int (0 : Int32)), (2, .int u9), (0, .ref (aM 0)), (1, .int x1)]) hx hb dX5_threats_29 rfl hl (by decide) rfl (fun ls hl => ?_)
    have L30 : ∀ (ct : Nat) (x2 : Int32) (x3 : Int32) (v30 : Int32), fX5_threats_L30 N  ct x2 x3 = some v30 → ∀ (H : Heap) (locs : List Loc) (ls : Array Slot), va_P D classes (wM cx aM xw xh xk xj xb xr u8.1 xv xn xl yR yT yC yW yA yE yU u8.2 yV yF yZ yI yD) H → va_D A (wM cx aM xw xh xk xj xb xr u8.1 xv xn xl yR yT yC yW yA yE yU u8.2 yV yF yZ yI yD) → va_S A s.heap H locs → lv_has ls 4 [(2, .int x2), (3, .int x3)] → (∀ (H : Heap) (locs : List Loc) (ls : Array Slot), va_P D classes (wM cx aM xw xh xk xj xb xr u8.1 xv xn xl yR yT yC yW yA yE yU u8.2 yV yF yZ yI yD) H → va_D A (wM cx aM xw xh xk xj xb xr u8.1 xv xn xl yR yT yC yW yA yE yU u8.2 yV yF yZ yI yD) → va_S A s.heap H locs → lv_has ls 4 [(3, .int v30)] → W p l e rmX5_threats s m ([.ref (aM 0), .int x1] : List Value).toArray below meth c H locs 0 0 (MQ below (kc_Pi D (fun _ : Unit => (wM cx aM xw xh xk xj xb xr v.2.1 xv xn xl yR yT yC yW yA yE yU v.2.2 yV yF yZ yI yD)) v.1 A) ([.ref (aM 0), .int x1] : List Value).toArray s 0 0 A) (F0 m 47 ls [])) → W p l e rmX5_threats s m ([.ref (aM 0), .int x1] : List Value).toArray below meth c H locs 0 0 (MQ below (kc_Pi D (fun _ : Unit => (wM cx aM xw xh xk xj xb xr v.2.1 xv xn xl yR yT yC yW yA yE yU v.2.2 yV yF yZ yI yD)) v.1 A) ([.ref (aM 0), .int x1] : List Value).toArray s 0 0 A) (F0 m 30 ls []) := by
      intro ct
      induction ct with
      | zero =>
        intro x2 x3 v30 hf
        exact absurd (show (none : Option (Int32)) = some v30 from hf) (fun q => by cases q)
      | succ ct ih =>
        intro x2 x3 v30 hf H locs ls hP hD hS hl hE
        rw [fX5_threats_L30] at hf
        refine lv_iload_n hx hb dX5_threats_30 rfl (lv_at hl 0 rfl) ?_
        refine lv_if_eq (tgt := 47) hx hb dX5_threats_31 (by decide) (fun c11 => ?_) (fun c11 => ?_)
        · replace hf := it_t c11 hf
          obtain rfl := Option.some.inj hf
          exact hE H locs ls hP hD hS (lv_sub hl [1] rfl)
        · replace hf := it_f c11 hf
          refine lv_iload_n hx hb dX5_threats_34 rfl (lv_at hl 1 rfl) ?_
          refine lv_iload_n hx hb dX5_threats_35 rfl (lv_at hl 0 rfl) ?_
          refine lv_iconst (v := (1 : Int32)) hx hb dX5_threats_36 (by decide) ?_
          refine lv_iand hx hb dX5_threats_37 ?_
          refine lv_iadd hx hb dX5_threats_38 ?_
          refine lv_istore_n (lv' := [(3, .int (x3 + (x2 &&& (1 : Int32)))), (2, .int x2)]) hx hb dX5_threats_39 rfl hl (by decide) rfl (fun ls hl => ?_)
          refine lv_iload_n hx hb dX5_threats_40 rfl (lv_at hl 1 rfl) ?_
          refine lv_iconst (v := (1 : Int32)) hx hb dX5_threats_41 (by decide) ?_
          refine lv_ishr hx hb dX5_threats_42 ?_
          refine lv_istore_n (lv' := [(2, .int (x2 >>> ((1 : Int32) &&& 31))), (3, .int (x3 + (x2 &&& (1 : Int32))))]) hx hb dX5_threats_43 rfl hl (by decide) rfl (fun ls hl => ?_)
          refine lv_goto (tgt := 30) hx hb dX5_threats_44 (by decide) ?_
          exact ih (x2 >>> ((1 : Int32) &&& 31)) (x3 + (x2 &&& (1 : Int32))) _ hf H locs ls hP hD hS (lv_sub hl [0, 1] rfl) hE
    obtain ⟨u12, hg, hf⟩ := ob_s hf
    refine L30 _ u9 (0 : Int32) u12 hg H locs ls hP hD hS (lv_sub hl [1, 0] rfl) (fun H locs ls hP hD hS hl => ?_)
    refine lv_iload_n hx hb dX5_threats_47 rfl (lv_at hl 0 rfl) ?_
    obtain rfl := Option.some.inj hf
    exact kc_iret () hx hb hr hk hP hD hS rfl dX5_threats_48
  · replace hf := it_t c7 hf
    refine lv_sipush (v := (-200 : Int32)) hx hb dX5_threats_10 (by decide) ?_
    obtain rfl := Option.some.inj hf
    exact kc_iret () hx hb hr hk hP hD hS rfl dX5_threats_13
abbrev rmX5_threat : Room := { frames := 3, cells := 0, slots := 0, locals := 71 }
set_option maxHeartbeats 4000000 in
set_option maxRecDepth 100000 in
theorem metX5_threat (l : Launch) (D : va_G) (cx : Nat → ClassId) (aM : Nat → Nat) (xw : Int32) (xh : Int32) (xk : Int32) (xj : Int32) (xb : Int32) (xr : Int32) (xc : Int32) (xv : Int32) (xn : Int32) (xl : Int32) (yR : Nat → Int32) (yT : Nat → Int32) (yC : Nat → Int32) (yW : Nat → Int32) (yA : Nat → Int32) (yE : Nat → Int32) (yU : Nat → Int32) (yM : Nat → Int32) (yV : Nat → Int32) (yF : Nat → Int32) (yZ : Nat → Int32) (yI : Nat → Int32) (yD : Nat → Int32) (x1 : Int32) (x2 : Int32) (N : Nat) (sz : Nat) (v : Int32 × Int32 × (Nat → Int32)) (hf : fX5_threat N xw xh xr xc xn yR yM x1 x2 = some v) : Met l yX5_threat (.code yX5_threat cX5_threat 4 (some .int) :: kc_TB) rmX5_threat (kc_Pre D cx (wM cx aM xw xh xk xj xb xr xc xv xn xl yR yT yC yW yA yE yU yM yV yF yZ yI yD) [.ref (aM 0), .int x1, .int x2] sz) (kc_Pi D (fun _ : Unit => (wM cx aM xw xh xk xj xb xr v.2.1 xv xn xl yR yT yC yW yA yE yU v.2.2 yV yF yZ yI yD)) v.1 (va_A (wM cx aM xw xh xk xj xb xr xc xv xn xl yR yT yC yW yA yE yU yM yV yF yZ yI yD) sz)) 0 0 (va_A (wM cx aM xw xh xk xj xb xr xc xv xn xl yR yT yC yW yA yE yU yM yV yF yZ yI yD) sz) := by
  refine kc_entry (Qc := fun A => (kc_Pi D (fun _ : Unit => (wM cx aM xw xh xk xj xb xr v.2.1 xv xn xl yR yT yC yW yA yE yU v.2.2 yV yF yZ yI yD)) v.1 A)) (by decide) (Nat.le_of_ble_eq_true rfl) ?_
  intro p e s m below meth c A hx hb hr hk hml hown hin hts hN hK hP hD hS hA ls hl
  have hown : s.vm.findClass RX5 = some m.cls := hown
  have hl : lv_has ls 4 [(0, .ref (aM 0)), (1, .int x1), (2, .int x2)] := hl
  unfold fX5_threat at hf
  have hP : va_P D classes (wM cx aM xw xh xk xj xb xr xc xv xn xl yR yT yC yW yA yE yU yM yV yF yZ yI yD) s.heap := hP
  obtain ⟨H, hH⟩ : ∃ H, H = s.heap := ⟨_, rfl⟩
  obtain ⟨locs, hL⟩ : ∃ locs : List Loc, locs = [] := ⟨_, rfl⟩
  have hS : va_S A s.heap H locs := by rw [hH, hL]; exact hS
  have hP : va_P D classes (wM cx aM xw xh xk xj xb xr xc xv xn xl yR yT yC yW yA yE yU yM yV yF yZ yI yD) H := by rw [hH]; exact hP
  suffices hW : W p l e rmX5_threat s m ([.ref (aM 0), .int x1, .int x2] : List Value).toArray below meth c H locs 0 0 (MQ below (kc_Pi D (fun _ : Unit => (wM cx aM xw xh xk xj xb xr v.2.1 xv xn xl yR yT yC yW yA yE yU v.2.2 yV yF yZ yI yD)) v.1 A) ([.ref (aM 0), .int x1, .int x2] : List Value).toArray s 0 0 A) (F0 m 0 ls []) by rw [hH, hL] at hW; exact hW
  clear hH hL
  refine lv_iload_n hx hb dX5_threat_0 rfl (lv_at hl 1 rfl) ?_
  refine lv_i2l hx hb dX5_threat_1 rfl ?_
  refine lv_lconst (v := (0 : Int64)) hx hb dX5_threat_2 (by decide) ?_
  refine lv_lconst (v := (1 : Int64)) hx hb dX5_threat_3 (by decide) ?_
  obtain ⟨u7, hg, hf⟩ := ob_s hf
  refine kc_calli (wn := fun _ => (wM cx aM xw xh xk xj xb xr xc xv xn xl yR yT yC yW yA yE yU yM yV yF yZ yI yD)) (va_runS (As := [.long x1.toInt64, .long (0 : Int64), .long (1 : Int64)]) (rest := []) ⟨hx, hb, hml, hown, hts⟩ (metX5_in l D cx   x1.toInt64 (0 : Int64) (1 : Int64) N H.size u7 hg) ⟨callB_of 3 hts (kc_gI wd_587) rfl rfl rfl (hts _ wd_46) (hts _ wd_585) (by decide +kernel) ⟨Nat.le_of_ble_eq_true rfl, Nat.le_of_ble_eq_true rfl⟩, hts _ wd_586⟩ ⟨kc_blind _ _ _ _ _, kc_pre _ hK hN (hP.sub [] rfl) (hD.sub [] (by decide) rfl)⟩ rfl rfl hl.1 rfl (lv_room (Nat.le_of_ble_eq_true rfl)) dX5_threat_4 ⟨Nat.zero_le _, Nat.zero_le _⟩) hP hD hS hA [] [0, 1, 2, 3, 4, 5, 6, 7, 8, 9, 10, 11, 12, 13] [0, 1, 2, 3, 4, 5, 6, 7, 8, 9, 10, 11, 12, 13] rfl rfl (by decide) (by decide) (fun _ => rfl) (by decide) (fun _ H locs hP hD hS => ?_)
  have hP : va_P D classes (wM cx aM xw xh xk xj xb xr xc xv xn xl yR yT yC yW yA yE yU yM yV yF yZ yI yD) H := hP
  have hD : va_D A (wM cx aM xw xh xk xj xb xr xc xv xn xl yR yT yC yW yA yE yU yM yV yF yZ yI yD) := hD
  refine lv_if_ne (tgt := 14) hx hb dX5_threat_7 (by decide) (fun c8 => ?_) (fun c8 => ?_)
  · replace hf := it_f c8 hf
    refine lv_aload_n hx hb dX5_threat_14 rfl (lv_at hl 0 rfl) ?_
    refine lv_aload_n hx hb dX5_threat_15 rfl (lv_at hl 0 rfl) ?_
    refine va_get (D := D) (ci := 5) (v := .int xn) (C := RX5) (T := TX5) (N := 23) hx hb hts iX5 hown hK hP 0 rfl rfl 17 (by decide) (hts _ wd_657) (fun _ h9 => h9) rfl dX5_threat_16 ?_
    obtain ⟨u9, hg, hf⟩ := ob_s hf
    refine kc_callv (wn := fun _ => (wM cx aM xw xh xk xj xb xr u9.1 xv xn xl yR yT yC yW yA yE yU u9.2 yV yF yZ yI yD)) (va_runV (As := [.int xn]) (rest := []) ⟨hx, hb, hml, hown, hts⟩ (metX5_decode l D cx aM xw xh xk xj xb xr xc xv xn xl yR yT yC yW yA yE yU yM yV yF yZ yI yD xn N H.size u9 hg) ⟨callB_of 1 hts (kc_gI wd_607) rfl rfl rfl (hts _ wd_46) (hts _ wd_604) (by decide +kernel) ⟨Nat.le_of_ble_eq_true rfl, Nat.le_of_ble_eq_true rfl⟩, hts _ wd_606, hts _ wd_22⟩ ⟨kc_blind _ _ _ _ _, va_recv hK hP (ci := 5) (q0 := 0) rfl rfl, kc_pre _ hK hN (hP.sub [0, 1, 2, 3, 4, 5, 6, 7, 8, 9, 10, 11, 12, 13] rfl) (hD.sub [0, 1, 2, 3, 4, 5, 6, 7, 8, 9, 10, 11, 12, 13] (by decide) rfl)⟩ rfl rfl hl.1 rfl (lv_room (Nat.le_of_ble_eq_true rfl)) dX5_threat_19 ⟨Nat.zero_le _, Nat.zero_le _⟩) hP hD hS hA [0, 1, 2, 3, 4, 5, 6, 7, 8, 9, 10, 11, 12, 13] [] [0, 1, 2, 3, 4, 5, 6, 7, 8, 9, 10, 11, 12, 13] rfl rfl (by decide) (by decide) (fun _ => rfl) (by decide) (fun _ H locs hP hD hS => ?_)
    have hP : va_P D classes (wM cx aM xw xh xk xj xb xr u9.1 xv xn xl yR yT yC yW yA yE yU u9.2 yV yF yZ yI yD) H := hP
    have hD : va_D A (wM cx aM xw xh xk xj xb xr u9.1 xv xn xl yR yT yC yW yA yE yU u9.2 yV yF yZ yI yD) := hD
    refine lv_aload_n hx hb dX5_threat_22 rfl (lv_at hl 0 rfl) ?_
    refine lv_iload_n hx hb dX5_threat_23 rfl (lv_at hl 1 rfl) ?_
    obtain ⟨u10, hg, hf⟩ := ob_s hf
    refine kc_calli (wn := fun _ => (wM cx aM xw xh xk xj xb xr u9.1 xv xn xl yR yT yC yW yA yE yU u9.2 yV yF yZ yI yD)) (va_runV (As := [.int x1]) (rest := []) ⟨hx, hb, hml, hown, hts⟩ (metX5_threatsOf l D cx aM xw xh xk xj xb xr u9.1 xv xn xl yR yT yC yW yA yE yU u9.2 yV yF yZ yI yD x1 N H.size u10 hg) ⟨callB_of 1 hts (kc_gI wd_809) rfl rfl rfl (hts _ wd_46) (hts _ wd_806) (by decide +kernel) ⟨Nat.le_of_ble_eq_true rfl, Nat.le_of_ble_eq_true rfl⟩, hts _ wd_808, hts _ wd_35⟩ ⟨kc_blind _ _ _ _ _, va_recv hK hP (ci := 5) (q0 := 0) rfl rfl, kc_pre _ hK hN (hP.sub [0, 1, 2, 3, 4, 5, 6, 7, 8, 9, 10, 11, 12, 13] rfl) (hD.sub [0, 1, 2, 3, 4, 5, 6, 7, 8, 9, 10, 11, 12, 13] (by decide) rfl)⟩ rfl rfl hl.1 rfl (lv_room (Nat.le_of_ble_eq_true rfl)) dX5_threat_24 ⟨Nat.zero_le _, Nat.zero_le _⟩) hP hD hS hA [0, 1, 2, 3, 4, 5, 6, 7, 8, 9, 10, 11, 12, 13] [] [0, 1, 2, 3, 4, 5, 6, 7, 8, 9, 10, 11, 12, 13] rfl rfl (by decide) (by decide) (fun _ => rfl) (by decide) (fun _ H locs hP hD hS => ?_)
    have hP : va_P D classes (wM cx aM xw xh xk xj xb xr u9.1 xv xn xl yR yT yC yW yA yE yU u9.2 yV yF yZ yI yD) H := hP
    have hD : va_D A (wM cx aM xw xh xk xj xb xr u9.1 xv xn xl yR yT yC yW yA yE yU u9.2 yV yF yZ yI yD) := hD
    refine lv_iload_n hx hb dX5_threat_27 rfl (lv_at hl 2 rfl) ?_
    obtain ⟨u11, hg, hf⟩ := ob_s hf
    refine kc_calli (wn := fun _ => (wM cx aM xw xh xk xj xb xr u9.1 xv xn xl yR yT yC yW yA yE yU u9.2 yV yF yZ yI yD)) (va_runS (As := [.int u10, .int x2]) (rest := []) ⟨hx, hb, hml, hown, hts⟩ (metX5_bitOf l D cx   u10 x2 N H.size u11 hg) ⟨callB_of 2 hts (kc_gI wd_760) rfl rfl rfl (hts _ wd_46) (hts _ wd_758) (by decide +kernel) ⟨Nat.le_of_ble_eq_true rfl, Nat.le_of_ble_eq_true rfl⟩, hts _ wd_759⟩ ⟨kc_blind _ _ _ _ _, kc_pre _ hK hN (hP.sub [] rfl) (hD.sub [] (by decide) rfl)⟩ rfl rfl hl.1 rfl (lv_room (Nat.le_of_ble_eq_true rfl)) dX5_threat_28 ⟨Nat.zero_le _, Nat.zero_le _⟩) hP hD hS hA [] [0, 1, 2, 3, 4, 5, 6, 7, 8, 9, 10, 11, 12, 13] [0, 1, 2, 3, 4, 5, 6, 7, 8, 9, 10, 11, 12, 13] rfl rfl (by decide) (by decide) (fun _ => rfl) (by decide) (fun _ H locs hP hD hS => ?_)
    have hP : va_P D classes (wM cx aM xw xh xk xj xb xr u9.1 xv xn xl yR yT yC yW yA yE yU u9.2 yV yF yZ yI yD) H := hP
    have hD : va_D A (wM cx aM xw xh xk xj xb xr u9.1 xv xn xl yR yT yC yW yA yE yU u9.2 yV yF yZ yI yD) := hD
    refine lv_istore_n (lv' := [(3, .int u11), (0, .ref (aM 0)), (1, .int x1), (2, .int x2)]) hx hb dX5_threat_31 rfl hl (by decide) rfl (fun ls hl => ?_)
    refine lv_iload_n hx hb dX5_threat_32 rfl (lv_at hl 0 rfl) ?_
    refine lv_iconst (v := (-1 : Int32)) hx hb dX5_threat_33 (by decide) ?_
    refine lv_icmp_ne (tgt := 43) hx hb dX5_threat_34 (by decide) (fun c12 => ?_) (fun c12 => ?_)
    · replace hf := it_f c12 hf
      refine lv_iload_n hx hb dX5_threat_43 rfl (lv_at hl 0 rfl) ?_
      obtain rfl := Option.some.inj hf
      exact kc_iret () hx hb hr hk hP hD hS rfl dX5_threat_44
    · replace hf := it_t c12 hf
      refine lv_sipush (v := (-200 : Int32)) hx hb dX5_threat_37 (by decide) ?_
      refine lv_goto (tgt := 44) hx hb dX5_threat_40 (by decide) ?_
      obtain rfl := Option.some.inj hf
      exact kc_iret () hx hb hr hk hP hD hS rfl dX5_threat_44
  · replace hf := it_t c8 hf
    refine lv_sipush (v := (-200 : Int32)) hx hb dX5_threat_10 (by decide) ?_
    obtain rfl := Option.some.inj hf
    exact kc_iret () hx hb hr hk hP hD hS rfl dX5_threat_13
abbrev rmX5_sortOf : Room := { frames := 2, cells := 0, slots := 0, locals := 46 }
set_option maxHeartbeats 4000000 in
set_option maxRecDepth 100000 in
theorem metX5_sortOf (l : Launch) (D : va_G) (cx : Nat → ClassId) (aM : Nat → Nat) (xw : Int32) (xh : Int32) (xk : Int32) (xj : Int32) (xb : Int32) (xr : Int32) (xc : Int32) (xv : Int32) (xn : Int32) (xl : Int32) (yR : Nat → Int32) (yT : Nat → Int32) (yC : Nat → Int32) (yW : Nat → Int32) (yA : Nat → Int32) (yE : Nat → Int32) (yU : Nat → Int32) (yM : Nat → Int32) (yV : Nat → Int32) (yF : Nat → Int32) (yZ : Nat → Int32) (yI : Nat → Int32) (yD : Nat → Int32) (x1 : Int32) (x2 : Int32) (x3 : Int32) (x4 : Int32) (N : Nat) (sz : Nat) (v : Int32) (hf : fX5_sortOf N xw xh x1 x2 x3 x4 = some v) : Met l yX5_sortOf (.code yX5_sortOf cX5_sortOf 8 (some .int) :: kc_TB) rmX5_sortOf (kc_Pre D cx (wM cx aM xw xh xk xj xb xr xc xv xn xl yR yT yC yW yA yE yU yM yV yF yZ yI yD) [.ref (aM 0), .int x1, .int x2, .int x3, .int x4] sz) (kc_Pi D (fun _ : Unit => (wM cx aM xw xh xk xj xb xr xc xv xn xl yR yT yC yW yA yE yU yM yV yF yZ yI yD)) v (va_A (wM cx aM xw xh xk xj xb xr xc xv xn xl yR yT yC yW yA yE yU yM yV yF yZ yI yD) sz)) 0 0 (va_A (wM cx aM xw xh xk xj xb xr xc xv xn xl yR yT yC yW yA yE yU yM yV yF yZ yI yD) sz) := by
  refine kc_entry (Qc := fun A => (kc_Pi D (fun _ : Unit => (wM cx aM xw xh xk xj xb xr xc xv xn xl yR yT yC yW yA yE yU yM yV yF yZ yI yD)) v A)) (by decide) (Nat.le_of_ble_eq_true rfl) ?_
  intro p e s m below meth c A hx hb hr hk hml hown hin hts hN hK hP hD hS hA ls hl
  have hown : s.vm.findClass RX5 = some m.cls := hown
  have hl : lv_has ls 8 [(0, .ref (aM 0)), (1, .int x1), (2, .int x2), (3, .int x3), (4, .int x4)] := hl
  unfold fX5_sortOf at hf
  have hP : va_P D classes (wM cx aM xw xh xk xj xb xr xc xv xn xl yR yT yC yW yA yE yU yM yV yF yZ yI yD) s.heap := hP
  obtain ⟨H, hH⟩ : ∃ H, H = s.heap := ⟨_, rfl⟩
  obtain ⟨locs, hL⟩ : ∃ locs : List Loc, locs = [] := ⟨_, rfl⟩
  have hS : va_S A s.heap H locs := by rw [hH, hL]; exact hS
  have hP : va_P D classes (wM cx aM xw xh xk xj xb xr xc xv xn xl yR yT yC yW yA yE yU yM yV yF yZ yI yD) H := by rw [hH]; exact hP
  suffices hW : W p l e rmX5_sortOf s m ([.ref (aM 0), .int x1, .int x2, .int x3, .int x4] : List Value).toArray below meth c H locs 0 0 (MQ below (kc_Pi D (fun _ : Unit => (wM cx aM xw xh xk xj xb xr xc xv xn xl yR yT yC yW yA yE yU yM yV yF yZ yI yD)) v A) ([.ref (aM 0), .int x1, .int x2, .int x3, .int x4] : List Value).toArray s 0 0 A) (F0 m 0 ls []) by rw [hH, hL] at hW; exact hW
  clear hH hL
  refine lv_aload_n hx hb dX5_sortOf_0 rfl (lv_at hl 0 rfl) ?_
  refine lv_iload_n hx hb dX5_sortOf_1 rfl (lv_at hl 1 rfl) ?_
  refine lv_iload_n hx hb dX5_sortOf_2 rfl (lv_at hl 2 rfl) ?_
  obtain ⟨u11, hg, hf⟩ := ob_s hf
  refine kc_calli (wn := fun _ => (wM cx aM xw xh xk xj xb xr xc xv xn xl yR yT yC yW yA yE yU yM yV yF yZ yI yD)) (va_runV (As := [.int x1, .int x2]) (rest := []) ⟨hx, hb, hml, hown, hts⟩ (metX5_heightOf l D cx aM xw xh xk xj xb xr xc xv xn xl yR yT yC yW yA yE yU yM yV yF yZ yI yD x1 x2 N H.size u11 hg) ⟨callB_of 2 hts (kc_gI wd_611) rfl rfl rfl (hts _ wd_46) (hts _ wd_608) (by decide +kernel) ⟨Nat.le_of_ble_eq_true rfl, Nat.le_of_ble_eq_true rfl⟩, hts _ wd_610, hts _ wd_23⟩ ⟨kc_blind _ _ _ _ _, va_recv hK hP (ci := 5) (q0 := 0) rfl rfl, kc_pre _ hK hN (hP.sub [0, 1, 2, 3, 4, 5, 6, 7, 8, 9, 10, 11, 12, 13] rfl) (hD.sub [0, 1, 2, 3, 4, 5, 6, 7, 8, 9, 10, 11, 12, 13] (by decide) rfl)⟩ rfl rfl hl.1 rfl (lv_room (Nat.le_of_ble_eq_true rfl)) dX5_sortOf_3 ⟨Nat.zero_le _, Nat.zero_le _⟩) hP hD hS hA [0, 1, 2, 3, 4, 5, 6, 7, 8, 9, 10, 11, 12, 13] [] [0, 1, 2, 3, 4, 5, 6, 7, 8, 9, 10, 11, 12, 13] rfl rfl (by decide) (by decide) (fun _ => rfl) (by decide) (fun _ H locs hP hD hS => ?_)
  have hP : va_P D classes (wM cx aM xw xh xk xj xb xr xc xv xn xl yR yT yC yW yA yE yU yM yV yF yZ yI yD) H := hP
  have hD : va_D A (wM cx aM xw xh xk xj xb xr xc xv xn xl yR yT yC yW yA yE yU yM yV yF yZ yI yD) := hD
  refine lv_istore (lv' := [(5, .int u11), (0, .ref (aM 0)), (1, .int x1), (2, .int x2), (3, .int x3), (4, .int x4)]) hx hb dX5_sortOf_6 hl (by decide) rfl (fun ls hl => ?_)
  refine lv_iconst (v := (1 : Int32)) hx hb dX5_sortOf_8 (by decide) ?_
  refine lv_aload_n hx hb dX5_sortOf_9 rfl (lv_at hl 1 rfl) ?_
  refine va_get (D := D) (ci := 5) (v := .int xw) (C := RX5) (T := TX5) (N := 23) hx hb hts iX5 hown hK hP 0 rfl rfl 0 (by decide) (hts _ wd_640) (fun _ h9 => h9) rfl dX5_sortOf_10 ?_
  refine lv_iload hx hb dX5_sortOf_13 (lv_at hl 0 rfl) ?_
  refine lv_imul hx hb dX5_sortOf_15 ?_
  refine lv_iload_n hx hb dX5_sortOf_16 rfl (lv_at hl 3 rfl) ?_
  refine lv_iadd hx hb dX5_sortOf_17 ?_
  refine lv_ishl hx hb dX5_sortOf_18 ?_
  refine lv_istore (lv' := [(6, .int ((1 : Int32) <<< (((xw * u11) + x2) &&& 31))), (5, .int u11), (0, .ref (aM 0)), (1, .int x1), (2, .int x2), (3, .int x3), (4, .int x4)]) hx hb dX5_sortOf_19 hl (by decide) rfl (fun ls hl => ?_)
  refine lv_iload hx hb dX5_sortOf_21 (lv_at hl 1 rfl) ?_
  refine lv_iconst (v := (1 : Int32)) hx hb dX5_sortOf_23 (by decide) ?_
  refine lv_iadd hx hb dX5_sortOf_24 ?_
  refine lv_aload_n hx hb dX5_sortOf_25 rfl (lv_at hl 2 rfl) ?_
  refine va_get (D := D) (ci := 5) (v := .int xh) (C := RX5) (T := TX5) (N := 23) hx hb hts iX5 hown hK hP 0 rfl rfl 1 (by decide) (hts _ wd_641) (fun _ h9 => h9) rfl dX5_sortOf_26 ?_
  refine lv_icmp_ge (tgt := 48) hx hb dX5_sortOf_29 (by decide) (fun c12 => ?_) (fun c12 => ?_)
  · replace hf := it_t c12 hf
    refine lv_iconst (v := (0 : Int32)) hx hb dX5_sortOf_48 (by decide) ?_
    refine lv_istore (lv' := [(7, .int (0 : Int32)), (6, .int ((1 : Int32) <<< (((xw * u11) + x2) &&& 31))), (5, .int u11), (0, .ref (aM 0)), (1, .int x1), (2, .int x2), (3, .int x3), (4, .int x4)]) hx hb dX5_sortOf_49 hl (by decide) rfl (fun ls hl => ?_)
    refine lv_iload_n hx hb dX5_sortOf_51 rfl (lv_at hl 6 rfl) ?_
    refine lv_iload hx hb dX5_sortOf_52 (lv_at hl 1 rfl) ?_
    refine lv_iand hx hb dX5_sortOf_54 ?_
    refine lv_if_eq (tgt := 60) hx hb dX5_sortOf_55 (by decide) (fun c13 => ?_) (fun c13 => ?_)
    · replace hf := it_t c13 hf
      refine lv_iload hx hb dX5_sortOf_60 (lv_at hl 7 rfl) ?_
      refine lv_iload hx hb dX5_sortOf_62 (lv_at hl 1 rfl) ?_
      refine lv_iand hx hb dX5_sortOf_64 ?_
      refine lv_if_eq (tgt := 70) hx hb dX5_sortOf_65 (by decide) (fun c14 => ?_) (fun c14 => ?_)
      · replace hf := it_t c14 hf
        refine lv_iload_n hx hb dX5_sortOf_70 rfl (lv_at hl 6 rfl) ?_
        refine lv_iload hx hb dX5_sortOf_71 (lv_at hl 7 rfl) ?_
        refine lv_ior hx hb dX5_sortOf_73 ?_
        refine lv_iload hx hb dX5_sortOf_74 (lv_at hl 0 rfl) ?_
        refine lv_iand hx hb dX5_sortOf_76 ?_
        refine lv_if_ne (tgt := 82) hx hb dX5_sortOf_77 (by decide) (fun c15 => ?_) (fun c15 => ?_)
        · replace hf := it_f c15 hf
          refine lv_iload hx hb dX5_sortOf_82 (lv_at hl 7 rfl) ?_
          refine lv_iload hx hb dX5_sortOf_84 (lv_at hl 0 rfl) ?_
          refine lv_iand hx hb dX5_sortOf_86 ?_
          refine lv_if_ne (tgt := 94) hx hb dX5_sortOf_87 (by decide) (fun c16 => ?_) (fun c16 => ?_)
          · replace hf := it_f c16 hf
            refine lv_iconst (v := (4 : Int32)) hx hb dX5_sortOf_94 (by decide) ?_
            obtain rfl := Option.some.inj hf
            exact kc_iret () hx hb hr hk hP hD hS rfl dX5_sortOf_95
          · replace hf := it_t c16 hf
            refine lv_iconst (v := (3 : Int32)) hx hb dX5_sortOf_90 (by decide) ?_
            refine lv_goto (tgt := 95) hx hb dX5_sortOf_91 (by decide) ?_
            obtain rfl := Option.some.inj hf
            exact kc_iret () hx hb hr hk hP hD hS rfl dX5_sortOf_95
        · replace hf := it_t c15 hf
          refine lv_iconst (v := (2 : Int32)) hx hb dX5_sortOf_80 (by decide) ?_
          obtain rfl := Option.some.inj hf
          exact kc_iret () hx hb hr hk hP hD hS rfl dX5_sortOf_81
      · replace hf := it_f c14 hf
        refine lv_iconst (v := (1 : Int32)) hx hb dX5_sortOf_68 (by decide) ?_
        obtain rfl := Option.some.inj hf
        exact kc_iret () hx hb hr hk hP hD hS rfl dX5_sortOf_69
    · replace hf := it_f c13 hf
      refine lv_iconst (v := (0 : Int32)) hx hb dX5_sortOf_58 (by decide) ?_
      obtain rfl := Option.some.inj hf
      exact kc_iret () hx hb hr hk hP hD hS rfl dX5_sortOf_59
  · replace hf := it_f c12 hf
    refine lv_iconst (v := (1 : Int32)) hx hb dX5_sortOf_32 (by decide) ?_
    refine lv_aload_n hx hb dX5_sortOf_33 rfl (lv_at hl 2 rfl) ?_
    refine va_get (D := D) (ci := 5) (v := .int xw) (C := RX5) (T := TX5) (N := 23) hx hb hts iX5 hown hK hP 0 rfl rfl 0 (by decide) (hts _ wd_640) (fun _ h9 => h9) rfl dX5_sortOf_34 ?_
    refine lv_iload hx hb dX5_sortOf_37 (lv_at hl 1 rfl) ?_
    refine lv_iconst (v := (1 : Int32)) hx hb dX5_sortOf_39 (by decide) ?_
    refine lv_iadd hx hb dX5_sortOf_40 ?_
    refine lv_imul hx hb dX5_sortOf_41 ?_
    refine lv_iload_n hx hb dX5_sortOf_42 rfl (lv_at hl 4 rfl) ?_
    refine lv_iadd hx hb dX5_sortOf_43 ?_
    refine lv_ishl hx hb dX5_sortOf_44 ?_
    refine lv_goto (tgt := 49) hx hb dX5_sortOf_45 (by decide) ?_
    refine lv_istore (lv' := [(7, .int ((1 : Int32) <<< (((xw * (u11 + (1 : Int32))) + x2) &&& 31))), (6, .int ((1 : Int32) <<< (((xw * u11) + x2) &&& 31))), (5, .int u11), (0, .ref (aM 0)), (1, .int x1), (2, .int x2), (3, .int x3), (4, .int x4)]) hx hb dX5_sortOf_49 hl (by decide) rfl (fun ls hl => ?_)
    refine lv_iload_n hx hb dX5_sortOf_51 rfl (lv_at hl 6 rfl) ?_
    refine lv_iload hx hb dX5_sortOf_52 (lv_at hl 1 rfl) ?_
    refine lv_iand hx hb dX5_sortOf_54 ?_
    refine lv_if_eq (tgt := 60) hx hb dX5_sortOf_55 (by decide) (fun c17 => ?_) (fun c17 => ?_)
    · replace hf := it_t c17 hf
      refine lv_iload hx hb dX5_sortOf_60 (lv_at hl 7 rfl) ?_
      refine lv_iload hx hb dX5_sortOf_62 (lv_at hl 1 rfl) ?_
      refine lv_iand hx hb dX5_sortOf_64 ?_
      refine lv_if_eq (tgt := 70) hx hb dX5_sortOf_65 (by decide) (fun c18 => ?_) (fun c18 => ?_)
      · replace hf := it_t c18 hf
        refine lv_iload_n hx hb dX5_sortOf_70 rfl (lv_at hl 6 rfl) ?_
        refine lv_iload hx hb dX5_sortOf_71 (lv_at hl 7 rfl) ?_
        refine lv_ior hx hb dX5_sortOf_73 ?_
        refine lv_iload hx hb dX5_sortOf_74 (lv_at hl 0 rfl) ?_
        refine lv_iand hx hb dX5_sortOf_76 ?_
        refine lv_if_ne (tgt := 82) hx hb dX5_sortOf_77 (by decide) (fun c19 => ?_) (fun c19 => ?_)
        · replace hf := it_f c19 hf
          refine lv_iload hx hb dX5_sortOf_82 (lv_at hl 7 rfl) ?_
          refine lv_iload hx hb dX5_sortOf_84 (lv_at hl 0 rfl) ?_
          refine lv_iand hx hb dX5_sortOf_86 ?_
          refine lv_if_ne (tgt := 94) hx hb dX5_sortOf_87 (by decide) (fun c20 => ?_) (fun c20 => ?_)
          · replace hf := it_f c20 hf
            refine lv_iconst (v := (4 : Int32)) hx hb dX5_sortOf_94 (by decide) ?_
            obtain rfl := Option.some.inj hf
            exact kc_iret () hx hb hr hk hP hD hS rfl dX5_sortOf_95
          · replace hf := it_t c20 hf
            refine lv_iconst (v := (3 : Int32)) hx hb dX5_sortOf_90 (by decide) ?_
            refine lv_goto (tgt := 95) hx hb dX5_sortOf_91 (by decide) ?_
            obtain rfl := Option.some.inj hf
            exact kc_iret () hx hb hr hk hP hD hS rfl dX5_sortOf_95
        · replace hf := it_t c19 hf
          refine lv_iconst (v := (2 : Int32)) hx hb dX5_sortOf_80 (by decide) ?_
          obtain rfl := Option.some.inj hf
          exact kc_iret () hx hb hr hk hP hD hS rfl dX5_sortOf_81
      · replace hf := it_f c18 hf
        refine lv_iconst (v := (1 : Int32)) hx hb dX5_sortOf_68 (by decide) ?_
        obtain rfl := Option.some.inj hf
        exact kc_iret () hx hb hr hk hP hD hS rfl dX5_sortOf_69
    · replace hf := it_f c17 hf
      refine lv_iconst (v := (0 : Int32)) hx hb dX5_sortOf_58 (by decide) ?_
      obtain rfl := Option.some.inj hf
      exact kc_iret () hx hb hr hk hP hD hS rfl dX5_sortOf_59
abbrev rmX5_waiting : Room := { frames := 3, cells := 0, slots := 0, locals := 73 }
set_option maxHeartbeats 4000000 in
set_option maxRecDepth 100000 in
theorem metX5_waiting (l : Launch) (D : va_G) (cx : Nat → ClassId) (aM : Nat → Nat) (xw : Int32) (xh : Int32) (xk : Int32) (xj : Int32) (xb : Int32) (xr : Int32) (xc : Int32) (xv : Int32) (xn : Int32) (xl : Int32) (yR : Nat → Int32) (yT : Nat → Int32) (yC : Nat → Int32) (yW : Nat → Int32) (yA : Nat → Int32) (yE : Nat → Int32) (yU : Nat → Int32) (yM : Nat → Int32) (yV : Nat → Int32) (yF : Nat → Int32) (yZ : Nat → Int32) (yI : Nat → Int32) (yD : Nat → Int32)  (N : Nat) (sz : Nat) (v : Int32 × Int32 × (Nat → Int32)) (hf : fX5_waiting N xw xh xr xc xv xn yR yT yM = some v) : Met l yX5_waiting (.code yX5_waiting cX5_waiting 9 (some .int) :: kc_TB) rmX5_waiting (kc_Pre D cx (wM cx aM xw xh xk xj xb xr xc xv xn xl yR yT yC yW yA yE yU yM yV yF yZ yI yD) [.ref (aM 0)] sz) (kc_Pi D (fun _ : Unit => (wM cx aM xw xh xk xj xb xr v.2.1 xv xn xl yR yT yC yW yA yE yU v.2.2 yV yF yZ yI yD)) v.1 (va_A (wM cx aM xw xh xk xj xb xr xc xv xn xl yR yT yC yW yA yE yU yM yV yF yZ yI yD) sz)) 0 0 (va_A (wM cx aM xw xh xk xj xb xr xc xv xn xl yR yT yC yW yA yE yU yM yV yF yZ yI yD) sz) := by
  refine kc_entry (Qc := fun A => (kc_Pi D (fun _ : Unit => (wM cx aM xw xh xk xj xb xr v.2.1 xv xn xl yR yT yC yW yA yE yU v.2.2 yV yF yZ yI yD)) v.1 A)) (by decide) (Nat.le_of_ble_eq_true rfl) ?_
  intro p e s m below meth c A hx hb hr hk hml hown hin hts hN hK hP hD hS hA ls hl
  have hown : s.vm.findClass RX5 = some m.cls := hown
  have hl : lv_has ls 9 [(0, .ref (aM 0))] := hl
  unfold fX5_waiting at hf
  have hP : va_P D classes (wM cx aM xw xh xk xj xb xr xc xv xn xl yR yT yC yW yA yE yU yM yV yF yZ yI yD) s.heap := hP
  obtain ⟨H, hH⟩ : ∃ H, H = s.heap := ⟨_, rfl⟩
  obtain ⟨locs, hL⟩ : ∃ locs : List Loc, locs = [] := ⟨_, rfl⟩
  have hS : va_S A s.heap H locs := by rw [hH, hL]; exact hS
  have hP : va_P D classes (wM cx aM xw xh xk xj xb xr xc xv xn xl yR yT yC yW yA yE yU yM yV yF yZ yI yD) H := by rw [hH]; exact hP
  suffices hW : W p l e rmX5_waiting s m ([.ref (aM 0)] : List Value).toArray below meth c H locs 0 0 (MQ below (kc_Pi D (fun _ : Unit => (wM cx aM xw xh xk xj xb xr v.2.1 xv xn xl yR yT yC yW yA yE yU v.2.2 yV yF yZ yI yD)) v.1 A) ([.ref (aM 0)] : List Value).toArray s 0 0 A) (F0 m 0 ls []) by rw [hH, hL] at hW; exact hW
  clear hH hL
  refine lv_aload_n hx hb dX5_waiting_0 rfl (lv_at hl 0 rfl) ?_
  obtain ⟨u17, hg, hf⟩ := ob_s hf
  refine kc_calli (wn := fun _ => (wM cx aM xw xh xk xj xb xr xc xv xn xl yR yT yC yW yA yE yU yM yV yF yZ yI yD)) (va_runV (As := []) (rest := []) ⟨hx, hb, hml, hown, hts⟩ (metX5_isOver l D cx aM xw xh xk xj xb xr xc xv xn xl yR yT yC yW yA yE yU yM yV yF yZ yI yD  N H.size u17 hg) ⟨callB_of 0 hts (kc_gI wd_730) rfl rfl rfl (hts _ wd_46) (hts _ wd_727) (by decide +kernel) ⟨Nat.le_of_ble_eq_true rfl, Nat.le_of_ble_eq_true rfl⟩, hts _ wd_729, hts _ wd_32⟩ ⟨kc_blind _ _ _ _ _, va_recv hK hP (ci := 5) (q0 := 0) rfl rfl, kc_pre _ hK hN (hP.sub [0, 1, 2, 3, 4, 5, 6, 7, 8, 9, 10, 11, 12, 13] rfl) (hD.sub [0, 1, 2, 3, 4, 5, 6, 7, 8, 9, 10, 11, 12, 13] (by decide) rfl)⟩ rfl rfl hl.1 rfl (lv_room (Nat.le_of_ble_eq_true rfl)) dX5_waiting_1 ⟨Nat.zero_le _, Nat.zero_le _⟩) hP hD hS hA [0, 1, 2, 3, 4, 5, 6, 7, 8, 9, 10, 11, 12, 13] [] [0, 1, 2, 3, 4, 5, 6, 7, 8, 9, 10, 11, 12, 13] rfl rfl (by decide) (by decide) (fun _ => rfl) (by decide) (fun _ H locs hP hD hS => ?_)
  have hP : va_P D classes (wM cx aM xw xh xk xj xb xr xc xv xn xl yR yT yC yW yA yE yU yM yV yF yZ yI yD) H := hP
  have hD : va_D A (wM cx aM xw xh xk xj xb xr xc xv xn xl yR yT yC yW yA yE yU yM yV yF yZ yI yD) := hD
  refine lv_if_eq (tgt := 11) hx hb dX5_waiting_4 (by decide) (fun c18 => ?_) (fun c18 => ?_)
  · replace hf := it_t c18 hf
    refine lv_aload_n hx hb dX5_waiting_11 rfl (lv_at hl 0 rfl) ?_
    refine va_get (D := D) (ci := 5) (v := .int xn) (C := RX5) (T := TX5) (N := 23) hx hb hts iX5 hown hK hP 0 rfl rfl 17 (by decide) (hts _ wd_657) (fun _ h9 => h9) rfl dX5_waiting_12 ?_
    refine lv_istore_n (lv' := [(1, .int xn), (0, .ref (aM 0))]) hx hb dX5_waiting_15 rfl hl (by decide) rfl (fun ls hl => ?_)
    refine lv_aload_n hx hb dX5_waiting_16 rfl (lv_at hl 1 rfl) ?_
    refine va_get (D := D) (ci := 5) (v := .int xv) (C := RX5) (T := TX5) (N := 23) hx hb hts iX5 hown hK hP 0 rfl rfl 15 (by decide) (hts _ wd_655) (fun _ h9 => h9) rfl dX5_waiting_17 ?_
    refine lv_istore_n (lv' := [(2, .int xv), (1, .int xn), (0, .ref (aM 0))]) hx hb dX5_waiting_20 rfl hl (by decide) rfl (fun ls hl => ?_)
    have L21 : ∀ (ct : Nat) (xc : Int32) (yM : Nat → Int32) (x1 : Int32) (x2 : Int32) (v21 : Int32 × (Nat → Int32) × Int32 × Int32), fX5_waiting_L21 N xw xh xr yR yT ct xc yM x1 x2 = some v21 → ∀ (H : Heap) (locs : List Loc) (ls : Array Slot), va_P D classes (wM cx aM xw xh xk xj xb xr xc xv xn xl yR yT yC yW yA yE yU yM yV yF yZ yI yD) H → va_D A (wM cx aM xw xh xk xj xb xr xc xv xn xl yR yT yC yW yA yE yU yM yV yF yZ yI yD) → va_S A s.heap H locs → lv_has ls 9 [(0, .ref (aM 0)), (1, .int x1), (2, .int x2)] → (∀ (H : Heap) (locs : List Loc) (ls : Array Slot), va_P D classes (wM cx aM xw xh xk xj xb xr v21.1 xv xn xl yR yT yC yW yA yE yU v21.2.1 yV yF yZ yI yD) H → va_D A (wM cx aM xw xh xk xj xb xr v21.1 xv xn xl yR yT yC yW yA yE yU v21.2.1 yV yF yZ yI yD) → va_S A s.heap H locs → lv_has ls 9 [(0, .ref (aM 0)), (1, .int v21.2.2.1), (2, .int v21.2.2.2)] → W p l e rmX5_waiting s m ([.ref (aM 0)] : List Value).toArray below meth c H locs 0 0 (MQ below (kc_Pi D (fun _ : Unit => (wM cx aM xw xh xk xj xb xr v.2.1 xv xn xl yR yT yC yW yA yE yU v.2.2 yV yF yZ yI yD)) v.1 A) ([.ref (aM 0)] : List Value).toArray s 0 0 A) (F0 m 155 ls [])) → W p l e rmX5_waiting s m ([.ref (aM 0)] : List Value).toArray below meth c H locs 0 0 (MQ below (kc_Pi D (fun _ : Unit => (wM cx aM xw xh xk xj xb xr v.2.1 xv xn xl yR yT yC yW yA yE yU v.2.2 yV yF yZ yI yD)) v.1 A) ([.ref (aM 0)] : List Value).toArray s 0 0 A) (F0 m 21 ls []) := by
      intro ct
      induction ct with
      | zero =>
        intro xc yM x1 x2 v21 hf
        exact absurd (show (none : Option (Int32 × (Nat → Int32) × Int32 × Int32)) = some v21 from hf) (fun q => by cases q)
      | succ ct ih =>
        intro xc yM x1 x2 v21 hf H locs ls hP hD hS hl hE
        rw [fX5_waiting_L21] at hf
        refine lv_aload_n hx hb dX5_waiting_21 rfl (lv_at hl 0 rfl) ?_
        refine va_get (D := D) (ci := 5) (v := .ref (aM 2)) (C := RX5) (T := TX5) (N := 23) hx hb hts iX5 hown hK hP 0 rfl rfl 7 (by decide) (hts _ wd_647) (fun _ h9 => h9) rfl dX5_waiting_22 ?_
        refine lv_iload_n hx hb dX5_waiting_25 rfl (lv_at hl 1 rfl) ?_
        obtain ⟨hz, hf⟩ := okb_s hf
        refine va_bald (D := D) hx hb hK hP 2 1 rfl rfl (inb_s hz) dX5_waiting_26 ?_
        refine lv_bipush (v := (127 : Int32)) hx hb dX5_waiting_27 (by decide) ?_
        refine lv_icmp_eq (tgt := 155) hx hb dX5_waiting_29 (by decide) (fun c38 => ?_) (fun c38 => ?_)
        · replace hf := it_t c38 hf
          obtain rfl := Option.some.inj hf
          exact hE H locs ls hP hD hS (lv_sub hl [0, 1, 2] rfl)
        · replace hf := it_f c38 hf
          refine lv_aload_n hx hb dX5_waiting_32 rfl (lv_at hl 0 rfl) ?_
          refine va_get (D := D) (ci := 5) (v := .ref (aM 2)) (C := RX5) (T := TX5) (N := 23) hx hb hts iX5 hown hK hP 0 rfl rfl 7 (by decide) (hts _ wd_647) (fun _ h9 => h9) rfl dX5_waiting_33 ?_
          refine lv_iload_n hx hb dX5_waiting_36 rfl (lv_at hl 1 rfl) ?_
          obtain ⟨hz, hf⟩ := okb_s hf
          refine va_bald (D := D) hx hb hK hP 2 1 rfl rfl (inb_s hz) dX5_waiting_37 ?_
          refine lv_bipush (v := (126 : Int32)) hx hb dX5_waiting_38 (by decide) ?_
          refine lv_icmp_eq (tgt := 155) hx hb dX5_waiting_40 (by decide) (fun c39 => ?_) (fun c39 => ?_)
          · replace hf := it_t c39 hf
            obtain rfl := Option.some.inj hf
            exact hE H locs ls hP hD hS (lv_sub hl [0, 1, 2] rfl)
          · replace hf := it_f c39 hf
            refine lv_aload_n hx hb dX5_waiting_43 rfl (lv_at hl 0 rfl) ?_
            refine lv_iload_n hx hb dX5_waiting_44 rfl (lv_at hl 1 rfl) ?_
            obtain ⟨u40, hg, hf⟩ := ob_s hf
            refine kc_callv (wn := fun _ => (wM cx aM xw xh xk xj xb xr u40.1 xv xn xl yR yT yC yW yA yE yU u40.2 yV yF yZ yI yD)) (va_runV (As := [.int x1]) (rest := []) ⟨hx, hb, hml, hown, hts⟩ (metX5_decode l D cx aM xw xh xk xj xb xr xc xv xn xl yR yT yC yW yA yE yU yM yV yF yZ yI yD x1 N H.size u40 hg) ⟨callB_of 1 hts (kc_gI wd_607) rfl rfl rfl (hts _ wd_46) (hts _ wd_604) (by decide +kernel) ⟨Nat.le_of_ble_eq_true rfl, Nat.le_of_ble_eq_true rfl⟩, hts _ wd_606, hts _ wd_22⟩ ⟨kc_blind _ _ _ _ _, va_recv hK hP (ci := 5) (q0 := 0) rfl rfl, kc_pre _ hK hN (hP.sub [0, 1, 2, 3, 4, 5, 6, 7, 8, 9, 10, 11, 12, 13] rfl) (hD.sub [0, 1, 2, 3, 4, 5, 6, 7, 8, 9, 10, 11, 12, 13] (by decide) rfl)⟩ rfl rfl hl.1 rfl (lv_room (Nat.le_of_ble_eq_true rfl)) dX5_waiting_45 ⟨Nat.zero_le _, Nat.zero_le _⟩) hP hD hS hA [0, 1, 2, 3, 4, 5, 6, 7, 8, 9, 10, 11, 12, 13] [] [0, 1, 2, 3, 4, 5, 6, 7, 8, 9, 10, 11, 12, 13] rfl rfl (by decide) (by decide) (fun _ => rfl) (by decide) (fun _ H locs hP hD hS => ?_)
            have hP : va_P D classes (wM cx aM xw xh xk xj xb xr u40.1 xv xn xl yR yT yC yW yA yE yU u40.2 yV yF yZ yI yD) H := hP
            have hD : va_D A (wM cx aM xw xh xk xj xb xr u40.1 xv xn xl yR yT yC yW yA yE yU u40.2 yV yF yZ yI yD) := hD
            refine lv_iload_n hx hb dX5_waiting_48 rfl (lv_at hl 2 rfl) ?_
            refine lv_iconst (v := (2 : Int32)) hx hb dX5_waiting_49 (by decide) ?_
            refine lv_irem hx hb dX5_waiting_50 (by decide) ?_
            refine lv_istore_n (lv' := [(3, .int (x2 - x2 / (2 : Int32) * (2 : Int32))), (0, .ref (aM 0)), (1, .int x1), (2, .int x2)]) hx hb dX5_waiting_51 rfl hl (by decide) rfl (fun ls hl => ?_)
            refine lv_aload_n hx hb dX5_waiting_52 rfl (lv_at hl 1 rfl) ?_
            refine lv_iload_n hx hb dX5_waiting_53 rfl (lv_at hl 0 rfl) ?_
            obtain ⟨u41, hg, hf⟩ := ob_s hf
            refine kc_calli (wn := fun _ => (wM cx aM xw xh xk xj xb xr u40.1 xv xn xl yR yT yC yW yA yE yU u40.2 yV yF yZ yI yD)) (va_runV (As := [.int (x2 - x2 / (2 : Int32) * (2 : Int32))]) (rest := []) ⟨hx, hb, hml, hown, hts⟩ (metX5_threatsOf l D cx aM xw xh xk xj xb xr u40.1 xv xn xl yR yT yC yW yA yE yU u40.2 yV yF yZ yI yD (x2 - x2 / (2 : Int32) * (2 : Int32)) N H.size u41 hg) ⟨callB_of 1 hts (kc_gI wd_809) rfl rfl rfl (hts _ wd_46) (hts _ wd_806) (by decide +kernel) ⟨Nat.le_of_ble_eq_true rfl, Nat.le_of_ble_eq_true rfl⟩, hts _ wd_808, hts _ wd_35⟩ ⟨kc_blind _ _ _ _ _, va_recv hK hP (ci := 5) (q0 := 0) rfl rfl, kc_pre _ hK hN (hP.sub [0, 1, 2, 3, 4, 5, 6, 7, 8, 9, 10, 11, 12, 13] rfl) (hD.sub [0, 1, 2, 3, 4, 5, 6, 7, 8, 9, 10, 11, 12, 13] (by decide) rfl)⟩ rfl rfl hl.1 rfl (lv_room (Nat.le_of_ble_eq_true rfl)) dX5_waiting_54 ⟨Nat.zero_le _, Nat.zero_le _⟩) hP hD hS hA [0, 1, 2, 3, 4, 5, 6, 7, 8, 9, 10, 11, 12, 13] [] [0, 1, 2, 3, 4, 5, 6, 7, 8, 9, 10, 11, 12, 13] rfl rfl (by decide) (by decide) (fun _ => rfl) (by decide) (fun _ H locs hP hD hS => ?_)
            have hP : va_P D classes (wM cx aM xw xh xk xj xb xr u40.1 xv xn xl yR yT yC yW yA yE yU u40.2 yV yF yZ yI yD) H := hP
            have hD : va_D A (wM cx aM xw xh xk xj xb xr u40.1 xv xn xl yR yT yC yW yA yE yU u40.2 yV yF yZ yI yD) := hD
            refine lv_istore (lv' := [(4, .int u41), (3, .int (x2 - x2 / (2 : Int32) * (2 : Int32))), (0, .ref (aM 0)), (1, .int x1), (2, .int x2)]) hx hb dX5_waiting_57 hl (by decide) rfl (fun ls hl => ?_)
            refine lv_aload_n hx hb dX5_waiting_59 rfl (lv_at hl 2 rfl) ?_
            refine lv_iconst (v := (1 : Int32)) hx hb dX5_waiting_60 (by decide) ?_
            refine lv_iload_n hx hb dX5_waiting_61 rfl (lv_at hl 1 rfl) ?_
            refine lv_isub hx hb dX5_waiting_62 ?_
            obtain ⟨u42, hg, hf⟩ := ob_s hf
            refine kc_calli (wn := fun _ => (wM cx aM xw xh xk xj xb xr u40.1 xv xn xl yR yT yC yW yA yE yU u40.2 yV yF yZ yI yD)) (va_runV (As := [.int ((1 : Int32) - (x2 - x2 / (2 : Int32) * (2 : Int32)))]) (rest := []) ⟨hx, hb, hml, hown, hts⟩ (metX5_threatsOf l D cx aM xw xh xk xj xb xr u40.1 xv xn xl yR yT yC yW yA yE yU u40.2 yV yF yZ yI yD ((1 : Int32) - (x2 - x2 / (2 : Int32) * (2 : Int32))) N H.size u42 hg) ⟨callB_of 1 hts (kc_gI wd_809) rfl rfl rfl (hts _ wd_46) (hts _ wd_806) (by decide +kernel) ⟨Nat.le_of_ble_eq_true rfl, Nat.le_of_ble_eq_true rfl⟩, hts _ wd_808, hts _ wd_35⟩ ⟨kc_blind _ _ _ _ _, va_recv hK hP (ci := 5) (q0 := 0) rfl rfl, kc_pre _ hK hN (hP.sub [0, 1, 2, 3, 4, 5, 6, 7, 8, 9, 10, 11, 12, 13] rfl) (hD.sub [0, 1, 2, 3, 4, 5, 6, 7, 8, 9, 10, 11, 12, 13] (by decide) rfl)⟩ rfl rfl hl.1 rfl (lv_room (Nat.le_of_ble_eq_true rfl)) dX5_waiting_63 ⟨Nat.zero_le _, Nat.zero_le _⟩) hP hD hS hA [0, 1, 2, 3, 4, 5, 6, 7, 8, 9, 10, 11, 12, 13] [] [0, 1, 2, 3, 4, 5, 6, 7, 8, 9, 10, 11, 12, 13] rfl rfl (by decide) (by decide) (fun _ => rfl) (by decide) (fun _ H locs hP hD hS => ?_)
            have hP : va_P D classes (wM cx aM xw xh xk xj xb xr u40.1 xv xn xl yR yT yC yW yA yE yU u40.2 yV yF yZ yI yD) H := hP
            have hD : va_D A (wM cx aM xw xh xk xj xb xr u40.1 xv xn xl yR yT yC yW yA yE yU u40.2 yV yF yZ yI yD) := hD
            refine lv_istore (lv' := [(5, .int u42), (4, .int u41), (3, .int (x2 - x2 / (2 : Int32) * (2 : Int32))), (0, .ref (aM 0)), (1, .int x1), (2, .int x2)]) hx hb dX5_waiting_66 hl (by decide) rfl (fun ls hl => ?_)
            refine lv_iconst (v := (-1 : Int32)) hx hb dX5_waiting_68 (by decide) ?_
            refine lv_istore (lv' := [(6, .int (-1 : Int32)), (5, .int u42), (4, .int u41), (3, .int (x2 - x2 / (2 : Int32) * (2 : Int32))), (0, .ref (aM 0)), (1, .int x1), (2, .int x2)]) hx hb dX5_waiting_69 hl (by decide) rfl (fun ls hl => ?_)
            refine lv_bipush (v := (9 : Int32)) hx hb dX5_waiting_71 (by decide) ?_
            refine lv_istore (lv' := [(7, .int (9 : Int32)), (6, .int (-1 : Int32)), (5, .int u42), (4, .int u41), (3, .int (x2 - x2 / (2 : Int32) * (2 : Int32))), (0, .ref (aM 0)), (1, .int x1), (2, .int x2)]) hx hb dX5_waiting_73 hl (by decide) rfl (fun ls hl => ?_)
            refine lv_iconst (v := (0 : Int32)) hx hb dX5_waiting_75 (by decide) ?_
            refine lv_istore (lv' := [(8, .int (0 : Int32)), (7, .int (9 : Int32)), (6, .int (-1 : Int32)), (5, .int u42), (4, .int u41), (3, .int (x2 - x2 / (2 : Int32) * (2 : Int32))), (0, .ref (aM 0)), (1, .int x1), (2, .int x2)]) hx hb dX5_waiting_76 hl (by decide) rfl (fun ls hl => ?_)
            have L78 : ∀ (ct : Nat) (x6 : Int32) (x7 : Int32) (x8 : Int32) (v78 : Int32), fX5_waiting_L78 N xw xh x1 u41 u42 ct x6 x7 x8 = some v78 → ∀ (H : Heap) (locs : List Loc) (ls : Array Slot), va_P D classes (wM cx aM xw xh xk xj xb xr u40.1 xv xn xl yR yT yC yW yA yE yU u40.2 yV yF yZ yI yD) H → va_D A (wM cx aM xw xh xk xj xb xr u40.1 xv xn xl yR yT yC yW yA yE yU u40.2 yV yF yZ yI yD) → va_S A s.heap H locs → lv_has ls 9 [(0, .ref (aM 0)), (1, .int x1), (2, .int x2), (3, .int (x2 - x2 / (2 : Int32) * (2 : Int32))), (4, .int u41), (5, .int u42), (6, .int x6), (7, .int x7), (8, .int x8)] → (∀ (H : Heap) (locs : List Loc) (ls : Array Slot), va_P D classes (wM cx aM xw xh xk xj xb xr u40.1 xv xn xl yR yT yC yW yA yE yU u40.2 yV yF yZ yI yD) H → va_D A (wM cx aM xw xh xk xj xb xr u40.1 xv xn xl yR yT yC yW yA yE yU u40.2 yV yF yZ yI yD) → va_S A s.heap H locs → lv_has ls 9 [(0, .ref (aM 0)), (1, .int x1), (2, .int x2), (3, .int (x2 - x2 / (2 : Int32) * (2 : Int32))), (6, .int v78)] → W p l e rmX5_waiting s m ([.ref (aM 0)] : List Value).toArray below meth c H locs 0 0 (MQ below (kc_Pi D (fun _ : Unit => (wM cx aM xw xh xk xj xb xr v.2.1 xv xn xl yR yT yC yW yA yE yU v.2.2 yV yF yZ yI yD)) v.1 A) ([.ref (aM 0)] : List Value).toArray s 0 0 A) (F0 m 140 ls [])) → W p l e rmX5_waiting s m ([.ref (aM 0)] : List Value).toArray below meth c H locs 0 0 (MQ below (kc_Pi D (fun _ : Unit => (wM cx aM xw xh xk xj xb xr v.2.1 xv xn xl yR yT yC yW yA yE yU v.2.2 yV yF yZ yI yD)) v.1 A) ([.ref (aM 0)] : List Value).toArray s 0 0 A) (F0 m 78 ls []) := by
              intro ct
              induction ct with
              | zero =>
                intro x6 x7 x8 v78 hf
                exact absurd (show (none : Option (Int32)) = some v78 from hf) (fun q => by cases q)
              | succ ct ih =>
                intro x6 x7 x8 v78 hf H locs ls hP hD hS hl hE
                rw [fX5_waiting_L78] at hf
                refine lv_iload hx hb dX5_waiting_78 (lv_at hl 8 rfl) ?_
                refine lv_aload_n hx hb dX5_waiting_80 rfl (lv_at hl 0 rfl) ?_
                refine va_get (D := D) (ci := 5) (v := .int xw) (C := RX5) (T := TX5) (N := 23) hx hb hts iX5 hown hK hP 0 rfl rfl 0 (by decide) (hts _ wd_640) (fun _ h9 => h9) rfl dX5_waiting_81 ?_
                refine lv_icmp_ge (tgt := 140) hx hb dX5_waiting_84 (by decide) (fun c43 => ?_) (fun c43 => ?_)
                · replace hf := it_t c43 hf
                  obtain rfl := Option.some.inj hf
                  exact hE H locs ls hP hD hS (lv_sub hl [0, 1, 2, 3, 6] rfl)
                · replace hf := it_f c43 hf
                  refine lv_aload_n hx hb dX5_waiting_87 rfl (lv_at hl 0 rfl) ?_
                  refine lv_iload_n hx hb dX5_waiting_88 rfl (lv_at hl 1 rfl) ?_
                  refine lv_iload hx hb dX5_waiting_89 (lv_at hl 8 rfl) ?_
                  obtain ⟨u44, hg, hf⟩ := ob_s hf
                  refine kc_calli (wn := fun _ => (wM cx aM xw xh xk xj xb xr u40.1 xv xn xl yR yT yC yW yA yE yU u40.2 yV yF yZ yI yD)) (va_runV (As := [.int x1, .int x8]) (rest := []) ⟨hx, hb, hml, hown, hts⟩ (metX5_heightOf l D cx aM xw xh xk xj xb xr u40.1 xv xn xl yR yT yC yW yA yE yU u40.2 yV yF yZ yI yD x1 x8 N H.size u44 hg) ⟨callB_of 2 hts (kc_gI wd_611) rfl rfl rfl (hts _ wd_46) (hts _ wd_608) (by decide +kernel) ⟨Nat.le_of_ble_eq_true rfl, Nat.le_of_ble_eq_true rfl⟩, hts _ wd_610, hts _ wd_23⟩ ⟨kc_blind _ _ _ _ _, va_recv hK hP (ci := 5) (q0 := 0) rfl rfl, kc_pre _ hK hN (hP.sub [0, 1, 2, 3, 4, 5, 6, 7, 8, 9, 10, 11, 12, 13] rfl) (hD.sub [0, 1, 2, 3, 4, 5, 6, 7, 8, 9, 10, 11, 12, 13] (by decide) rfl)⟩ rfl rfl hl.1 rfl (lv_room (Nat.le_of_ble_eq_true rfl)) dX5_waiting_91 ⟨Nat.zero_le _, Nat.zero_le _⟩) hP hD hS hA [0, 1, 2, 3, 4, 5, 6, 7, 8, 9, 10, 11, 12, 13] [] [0, 1, 2, 3, 4, 5, 6, 7, 8, 9, 10, 11, 12, 13] rfl rfl (by decide) (by decide) (fun _ => rfl) (by decide) (fun _ H locs hP hD hS => ?_)
                  have hP : va_P D classes (wM cx aM xw xh xk xj xb xr u40.1 xv xn xl yR yT yC yW yA yE yU u40.2 yV yF yZ yI yD) H := hP
                  have hD : va_D A (wM cx aM xw xh xk xj xb xr u40.1 xv xn xl yR yT yC yW yA yE yU u40.2 yV yF yZ yI yD) := hD
                  refine lv_aload_n hx hb dX5_waiting_94 rfl (lv_at hl 0 rfl) ?_
                  refine va_get (D := D) (ci := 5) (v := .int xh) (C := RX5) (T := TX5) (N := 23) hx hb hts iX5 hown hK hP 0 rfl rfl 1 (by decide) (hts _ wd_641) (fun _ h9 => h9) rfl dX5_waiting_95 ?_
                  refine lv_icmp_ge (tgt := 134) hx hb dX5_waiting_98 (by decide) (fun c45 => ?_) (fun c45 => ?_)
                  · replace hf := it_t c45 hf
                    refine lv_iinc (v := (x8 + (1 : Int32))) (lv' := [(8, .int (x8 + (1 : Int32))), (0, .ref (aM 0)), (1, .int x1), (2, .int x2), (3, .int (x2 - x2 / (2 : Int32) * (2 : Int32))), (4, .int u41), (5, .int u42), (6, .int x6), (7, .int x7)]) hx hb dX5_waiting_134 hl (k := 8) rfl rfl (by decide) rfl (fun ls hl => ?_)
                    refine lv_goto (tgt := 78) hx hb dX5_waiting_137 (by decide) ?_
                    exact ih x6 x7 (x8 + (1 : Int32)) _ hf H locs ls hP hD hS (lv_sub hl [1, 2, 3, 4, 5, 6, 7, 8, 0] rfl) hE
                  · replace hf := it_f c45 hf
                    refine lv_aload_n hx hb dX5_waiting_101 rfl (lv_at hl 0 rfl) ?_
                    refine lv_iload_n hx hb dX5_waiting_102 rfl (lv_at hl 1 rfl) ?_
                    refine lv_iload hx hb dX5_waiting_103 (lv_at hl 8 rfl) ?_
                    refine lv_iload hx hb dX5_waiting_105 (lv_at hl 4 rfl) ?_
                    refine lv_iload hx hb dX5_waiting_107 (lv_at hl 5 rfl) ?_
                    obtain ⟨u46, hg, hf⟩ := ob_s hf
                    refine kc_calli (wn := fun _ => (wM cx aM xw xh xk xj xb xr u40.1 xv xn xl yR yT yC yW yA yE yU u40.2 yV yF yZ yI yD)) (va_runV (As := [.int x1, .int x8, .int u41, .int u42]) (rest := []) ⟨hx, hb, hml, hown, hts⟩ (metX5_sortOf l D cx aM xw xh xk xj xb xr u40.1 xv xn xl yR yT yC yW yA yE yU u40.2 yV yF yZ yI yD x1 x8 u41 u42 N H.size u46 hg) ⟨callB_of 4 hts (kc_gI wd_821) rfl rfl rfl (hts _ wd_46) (hts _ wd_818) (by decide +kernel) ⟨Nat.le_of_ble_eq_true rfl, Nat.le_of_ble_eq_true rfl⟩, hts _ wd_820, hts _ wd_36⟩ ⟨kc_blind _ _ _ _ _, va_recv hK hP (ci := 5) (q0 := 0) rfl rfl, kc_pre _ hK hN (hP.sub [0, 1, 2, 3, 4, 5, 6, 7, 8, 9, 10, 11, 12, 13] rfl) (hD.sub [0, 1, 2, 3, 4, 5, 6, 7, 8, 9, 10, 11, 12, 13] (by decide) rfl)⟩ rfl rfl hl.1 rfl (lv_room (Nat.le_of_ble_eq_true rfl)) dX5_waiting_109 ⟨Nat.zero_le _, Nat.zero_le _⟩) hP hD hS hA [0, 1, 2, 3, 4, 5, 6, 7, 8, 9, 10, 11, 12, 13] [] [0, 1, 2, 3, 4, 5, 6, 7, 8, 9, 10, 11, 12, 13] rfl rfl (by decide) (by decide) (fun _ => rfl) (by decide) (fun _ H locs hP hD hS => ?_)
                    have hP : va_P D classes (wM cx aM xw xh xk xj xb xr u40.1 xv xn xl yR yT yC yW yA yE yU u40.2 yV yF yZ yI yD) H := hP
                    have hD : va_D A (wM cx aM xw xh xk xj xb xr u40.1 xv xn xl yR yT yC yW yA yE yU u40.2 yV yF yZ yI yD) := hD
                    refine lv_iload hx hb dX5_waiting_112 (lv_at hl 7 rfl) ?_
                    refine lv_icmp_ge (tgt := 134) hx hb dX5_waiting_114 (by decide) (fun c47 => ?_) (fun c47 => ?_)
                    · replace hf := it_t c47 hf
                      refine lv_iinc (v := (x8 + (1 : Int32))) (lv' := [(8, .int (x8 + (1 : Int32))), (0, .ref (aM 0)), (1, .int x1), (2, .int x2), (3, .int (x2 - x2 / (2 : Int32) * (2 : Int32))), (4, .int u41), (5, .int u42), (6, .int x6), (7, .int x7)]) hx hb dX5_waiting_134 hl (k := 8) rfl rfl (by decide) rfl (fun ls hl => ?_)
                      refine lv_goto (tgt := 78) hx hb dX5_waiting_137 (by decide) ?_
                      exact ih x6 x7 (x8 + (1 : Int32)) _ hf H locs ls hP hD hS (lv_sub hl [1, 2, 3, 4, 5, 6, 7, 8, 0] rfl) hE
                    · replace hf := it_f c47 hf
                      refine lv_iload hx hb dX5_waiting_117 (lv_at hl 8 rfl) ?_
                      refine lv_istore (lv' := [(6, .int x8), (0, .ref (aM 0)), (1, .int x1), (2, .int x2), (3, .int (x2 - x2 / (2 : Int32) * (2 : Int32))), (4, .int u41), (5, .int u42), (7, .int x7), (8, .int x8)]) hx hb dX5_waiting_119 hl (by decide) rfl (fun ls hl => ?_)
                      refine lv_aload_n hx hb dX5_waiting_121 rfl (lv_at hl 1 rfl) ?_
                      refine lv_iload_n hx hb dX5_waiting_122 rfl (lv_at hl 2 rfl) ?_
                      refine lv_iload hx hb dX5_waiting_123 (lv_at hl 8 rfl) ?_
                      refine lv_iload hx hb dX5_waiting_125 (lv_at hl 5 rfl) ?_
                      refine lv_iload hx hb dX5_waiting_127 (lv_at hl 6 rfl) ?_
                      obtain ⟨u48, hg, hf⟩ := ob_s hf
                      refine kc_calli (wn := fun _ => (wM cx aM xw xh xk xj xb xr u40.1 xv xn xl yR yT yC yW yA yE yU u40.2 yV yF yZ yI yD)) (va_runV (As := [.int x1, .int x8, .int u41, .int u42]) (rest := []) ⟨hx, hb, hml, hown, hts⟩ (metX5_sortOf l D cx aM xw xh xk xj xb xr u40.1 xv xn xl yR yT yC yW yA yE yU u40.2 yV yF yZ yI yD x1 x8 u41 u42 N H.size u48 hg) ⟨callB_of 4 hts (kc_gI wd_821) rfl rfl rfl (hts _ wd_46) (hts _ wd_818) (by decide +kernel) ⟨Nat.le_of_ble_eq_true rfl, Nat.le_of_ble_eq_true rfl⟩, hts _ wd_820, hts _ wd_36⟩ ⟨kc_blind _ _ _ _ _, va_recv hK hP (ci := 5) (q0 := 0) rfl rfl, kc_pre _ hK hN (hP.sub [0, 1, 2, 3, 4, 5, 6, 7, 8, 9, 10, 11, 12, 13] rfl) (hD.sub [0, 1, 2, 3, 4, 5, 6, 7, 8, 9, 10, 11, 12, 13] (by decide) rfl)⟩ rfl rfl hl.1 rfl (lv_room (Nat.le_of_ble_eq_true rfl)) dX5_waiting_129 ⟨Nat.zero_le _, Nat.zero_le _⟩) hP hD hS hA [0, 1, 2, 3, 4, 5, 6, 7, 8, 9, 10, 11, 12, 13] [] [0, 1, 2, 3, 4, 5, 6, 7, 8, 9, 10, 11, 12, 13] rfl rfl (by decide) (by decide) (fun _ => rfl) (by decide) (fun _ H locs hP hD hS => ?_)
                      have hP : va_P D classes (wM cx aM xw xh xk xj xb xr u40.1 xv xn xl yR yT yC yW yA yE yU u40.2 yV yF yZ yI yD) H := hP
                      have hD : va_D A (wM cx aM xw xh xk xj xb xr u40.1 xv xn xl yR yT yC yW yA yE yU u40.2 yV yF yZ yI yD) := hD
                      refine lv_istore (lv' := [(7, .int u48), (6, .int x8), (0, .ref (aM 0)), (1, .int x1), (2, .int x2), (3, .int (x2 - x2 / (2 : Int32) * (2 : Int32))), (4, .int u41), (5, .int u42), (8, .int x8)]) hx hb dX5_waiting_132 hl (by decide) rfl (fun ls hl => ?_)
                      refine lv_iinc (v := (x8 + (1 : Int32))) (lv' := [(8, .int (x8 + (1 : Int32))), (7, .int u48), (6, .int x8), (0, .ref (aM 0)), (1, .int x1), (2, .int x2), (3, .int (x2 - x2 / (2 : Int32) * (2 : Int32))), (4, .int u41), (5, .int u42)]) hx hb dX5_waiting_134 hl (k := 8) rfl rfl (by decide) rfl (fun ls hl => ?_)
                      refine lv_goto (tgt := 78) hx hb dX5_waiting_137 (by decide) ?_
                      exact ih x8 u48 (x8 + (1 : Int32)) _ hf H locs ls hP hD hS (lv_sub hl [3, 4, 5, 6, 7, 8, 2, 1, 0] rfl) hE
            obtain ⟨u49, hg, hf⟩ := ob_s hf
            refine L78 _ (-1 : Int32) (9 : Int32) (0 : Int32) u49 hg H locs ls hP hD hS (lv_sub hl [6, 7, 8, 5, 4, 3, 2, 1, 0] rfl) (fun H locs ls hP hD hS hl => ?_)
            refine lv_aload_n hx hb dX5_waiting_140 rfl (lv_at hl 0 rfl) ?_
            refine lv_iload_n hx hb dX5_waiting_141 rfl (lv_at hl 1 rfl) ?_
            refine lv_iload hx hb dX5_waiting_142 (lv_at hl 4 rfl) ?_
            refine lv_iload_n hx hb dX5_waiting_144 rfl (lv_at hl 3 rfl) ?_
            obtain ⟨u50, hg, hf⟩ := ob_s hf
            refine kc_calli (wn := fun _ => (wM cx aM xw xh xk xj xb xr u40.1 xv xn xl yR yT yC yW yA yE yU u40.2 yV yF yZ yI yD)) (va_runV (As := [.int x1, .int u49, .int (x2 - x2 / (2 : Int32) * (2 : Int32))]) (rest := []) ⟨hx, hb, hml, hown, hts⟩ (metX5_dropped l D cx aM xw xh xk xj xb xr u40.1 xv xn xl yR yT yC yW yA yE yU u40.2 yV yF yZ yI yD x1 u49 (x2 - x2 / (2 : Int32) * (2 : Int32)) N H.size u50 hg) ⟨callB_of 3 hts (kc_gI wd_623) rfl rfl rfl (hts _ wd_46) (hts _ wd_620) (by decide +kernel) ⟨Nat.le_of_ble_eq_true rfl, Nat.le_of_ble_eq_true rfl⟩, hts _ wd_622, hts _ wd_26⟩ ⟨kc_blind _ _ _ _ _, va_recv hK hP (ci := 5) (q0 := 0) rfl rfl, kc_pre _ hK hN (hP.sub [0, 1, 2, 3, 4, 5, 6, 7, 8, 9, 10, 11, 12, 13] rfl) (hD.sub [0, 1, 2, 3, 4, 5, 6, 7, 8, 9, 10, 11, 12, 13] (by decide) rfl)⟩ rfl rfl hl.1 rfl (lv_room (Nat.le_of_ble_eq_true rfl)) dX5_waiting_145 ⟨Nat.zero_le _, Nat.zero_le _⟩) hP hD hS hA [0, 1, 2, 3, 4, 5, 6, 7, 8, 9, 10, 11, 12, 13] [] [0, 1, 2, 3, 4, 5, 6, 7, 8, 9, 10, 11, 12, 13] rfl rfl (by decide) (by decide) (fun _ => rfl) (by decide) (fun _ H locs hP hD hS => ?_)
            have hP : va_P D classes (wM cx aM xw xh xk xj xb xr u40.1 xv xn xl yR yT yC yW yA yE yU u40.2 yV yF yZ yI yD) H := hP
            have hD : va_D A (wM cx aM xw xh xk xj xb xr u40.1 xv xn xl yR yT yC yW yA yE yU u40.2 yV yF yZ yI yD) := hD
            refine lv_istore_n (lv' := [(1, .int u50), (0, .ref (aM 0)), (2, .int x2), (3, .int (x2 - x2 / (2 : Int32) * (2 : Int32))), (6, .int u49)]) hx hb dX5_waiting_148 rfl hl (by decide) rfl (fun ls hl => ?_)
            refine lv_iinc (v := (x2 + (1 : Int32))) (lv' := [(2, .int (x2 + (1 : Int32))), (1, .int u50), (0, .ref (aM 0)), (3, .int (x2 - x2 / (2 : Int32) * (2 : Int32))), (6, .int u49)]) hx hb dX5_waiting_149 hl (k := 2) rfl rfl (by decide) rfl (fun ls hl => ?_)
            refine lv_goto (tgt := 21) hx hb dX5_waiting_152 (by decide) ?_
            exact ih u40.1 u40.2 u50 (x2 + (1 : Int32)) _ hf H locs ls hP hD hS (lv_sub hl [2, 1, 0] rfl) hE
    obtain ⟨u51, hg, hf⟩ := ob_s hf
    refine L21 _ xc yM xn xv u51 hg H locs ls hP hD hS (lv_sub hl [2, 1, 0] rfl) (fun H locs ls hP hD hS hl => ?_)
    refine lv_aload_n hx hb dX5_waiting_155 rfl (lv_at hl 0 rfl) ?_
    refine va_get (D := D) (ci := 5) (v := .ref (aM 2)) (C := RX5) (T := TX5) (N := 23) hx hb hts iX5 hown hK hP 0 rfl rfl 7 (by decide) (hts _ wd_647) (fun _ h9 => h9) rfl dX5_waiting_156 ?_
    refine lv_iload_n hx hb dX5_waiting_159 rfl (lv_at hl 1 rfl) ?_
    obtain ⟨hz, hf⟩ := okb_s hf
    refine va_bald (D := D) hx hb hK hP 2 1 rfl rfl (inb_s hz) dX5_waiting_160 ?_
    refine lv_bipush (v := (126 : Int32)) hx hb dX5_waiting_161 (by decide) ?_
    refine lv_icmp_ne (tgt := 170) hx hb dX5_waiting_163 (by decide) (fun c52 => ?_) (fun c52 => ?_)
    · replace hf := it_f c52 hf
      refine lv_iload_n hx hb dX5_waiting_170 rfl (lv_at hl 2 rfl) ?_
      refine lv_iconst (v := (2 : Int32)) hx hb dX5_waiting_171 (by decide) ?_
      refine lv_irem hx hb dX5_waiting_172 (by decide) ?_
      refine lv_iconst (v := (1 : Int32)) hx hb dX5_waiting_173 (by decide) ?_
      refine lv_icmp_ne (tgt := 181) hx hb dX5_waiting_174 (by decide) (fun c53 => ?_) (fun c53 => ?_)
      · replace hf := it_f c53 hf
        refine lv_iconst (v := (-1 : Int32)) hx hb dX5_waiting_181 (by decide) ?_
        obtain rfl := Option.some.inj hf
        exact kc_iret () hx hb hr hk hP hD hS rfl dX5_waiting_182
      · replace hf := it_t c53 hf
        refine lv_iconst (v := (1 : Int32)) hx hb dX5_waiting_177 (by decide) ?_
        refine lv_goto (tgt := 182) hx hb dX5_waiting_178 (by decide) ?_
        obtain rfl := Option.some.inj hf
        exact kc_iret () hx hb hr hk hP hD hS rfl dX5_waiting_182
    · replace hf := it_t c52 hf
      refine lv_iconst (v := (0 : Int32)) hx hb dX5_waiting_166 (by decide) ?_
      refine lv_goto (tgt := 182) hx hb dX5_waiting_167 (by decide) ?_
      obtain rfl := Option.some.inj hf
      exact kc_iret () hx hb hr hk hP hD hS rfl dX5_waiting_182
  · replace hf := it_f c18 hf
    refine lv_sipush (v := (-201 : Int32)) hx hb dX5_waiting_7 (by decide) ?_
    obtain rfl := Option.some.inj hf
    exact kc_iret () hx hb hr hk hP hD hS rfl dX5_waiting_10
