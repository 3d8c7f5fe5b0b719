/-! walks, written by program: what a method answers and leaves, as a function; its contract -/
abbrev rmX5_in : Room := { frames := 0, cells := 0, slots := 0, locals := 0 }
set_option maxHeartbeats 4000000 in
set_option maxRecDepth 100000 in
theorem metX5_in (l : Launch) (D : va_G) (cx : Nat → ClassId)   (x0 : Int64) (x2 : Int64) (x4 : Int64) (N : Nat) (sz : Nat) (v : Int32) (hf : fX5_in N x0 x2 x4 = some v) : Met l yX5_in (.code yX5_in cX5_in 6 (some .boolean) :: kc_TB) rmX5_in (kc_Pre D cx ([] : va_W) [.long x0, .long x2, .long x4] sz) (kc_Pi D (fun _ : Unit => ([] : va_W)) v (va_A ([] : va_W) sz)) 0 0 (va_A ([] : va_W) sz) := by
  refine kc_entry (Qc := fun A => (kc_Pi D (fun _ : Unit => ([] : va_W)) v A)) (by decide) (Nat.le_of_ble_eq_true rfl) ?_
  intro p e s m below meth c A hx hb hr hk hml hown hin hts hN hK hP hD hS hA ls hl
  have hown : s.vm.findClass RX5 = some m.cls := hown
  have hl : lv_has ls 6 [(0, .long x0), (2, .long x2), (4, .long x4)] := hl
  unfold fX5_in at hf
  have hP : va_P D classes ([] : va_W) s.heap := hP
  obtain ⟨H, hH⟩ : ∃ H, H = s.heap := ⟨_, rfl⟩
  obtain ⟨locs, hL⟩ : ∃ locs : List Loc, locs = [] := ⟨_, rfl⟩
  have hS : va_S A s.heap H locs := by rw [hH, hL]; exact hS
  have hP : va_P D classes ([] : va_W) H := by rw [hH]; exact hP
  suffices hW : W p l e rmX5_in s m ([.long x0, .long x2, .long x4] : List Value).toArray below meth c H locs 0 0 (MQ below (kc_Pi D (fun _ : Unit => ([] : va_W)) v A) ([.long x0, .long x2, .long x4] : List Value).toArray s 0 0 A) (F0 m 0 ls []) by rw [hH, hL] at hW; exact hW
  clear hH hL
  refine lv_lload_n hx hb dX5_in_0 rfl (lv_at hl 0 rfl) ?_
  refine lv_lload_n hx hb dX5_in_1 rfl (lv_at hl 1 rfl) ?_
  refine W.lcmp hx hb dX5_in_2 ?_
  refine lv_if_lt (tgt := 17) hx hb dX5_in_3 (by decide) (fun c3 => ?_) (fun c3 => ?_)
  · replace hf := it_t c3 hf
    refine lv_iconst (v := (0 : Int32)) hx hb dX5_in_17 (by decide) ?_
    obtain rfl := Option.some.inj hf
    exact kc_zret () hx hb hr hk hP hD hS rfl rfl dX5_in_18
  · replace hf := it_f c3 hf
    refine lv_lload_n hx hb dX5_in_6 rfl (lv_at hl 0 rfl) ?_
    refine lv_lload hx hb dX5_in_7 (lv_at hl 2 rfl) ?_
    refine W.lcmp hx hb dX5_in_9 ?_
    refine lv_if_gt (tgt := 17) hx hb dX5_in_10 (by decide) (fun c4 => ?_) (fun c4 => ?_)
    · replace hf := it_t c4 hf
      refine lv_iconst (v := (0 : Int32)) hx hb dX5_in_17 (by decide) ?_
      obtain rfl := Option.some.inj hf
      exact kc_zret () hx hb hr hk hP hD hS rfl rfl dX5_in_18
    · replace hf := it_f c4 hf
      refine lv_iconst (v := (1 : Int32)) hx hb dX5_in_13 (by decide) ?_
      refine lv_goto (tgt := 18) hx hb dX5_in_14 (by decide) ?_
      obtain rfl := Option.some.inj hf
      exact kc_zret () hx hb hr hk hP hD hS rfl rfl dX5_in_18
abbrev rmX5_squaresOf : Room := { frames := 1, cells := 0, slots := 0, locals := 25 }
set_option maxHeartbeats 4000000 in
set_option maxRecDepth 100000 in
theorem metX5_squaresOf (l : Launch) (D : va_G) (cx : Nat → ClassId) (aM : Nat → Nat) (xw : Int32) (xh : Int32) (xk : Int32) (xj : Int32) (xb : Int32) (xr : Int32) (xc : Int32) (xv : Int32) (xn : Int32) (xl : Int32) (yR : Nat → Int32) (yT : Nat → Int32) (yC : Nat → Int32) (yW : Nat → Int32) (yA : Nat → Int32) (yE : Nat → Int32) (yU : Nat → Int32) (yM : Nat → Int32) (yV : Nat → Int32) (yF : Nat → Int32) (yZ : Nat → Int32) (yI : Nat → Int32) (yD : Nat → Int32) (x1 : Int32) (x2 : Int32) (x3 : Int32) (x4 : Int32) (N : Nat) (sz : Nat) (v : Int32) (hf : fX5_squaresOf N xw xh xk xj x1 x2 x3 x4 = some v) : Met l yX5_squaresOf (.code yX5_squaresOf cX5_squaresOf 10 (some .int) :: kc_TB) rmX5_squaresOf (kc_Pre D cx (wM cx aM xw xh xk xj xb xr xc xv xn xl yR yT yC yW yA yE yU yM yV yF yZ yI yD) [.ref (aM 0), .int x1, .int x2, .int x3, .int x4] sz) (kc_Pi D (fun _ : Unit => (wM cx aM xw xh xk xj xb xr xc xv xn xl yR yT yC yW yA yE yU yM yV yF yZ yI yD)) v (va_A (wM cx aM xw xh xk xj xb xr xc xv xn xl yR yT yC yW yA yE yU yM yV yF yZ yI yD) sz)) 0 0 (va_A (wM cx aM xw xh xk xj xb xr xc xv xn xl yR yT yC yW yA yE yU yM yV yF yZ yI yD) sz) := by
  refine kc_entry (Qc := fun A => (kc_Pi D (fun _ : Unit => (wM cx aM xw xh xk xj xb xr xc xv xn xl yR yT yC yW yA yE yU yM yV yF yZ yI yD)) v A)) (by decide) (Nat.le_of_ble_eq_true rfl) ?_
  intro p e s m below meth c A hx hb hr hk hml hown hin hts hN hK hP hD hS hA ls hl
  have hown : s.vm.findClass RX5 = some m.cls := hown
  have hl : lv_has ls 10 [(0, .ref (aM 0)), (1, .int x1), (2, .int x2), (3, .int x3), (4, .int x4)] := hl
  unfold fX5_squaresOf at hf
  have hP : va_P D classes (wM cx aM xw xh xk xj xb xr xc xv xn xl yR yT yC yW yA yE yU yM yV yF yZ yI yD) s.heap := hP
  obtain ⟨H, hH⟩ : ∃ H, H = s.heap := ⟨_, rfl⟩
  obtain ⟨locs, hL⟩ : ∃ locs : List Loc, locs = [] := ⟨_, rfl⟩
  have hS : va_S A s.heap H locs := by rw [hH, hL]; exact hS
  have hP : va_P D classes (wM cx aM xw xh xk xj xb xr xc xv xn xl yR yT yC yW yA yE yU yM yV yF yZ yI yD) H := by rw [hH]; exact hP
  suffices hW : W p l e rmX5_squaresOf s m ([.ref (aM 0), .int x1, .int x2, .int x3, .int x4] : List Value).toArray below meth c H locs 0 0 (MQ below (kc_Pi D (fun _ : Unit => (wM cx aM xw xh xk xj xb xr xc xv xn xl yR yT yC yW yA yE yU yM yV yF yZ yI yD)) v A) ([.ref (aM 0), .int x1, .int x2, .int x3, .int x4] : List Value).toArray s 0 0 A) (F0 m 0 ls []) by rw [hH, hL] at hW; exact hW
  clear hH hL
  refine lv_iconst (v := (0 : Int32)) hx hb dX5_squaresOf_0 (by decide) ?_
  refine lv_istore (lv' := [(5, .int (0 : Int32)), (0, .ref (aM 0)), (1, .int x1), (2, .int x2), (3, .int x3), (4, .int x4)]) hx hb dX5_squaresOf_1 hl (by decide) rfl (fun ls hl => ?_)
  refine lv_iload_n hx hb dX5_squaresOf_3 rfl (lv_at hl 2 rfl) ?_
  refine lv_istore (lv' := [(6, .int x1), (5, .int (0 : Int32)), (0, .ref (aM 0)), (1, .int x1), (2, .int x2), (3, .int x3), (4, .int x4)]) hx hb dX5_squaresOf_4 hl (by decide) rfl (fun ls hl => ?_)
  refine lv_iload_n hx hb dX5_squaresOf_6 rfl (lv_at hl 4 rfl) ?_
  refine lv_istore (lv' := [(7, .int x2), (6, .int x1), (5, .int (0 : Int32)), (0, .ref (aM 0)), (1, .int x1), (2, .int x2), (3, .int x3), (4, .int x4)]) hx hb dX5_squaresOf_7 hl (by decide) rfl (fun ls hl => ?_)
  refine lv_iconst (v := (0 : Int32)) hx hb dX5_squaresOf_9 (by decide) ?_
  refine lv_istore (lv' := [(8, .int (0 : Int32)), (7, .int x2), (6, .int x1), (5, .int (0 : Int32)), (0, .ref (aM 0)), (1, .int x1), (2, .int x2), (3, .int x3), (4, .int x4)]) hx hb dX5_squaresOf_10 hl (by decide) rfl (fun ls hl => ?_)
  have L12 : ∀ (ct : Nat) (x5 : Int32) (x6 : Int32) (x7 : Int32) (x8 : Int32) (v12 : (Int32) ⊕ (Int32)), fX5_squaresOf_L12 N xw xh xk xj x3 x4 ct x5 x6 x7 x8 = some v12 → ∀ (H : Heap) (locs : List Loc) (ls : Array Slot), va_P D classes (wM cx aM xw xh xk xj xb xr xc xv xn xl yR yT yC yW yA yE yU yM yV yF yZ yI yD) H → va_D A (wM cx aM xw xh xk xj xb xr xc xv xn xl yR yT yC yW yA yE yU yM yV yF yZ yI yD) → va_S A s.heap H locs → lv_has ls 10 [(0, .ref (aM 0)), (3, .int x3), (4, .int x4), (5, .int x5), (6, .int x6), (7, .int x7), (8, .int x8)] → (∀ (e12 : Int32), v12 = .inr e12 → ∀ (H : Heap) (locs : List Loc) (ls : Array Slot), va_P D classes (wM cx aM xw xh xk xj xb xr xc xv xn xl yR yT yC yW yA yE yU yM yV yF yZ yI yD) H → va_D A (wM cx aM xw xh xk xj xb xr xc xv xn xl yR yT yC yW yA yE yU yM yV yF yZ yI yD) → va_S A s.heap H locs → lv_has ls 10 [(5, .int e12)] → W p l e rmX5_squaresOf s m ([.ref (aM 0), .int x1, .int x2, .int x3, .int x4] : List Value).toArray below meth c H locs 0 0 (MQ below (kc_Pi D (fun _ : Unit => (wM cx aM xw xh xk xj xb xr xc xv xn xl yR yT yC yW yA yE yU yM yV yF yZ yI yD)) v A) ([.ref (aM 0), .int x1, .int x2, .int x3, .int x4] : List Value).toArray s 0 0 A) (F0 m 137 ls [])) → (∀ (r12 : Int32), v12 = .inl r12 → ∀ (pc : Nat) (H : Heap) (locs : List Loc) (ls : Array Slot), va_P D classes (wM cx aM xw xh xk xj xb xr xc xv xn xl yR yT yC yW yA yE yU yM yV yF yZ yI yD) H → va_D A (wM cx aM xw xh xk xj xb xr xc xv xn xl yR yT yC yW yA yE yU yM yV yF yZ yI yD) → va_S A s.heap H locs → decode cX5_squaresOf pc = .ok (.ireturn, 1) → W p l e rmX5_squaresOf s m ([.ref (aM 0), .int x1, .int x2, .int x3, .int x4] : List Value).toArray below meth c H locs 0 0 (MQ below (kc_Pi D (fun _ : Unit => (wM cx aM xw xh xk xj xb xr xc xv xn xl yR yT yC yW yA yE yU yM yV yF yZ yI yD)) v A) ([.ref (aM 0), .int x1, .int x2, .int x3, .int x4] : List Value).toArray s 0 0 A) (F0 m pc ls [.int r12])) → W p l e rmX5_squaresOf s m ([.ref (aM 0), .int x1, .int x2, .int x3, .int x4] : List Value).toArray below meth c H locs 0 0 (MQ below (kc_Pi D (fun _ : Unit => (wM cx aM xw xh xk xj xb xr xc xv xn xl yR yT yC yW yA yE yU yM yV yF yZ yI yD)) v A) ([.ref (aM 0), .int x1, .int x2, .int x3, .int x4] : List Value).toArray s 0 0 A) (F0 m 12 ls []) := by
    intro ct
    induction ct with
    | zero =>
      intro x5 x6 x7 x8 v12 hf
      exact absurd (show (none : Option ((Int32) ⊕ (Int32))) = some v12 from hf) (fun q => by cases q)
    | succ ct ih =>
      intro x5 x6 x7 x8 v12 hf H locs ls hP hD hS hl hE hR
      rw [fX5_squaresOf_L12] at hf
      refine lv_iload hx hb dX5_squaresOf_12 (lv_at hl 6 rfl) ?_
      refine lv_aload_n hx hb dX5_squaresOf_14 rfl (lv_at hl 0 rfl) ?_
      refine va_get (D := D) (ci := 5) (v := .int xk) (C := RX5) (T := TX5) (N := 23) hx hb hts iX5 hown hK hP 0 rfl rfl 2 (by decide) (hts _ wd_642) (fun _ h9 => h9) rfl dX5_squaresOf_15 ?_
      refine lv_icmp_ge (tgt := 137) hx hb dX5_squaresOf_18 (by decide) (fun c17 => ?_) (fun c17 => ?_)
      · replace hf := it_t c17 hf
        obtain rfl := Option.some.inj hf
        exact hE _ rfl H locs ls hP hD hS (lv_sub hl [3] rfl)
      · replace hf := it_f c17 hf
        refine lv_iload hx hb dX5_squaresOf_21 (lv_at hl 4 rfl) ?_
        refine lv_i2l hx hb dX5_squaresOf_23 rfl ?_
        refine lv_lconst (v := (0 : Int64)) hx hb dX5_squaresOf_24 (by decide) ?_
        refine lv_aload_n hx hb dX5_squaresOf_25 rfl (lv_at hl 0 rfl) ?_
        refine va_get (D := D) (ci := 5) (v := .int xw) (C := RX5) (T := TX5) (N := 23) hx hb hts iX5 hown hK hP 0 rfl rfl 0 (by decide) (hts _ wd_640) (fun _ h9 => h9) rfl dX5_squaresOf_26 ?_
        refine lv_iconst (v := (1 : Int32)) hx hb dX5_squaresOf_29 (by decide) ?_
        refine lv_isub hx hb dX5_squaresOf_30 ?_
        refine lv_i2l hx hb dX5_squaresOf_31 rfl ?_
        obtain ⟨u18, hg, hf⟩ := ob_s hf
        refine kc_calli (wn := fun _ => (wM cx aM xw xh xk xj xb xr xc xv xn xl yR yT yC yW yA yE yU yM yV yF yZ yI yD)) (va_runS (As := [.long x6.toInt64, .long (0 : Int64), .long (xw - (1 : Int32)).toInt64]) (rest := []) ⟨hx, hb, hml, hown, hts⟩ (metX5_in l D cx   x6.toInt64 (0 : Int64) (xw - (1 : Int32)).toInt64 N H.size u18 hg) ⟨callB_of 3 hts (kc_gI wd_587) rfl rfl rfl (hts _ wd_46) (hts _ wd_585) (by decide +kernel) ⟨Nat.le_of_ble_eq_true rfl, Nat.le_of_ble_eq_true rfl⟩, hts _ wd_586⟩ ⟨kc_blind _ _ _ _ _, kc_pre _ hK hN (hP.sub [] rfl) (hD.sub [] (by decide) rfl)⟩ rfl rfl hl.1 rfl (lv_room (Nat.le_of_ble_eq_true rfl)) dX5_squaresOf_32 ⟨Nat.zero_le _, Nat.zero_le _⟩) hP hD hS hA [] [0, 1, 2, 3, 4, 5, 6, 7, 8, 9, 10, 11, 12, 13] [0, 1, 2, 3, 4, 5, 6, 7, 8, 9, 10, 11, 12, 13] rfl rfl (by decide) (by decide) (fun _ => rfl) (by decide) (fun _ H locs hP hD hS => ?_)
        have hP : va_P D classes (wM cx aM xw xh xk xj xb xr xc xv xn xl yR yT yC yW yA yE yU yM yV yF yZ yI yD) H := hP
        have hD : va_D A (wM cx aM xw xh xk xj xb xr xc xv xn xl yR yT yC yW yA yE yU yM yV yF yZ yI yD) := hD
        refine lv_if_eq (tgt := 47) hx hb dX5_squaresOf_35 (by decide) (fun c19 => ?_) (fun c19 => ?_)
        · replace hf := it_t c19 hf
          refine lv_iconst (v := (0 : Int32)) hx hb dX5_squaresOf_47 (by decide) ?_
          obtain rfl := Option.some.inj hf
          exact hR _ rfl _ H locs ls hP hD hS dX5_squaresOf_48
        · replace hf := it_f c19 hf
          refine lv_iload hx hb dX5_squaresOf_38 (lv_at hl 5 rfl) ?_
          refine lv_aload_n hx hb dX5_squaresOf_40 rfl (lv_at hl 0 rfl) ?_
          refine va_get (D := D) (ci := 5) (v := .int xh) (C := RX5) (T := TX5) (N := 23) hx hb hts iX5 hown hK hP 0 rfl rfl 1 (by decide) (hts _ wd_641) (fun _ h9 => h9) rfl dX5_squaresOf_41 ?_
          refine lv_icmp_lt (tgt := 49) hx hb dX5_squaresOf_44 (by decide) (fun c20 => ?_) (fun c20 => ?_)
          · replace hf := it_t c20 hf
            refine lv_iconst (v := (1 : Int32)) hx hb dX5_squaresOf_49 (by decide) ?_
            refine lv_aload_n hx hb dX5_squaresOf_50 rfl (lv_at hl 0 rfl) ?_
            refine va_get (D := D) (ci := 5) (v := .int xw) (C := RX5) (T := TX5) (N := 23) hx hb hts iX5 hown hK hP 0 rfl rfl 0 (by decide) (hts _ wd_640) (fun _ h9 => h9) rfl dX5_squaresOf_51 ?_
            refine lv_iload hx hb dX5_squaresOf_54 (lv_at hl 5 rfl) ?_
            refine lv_imul hx hb dX5_squaresOf_56 ?_
            refine lv_iload hx hb dX5_squaresOf_57 (lv_at hl 4 rfl) ?_
            refine lv_iadd hx hb dX5_squaresOf_59 ?_
            refine lv_ishl hx hb dX5_squaresOf_60 ?_
            refine lv_istore (lv' := [(9, .int ((1 : Int32) <<< (((xw * x7) + x6) &&& 31))), (0, .ref (aM 0)), (3, .int x3), (4, .int x4), (5, .int x5), (6, .int x6), (7, .int x7), (8, .int x8)]) hx hb dX5_squaresOf_61 hl (by decide) rfl (fun ls hl => ?_)
            refine lv_iload hx hb dX5_squaresOf_63 (lv_at hl 4 rfl) ?_
            refine lv_iload hx hb dX5_squaresOf_65 (lv_at hl 0 rfl) ?_
            refine lv_iand hx hb dX5_squaresOf_67 ?_
            refine lv_if_eq (tgt := 73) hx hb dX5_squaresOf_68 (by decide) (fun c21 => ?_) (fun c21 => ?_)
            · replace hf := it_t c21 hf
              refine lv_iload hx hb dX5_squaresOf_73 (lv_at hl 4 rfl) ?_
              refine lv_iload hx hb dX5_squaresOf_75 (lv_at hl 0 rfl) ?_
              refine lv_ior hx hb dX5_squaresOf_77 ?_
              refine lv_istore (lv' := [(5, .int (x5 ||| ((1 : Int32) <<< (((xw * x7) + x6) &&& 31)))), (9, .int ((1 : Int32) <<< (((xw * x7) + x6) &&& 31))), (0, .ref (aM 0)), (3, .int x3), (4, .int x4), (6, .int x6), (7, .int x7), (8, .int x8)]) hx hb dX5_squaresOf_78 hl (by decide) rfl (fun ls hl => ?_)
              refine lv_iload hx hb dX5_squaresOf_80 (lv_at hl 5 rfl) ?_
              refine lv_iload_n hx hb dX5_squaresOf_82 rfl (lv_at hl 3 rfl) ?_
              refine lv_iadd hx hb dX5_squaresOf_83 ?_
              refine lv_istore (lv' := [(6, .int (x6 + x3)), (5, .int (x5 ||| ((1 : Int32) <<< (((xw * x7) + x6) &&& 31)))), (9, .int ((1 : Int32) <<< (((xw * x7) + x6) &&& 31))), (0, .ref (aM 0)), (3, .int x3), (4, .int x4), (7, .int x7), (8, .int x8)]) hx hb dX5_squaresOf_84 hl (by decide) rfl (fun ls hl => ?_)
              refine lv_iload hx hb dX5_squaresOf_86 (lv_at hl 6 rfl) ?_
              refine lv_iload hx hb dX5_squaresOf_88 (lv_at hl 5 rfl) ?_
              refine lv_iadd hx hb dX5_squaresOf_90 ?_
              refine lv_istore (lv' := [(7, .int (x7 + x4)), (6, .int (x6 + x3)), (5, .int (x5 ||| ((1 : Int32) <<< (((xw * x7) + x6) &&& 31)))), (9, .int ((1 : Int32) <<< (((xw * x7) + x6) &&& 31))), (0, .ref (aM 0)), (3, .int x3), (4, .int x4), (8, .int x8)]) hx hb dX5_squaresOf_91 hl (by decide) rfl (fun ls hl => ?_)
              refine lv_aload_n hx hb dX5_squaresOf_93 rfl (lv_at hl 4 rfl) ?_
              refine va_get (D := D) (ci := 5) (v := .int xj) (C := RX5) (T := TX5) (N := 23) hx hb hts iX5 hown hK hP 0 rfl rfl 3 (by decide) (hts _ wd_643) (fun _ h9 => h9) rfl dX5_squaresOf_94 ?_
              refine lv_if_eq (tgt := 131) hx hb dX5_squaresOf_97 (by decide) (fun c22 => ?_) (fun c22 => ?_)
              · replace hf := it_t c22 hf
                refine lv_iinc (v := (x8 + (1 : Int32))) (lv' := [(8, .int (x8 + (1 : Int32))), (7, .int (x7 + x4)), (6, .int (x6 + x3)), (5, .int (x5 ||| ((1 : Int32) <<< (((xw * x7) + x6) &&& 31)))), (9, .int ((1 : Int32) <<< (((xw * x7) + x6) &&& 31))), (0, .ref (aM 0)), (3, .int x3), (4, .int x4)]) hx hb dX5_squaresOf_131 hl (k := 7) rfl rfl (by decide) rfl (fun ls hl => ?_)
                refine lv_goto (tgt := 12) hx hb dX5_squaresOf_134 (by decide) ?_
                exact ih (x5 ||| ((1 : Int32) <<< (((xw * x7) + x6) &&& 31))) (x6 + x3) (x7 + x4) (x8 + (1 : Int32)) _ hf H locs ls hP hD hS (lv_sub hl [5, 6, 7, 3, 2, 1, 0] rfl) hE hR
              · replace hf := it_f c22 hf
                refine lv_iload hx hb dX5_squaresOf_100 (lv_at hl 1 rfl) ?_
                refine lv_if_ge (tgt := 114) hx hb dX5_squaresOf_102 (by decide) (fun c23 => ?_) (fun c23 => ?_)
                · replace hf := it_t c23 hf
                  refine lv_iload hx hb dX5_squaresOf_114 (lv_at hl 1 rfl) ?_
                  refine lv_aload_n hx hb dX5_squaresOf_116 rfl (lv_at hl 4 rfl) ?_
                  refine va_get (D := D) (ci := 5) (v := .int xw) (C := RX5) (T := TX5) (N := 23) hx hb hts iX5 hown hK hP 0 rfl rfl 0 (by decide) (hts _ wd_640) (fun _ h9 => h9) rfl dX5_squaresOf_117 ?_
                  refine lv_icmp_ne (tgt := 127) hx hb dX5_squaresOf_120 (by decide) (fun c24 => ?_) (fun c24 => ?_)
                  · replace hf := it_f c24 hf
                    refine lv_iload hx hb dX5_squaresOf_127 (lv_at hl 1 rfl) ?_
                    refine lv_istore (lv' := [(6, .int (x6 + x3)), (7, .int (x7 + x4)), (5, .int (x5 ||| ((1 : Int32) <<< (((xw * x7) + x6) &&& 31)))), (9, .int ((1 : Int32) <<< (((xw * x7) + x6) &&& 31))), (0, .ref (aM 0)), (3, .int x3), (4, .int x4), (8, .int x8)]) hx hb dX5_squaresOf_129 hl (by decide) rfl (fun ls hl => ?_)
                    refine lv_iinc (v := (x8 + (1 : Int32))) (lv' := [(8, .int (x8 + (1 : Int32))), (6, .int (x6 + x3)), (7, .int (x7 + x4)), (5, .int (x5 ||| ((1 : Int32) <<< (((xw * x7) + x6) &&& 31)))), (9, .int ((1 : Int32) <<< (((xw * x7) + x6) &&& 31))), (0, .ref (aM 0)), (3, .int x3), (4, .int x4)]) hx hb dX5_squaresOf_131 hl (k := 7) rfl rfl (by decide) rfl (fun ls hl => ?_)
                    refine lv_goto (tgt := 12) hx hb dX5_squaresOf_134 (by decide) ?_
                    exact ih (x5 ||| ((1 : Int32) <<< (((xw * x7) + x6) &&& 31))) (x6 + x3) (x7 + x4) (x8 + (1 : Int32)) _ hf H locs ls hP hD hS (lv_sub hl [5, 6, 7, 3, 1, 2, 0] rfl) hE hR
                  · replace hf := it_t c24 hf
                    refine lv_iconst (v := (0 : Int32)) hx hb dX5_squaresOf_123 (by decide) ?_
                    refine lv_goto (tgt := 129) hx hb dX5_squaresOf_124 (by decide) ?_
                    refine lv_istore (lv' := [(6, .int (0 : Int32)), (7, .int (x7 + x4)), (5, .int (x5 ||| ((1 : Int32) <<< (((xw * x7) + x6) &&& 31)))), (9, .int ((1 : Int32) <<< (((xw * x7) + x6) &&& 31))), (0, .ref (aM 0)), (3, .int x3), (4, .int x4), (8, .int x8)]) hx hb dX5_squaresOf_129 hl (by decide) rfl (fun ls hl => ?_)
                    refine lv_iinc (v := (x8 + (1 : Int32))) (lv' := [(8, .int (x8 + (1 : Int32))), (6, .int (0 : Int32)), (7, .int (x7 + x4)), (5, .int (x5 ||| ((1 : Int32) <<< (((xw * x7) + x6) &&& 31)))), (9, .int ((1 : Int32) <<< (((xw * x7) + x6) &&& 31))), (0, .ref (aM 0)), (3, .int x3), (4, .int x4)]) hx hb dX5_squaresOf_131 hl (k := 7) rfl rfl (by decide) rfl (fun ls hl => ?_)
                    refine lv_goto (tgt := 12) hx hb dX5_squaresOf_134 (by decide) ?_
                    exact ih (x5 ||| ((1 : Int32) <<< (((xw * x7) + x6) &&& 31))) (0 : Int32) (x7 + x4) (x8 + (1 : Int32)) _ hf H locs ls hP hD hS (lv_sub hl [5, 6, 7, 3, 1, 2, 0] rfl) hE hR
                · replace hf := it_f c23 hf
                  refine lv_aload_n hx hb dX5_squaresOf_105 rfl (lv_at hl 4 rfl) ?_
                  refine va_get (D := D) (ci := 5) (v := .int xw) (C := RX5) (T := TX5) (N := 23) hx hb hts iX5 hown hK hP 0 rfl rfl 0 (by decide) (hts _ wd_640) (fun _ h9 => h9) rfl dX5_squaresOf_106 ?_
                  refine lv_iconst (v := (1 : Int32)) hx hb dX5_squaresOf_109 (by decide) ?_
                  refine lv_isub hx hb dX5_squaresOf_110 ?_
                  refine lv_goto (tgt := 129) hx hb dX5_squaresOf_111 (by decide) ?_
                  refine lv_istore (lv' := [(6, .int (xw - (1 : Int32))), (7, .int (x7 + x4)), (5, .int (x5 ||| ((1 : Int32) <<< (((xw * x7) + x6) &&& 31)))), (9, .int ((1 : Int32) <<< (((xw * x7) + x6) &&& 31))), (0, .ref (aM 0)), (3, .int x3), (4, .int x4), (8, .int x8)]) hx hb dX5_squaresOf_129 hl (by decide) rfl (fun ls hl => ?_)
                  refine lv_iinc (v := (x8 + (1 : Int32))) (lv' := [(8, .int (x8 + (1 : Int32))), (6, .int (xw - (1 : Int32))), (7, .int (x7 + x4)), (5, .int (x5 ||| ((1 : Int32) <<< (((xw * x7) + x6) &&& 31)))), (9, .int ((1 : Int32) <<< (((xw * x7) + x6) &&& 31))), (0, .ref (aM 0)), (3, .int x3), (4, .int x4)]) hx hb dX5_squaresOf_131 hl (k := 7) rfl rfl (by decide) rfl (fun ls hl => ?_)
                  refine lv_goto (tgt := 12) hx hb dX5_squaresOf_134 (by decide) ?_
                  exact ih (x5 ||| ((1 : Int32) <<< (((xw * x7) + x6) &&& 31))) (xw - (1 : Int32)) (x7 + x4) (x8 + (1 : Int32)) _ hf H locs ls hP hD hS (lv_sub hl [5, 6, 7, 3, 1, 2, 0] rfl) hE hR
            · replace hf := it_f c21 hf
              refine lv_iconst (v := (0 : Int32)) hx hb dX5_squaresOf_71 (by decide) ?_
              obtain rfl := Option.some.inj hf
              exact hR _ rfl _ H locs ls hP hD hS dX5_squaresOf_72
          · replace hf := it_f c20 hf
            refine lv_iconst (v := (0 : Int32)) hx hb dX5_squaresOf_47 (by decide) ?_
            obtain rfl := Option.some.inj hf
            exact hR _ rfl _ H locs ls hP hD hS dX5_squaresOf_48
  obtain ⟨u25, hg, hf⟩ := ob_s hf
  refine L12 _ (0 : Int32) x1 x2 (0 : Int32) u25 hg H locs ls hP hD hS (lv_sub hl [4, 7, 8, 3, 2, 1, 0] rfl) (fun e26 ee H locs ls hP hD hS hl => ?_) (fun r27 ee pc H locs ls hP hD hS hd => ?_)
  · subst ee
    replace hf := onS_r hf
    refine lv_iload hx hb dX5_squaresOf_137 (lv_at hl 0 rfl) ?_
    obtain rfl := Option.some.inj hf
    exact kc_iret () hx hb hr hk hP hD hS rfl dX5_squaresOf_139
  · subst ee
    replace hf := onS_l hf
    obtain rfl := Option.some.inj hf
    exact kc_iret () hx hb hr hk hP hD hS rfl hd
abbrev rmX5_addRow : Room := { frames := 0, cells := 0, slots := 0, locals := 0 }
set_option maxHeartbeats 4000000 in
set_option maxRecDepth 100000 in
theorem metX5_addRow (l : Launch) (D : va_G) (cx : Nat → ClassId) (aM : Nat → Nat) (xw : Int32) (xh : Int32) (xk : Int32) (xj : Int32) (xb : Int32) (xr : Int32) (xc : Int32) (xv : Int32) (xn : Int32) (xl : Int32) (yR : Nat → Int32) (yT : Nat → Int32) (yC : Nat → Int32) (yW : Nat → Int32) (yA : Nat → Int32) (yE : Nat → Int32) (yU : Nat → Int32) (yM : Nat → Int32) (yV : Nat → Int32) (yF : Nat → Int32) (yZ : Nat → Int32) (yI : Nat → Int32) (yD : Nat → Int32) (x1 : Int32) (N : Nat) (sz : Nat) (v : Int32 × (Nat → Int32)) (hf : fX5_addRow N xr yR x1 = some v) : Met l yX5_addRow (.code yX5_addRow cX5_addRow 3 none :: kc_TB) rmX5_addRow (kc_Pre D cx (wM cx aM xw xh xk xj xb xr xc xv xn xl yR yT yC yW yA yE yU yM yV yF yZ yI yD) [.ref (aM 0), .int x1] sz) (kc_Pv D (fun _ : Unit => (wM cx aM xw xh xk xj xb v.1 xc xv xn xl v.2 yT yC yW yA yE yU yM yV yF yZ yI yD)) (va_A (wM cx aM xw xh xk xj xb xr xc xv xn xl yR yT yC yW yA yE yU yM yV yF yZ yI yD) sz)) 0 0 (va_A (wM cx aM xw xh xk xj xb xr xc xv xn xl yR yT yC yW yA yE yU yM yV yF yZ yI yD) sz) := by
  refine kc_entry (Qc := fun A => (kc_Pv D (fun _ : Unit => (wM cx aM xw xh xk xj xb v.1 xc xv xn xl v.2 yT yC yW yA yE yU yM yV yF yZ yI yD)) A)) (by decide) (Nat.le_of_ble_eq_true rfl) ?_
  intro p e s m below meth c A hx hb hr hk hml hown hin hts hN hK hP hD hS hA ls hl
  have hown : s.vm.findClass RX5 = some m.cls := hown
  have hl : lv_has ls 3 [(0, .ref (aM 0)), (1, .int x1)] := hl
  unfold fX5_addRow at hf
  have hP : va_P D classes (wM cx aM xw xh xk xj xb xr xc xv xn xl yR yT yC yW yA yE yU yM yV yF yZ yI yD) s.heap := hP
  obtain ⟨H, hH⟩ : ∃ H, H = s.heap := ⟨_, rfl⟩
  obtain ⟨locs, hL⟩ : ∃ locs : List Loc, locs = [] := ⟨_, rfl⟩
  have hS : va_S A s.heap H locs := by rw [hH, hL]; exact hS
  have hP : va_P D classes (wM cx aM xw xh xk xj xb xr xc xv xn xl yR yT yC yW yA yE yU yM yV yF yZ yI yD) H := by rw [hH]; exact hP
  suffices hW : W p l e rmX5_addRow s m ([.ref (aM 0), .int x1] : List Value).toArray below meth c H locs 0 0 (MQ below (kc_Pv D (fun _ : Unit => (wM cx aM xw xh xk xj xb v.1 xc xv xn xl v.2 yT yC yW yA yE yU yM yV yF yZ yI yD)) A) ([.ref (aM 0), .int x1] : List Value).toArray s 0 0 A) (F0 m 0 ls []) by rw [hH, hL] at hW; exact hW
  clear hH hL
  refine lv_iconst (v := (0 : Int32)) hx hb dX5_addRow_0 (by decide) ?_
  refine lv_istore_n (lv' := [(2, .int (0 : Int32)), (0, .ref (aM 0)), (1, .int x1)]) hx hb dX5_addRow_1 rfl hl (by decide) rfl (fun ls hl => ?_)
  have L2 : ∀ (ct : Nat) (x2 : Int32) (v2 : (Int32 × (Nat → Int32)) ⊕ (Unit)), fX5_addRow_L2 N xr yR x1 ct x2 = some v2 → ∀ (H : Heap) (locs : List Loc) (ls : Array Slot), va_P D classes (wM cx aM xw xh xk xj xb xr xc xv xn xl yR yT yC yW yA yE yU yM yV yF yZ yI yD) H → va_D A (wM cx aM xw xh xk xj xb xr xc xv xn xl yR yT yC yW yA yE yU yM yV yF yZ yI yD) → va_S A s.heap H locs → lv_has ls 3 [(0, .ref (aM 0)), (1, .int x1), (2, .int x2)] → (∀ (e2 : Unit), v2 = .inr e2 → ∀ (H : Heap) (locs : List Loc) (ls : Array Slot), va_P D classes (wM cx aM xw xh xk xj xb xr xc xv xn xl yR yT yC yW yA yE yU yM yV yF yZ yI yD) H → va_D A (wM cx aM xw xh xk xj xb xr xc xv xn xl yR yT yC yW yA yE yU yM yV yF yZ yI yD) → va_S A s.heap H locs → lv_has ls 3 [(0, .ref (aM 0)), (1, .int x1)] → W p l e rmX5_addRow s m ([.ref (aM 0), .int x1] : List Value).toArray below meth c H locs 0 0 (MQ below (kc_Pv D (fun _ : Unit => (wM cx aM xw xh xk xj xb v.1 xc xv xn xl v.2 yT yC yW yA yE yU yM yV yF yZ yI yD)) A) ([.ref (aM 0), .int x1] : List Value).toArray s 0 0 A) (F0 m 27 ls [])) → (∀ (r2 : Int32 × (Nat → Int32)), v2 = .inl r2 → ∀ (pc : Nat) (H : Heap) (locs : List Loc) (ls : Array Slot), va_P D classes (wM cx aM xw xh xk xj xb r2.1 xc xv xn xl r2.2 yT yC yW yA yE yU yM yV yF yZ yI yD) H → va_D A (wM cx aM xw xh xk xj xb r2.1 xc xv xn xl r2.2 yT yC yW yA yE yU yM yV yF yZ yI yD) → va_S A s.heap H locs → decode cX5_addRow pc = .ok (.return_, 1) → W p l e rmX5_addRow s m ([.ref (aM 0), .int x1] : List Value).toArray below meth c H locs 0 0 (MQ below (kc_Pv D (fun _ : Unit => (wM cx aM xw xh xk xj xb v.1 xc xv xn xl v.2 yT yC yW yA yE yU yM yV yF yZ yI yD)) A) ([.ref (aM 0), .int x1] : List Value).toArray s 0 0 A) (F0 m pc ls [])) → W p l e rmX5_addRow s m ([.ref (aM 0), .int x1] : List Value).toArray below meth c H locs 0 0 (MQ below (kc_Pv D (fun _ : Unit => (wM cx aM xw xh xk xj xb v.1 xc xv xn xl v.2 yT yC yW yA yE yU yM yV yF yZ yI yD)) A) ([.ref (aM 0), .int x1] : List Value).toArray s 0 0 A) (F0 m 2 ls []) := by
    intro ct
    induction ct with
    | zero =>
      intro x2 v2 hf
      exact absurd (show (none : Option ((Int32 × (Nat → Int32)) ⊕ (Unit))) = some v2 from hf) (fun q => by cases q)
    | succ ct ih =>
      intro x2 v2 hf H locs ls hP hD hS hl hE hR
      rw [fX5_addRow_L2] at hf
      refine lv_iload_n hx hb dX5_addRow_2 rfl (lv_at hl 2 rfl) ?_
      refine lv_aload_n hx hb dX5_addRow_3 rfl (lv_at hl 0 rfl) ?_
      refine va_get (D := D) (ci := 5) (v := .int xr) (C := RX5) (T := TX5) (N := 23) hx hb hts iX5 hown hK hP 0 rfl rfl 5 (by decide) (hts _ wd_645) (fun _ h9 => h9) rfl dX5_addRow_4 ?_
      refine lv_icmp_ge (tgt := 27) hx hb dX5_addRow_7 (by decide) (fun c6 => ?_) (fun c6 => ?_)
      · replace hf := it_t c6 hf
        obtain rfl := Option.some.inj hf
        exact hE _ rfl H locs ls hP hD hS (lv_sub hl [0, 1] rfl)
      · replace hf := it_f c6 hf
        refine lv_aload_n hx hb dX5_addRow_10 rfl (lv_at hl 0 rfl) ?_
        refine va_get (D := D) (ci := 5) (v := .ref (aM 1)) (C := RX5) (T := TX5) (N := 23) hx hb hts iX5 hown hK hP 0 rfl rfl 6 (by decide) (hts _ wd_646) (fun _ h9 => h9) rfl dX5_addRow_11 ?_
        refine lv_iload_n hx hb dX5_addRow_14 rfl (lv_at hl 2 rfl) ?_
        obtain ⟨hz, hf⟩ := okb_s hf
        refine va_iald (D := D) hx hb hK hP 1 0 rfl rfl (inb_s hz) dX5_addRow_15 ?_
        refine lv_iload_n hx hb dX5_addRow_16 rfl (lv_at hl 1 rfl) ?_
        refine lv_icmp_ne (tgt := 21) hx hb dX5_addRow_17 (by decide) (fun c7 => ?_) (fun c7 => ?_)
        · replace hf := it_f c7 hf
          refine lv_iinc (v := (x2 + (1 : Int32))) (lv' := [(2, .int (x2 + (1 : Int32))), (0, .ref (aM 0)), (1, .int x1)]) hx hb dX5_addRow_21 hl (k := 2) rfl rfl (by decide) rfl (fun ls hl => ?_)
          refine lv_goto (tgt := 2) hx hb dX5_addRow_24 (by decide) ?_
          exact ih (x2 + (1 : Int32)) _ hf H locs ls hP hD hS (lv_sub hl [1, 2, 0] rfl) hE hR
        · replace hf := it_t c7 hf
          obtain rfl := Option.some.inj hf
          exact hR _ rfl _ H locs ls hP hD hS dX5_addRow_20
  obtain ⟨u8, hg, hf⟩ := ob_s hf
  refine L2 _ (0 : Int32) u8 hg H locs ls hP hD hS (lv_sub hl [1, 2, 0] rfl) (fun e9 ee H locs ls hP hD hS hl => ?_) (fun r10 ee pc H locs ls hP hD hS hd => ?_)
  · subst ee
    replace hf := onS_r hf
    refine lv_iload_n hx hb dX5_addRow_27 rfl (lv_at hl 1 rfl) ?_
    refine lv_if_eq (tgt := 51) hx hb dX5_addRow_28 (by decide) (fun c11 => ?_) (fun c11 => ?_)
    · replace hf := it_t c11 hf
      obtain rfl := Option.some.inj hf
      exact kc_vret () hx hb hr hk hP hD hS dX5_addRow_51
    · replace hf := it_f c11 hf
      refine lv_aload_n hx hb dX5_addRow_31 rfl (lv_at hl 0 rfl) ?_
      refine va_get (D := D) (ci := 5) (v := .ref (aM 1)) (C := RX5) (T := TX5) (N := 23) hx hb hts iX5 hown hK hP 0 rfl rfl 6 (by decide) (hts _ wd_646) (fun _ h9 => h9) rfl dX5_addRow_32 ?_
      refine lv_aload_n hx hb dX5_addRow_35 rfl (lv_at hl 0 rfl) ?_
      refine va_get (D := D) (ci := 5) (v := .int xr) (C := RX5) (T := TX5) (N := 23) hx hb hts iX5 hown hK hP 0 rfl rfl 5 (by decide) (hts _ wd_645) (fun _ h9 => h9) rfl dX5_addRow_36 ?_
      refine lv_iload_n hx hb dX5_addRow_39 rfl (lv_at hl 1 rfl) ?_
      obtain ⟨hz, hf⟩ := okb_s hf
      refine va_iast (D := D) hx hb hK hP hD hS 1 0 rfl rfl (inb_s hz) dX5_addRow_40 (fun H locs hP hD hS => ?_)
      have hP : va_P D classes (wM cx aM xw xh xk xj xb xr xc xv xn xl (upd yR xr.toNatClampNeg x1) yT yC yW yA yE yU yM yV yF yZ yI yD) H := hP
      have hD : va_D A (wM cx aM xw xh xk xj xb xr xc xv xn xl (upd yR xr.toNatClampNeg x1) yT yC yW yA yE yU yM yV yF yZ yI yD) := hD
      refine lv_aload_n hx hb dX5_addRow_41 rfl (lv_at hl 0 rfl) ?_
      refine lv_dup hx hb dX5_addRow_42 rfl ?_
      refine va_get (D := D) (ci := 5) (v := .int xr) (C := RX5) (T := TX5) (N := 23) hx hb hts iX5 hown hK hP 0 rfl rfl 5 (by decide) (hts _ wd_645) (fun _ h9 => h9) rfl dX5_addRow_43 ?_
      refine lv_iconst (v := (1 : Int32)) hx hb dX5_addRow_46 (by decide) ?_
      refine lv_iadd hx hb dX5_addRow_47 ?_
      refine va_put (D := D) (ci := 5) (v := .int (xr + (1 : Int32))) (ty := .int) (C := RX5) (T := TX5) (N := 23) hx hb hts iX5 tyX5 tyX5_ok nmX5 hown hK hP hD hS 0 rfl rfl 5 (by decide) (hts _ wd_645) (fun _ h9 => h9) rfl (by decide +kernel) rfl rfl (Nat.le_of_ble_eq_true rfl) dX5_addRow_48 (fun H locs hP hD hS => ?_)
      have hP : va_P D classes (wM cx aM xw xh xk xj xb (xr + (1 : Int32)) xc xv xn xl (upd yR xr.toNatClampNeg x1) yT yC yW yA yE yU yM yV yF yZ yI yD) H := hP
      have hD : va_D A (wM cx aM xw xh xk xj xb (xr + (1 : Int32)) xc xv xn xl (upd yR xr.toNatClampNeg x1) yT yC yW yA yE yU yM yV yF yZ yI yD) := hD
      obtain rfl := Option.some.inj hf
      exact kc_vret () hx hb hr hk hP hD hS dX5_addRow_51
  · subst ee
    replace hf := onS_l hf
    obtain rfl := Option.some.inj hf
    exact kc_vret () hx hb hr hk hP hD hS hd
abbrev rmX5_findRows : Room := { frames := 2, cells := 0, slots := 0, locals := 54 }
set_option maxHeartbeats 4000000 in
set_option maxRecDepth 100000 in
theorem metX5_findRows (l : Launch) (D : va_G) (cx : Nat → ClassId) (aM : Nat → Nat) (xw : Int32) (xh : Int32) (xk : Int32) (xj : Int32) (xb : Int32) (xr : Int32) (xc : Int32) (xv : Int32) (xn : Int32) (xl : Int32) (yR : Nat → Int32) (yT : Nat → Int32) (yC : Nat → Int32) (yW : Nat → Int32) (yA : Nat → Int32) (yE : Nat → Int32) (yU : Nat → Int32) (yM : Nat → Int32) (yV : Nat → Int32) (yF : Nat → Int32) (yZ : Nat → Int32) (yI : Nat → Int32) (yD : Nat → Int32)  (N : Nat) (sz : Nat) (v : Int32 × (Nat → Int32)) (hf : fX5_findRows N xw xh xk xj yR = some v) : Met l yX5_findRows (.code yX5_findRows cX5_findRows 3 none :: kc_TB) rmX5_findRows (kc_Pre D cx (wM cx aM xw xh xk xj xb xr xc xv xn xl yR yT yC yW yA yE yU yM yV yF yZ yI yD) [.ref (aM 0)] sz) (kc_Pv D (fun _ : Unit => (wM cx aM xw xh xk xj xb v.1 xc xv xn xl v.2 yT yC yW yA yE yU yM yV yF yZ yI yD)) (va_A (wM cx aM xw xh xk xj xb xr xc xv xn xl yR yT yC yW yA yE yU yM yV yF yZ yI yD) sz)) 0 0 (va_A (wM cx aM xw xh xk xj xb xr xc xv xn xl yR yT yC yW yA yE yU yM yV yF yZ yI yD) sz) := by
  refine kc_entry (Qc := fun A => (kc_Pv D (fun _ : Unit => (wM cx aM xw xh xk xj xb v.1 xc xv xn xl v.2 yT yC yW yA yE yU yM yV yF yZ yI yD)) A)) (by decide) (Nat.le_of_ble_eq_true rfl) ?_
  intro p e s m below meth c A hx hb hr hk hml hown hin hts hN hK hP hD hS hA ls hl
  have hown : s.vm.findClass RX5 = some m.cls := hown
  have hl : lv_has ls 3 [(0, .ref (aM 0))] := hl
  unfold fX5_findRows at hf
  have hP : va_P D classes (wM cx aM xw xh xk xj xb xr xc xv xn xl yR yT yC yW yA yE yU yM yV yF yZ yI yD) s.heap := hP
  obtain ⟨H, hH⟩ : ∃ H, H = s.heap := ⟨_, rfl⟩
  obtain ⟨locs, hL⟩ : ∃ locs : List Loc, locs = [] := ⟨_, rfl⟩
  have hS : va_S A s.heap H locs := by rw [hH, hL]; exact hS
  have hP : va_P D classes (wM cx aM xw xh xk xj xb xr xc xv xn xl yR yT yC yW yA yE yU yM yV yF yZ yI yD) H := by rw [hH]; exact hP
  suffices hW : W p l e rmX5_findRows s m ([.ref (aM 0)] : List Value).toArray below meth c H locs 0 0 (MQ below (kc_Pv D (fun _ : Unit => (wM cx aM xw xh xk xj xb v.1 xc xv xn xl v.2 yT yC yW yA yE yU yM yV yF yZ yI yD)) A) ([.ref (aM 0)] : List Value).toArray s 0 0 A) (F0 m 0 ls []) by rw [hH, hL] at hW; exact hW
  clear hH hL
  refine lv_aload_n hx hb dX5_findRows_0 rfl (lv_at hl 0 rfl) ?_
  refine lv_iconst (v := (0 : Int32)) hx hb dX5_findRows_1 (by decide) ?_
  refine va_put (D := D) (ci := 5) (v := .int (0 : Int32)) (ty := .int) (C := RX5) (T := TX5) (N := 23) hx hb hts iX5 tyX5 tyX5_ok nmX5 hown hK hP hD hS 0 rfl rfl 5 (by decide) (hts _ wd_645) (fun _ h9 => h9) rfl (by decide +kernel) rfl rfl (Nat.le_of_ble_eq_true rfl) dX5_findRows_2 (fun H locs hP hD hS => ?_)
  have hP : va_P D classes (wM cx aM xw xh xk xj xb (0 : Int32) xc xv xn xl yR yT yC yW yA yE yU yM yV yF yZ yI yD) H := hP
  have hD : va_D A (wM cx aM xw xh xk xj xb (0 : Int32) xc xv xn xl yR yT yC yW yA yE yU yM yV yF yZ yI yD) := hD
  refine lv_iconst (v := (0 : Int32)) hx hb dX5_findRows_5 (by decide) ?_
  refine lv_istore_n (lv' := [(1, .int (0 : Int32)), (0, .ref (aM 0))]) hx hb dX5_findRows_6 rfl hl (by decide) rfl (fun ls hl => ?_)
  have L7 : ∀ (ct : Nat) (xr : Int32) (yR : Nat → Int32) (x1 : Int32) (v7 : Int32 × (Nat → Int32)), fX5_findRows_L7 N xw xh xk xj ct xr yR x1 = some v7 → ∀ (H : Heap) (locs : List Loc) (ls : Array Slot), va_P D classes (wM cx aM xw xh xk xj xb xr xc xv xn xl yR yT yC yW yA yE yU yM yV yF yZ yI yD) H → va_D A (wM cx aM xw xh xk xj xb xr xc xv xn xl yR yT yC yW yA yE yU yM yV yF yZ yI yD) → va_S A s.heap H locs → lv_has ls 3 [(0, .ref (aM 0)), (1, .int x1)] → (∀ (H : Heap) (locs : List Loc) (ls : Array Slot), va_P D classes (wM cx aM xw xh xk xj xb v7.1 xc xv xn xl v7.2 yT yC yW yA yE yU yM yV yF yZ yI yD) H → va_D A (wM cx aM xw xh xk xj xb v7.1 xc xv xn xl v7.2 yT yC yW yA yE yU yM yV yF yZ yI yD) → va_S A s.heap H locs → lv_has ls 3 [] → W p l e rmX5_findRows s m ([.ref (aM 0)] : List Value).toArray below meth c H locs 0 0 (MQ below (kc_Pv D (fun _ : Unit => (wM cx aM xw xh xk xj xb v.1 xc xv xn xl v.2 yT yC yW yA yE yU yM yV yF yZ yI yD)) A) ([.ref (aM 0)] : List Value).toArray s 0 0 A) (F0 m 85 ls [])) → W p l e rmX5_findRows s m ([.ref (aM 0)] : List Value).toArray below meth c H locs 0 0 (MQ below (kc_Pv D (fun _ : Unit => (wM cx aM xw xh xk xj xb v.1 xc xv xn xl v.2 yT yC yW yA yE yU yM yV yF yZ yI yD)) A) ([.ref (aM 0)] : List Value).toArray s 0 0 A) (F0 m 7 ls []) := by
    intro ct
    induction ct with
    | zero =>
      intro xr yR x1 v7 hf
      exact absurd (show (none : Option (Int32 × (Nat → Int32))) = some v7 from hf) (fun q => by cases q)
    | succ ct ih =>
      intro xr yR x1 v7 hf H locs ls hP hD hS hl hE
      rw [fX5_findRows_L7] at hf
      refine lv_iload_n hx hb dX5_findRows_7 rfl (lv_at hl 1 rfl) ?_
      refine lv_aload_n hx hb dX5_findRows_8 rfl (lv_at hl 0 rfl) ?_
      refine va_get (D := D) (ci := 5) (v := .int xh) (C := RX5) (T := TX5) (N := 23) hx hb hts iX5 hown hK hP 0 rfl rfl 1 (by decide) (hts _ wd_641) (fun _ h9 => h9) rfl dX5_findRows_9 ?_
      refine lv_icmp_ge (tgt := 85) hx hb dX5_findRows_12 (by decide) (fun c31 => ?_) (fun c31 => ?_)
      · replace hf := it_t c31 hf
        obtain rfl := Option.some.inj hf
        exact hE H locs ls hP hD hS (lv_sub hl [] rfl)
      · replace hf := it_f c31 hf
        refine lv_iconst (v := (0 : Int32)) hx hb dX5_findRows_15 (by decide) ?_
        refine lv_istore_n (lv' := [(2, .int (0 : Int32)), (0, .ref (aM 0)), (1, .int x1)]) hx hb dX5_findRows_16 rfl hl (by decide) rfl (fun ls hl => ?_)
        have L17 : ∀ (ct : Nat) (xr : Int32) (yR : Nat → Int32) (x2 : Int32) (v17 : Int32 × (Nat → Int32)), fX5_findRows_L17 N xw xh xk xj x1 ct xr yR x2 = some v17 → ∀ (H : Heap) (locs : List Loc) (ls : Array Slot), va_P D classes (wM cx aM xw xh xk xj xb xr xc xv xn xl yR yT yC yW yA yE yU yM yV yF yZ yI yD) H → va_D A (wM cx aM xw xh xk xj xb xr xc xv xn xl yR yT yC yW yA yE yU yM yV yF yZ yI yD) → va_S A s.heap H locs → lv_has ls 3 [(0, .ref (aM 0)), (1, .int x1), (2, .int x2)] → (∀ (H : Heap) (locs : List Loc) (ls : Array Slot), va_P D classes (wM cx aM xw xh xk xj xb v17.1 xc xv xn xl v17.2 yT yC yW yA yE yU yM yV yF yZ yI yD) H → va_D A (wM cx aM xw xh xk xj xb v17.1 xc xv xn xl v17.2 yT yC yW yA yE yU yM yV yF yZ yI yD) → va_S A s.heap H locs → lv_has ls 3 [(0, .ref (aM 0)), (1, .int x1)] → W p l e rmX5_findRows s m ([.ref (aM 0)] : List Value).toArray below meth c H locs 0 0 (MQ below (kc_Pv D (fun _ : Unit => (wM cx aM xw xh xk xj xb v.1 xc xv xn xl v.2 yT yC yW yA yE yU yM yV yF yZ yI yD)) A) ([.ref (aM 0)] : List Value).toArray s 0 0 A) (F0 m 79 ls [])) → W p l e rmX5_findRows s m ([.ref (aM 0)] : List Value).toArray below meth c H locs 0 0 (MQ below (kc_Pv D (fun _ : Unit => (wM cx aM xw xh xk xj xb v.1 xc xv xn xl v.2 yT yC yW yA yE yU yM yV yF yZ yI yD)) A) ([.ref (aM 0)] : List Value).toArray s 0 0 A) (F0 m 17 ls []) := by
          intro ct
          induction ct with
          | zero =>
            intro xr yR x2 v17 hf
            exact absurd (show (none : Option (Int32 × (Nat → Int32))) = some v17 from hf) (fun q => by cases q)
          | succ ct ih =>
            intro xr yR x2 v17 hf H locs ls hP hD hS hl hE
            rw [fX5_findRows_L17] at hf
            refine lv_iload_n hx hb dX5_findRows_17 rfl (lv_at hl 2 rfl) ?_
            refine lv_aload_n hx hb dX5_findRows_18 rfl (lv_at hl 0 rfl) ?_
            refine va_get (D := D) (ci := 5) (v := .int xw) (C := RX5) (T := TX5) (N := 23) hx hb hts iX5 hown hK hP 0 rfl rfl 0 (by decide) (hts _ wd_640) (fun _ h9 => h9) rfl dX5_findRows_19 ?_
            refine lv_icmp_ge (tgt := 79) hx hb dX5_findRows_22 (by decide) (fun c32 => ?_) (fun c32 => ?_)
            · replace hf := it_t c32 hf
              obtain rfl := Option.some.inj hf
              exact hE H locs ls hP hD hS (lv_sub hl [0, 1] rfl)
            · replace hf := it_f c32 hf
              refine lv_aload_n hx hb dX5_findRows_25 rfl (lv_at hl 0 rfl) ?_
              refine lv_aload_n hx hb dX5_findRows_26 rfl (lv_at hl 0 rfl) ?_
              refine lv_iload_n hx hb dX5_findRows_27 rfl (lv_at hl 2 rfl) ?_
              refine lv_iload_n hx hb dX5_findRows_28 rfl (lv_at hl 1 rfl) ?_
              refine lv_iconst (v := (1 : Int32)) hx hb dX5_findRows_29 (by decide) ?_
              refine lv_iconst (v := (0 : Int32)) hx hb dX5_findRows_30 (by decide) ?_
              obtain ⟨u33, hg, hf⟩ := ob_s hf
              refine kc_calli (wn := fun _ => (wM cx aM xw xh xk xj xb xr xc xv xn xl yR yT yC yW yA yE yU yM yV yF yZ yI yD)) (va_runV (As := [.int x2, .int x1, .int (1 : Int32), .int (0 : Int32)]) (rest := [.ref (aM 0)]) ⟨hx, hb, hml, hown, hts⟩ (metX5_squaresOf l D cx aM xw xh xk xj xb xr xc xv xn xl yR yT yC yW yA yE yU yM yV yF yZ yI yD x2 x1 (1 : Int32) (0 : Int32) N H.size u33 hg) ⟨callB_of 4 hts (kc_gI wd_584) rfl rfl rfl (hts _ wd_46) (hts _ wd_581) (by decide +kernel) ⟨Nat.le_of_ble_eq_true rfl, Nat.le_of_ble_eq_true rfl⟩, hts _ wd_583, hts _ wd_17⟩ ⟨kc_blind _ _ _ _ _, va_recv hK hP (ci := 5) (q0 := 0) rfl rfl, kc_pre _ hK hN (hP.sub [0, 1, 2, 3, 4, 5, 6, 7, 8, 9, 10, 11, 12, 13] rfl) (hD.sub [0, 1, 2, 3, 4, 5, 6, 7, 8, 9, 10, 11, 12, 13] (by decide) rfl)⟩ rfl rfl hl.1 rfl (lv_room (Nat.le_of_ble_eq_true rfl)) dX5_findRows_31 ⟨Nat.zero_le _, Nat.zero_le _⟩) hP hD hS hA [0, 1, 2, 3, 4, 5, 6, 7, 8, 9, 10, 11, 12, 13] [] [0, 1, 2, 3, 4, 5, 6, 7, 8, 9, 10, 11, 12, 13] rfl rfl (by decide) (by decide) (fun _ => rfl) (by decide) (fun _ H locs hP hD hS => ?_)
              have hP : va_P D classes (wM cx aM xw xh xk xj xb xr xc xv xn xl yR yT yC yW yA yE yU yM yV yF yZ yI yD) H := hP
              have hD : va_D A (wM cx aM xw xh xk xj xb xr xc xv xn xl yR yT yC yW yA yE yU yM yV yF yZ yI yD) := hD
              obtain ⟨u34, hg, hf⟩ := ob_s hf
              refine kc_callv (wn := fun _ => (wM cx aM xw xh xk xj xb u34.1 xc xv xn xl u34.2 yT yC yW yA yE yU yM yV yF yZ yI yD)) (va_runV (As := [.int u33]) (rest := []) ⟨hx, hb, hml, hown, hts⟩ (metX5_addRow l D cx aM xw xh xk xj xb xr xc xv xn xl yR yT yC yW yA yE yU yM yV yF yZ yI yD u33 N H.size u34 hg) ⟨callB_of 1 hts (kc_gI wd_591) rfl rfl rfl (hts _ wd_46) (hts _ wd_588) (by decide +kernel) ⟨Nat.le_of_ble_eq_true rfl, Nat.le_of_ble_eq_true rfl⟩, hts _ wd_590, hts _ wd_18⟩ ⟨kc_blind _ _ _ _ _, va_recv hK hP (ci := 5) (q0 := 0) rfl rfl, kc_pre _ hK hN (hP.sub [0, 1, 2, 3, 4, 5, 6, 7, 8, 9, 10, 11, 12, 13] rfl) (hD.sub [0, 1, 2, 3, 4, 5, 6, 7, 8, 9, 10, 11, 12, 13] (by decide) rfl)⟩ rfl rfl hl.1 rfl (lv_room (Nat.le_of_ble_eq_true rfl)) dX5_findRows_34 ⟨Nat.zero_le _, Nat.zero_le _⟩) hP hD hS hA [0, 1, 2, 3, 4, 5, 6, 7, 8, 9, 10, 11, 12, 13] [] [0, 1, 2, 3, 4, 5, 6, 7, 8, 9, 10, 11, 12, 13] rfl rfl (by decide) (by decide) (fun _ => rfl) (by decide) (fun _ H locs hP hD hS => ?_)
              have hP : va_P D classes (wM cx aM xw xh xk xj xb u34.1 xc xv xn xl u34.2 yT yC yW yA yE yU yM yV yF yZ yI yD) H := hP
              have hD : va_D A (wM cx aM xw xh xk xj xb u34.1 xc xv xn xl u34.2 yT yC yW yA yE yU yM yV yF yZ yI yD) := hD
              refine lv_aload_n hx hb dX5_findRows_37 rfl (lv_at hl 0 rfl) ?_
              refine lv_aload_n hx hb dX5_findRows_38 rfl (lv_at hl 0 rfl) ?_
              refine lv_iload_n hx hb dX5_findRows_39 rfl (lv_at hl 2 rfl) ?_
              refine lv_iload_n hx hb dX5_findRows_40 rfl (lv_at hl 1 rfl) ?_
              refine lv_iconst (v := (0 : Int32)) hx hb dX5_findRows_41 (by decide) ?_
              refine lv_iconst (v := (1 : Int32)) hx hb dX5_findRows_42 (by decide) ?_
              obtain ⟨u35, hg, hf⟩ := ob_s hf
              refine kc_calli (wn := fun _ => (wM cx aM xw xh xk xj xb u34.1 xc xv xn xl u34.2 yT yC yW yA yE yU yM yV yF yZ yI yD)) (va_runV (As := [.int x2, .int x1, .int (0 : Int32), .int (1 : Int32)]) (rest := [.ref (aM 0)]) ⟨hx, hb, hml, hown, hts⟩ (metX5_squaresOf l D cx aM xw xh xk xj xb u34.1 xc xv xn xl u34.2 yT yC yW yA yE yU yM yV yF yZ yI yD x2 x1 (0 : Int32) (1 : Int32) N H.size u35 hg) ⟨callB_of 4 hts (kc_gI wd_584) rfl rfl rfl (hts _ wd_46) (hts _ wd_581) (by decide +kernel) ⟨Nat.le_of_ble_eq_true rfl, Nat.le_of_ble_eq_true rfl⟩, hts _ wd_583, hts _ wd_17⟩ ⟨kc_blind _ _ _ _ _, va_recv hK hP (ci := 5) (q0 := 0) rfl rfl, kc_pre _ hK hN (hP.sub [0, 1, 2, 3, 4, 5, 6, 7, 8, 9, 10, 11, 12, 13] rfl) (hD.sub [0, 1, 2, 3, 4, 5, 6, 7, 8, 9, 10, 11, 12, 13] (by decide) rfl)⟩ rfl rfl hl.1 rfl (lv_room (Nat.le_of_ble_eq_true rfl)) dX5_findRows_43 ⟨Nat.zero_le _, Nat.zero_le _⟩) hP hD hS hA [0, 1, 2, 3, 4, 5, 6, 7, 8, 9, 10, 11, 12, 13] [] [0, 1, 2, 3, 4, 5, 6, 7, 8, 9, 10, 11, 12, 13] rfl rfl (by decide) (by decide) (fun _ => rfl) (by decide) (fun _ H locs hP hD hS => ?_)
              have hP : va_P D classes (wM cx aM xw xh xk xj xb u34.1 xc xv xn xl u34.2 yT yC yW yA yE yU yM yV yF yZ yI yD) H := hP
              have hD : va_D A (wM cx aM xw xh xk xj xb u34.1 xc xv xn xl u34.2 yT yC yW yA yE yU yM yV yF yZ yI yD) := hD
              obtain ⟨u36, hg, hf⟩ := ob_s hf
              refine kc_callv (wn := fun _ => (wM cx aM xw xh xk xj xb u36.1 xc xv xn xl u36.2 yT yC yW yA yE yU yM yV yF yZ yI yD)) (va_runV (As := [.int u35]) (rest := []) ⟨hx, hb, hml, hown, hts⟩ (metX5_addRow l D cx aM xw xh xk xj xb u34.1 xc xv xn xl u34.2 yT yC yW yA yE yU yM yV yF yZ yI yD u35 N H.size u36 hg) ⟨callB_of 1 hts (kc_gI wd_591) rfl rfl rfl (hts _ wd_46) (hts _ wd_588) (by decide +kernel) ⟨Nat.le_of_ble_eq_true rfl, Nat.le_of_ble_eq_true rfl⟩, hts _ wd_590, hts _ wd_18⟩ ⟨kc_blind _ _ _ _ _, va_recv hK hP (ci := 5) (q0 := 0) rfl rfl, kc_pre _ hK hN (hP.sub [0, 1, 2, 3, 4, 5, 6, 7, 8, 9, 10, 11, 12, 13] rfl) (hD.sub [0, 1, 2, 3, 4, 5, 6, 7, 8, 9, 10, 11, 12, 13] (by decide) rfl)⟩ rfl rfl hl.1 rfl (lv_room (Nat.le_of_ble_eq_true rfl)) dX5_findRows_46 ⟨Nat.zero_le _, Nat.zero_le _⟩) hP hD hS hA [0, 1, 2, 3, 4, 5, 6, 7, 8, 9, 10, 11, 12, 13] [] [0, 1, 2, 3, 4, 5, 6, 7, 8, 9, 10, 11, 12, 13] rfl rfl (by decide) (by decide) (fun _ => rfl) (by decide) (fun _ H locs hP hD hS => ?_)
              have hP : va_P D classes (wM cx aM xw xh xk xj xb u36.1 xc xv xn xl u36.2 yT yC yW yA yE yU yM yV yF yZ yI yD) H := hP
              have hD : va_D A (wM cx aM xw xh xk xj xb u36.1 xc xv xn xl u36.2 yT yC yW yA yE yU yM yV yF yZ yI yD) := hD
              refine lv_aload_n hx hb dX5_findRows_49 rfl (lv_at hl 0 rfl) ?_
              refine lv_aload_n hx hb dX5_findRows_50 rfl (lv_at hl 0 rfl) ?_
              refine lv_iload_n hx hb dX5_findRows_51 rfl (lv_at hl 2 rfl) ?_
              refine lv_iload_n hx hb dX5_findRows_52 rfl (lv_at hl 1 rfl) ?_
              refine lv_iconst (v := (1 : Int32)) hx hb dX5_findRows_53 (by decide) ?_
              refine lv_iconst (v := (1 : Int32)) hx hb dX5_findRows_54 (by decide) ?_
              obtain ⟨u37, hg, hf⟩ := ob_s hf
              refine kc_calli (wn := fun _ => (wM cx aM xw xh xk xj xb u36.1 xc xv xn xl u36.2 yT yC yW yA yE yU yM yV yF yZ yI yD)) (va_runV (As := [.int x2, .int x1, .int (1 : Int32), .int (1 : Int32)]) (rest := [.ref (aM 0)]) ⟨hx, hb, hml, hown, hts⟩ (metX5_squaresOf l D cx aM xw xh xk xj xb u36.1 xc xv xn xl u36.2 yT yC yW yA yE yU yM yV yF yZ yI yD x2 x1 (1 : Int32) (1 : Int32) N H.size u37 hg) ⟨callB_of 4 hts (kc_gI wd_584) rfl rfl rfl (hts _ wd_46) (hts _ wd_581) (by decide +kernel) ⟨Nat.le_of_ble_eq_true rfl, Nat.le_of_ble_eq_true rfl⟩, hts _ wd_583, hts _ wd_17⟩ ⟨kc_blind _ _ _ _ _, va_recv hK hP (ci := 5) (q0 := 0) rfl rfl, kc_pre _ hK hN (hP.sub [0, 1, 2, 3, 4, 5, 6, 7, 8, 9, 10, 11, 12, 13] rfl) (hD.sub [0, 1, 2, 3, 4, 5, 6, 7, 8, 9, 10, 11, 12, 13] (by decide) rfl)⟩ rfl rfl hl.1 rfl (lv_room (Nat.le_of_ble_eq_true rfl)) dX5_findRows_55 ⟨Nat.zero_le _, Nat.zero_le _⟩) hP hD hS hA [0, 1, 2, 3, 4, 5, 6, 7, 8, 9, 10, 11, 12, 13] [] [0, 1, 2, 3, 4, 5, 6, 7, 8, 9, 10, 11, 12, 13] rfl rfl (by decide) (by decide) (fun _ => rfl) (by decide) (fun _ H locs hP hD hS => ?_)
              have hP : va_P D classes (wM cx aM xw xh xk xj xb u36.1 xc xv xn xl u36.2 yT yC yW yA yE yU yM yV yF yZ yI yD) H := hP
              have hD : va_D A (wM cx aM xw xh xk xj xb u36.1 xc xv xn xl u36.2 yT yC yW yA yE yU yM yV yF yZ yI yD) := hD
              obtain ⟨u38, hg, hf⟩ := ob_s hf
              refine kc_callv (wn := fun _ => (wM cx aM xw xh xk xj xb u38.1 xc xv xn xl u38.2 yT yC yW yA yE yU yM yV yF yZ yI yD)) (va_runV (As := [.int u37]) (rest := []) ⟨hx, hb, hml, hown, hts⟩ (metX5_addRow l D cx aM xw xh xk xj xb u36.1 xc xv xn xl u36.2 yT yC yW yA yE yU yM yV yF yZ yI yD u37 N H.size u38 hg) ⟨callB_of 1 hts (kc_gI wd_591) rfl rfl rfl (hts _ wd_46) (hts _ wd_588) (by decide +kernel) ⟨Nat.le_of_ble_eq_true rfl, Nat.le_of_ble_eq_true rfl⟩, hts _ wd_590, hts _ wd_18⟩ ⟨kc_blind _ _ _ _ _, va_recv hK hP (ci := 5) (q0 := 0) rfl rfl, kc_pre _ hK hN (hP.sub [0, 1, 2, 3, 4, 5, 6, 7, 8, 9, 10, 11, 12, 13] rfl) (hD.sub [0, 1, 2, 3, 4, 5, 6, 7, 8, 9, 10, 11, 12, 13] (by decide) rfl)⟩ rfl rfl hl.1 rfl (lv_room (Nat.le_of_ble_eq_true rfl)) dX5_findRows_58 ⟨Nat.zero_le _, Nat.zero_le _⟩) hP hD hS hA [0, 1, 2, 3, 4, 5, 6, 7, 8, 9, 10, 11, 12, 13] [] [0, 1, 2, 3, 4, 5, 6, 7, 8, 9, 10, 11, 12, 13] rfl rfl (by decide) (by decide) (fun _ => rfl) (by decide) (fun _ H locs hP hD hS => ?_)
              have hP : va_P D classes (wM cx aM xw xh xk xj xb u38.1 xc xv xn xl u38.2 yT yC yW yA yE yU yM yV yF yZ yI yD) H := hP
              have hD : va_D A (wM cx aM xw xh xk xj xb u38.1 xc xv xn xl u38.2 yT yC yW yA yE yU yM yV yF yZ yI yD) := hD
              refine lv_aload_n hx hb dX5_findRows_61 rfl (lv_at hl 0 rfl) ?_
              refine lv_aload_n hx hb dX5_findRows_62 rfl (lv_at hl 0 rfl) ?_
              refine lv_iload_n hx hb dX5_findRows_63 rfl (lv_at hl 2 rfl) ?_
              refine lv_iload_n hx hb dX5_findRows_64 rfl (lv_at hl 1 rfl) ?_
              refine lv_iconst (v := (-1 : Int32)) hx hb dX5_findRows_65 (by decide) ?_
              refine lv_iconst (v := (1 : Int32)) hx hb dX5_findRows_66 (by decide) ?_
              obtain ⟨u39, hg, hf⟩ := ob_s hf
              refine kc_calli (wn := fun _ => (wM cx aM xw xh xk xj xb u38.1 xc xv xn xl u38.2 yT yC yW yA yE yU yM yV yF yZ yI yD)) (va_runV (As := [.int x2, .int x1, .int (-1 : Int32), .int (1 : Int32)]) (rest := [.ref (aM 0)]) ⟨hx, hb, hml, hown, hts⟩ (metX5_squaresOf l D cx aM xw xh xk xj xb u38.1 xc xv xn xl u38.2 yT yC yW yA yE yU yM yV yF yZ yI yD x2 x1 (-1 : Int32) (1 : Int32) N H.size u39 hg) ⟨callB_of 4 hts (kc_gI wd_584) rfl rfl rfl (hts _ wd_46) (hts _ wd_581) (by decide +kernel) ⟨Nat.le_of_ble_eq_true rfl, Nat.le_of_ble_eq_true rfl⟩, hts _ wd_583, hts _ wd_17⟩ ⟨kc_blind _ _ _ _ _, va_recv hK hP (ci := 5) (q0 := 0) rfl rfl, kc_pre _ hK hN (hP.sub [0, 1, 2, 3, 4, 5, 6, 7, 8, 9, 10, 11, 12, 13] rfl) (hD.sub [0, 1, 2, 3, 4, 5, 6, 7, 8, 9, 10, 11, 12, 13] (by decide) rfl)⟩ rfl rfl hl.1 rfl (lv_room (Nat.le_of_ble_eq_true rfl)) dX5_findRows_67 ⟨Nat.zero_le _, Nat.zero_le _⟩) hP hD hS hA [0, 1, 2, 3, 4, 5, 6, 7, 8, 9, 10, 11, 12, 13] [] [0, 1, 2, 3, 4, 5, 6, 7, 8, 9, 10, 11, 12, 13] rfl rfl (by decide) (by decide) (fun _ => rfl) (by decide) (fun _ H locs hP hD hS => ?_)
              have hP : va_P D classes (wM cx aM xw xh xk xj xb u38.1 xc xv xn xl u38.2 yT yC yW yA yE yU yM yV yF yZ yI yD) H := hP
              have hD : va_D A (wM cx aM xw xh xk xj xb u38.1 xc xv xn xl u38.2 yT yC yW yA yE yU yM yV yF yZ yI yD) := hD
              obtain ⟨u40, hg, hf⟩ := ob_s hf
              refine kc_callv (wn := fun _ => (wM cx aM xw xh xk xj xb u40.1 xc xv xn xl u40.2 yT yC yW yA yE yU yM yV yF yZ yI yD)) (va_runV (As := [.int u39]) (rest := []) ⟨hx, hb, hml, hown, hts⟩ (metX5_addRow l D cx aM xw xh xk xj xb u38.1 xc xv xn xl u38.2 yT yC yW yA yE yU yM yV yF yZ yI yD u39 N H.size u40 hg) ⟨callB_of 1 hts (kc_gI wd_591) rfl rfl rfl (hts _ wd_46) (hts _ wd_588) (by decide +kernel) ⟨Nat.le_of_ble_eq_true rfl, Nat.le_of_ble_eq_true rfl⟩, hts _ wd_590, hts _ wd_18⟩ ⟨kc_blind _ _ _ _ _, va_recv hK hP (ci := 5) (q0 := 0) rfl rfl, kc_pre _ hK hN (hP.sub [0, 1, 2, 3, 4, 5, 6, 7, 8, 9, 10, 11, 12, 13] rfl) (hD.sub [0, 1, 2, 3, 4, 5, 6, 7, 8, 9, 10, 11, 12, 13] (by decide) rfl)⟩ rfl rfl hl.1 rfl (lv_room (Nat.le_of_ble_eq_true rfl)) dX5_findRows_70 ⟨Nat.zero_le _, Nat.zero_le _⟩) hP hD hS hA [0, 1, 2, 3, 4, 5, 6, 7, 8, 9, 10, 11, 12, 13] [] [0, 1, 2, 3, 4, 5, 6, 7, 8, 9, 10, 11, 12, 13] rfl rfl (by decide) (by decide) (fun _ => rfl) (by decide) (fun _ H locs hP hD hS => ?_)
              have hP : va_P D classes (wM cx aM xw xh xk xj xb u40.1 xc xv xn xl u40.2 yT yC yW yA yE yU yM yV yF yZ yI yD) H := hP
              have hD : va_D A (wM cx aM xw xh xk xj xb u40.1 xc xv xn xl u40.2 yT yC yW yA yE yU yM yV yF yZ yI yD) := hD
              refine lv_iinc (v := (x2 + (1 : Int32))) (lv' := [(2, .int (x2 + (1 : Int32))), (0, .ref (aM 0)), (1, .int x1)]) hx hb dX5_findRows_73 hl (k := 2) rfl rfl (by decide) rfl (fun ls hl => ?_)
              refine lv_goto (tgt := 17) hx hb dX5_findRows_76 (by decide) ?_
              exact ih u40.1 u40.2 (x2 + (1 : Int32)) _ hf H locs ls hP hD hS (lv_sub hl [1, 2, 0] rfl) hE
        obtain ⟨u41, hg, hf⟩ := ob_s hf
        refine L17 _ xr yR (0 : Int32) u41 hg H locs ls hP hD hS (lv_sub hl [1, 2, 0] rfl) (fun H locs ls hP hD hS hl => ?_)
        refine lv_iinc (v := (x1 + (1 : Int32))) (lv' := [(1, .int (x1 + (1 : Int32))), (0, .ref (aM 0))]) hx hb dX5_findRows_79 hl (k := 1) rfl rfl (by decide) rfl (fun ls hl => ?_)
        refine lv_goto (tgt := 7) hx hb dX5_findRows_82 (by decide) ?_
        exact ih u41.1 u41.2 (x1 + (1 : Int32)) _ hf H locs ls hP hD hS (lv_sub hl [1, 0] rfl) hE
  obtain ⟨u42, hg, hf⟩ := ob_s hf
  refine L7 _ (0 : Int32) yR (0 : Int32) u42 hg H locs ls hP hD hS (lv_sub hl [1, 0] rfl) (fun H locs ls hP hD hS hl => ?_)
  obtain rfl := Option.some.inj hf
  exact kc_vret () hx hb hr hk hP hD hS dX5_findRows_85
abbrev rmX5_keyOfNone : Room := { frames := 0, cells := 0, slots := 0, locals := 0 }
set_option maxHeartbeats 4000000 in
set_option maxRecDepth 100000 in
theorem metX5_keyOfNone (l : Launch) (D : va_G) (cx : Nat → ClassId) (aM : Nat → Nat) (xw : Int32) (xh : Int32) (xk : Int32) (xj : Int32) (xb : Int32) (xr : Int32) (xc : Int32) (xv : Int32) (xn : Int32) (xl : Int32) (yR : Nat → Int32) (yT : Nat → Int32) (yC : Nat → Int32) (yW : Nat → Int32) (yA : Nat → Int32) (yE : Nat → Int32) (yU : Nat → Int32) (yM : Nat → Int32) (yV : Nat → Int32) (yF : Nat → Int32) (yZ : Nat → Int32) (yI : Nat → Int32) (yD : Nat → Int32)  (N : Nat) (sz : Nat) (v : Int32) (hf : fX5_keyOfNone N xw xh = some v) : Met l yX5_keyOfNone (.code yX5_keyOfNone cX5_keyOfNone 3 (some .int) :: kc_TB) rmX5_keyOfNone (kc_Pre D cx (wM cx aM xw xh xk xj xb xr xc xv xn xl yR yT yC yW yA yE yU yM yV yF yZ yI yD) [.ref (aM 0)] sz) (kc_Pi D (fun _ : Unit => (wM cx aM xw xh xk xj xb xr xc xv xn xl yR yT yC yW yA yE yU yM yV yF yZ yI yD)) v (va_A (wM cx aM xw xh xk xj xb xr xc xv xn xl yR yT yC yW yA yE yU yM yV yF yZ yI yD) sz)) 0 0 (va_A (wM cx aM xw xh xk xj xb xr xc xv xn xl yR yT yC yW yA yE yU yM yV yF yZ yI yD) sz) := by
  refine kc_entry (Qc := fun A => (kc_Pi D (fun _ : Unit => (wM cx aM xw xh xk xj xb xr xc xv xn xl yR yT yC yW yA yE yU yM yV yF yZ yI yD)) v A)) (by decide) (Nat.le_of_ble_eq_true rfl) ?_
  intro p e s m below meth c A hx hb hr hk hml hown hin hts hN hK hP hD hS hA ls hl
  have hown : s.vm.findClass RX5 = some m.cls := hown
  have hl : lv_has ls 3 [(0, .ref (aM 0))] := hl
  unfold fX5_keyOfNone at hf
  have hP : va_P D classes (wM cx aM xw xh xk xj xb xr xc xv xn xl yR yT yC yW yA yE yU yM yV yF yZ yI yD) s.heap := hP
  obtain ⟨H, hH⟩ : ∃ H, H = s.heap := ⟨_, rfl⟩
  obtain ⟨locs, hL⟩ : ∃ locs : List Loc, locs = [] := ⟨_, rfl⟩
  have hS : va_S A s.heap H locs := by rw [hH, hL]; exact hS
  have hP : va_P D classes (wM cx aM xw xh xk xj xb xr xc xv xn xl yR yT yC yW yA yE yU yM yV yF yZ yI yD) H := by rw [hH]; exact hP
  suffices hW : W p l e rmX5_keyOfNone s m ([.ref (aM 0)] : List Value).toArray below meth c H locs 0 0 (MQ below (kc_Pi D (fun _ : Unit => (wM cx aM xw xh xk xj xb xr xc xv xn xl yR yT yC yW yA yE yU yM yV yF yZ yI yD)) v A) ([.ref (aM 0)] : List Value).toArray s 0 0 A) (F0 m 0 ls []) by rw [hH, hL] at hW; exact hW
  clear hH hL
  refine lv_iconst (v := (0 : Int32)) hx hb dX5_keyOfNone_0 (by decide) ?_
  refine lv_istore_n (lv' := [(1, .int (0 : Int32)), (0, .ref (aM 0))]) hx hb dX5_keyOfNone_1 rfl hl (by decide) rfl (fun ls hl => ?_)
  refine lv_iconst (v := (0 : Int32)) hx hb dX5_keyOfNone_2 (by decide) ?_
  refine lv_istore_n (lv' := [(2, .int (0 : Int32)), (1, .int (0 : Int32)), (0, .ref (aM 0))]) hx hb dX5_keyOfNone_3 rfl hl (by decide) rfl (fun ls hl => ?_)
  have L4 : ∀ (ct : Nat) (x1 : Int32) (x2 : Int32) (v4 : Int32), fX5_keyOfNone_L4 N xw xh ct x1 x2 = some v4 → ∀ (H : Heap) (locs : List Loc) (ls : Array Slot), va_P D classes (wM cx aM xw xh xk xj xb xr xc xv xn xl yR yT yC yW yA yE yU yM yV yF yZ yI yD) H → va_D A (wM cx aM xw xh xk xj xb xr xc xv xn xl yR yT yC yW yA yE yU yM yV yF yZ yI yD) → va_S A s.heap H locs → lv_has ls 3 [(0, .ref (aM 0)), (1, .int x1), (2, .int x2)] → (∀ (H : Heap) (locs : List Loc) (ls : Array Slot), va_P D classes (wM cx aM xw xh xk xj xb xr xc xv xn xl yR yT yC yW yA yE yU yM yV yF yZ yI yD) H → va_D A (wM cx aM xw xh xk xj xb xr xc xv xn xl yR yT yC yW yA yE yU yM yV yF yZ yI yD) → va_S A s.heap H locs → lv_has ls 3 [(1, .int v4)] → W p l e rmX5_keyOfNone s m ([.ref (aM 0)] : List Value).toArray below meth c H locs 0 0 (MQ below (kc_Pi D (fun _ : Unit => (wM cx aM xw xh xk xj xb xr xc xv xn xl yR yT yC yW yA yE yU yM yV yF yZ yI yD)) v A) ([.ref (aM 0)] : List Value).toArray s 0 0 A) (F0 m 31 ls [])) → W p l e rmX5_keyOfNone s m ([.ref (aM 0)] : List Value).toArray below meth c H locs 0 0 (MQ below (kc_Pi D (fun _ : Unit => (wM cx aM xw xh xk xj xb xr xc xv xn xl yR yT yC yW yA yE yU yM yV yF yZ yI yD)) v A) ([.ref (aM 0)] : List Value).toArray s 0 0 A) (F0 m 4 ls []) := by
    intro ct
    induction ct with
    | zero =>
      intro x1 x2 v4 hf
      exact absurd (show (none : Option (Int32)) = some v4 from hf) (fun q => by cases q)
    | succ ct ih =>
      intro x1 x2 v4 hf H locs ls hP hD hS hl hE
      rw [fX5_keyOfNone_L4] at hf
      refine lv_iload_n hx hb dX5_keyOfNone_4 rfl (lv_at hl 2 rfl) ?_
      refine lv_aload_n hx hb dX5_keyOfNone_5 rfl (lv_at hl 0 rfl) ?_
      refine va_get (D := D) (ci := 5) (v := .int xw) (C := RX5) (T := TX5) (N := 23) hx hb hts iX5 hown hK hP 0 rfl rfl 0 (by decide) (hts _ wd_640) (fun _ h9 => h9) rfl dX5_keyOfNone_6 ?_
      refine lv_icmp_ge (tgt := 31) hx hb dX5_keyOfNone_9 (by decide) (fun c3 => ?_) (fun c3 => ?_)
      · replace hf := it_t c3 hf
        obtain rfl := Option.some.inj hf
        exact hE H locs ls hP hD hS (lv_sub hl [1] rfl)
      · replace hf := it_f c3 hf
        refine lv_iload_n hx hb dX5_keyOfNone_12 rfl (lv_at hl 1 rfl) ?_
        refine lv_iconst (v := (1 : Int32)) hx hb dX5_keyOfNone_13 (by decide) ?_
        refine lv_iload_n hx hb dX5_keyOfNone_14 rfl (lv_at hl 2 rfl) ?_
        refine lv_aload_n hx hb dX5_keyOfNone_15 rfl (lv_at hl 0 rfl) ?_
        refine va_get (D := D) (ci := 5) (v := .int xh) (C := RX5) (T := TX5) (N := 23) hx hb hts iX5 hown hK hP 0 rfl rfl 1 (by decide) (hts _ wd_641) (fun _ h9 => h9) rfl dX5_keyOfNone_16 ?_
        refine lv_iconst (v := (1 : Int32)) hx hb dX5_keyOfNone_19 (by decide) ?_
        refine lv_iadd hx hb dX5_keyOfNone_20 ?_
        refine lv_imul hx hb dX5_keyOfNone_21 ?_
        refine lv_ishl hx hb dX5_keyOfNone_22 ?_
        refine lv_ior hx hb dX5_keyOfNone_23 ?_
        refine lv_istore_n (lv' := [(1, .int (x1 ||| ((1 : Int32) <<< ((x2 * (xh + (1 : Int32))) &&& 31)))), (0, .ref (aM 0)), (2, .int x2)]) hx hb dX5_keyOfNone_24 rfl hl (by decide) rfl (fun ls hl => ?_)
        refine lv_iinc (v := (x2 + (1 : Int32))) (lv' := [(2, .int (x2 + (1 : Int32))), (1, .int (x1 ||| ((1 : Int32) <<< ((x2 * (xh + (1 : Int32))) &&& 31)))), (0, .ref (aM 0))]) hx hb dX5_keyOfNone_25 hl (k := 2) rfl rfl (by decide) rfl (fun ls hl => ?_)
        refine lv_goto (tgt := 4) hx hb dX5_keyOfNone_28 (by decide) ?_
        exact ih (x1 ||| ((1 : Int32) <<< ((x2 * (xh + (1 : Int32))) &&& 31))) (x2 + (1 : Int32)) _ hf H locs ls hP hD hS (lv_sub hl [2, 1, 0] rfl) hE
  obtain ⟨u4, hg, hf⟩ := ob_s hf
  refine L4 _ (0 : Int32) (0 : Int32) u4 hg H locs ls hP hD hS (lv_sub hl [2, 1, 0] rfl) (fun H locs ls hP hD hS hl => ?_)
  refine lv_iload_n hx hb dX5_keyOfNone_31 rfl (lv_at hl 0 rfl) ?_
  obtain rfl := Option.some.inj hf
  exact kc_iret () hx hb hr hk hP hD hS rfl dX5_keyOfNone_32
abbrev rmX5_columnOf : Room := { frames := 0, cells := 0, slots := 0, locals := 0 }
set_option maxHeartbeats 4000000 in
set_option maxRecDepth 100000 in
theorem metX5_columnOf (l : Launch) (D : va_G) (cx : Nat → ClassId) (aM : Nat → Nat) (xw : Int32) (xh : Int32) (xk : Int32) (xj : Int32) (xb : Int32) (xr : Int32) (xc : Int32) (xv : Int32) (xn : Int32) (xl : Int32) (yR : Nat → Int32) (yT : Nat → Int32) (yC : Nat → Int32) (yW : Nat → Int32) (yA : Nat → Int32) (yE : Nat → Int32) (yU : Nat → Int32) (yM : Nat → Int32) (yV : Nat → Int32) (yF : Nat → Int32) (yZ : Nat → Int32) (yI : Nat → Int32) (yD : Nat → Int32) (x1 : Int32) (x2 : Int32) (N : Nat) (sz : Nat) (v : Int32) (hf : fX5_columnOf N xh x1 x2 = some v) : Met l yX5_columnOf (.code yX5_columnOf cX5_columnOf 3 (some .int) :: kc_TB) rmX5_columnOf (kc_Pre D cx (wM cx aM xw xh xk xj xb xr xc xv xn xl yR yT yC yW yA yE yU yM yV yF yZ yI yD) [.ref (aM 0), .int x1, .int x2] sz) (kc_Pi D (fun _ : Unit => (wM cx aM xw xh xk xj xb xr xc xv xn xl yR yT yC yW yA yE yU yM yV yF yZ yI yD)) v (va_A (wM cx aM xw xh xk xj xb xr xc xv xn xl yR yT yC yW yA yE yU yM yV yF yZ yI yD) sz)) 0 0 (va_A (wM cx aM xw xh xk xj xb xr xc xv xn xl yR yT yC yW yA yE yU yM yV yF yZ yI yD) sz) := by
  refine kc_entry (Qc := fun A => (kc_Pi D (fun _ : Unit => (wM cx aM xw xh xk xj xb xr xc xv xn xl yR yT yC yW yA yE yU yM yV yF yZ yI yD)) v A)) (by decide) (Nat.le_of_ble_eq_true rfl) ?_
  intro p e s m below meth c A hx hb hr hk hml hown hin hts hN hK hP hD hS hA ls hl
  have hown : s.vm.findClass RX5 = some m.cls := hown
  have hl : lv_has ls 3 [(0, .ref (aM 0)), (1, .int x1), (2, .int x2)] := hl
  unfold fX5_columnOf at hf
  have hP : va_P D classes (wM cx aM xw xh xk xj xb xr xc xv xn xl yR yT yC yW yA yE yU yM yV yF yZ yI yD) s.heap := hP
  obtain ⟨H, hH⟩ : ∃ H, H = s.heap := ⟨_, rfl⟩
  obtain ⟨locs, hL⟩ : ∃ locs : List Loc, locs = [] := ⟨_, rfl⟩
  have hS : va_S A s.heap H locs := by rw [hH, hL]; exact hS
  have hP : va_P D classes (wM cx aM xw xh xk xj xb xr xc xv xn xl yR yT yC yW yA yE yU yM yV yF yZ yI yD) H := by rw [hH]; exact hP
  suffices hW : W p l e rmX5_columnOf s m ([.ref (aM 0), .int x1, .int x2] : List Value).toArray below meth c H locs 0 0 (MQ below (kc_Pi D (fun _ : Unit => (wM cx aM xw xh xk xj xb xr xc xv xn xl yR yT yC yW yA yE yU yM yV yF yZ yI yD)) v A) ([.ref (aM 0), .int x1, .int x2] : List Value).toArray s 0 0 A) (F0 m 0 ls []) by rw [hH, hL] at hW; exact hW
  clear hH hL
  refine lv_iload_n hx hb dX5_columnOf_0 rfl (lv_at hl 1 rfl) ?_
  refine lv_iload_n hx hb dX5_columnOf_1 rfl (lv_at hl 2 rfl) ?_
  refine lv_aload_n hx hb dX5_columnOf_2 rfl (lv_at hl 0 rfl) ?_
  refine va_get (D := D) (ci := 5) (v := .int xh) (C := RX5) (T := TX5) (N := 23) hx hb hts iX5 hown hK hP 0 rfl rfl 1 (by decide) (hts _ wd_641) (fun _ h9 => h9) rfl dX5_columnOf_3 ?_
  refine lv_iconst (v := (1 : Int32)) hx hb dX5_columnOf_6 (by decide) ?_
  refine lv_iadd hx hb dX5_columnOf_7 ?_
  refine lv_imul hx hb dX5_columnOf_8 ?_
  refine lv_ishr hx hb dX5_columnOf_9 ?_
  refine lv_iconst (v := (1 : Int32)) hx hb dX5_columnOf_10 (by decide) ?_
  refine lv_aload_n hx hb dX5_columnOf_11 rfl (lv_at hl 0 rfl) ?_
  refine va_get (D := D) (ci := 5) (v := .int xh) (C := RX5) (T := TX5) (N := 23) hx hb hts iX5 hown hK hP 0 rfl rfl 1 (by decide) (hts _ wd_641) (fun _ h9 => h9) rfl dX5_columnOf_12 ?_
  refine lv_iconst (v := (1 : Int32)) hx hb dX5_columnOf_15 (by decide) ?_
  refine lv_iadd hx hb dX5_columnOf_16 ?_
  refine lv_ishl hx hb dX5_columnOf_17 ?_
  refine lv_iconst (v := (1 : Int32)) hx hb dX5_columnOf_18 (by decide) ?_
  refine lv_isub hx hb dX5_columnOf_19 ?_
  refine lv_iand hx hb dX5_columnOf_20 ?_
  obtain rfl := Option.some.inj hf
  exact kc_iret () hx hb hr hk hP hD hS rfl dX5_columnOf_21
abbrev rmX5_heightOf : Room := { frames := 1, cells := 0, slots := 0, locals := 22 }
set_option maxHeartbeats 4000000 in
set_option maxRecDepth 100000 in
theorem metX5_heightOf (l : Launch) (D : va_G) (cx : Nat → ClassId) (aM : Nat → Nat) (xw : Int32) (xh : Int32) (xk : Int32) (xj : Int32) (xb : Int32) (xr : Int32) (xc : Int32) (xv : Int32) (xn : Int32) (xl : Int32) (yR : Nat → Int32) (yT : Nat → Int32) (yC : Nat → Int32) (yW : Nat → Int32) (yA : Nat → Int32) (yE : Nat → Int32) (yU : Nat → Int32) (yM : Nat → Int32) (yV : Nat → Int32) (yF : Nat → Int32) (yZ : Nat → Int32) (yI : Nat → Int32) (yD : Nat → Int32) (x1 : Int32) (x2 : Int32) (N : Nat) (sz : Nat) (v : Int32) (hf : fX5_heightOf N xh x1 x2 = some v) : Met l yX5_heightOf (.code yX5_heightOf cX5_heightOf 5 (some .int) :: kc_TB) rmX5_heightOf (kc_Pre D cx (wM cx aM xw xh xk xj xb xr xc xv xn xl yR yT yC yW yA yE yU yM yV yF yZ yI yD) [.ref (aM 0), .int x1, .int x2] sz) (kc_Pi D (fun _ : Unit => (wM cx aM xw xh xk xj xb xr xc xv xn xl yR yT yC yW yA yE yU yM yV yF yZ yI yD)) v (va_A (wM cx aM xw xh xk xj xb xr xc xv xn xl yR yT yC yW yA yE yU yM yV yF yZ yI yD) sz)) 0 0 (va_A (wM cx aM xw xh xk xj xb xr xc xv xn xl yR yT yC yW yA yE yU yM yV yF yZ yI yD) sz) := by
  refine kc_entry (Qc := fun A => (kc_Pi D (fun _ : Unit => (wM cx aM xw xh xk xj xb xr xc xv xn xl yR yT yC yW yA yE yU yM yV yF yZ yI yD)) v A)) (by decide) (Nat.le_of_ble_eq_true rfl) ?_
  intro p e s m below meth c A hx hb hr hk hml hown hin hts hN hK hP hD hS hA ls hl
  have hown : s.vm.findClass RX5 = some m.cls := hown
  have hl : lv_has ls 5 [(0, .ref (aM 0)), (1, .int x1), (2, .int x2)] := hl
  unfold fX5_heightOf at hf
  have hP : va_P D classes (wM cx aM xw xh xk xj xb xr xc xv xn xl yR yT yC yW yA yE yU yM yV yF yZ yI yD) s.heap := hP
  obtain ⟨H, hH⟩ : ∃ H, H = s.heap := ⟨_, rfl⟩
  obtain ⟨locs, hL⟩ : ∃ locs : List Loc, locs = [] := ⟨_, rfl⟩
  have hS : va_S A s.heap H locs := by rw [hH, hL]; exact hS
  have hP : va_P D classes (wM cx aM xw xh xk xj xb xr xc xv xn xl yR yT yC yW yA yE yU yM yV yF yZ yI yD) H := by rw [hH]; exact hP
  suffices hW : W p l e rmX5_heightOf s m ([.ref (aM 0), .int x1, .int x2] : List Value).toArray below meth c H locs 0 0 (MQ below (kc_Pi D (fun _ : Unit => (wM cx aM xw xh xk xj xb xr xc xv xn xl yR yT yC yW yA yE yU yM yV yF yZ yI yD)) v A) ([.ref (aM 0), .int x1, .int x2] : List Value).toArray s 0 0 A) (F0 m 0 ls []) by rw [hH, hL] at hW; exact hW
  clear hH hL
  refine lv_aload_n hx hb dX5_heightOf_0 rfl (lv_at hl 0 rfl) ?_
  refine lv_iload_n hx hb dX5_heightOf_1 rfl (lv_at hl 1 rfl) ?_
  refine lv_iload_n hx hb dX5_heightOf_2 rfl (lv_at hl 2 rfl) ?_
  obtain ⟨u3, hg, hf⟩ := ob_s hf
  refine kc_calli (wn := fun _ => (wM cx aM xw xh xk xj xb xr xc xv xn xl yR yT yC yW yA yE yU yM yV yF yZ yI yD)) (va_runV (As := [.int x1, .int x2]) (rest := []) ⟨hx, hb, hml, hown, hts⟩ (metX5_columnOf l D cx aM xw xh xk xj xb xr xc xv xn xl yR yT yC yW yA yE yU yM yV yF yZ yI yD x1 x2 N H.size u3 hg) ⟨callB_of 2 hts (kc_gI wd_615) rfl rfl rfl (hts _ wd_46) (hts _ wd_612) (by decide +kernel) ⟨Nat.le_of_ble_eq_true rfl, Nat.le_of_ble_eq_true rfl⟩, hts _ wd_614, hts _ wd_24⟩ ⟨kc_blind _ _ _ _ _, va_recv hK hP (ci := 5) (q0 := 0) rfl rfl, kc_pre _ hK hN (hP.sub [0, 1, 2, 3, 4, 5, 6, 7, 8, 9, 10, 11, 12, 13] rfl) (hD.sub [0, 1, 2, 3, 4, 5, 6, 7, 8, 9, 10, 11, 12, 13] (by decide) rfl)⟩ rfl rfl hl.1 rfl (lv_room (Nat.le_of_ble_eq_true rfl)) dX5_heightOf_3 ⟨Nat.zero_le _, Nat.zero_le _⟩) hP hD hS hA [0, 1, 2, 3, 4, 5, 6, 7, 8, 9, 10, 11, 12, 13] [] [0, 1, 2, 3, 4, 5, 6, 7, 8, 9, 10, 11, 12, 13] rfl rfl (by decide) (by decide) (fun _ => rfl) (by decide) (fun _ H locs hP hD hS => ?_)
  have hP : va_P D classes (wM cx aM xw xh xk xj xb xr xc xv xn xl yR yT yC yW yA yE yU yM yV yF yZ yI yD) H := hP
  have hD : va_D A (wM cx aM xw xh xk xj xb xr xc xv xn xl yR yT yC yW yA yE yU yM yV yF yZ yI yD) := hD
  refine lv_istore_n (lv' := [(3, .int u3), (0, .ref (aM 0)), (1, .int x1), (2, .int x2)]) hx hb dX5_heightOf_6 rfl hl (by decide) rfl (fun ls hl => ?_)
  refine lv_iconst (v := (0 : Int32)) hx hb dX5_heightOf_7 (by decide) ?_
  refine lv_istore (lv' := [(4, .int (0 : Int32)), (3, .int u3), (0, .ref (aM 0)), (1, .int x1), (2, .int x2)]) hx hb dX5_heightOf_8 hl (by decide) rfl (fun ls hl => ?_)
  have L10 : ∀ (ct : Nat) (x3 : Int32) (x4 : Int32) (v10 : Int32), fX5_heightOf_L10 N  ct x3 x4 = some v10 → ∀ (H : Heap) (locs : List Loc) (ls : Array Slot), va_P D classes (wM cx aM xw xh xk xj xb xr xc xv xn xl yR yT yC yW yA yE yU yM yV yF yZ yI yD) H → va_D A (wM cx aM xw xh xk xj xb xr xc xv xn xl yR yT yC yW yA yE yU yM yV yF yZ yI yD) → va_S A s.heap H locs → lv_has ls 5 [(3, .int x3), (4, .int x4)] → (∀ (H : Heap) (locs : List Loc) (ls : Array Slot), va_P D classes (wM cx aM xw xh xk xj xb xr xc xv xn xl yR yT yC yW yA yE yU yM yV yF yZ yI yD) H → va_D A (wM cx aM xw xh xk xj xb xr xc xv xn xl yR yT yC yW yA yE yU yM yV yF yZ yI yD) → va_S A s.heap H locs → lv_has ls 5 [(4, .int v10)] → W p l e rmX5_heightOf s m ([.ref (aM 0), .int x1, .int x2] : List Value).toArray below meth c H locs 0 0 (MQ below (kc_Pi D (fun _ : Unit => (wM cx aM xw xh xk xj xb xr xc xv xn xl yR yT yC yW yA yE yU yM yV yF yZ yI yD)) v A) ([.ref (aM 0), .int x1, .int x2] : List Value).toArray s 0 0 A) (F0 m 25 ls [])) → W p l e rmX5_heightOf s m ([.ref (aM 0), .int x1, .int x2] : List Value).toArray below meth c H locs 0 0 (MQ below (kc_Pi D (fun _ : Unit => (wM cx aM xw xh xk xj xb xr xc xv xn xl yR yT yC yW yA yE yU yM yV yF yZ yI yD)) v A) ([.ref (aM 0), .int x1, .int x2] : List Value).toArray s 0 0 A) (F0 m 10 ls []) := by
    intro ct
    induction ct with
    | zero =>
      intro x3 x4 v10 hf
      exact absurd (show (none : Option (Int32)) = some v10 from hf) (fun q => by cases q)
    | succ ct ih =>
      intro x3 x4 v10 hf H locs ls hP hD hS hl hE
      rw [fX5_heightOf_L10] at hf
      refine lv_iload_n hx hb dX5_heightOf_10 rfl (lv_at hl 0 rfl) ?_
      refine lv_iconst (v := (1 : Int32)) hx hb dX5_heightOf_11 (by decide) ?_
      refine lv_icmp_le (tgt := 25) hx hb dX5_heightOf_12 (by decide) (fun c5 => ?_) (fun c5 => ?_)
      · replace hf := it_t c5 hf
        obtain rfl := Option.some.inj hf
        exact hE H locs ls hP hD hS (lv_sub hl [1] rfl)
      · replace hf := it_f c5 hf
        refine lv_iload_n hx hb dX5_heightOf_15 rfl (lv_at hl 0 rfl) ?_
        refine lv_iconst (v := (1 : Int32)) hx hb dX5_heightOf_16 (by decide) ?_
        refine lv_ishr hx hb dX5_heightOf_17 ?_
        refine lv_istore_n (lv' := [(3, .int (x3 >>> ((1 : Int32) &&& 31))), (4, .int x4)]) hx hb dX5_heightOf_18 rfl hl (by decide) rfl (fun ls hl => ?_)
        refine lv_iinc (v := (x4 + (1 : Int32))) (lv' := [(4, .int (x4 + (1 : Int32))), (3, .int (x3 >>> ((1 : Int32) &&& 31)))]) hx hb dX5_heightOf_19 hl (k := 1) rfl rfl (by decide) rfl (fun ls hl => ?_)
        refine lv_goto (tgt := 10) hx hb dX5_heightOf_22 (by decide) ?_
        exact ih (x3 >>> ((1 : Int32) &&& 31)) (x4 + (1 : Int32)) _ hf H locs ls hP hD hS (lv_sub hl [1, 0] rfl) hE
  obtain ⟨u6, hg, hf⟩ := ob_s hf
  refine L10 _ u3 (0 : Int32) u6 hg H locs ls hP hD hS (lv_sub hl [1, 0] rfl) (fun H locs ls hP hD hS hl => ?_)
  refine lv_iload hx hb dX5_heightOf_25 (lv_at hl 0 rfl) ?_
  obtain rfl := Option.some.inj hf
  exact kc_iret () hx hb hr hk hP hD hS rfl dX5_heightOf_27
abbrev rmX5_dropped : Room := { frames := 2, cells := 0, slots := 0, locals := 46 }
set_option maxHeartbeats 4000000 in
set_option maxRecDepth 100000 in
theorem metX5_dropped (l : Launch) (D : va_G) (cx : Nat → ClassId) (aM : Nat → Nat) (xw : Int32) (xh : Int32) (xk : Int32) (xj : Int32) (xb : Int32) (xr : Int32) (xc : Int32) (xv : Int32) (xn : Int32) (xl : Int32) (yR : Nat → Int32) (yT : Nat → Int32) (yC : Nat → Int32) (yW : Nat → Int32) (yA : Nat → Int32) (yE : Nat → Int32) (yU : Nat → Int32) (yM : Nat → Int32) (yV : Nat → Int32) (yF : Nat → Int32) (yZ : Nat → Int32) (yI : Nat → Int32) (yD : Nat → Int32) (x1 : Int32) (x2 : Int32) (x3 : Int32) (N : Nat) (sz : Nat) (v : Int32) (hf : fX5_dropped N xh x1 x2 x3 = some v) : Met l yX5_dropped (.code yX5_dropped cX5_dropped 4 (some .int) :: kc_TB) rmX5_dropped (kc_Pre D cx (wM cx aM xw xh xk xj xb xr xc xv xn xl yR yT yC yW yA yE yU yM yV yF yZ yI yD) [.ref (aM 0), .int x1, .int x2, .int x3] sz) (kc_Pi D (fun _ : Unit => (wM cx aM xw xh xk xj xb xr xc xv xn xl yR yT yC yW yA yE yU yM yV yF yZ yI yD)) v (va_A (wM cx aM xw xh xk xj xb xr xc xv xn xl yR yT yC yW yA yE yU yM yV yF yZ yI yD) sz)) 0 0 (va_A (wM cx aM xw xh xk xj xb xr xc xv xn xl yR yT yC yW yA yE yU yM yV yF yZ yI yD) sz) := by
  refine kc_entry (Qc := fun A => (kc_Pi D (fun _ : Unit => (wM cx aM xw xh xk xj xb xr xc xv xn xl yR yT yC yW yA yE yU yM yV yF yZ yI yD)) v A)) (by decide) (Nat.le_of_ble_eq_true rfl) ?_
  intro p e s m below meth c A hx hb hr hk hml hown hin hts hN hK hP hD hS hA ls hl
  have hown : s.vm.findClass RX5 = some m.cls := hown
  have hl : lv_has ls 4 [(0, .ref (aM 0)), (1, .int x1), (2, .int x2), (3, .int x3)] := hl
  unfold fX5_dropped at hf
  have hP : va_P D classes (wM cx aM xw xh xk xj xb xr xc xv xn xl yR yT yC yW yA yE yU yM yV yF yZ yI yD) s.heap := hP
  obtain ⟨H, hH⟩ : ∃ H, H = s.heap := ⟨_, rfl⟩
  obtain ⟨locs, hL⟩ : ∃ locs : List Loc, locs = [] := ⟨_, rfl⟩
  have hS : va_S A s.heap H locs := by rw [hH, hL]; exact hS
  have hP : va_P D classes (wM cx aM xw xh xk xj xb xr xc xv xn xl yR yT yC yW yA yE yU yM yV yF yZ yI yD) H := by rw [hH]; exact hP
  suffices hW : W p l e rmX5_dropped s m ([.ref (aM 0), .int x1, .int x2, .int x3] : List Value).toArray below meth c H locs 0 0 (MQ below (kc_Pi D (fun _ : Unit => (wM cx aM xw xh xk xj xb xr xc xv xn xl yR yT yC yW yA yE yU yM yV yF yZ yI yD)) v A) ([.ref (aM 0), .int x1, .int x2, .int x3] : List Value).toArray s 0 0 A) (F0 m 0 ls []) by rw [hH, hL] at hW; exact hW
  clear hH hL
  refine lv_iload_n hx hb dX5_dropped_0 rfl (lv_at hl 1 rfl) ?_
  refine lv_iconst (v := (1 : Int32)) hx hb dX5_dropped_1 (by decide) ?_
  refine lv_iload_n hx hb dX5_dropped_2 rfl (lv_at hl 3 rfl) ?_
  refine lv_iadd hx hb dX5_dropped_3 ?_
  refine lv_iload_n hx hb dX5_dropped_4 rfl (lv_at hl 2 rfl) ?_
  refine lv_aload_n hx hb dX5_dropped_5 rfl (lv_at hl 0 rfl) ?_
  refine va_get (D := D) (ci := 5) (v := .int xh) (C := RX5) (T := TX5) (N := 23) hx hb hts iX5 hown hK hP 0 rfl rfl 1 (by decide) (hts _ wd_641) (fun _ h9 => h9) rfl dX5_dropped_6 ?_
  refine lv_iconst (v := (1 : Int32)) hx hb dX5_dropped_9 (by decide) ?_
  refine lv_iadd hx hb dX5_dropped_10 ?_
  refine lv_imul hx hb dX5_dropped_11 ?_
  refine lv_aload_n hx hb dX5_dropped_12 rfl (lv_at hl 0 rfl) ?_
  refine lv_iload_n hx hb dX5_dropped_13 rfl (lv_at hl 1 rfl) ?_
  refine lv_iload_n hx hb dX5_dropped_14 rfl (lv_at hl 2 rfl) ?_
  obtain ⟨u2, hg, hf⟩ := ob_s hf
  refine kc_calli (wn := fun _ => (wM cx aM xw xh xk xj xb xr xc xv xn xl yR yT yC yW yA yE yU yM yV yF yZ yI yD)) (va_runV (As := [.int x1, .int x2]) (rest := [.int (x2 * (xh + (1 : Int32))), .int ((1 : Int32) + x3), .int x1]) ⟨hx, hb, hml, hown, hts⟩ (metX5_heightOf l D cx aM xw xh xk xj xb xr xc xv xn xl yR yT yC yW yA yE yU yM yV yF yZ yI yD x1 x2 N H.size u2 hg) ⟨callB_of 2 hts (kc_gI wd_611) rfl rfl rfl (hts _ wd_46) (hts _ wd_608) (by decide +kernel) ⟨Nat.le_of_ble_eq_true rfl, Nat.le_of_ble_eq_true rfl⟩, hts _ wd_610, hts _ wd_23⟩ ⟨kc_blind _ _ _ _ _, va_recv hK hP (ci := 5) (q0 := 0) rfl rfl, kc_pre _ hK hN (hP.sub [0, 1, 2, 3, 4, 5, 6, 7, 8, 9, 10, 11, 12, 13] rfl) (hD.sub [0, 1, 2, 3, 4, 5, 6, 7, 8, 9, 10, 11, 12, 13] (by decide) rfl)⟩ rfl rfl hl.1 rfl (lv_room (Nat.le_of_ble_eq_true rfl)) dX5_dropped_15 ⟨Nat.zero_le _, Nat.zero_le _⟩) hP hD hS hA [0, 1, 2, 3, 4, 5, 6, 7, 8, 9, 10, 11, 12, 13] [] [0, 1, 2, 3, 4, 5, 6, 7, 8, 9, 10, 11, 12, 13] rfl rfl (by decide) (by decide) (fun _ => rfl) (by decide) (fun _ H locs hP hD hS => ?_)
  have hP : va_P D classes (wM cx aM xw xh xk xj xb xr xc xv xn xl yR yT yC yW yA yE yU yM yV yF yZ yI yD) H := hP
  have hD : va_D A (wM cx aM xw xh xk xj xb xr xc xv xn xl yR yT yC yW yA yE yU yM yV yF yZ yI yD) := hD
  refine lv_iadd hx hb dX5_dropped_18 ?_
  refine lv_ishl hx hb dX5_dropped_19 ?_
  refine lv_iadd hx hb dX5_dropped_20 ?_
  obtain rfl := Option.some.inj hf
  exact kc_iret () hx hb hr hk hP hD hS rfl dX5_dropped_21
abbrev rmX5_decode : Room := { frames := 2, cells := 0, slots := 0, locals := 46 }
set_option maxHeartbeats 4000000 in
set_option maxRecDepth 100000 in
theorem metX5_decode (l : Launch) (D : va_G) (cx : Nat → ClassId) (aM : Nat → Nat) (xw : Int32) (xh : Int32) (xk : Int32) (xj : Int32) (xb : Int32) (xr : Int32) (xc : Int32) (xv : Int32) (xn : Int32) (xl : Int32) (yR : Nat → Int32) (yT : Nat → Int32) (yC : Nat → Int32) (yW : Nat → Int32) (yA : Nat → Int32) (yE : Nat → Int32) (yU : Nat → Int32) (yM : Nat → Int32) (yV : Nat → Int32) (yF : Nat → Int32) (yZ : Nat → Int32) (yI : Nat → Int32) (yD : Nat → Int32) (x1 : Int32) (N : Nat) (sz : Nat) (v : Int32 × (Nat → Int32)) (hf : fX5_decode N xw xh yM x1 = some v) : Met l yX5_decode (.code yX5_decode cX5_decode 6 none :: kc_TB) rmX5_decode (kc_Pre D cx (wM cx aM xw xh xk xj xb xr xc xv xn xl yR yT yC yW yA yE yU yM yV yF yZ yI yD) [.ref (aM 0), .int x1] sz) (kc_Pv D (fun _ : Unit => (wM cx aM xw xh xk xj xb xr v.1 xv xn xl yR yT yC yW yA yE yU v.2 yV yF yZ yI yD)) (va_A (wM cx aM xw xh xk xj xb xr xc xv xn xl yR yT yC yW yA yE yU yM yV yF yZ yI yD) sz)) 0 0 (va_A (wM cx aM xw xh xk xj xb xr xc xv xn xl yR yT yC yW yA yE yU yM yV yF yZ yI yD) sz) := by
  refine kc_entry (Qc := fun A => (kc_Pv D (fun _ : Unit => (wM cx aM xw xh xk xj xb xr v.1 xv xn xl yR yT yC yW yA yE yU v.2 yV yF yZ yI yD)) A)) (by decide) (Nat.le_of_ble_eq_true rfl) ?_
  intro p e s m below meth c A hx hb hr hk hml hown hin hts hN hK hP hD hS hA ls hl
  have hown : s.vm.findClass RX5 = some m.cls := hown
  have hl : lv_has ls 6 [(0, .ref (aM 0)), (1, .int x1)] := hl
  unfold fX5_decode at hf
  have hP : va_P D classes (wM cx aM xw xh xk xj xb xr xc xv xn xl yR yT yC yW yA yE yU yM yV yF yZ yI yD) s.heap := hP
  obtain ⟨H, hH⟩ : ∃ H, H = s.heap := ⟨_, rfl⟩
  obtain ⟨locs, hL⟩ : ∃ locs : List Loc, locs = [] := ⟨_, rfl⟩
  have hS : va_S A s.heap H locs := by rw [hH, hL]; exact hS
  have hP : va_P D classes (wM cx aM xw xh xk xj xb xr xc xv xn xl yR yT yC yW yA yE yU yM yV yF yZ yI yD) H := by rw [hH]; exact hP
  suffices hW : W p l e rmX5_decode s m ([.ref (aM 0), .int x1] : List Value).toArray below meth c H locs 0 0 (MQ below (kc_Pv D (fun _ : Unit => (wM cx aM xw xh xk xj xb xr v.1 xv xn xl yR yT yC yW yA yE yU v.2 yV yF yZ yI yD)) A) ([.ref (aM 0), .int x1] : List Value).toArray s 0 0 A) (F0 m 0 ls []) by rw [hH, hL] at hW; exact hW
  clear hH hL
  refine lv_aload_n hx hb dX5_decode_0 rfl (lv_at hl 0 rfl) ?_
  refine va_get (D := D) (ci := 5) (v := .ref (aM 8)) (C := RX5) (T := TX5) (N := 23) hx hb hts iX5 hown hK hP 0 rfl rfl 13 (by decide) (hts _ wd_653) (fun _ h9 => h9) rfl dX5_decode_1 ?_
  refine lv_iconst (v := (0 : Int32)) hx hb dX5_decode_4 (by decide) ?_
  refine lv_iconst (v := (0 : Int32)) hx hb dX5_decode_5 (by decide) ?_
  obtain ⟨hz, hf⟩ := okb_s hf
  refine va_iast (D := D) hx hb hK hP hD hS 8 0 rfl rfl (inb_s hz) dX5_decode_6 (fun H locs hP hD hS => ?_)
  have hP : va_P D classes (wM cx aM xw xh xk xj xb xr xc xv xn xl yR yT yC yW yA yE yU (upd yM (0 : Int32).toNatClampNeg (0 : Int32)) yV yF yZ yI yD) H := hP
  have hD : va_D A (wM cx aM xw xh xk xj xb xr xc xv xn xl yR yT yC yW yA yE yU (upd yM (0 : Int32).toNatClampNeg (0 : Int32)) yV yF yZ yI yD) := hD
  refine lv_aload_n hx hb dX5_decode_7 rfl (lv_at hl 0 rfl) ?_
  refine va_get (D := D) (ci := 5) (v := .ref (aM 8)) (C := RX5) (T := TX5) (N := 23) hx hb hts iX5 hown hK hP 0 rfl rfl 13 (by decide) (hts _ wd_653) (fun _ h9 => h9) rfl dX5_decode_8 ?_
  refine lv_iconst (v := (1 : Int32)) hx hb dX5_decode_11 (by decide) ?_
  refine lv_iconst (v := (0 : Int32)) hx hb dX5_decode_12 (by decide) ?_
  obtain ⟨hz, hf⟩ := okb_s hf
  refine va_iast (D := D) hx hb hK hP hD hS 8 0 rfl rfl (inb_s hz) dX5_decode_13 (fun H locs hP hD hS => ?_)
  have hP : va_P D classes (wM cx aM xw xh xk xj xb xr xc xv xn xl yR yT yC yW yA yE yU (upd (upd yM (0 : Int32).toNatClampNeg (0 : Int32)) (1 : Int32).toNatClampNeg (0 : Int32)) yV yF yZ yI yD) H := hP
  have hD : va_D A (wM cx aM xw xh xk xj xb xr xc xv xn xl yR yT yC yW yA yE yU (upd (upd yM (0 : Int32).toNatClampNeg (0 : Int32)) (1 : Int32).toNatClampNeg (0 : Int32)) yV yF yZ yI yD) := hD
  refine lv_aload_n hx hb dX5_decode_14 rfl (lv_at hl 0 rfl) ?_
  refine lv_iconst (v := (0 : Int32)) hx hb dX5_decode_15 (by decide) ?_
  refine va_put (D := D) (ci := 5) (v := .int (0 : Int32)) (ty := .int) (C := RX5) (T := TX5) (N := 23) hx hb hts iX5 tyX5 tyX5_ok nmX5 hown hK hP hD hS 0 rfl rfl 14 (by decide) (hts _ wd_654) (fun _ h9 => h9) rfl (by decide +kernel) rfl rfl (Nat.le_of_ble_eq_true rfl) dX5_decode_16 (fun H locs hP hD hS => ?_)
  have hP : va_P D classes (wM cx aM xw xh xk xj xb xr (0 : Int32) xv xn xl yR yT yC yW yA yE yU (upd (upd yM (0 : Int32).toNatClampNeg (0 : Int32)) (1 : Int32).toNatClampNeg (0 : Int32)) yV yF yZ yI yD) H := hP
  have hD : va_D A (wM cx aM xw xh xk xj xb xr (0 : Int32) xv xn xl yR yT yC yW yA yE yU (upd (upd yM (0 : Int32).toNatClampNeg (0 : Int32)) (1 : Int32).toNatClampNeg (0 : Int32)) yV yF yZ yI yD) := hD
  refine lv_iconst (v := (0 : Int32)) hx hb dX5_decode_19 (by decide) ?_
  refine lv_istore_n (lv' := [(2, .int (0 : Int32)), (0, .ref (aM 0)), (1, .int x1)]) hx hb dX5_decode_20 rfl hl (by decide) rfl (fun ls hl => ?_)
  have L21 : ∀ (ct : Nat) (xc : Int32) (yM : Nat → Int32) (x2 : Int32) (v21 : Int32 × (Nat → Int32)), fX5_decode_L21 N xw xh x1 ct xc yM x2 = some v21 → ∀ (H : Heap) (locs : List Loc) (ls : Array Slot), va_P D classes (wM cx aM xw xh xk xj xb xr xc xv xn xl yR yT yC yW yA yE yU yM yV yF yZ yI yD) H → va_D A (wM cx aM xw xh xk xj xb xr xc xv xn xl yR yT yC yW yA yE yU yM yV yF yZ yI yD) → va_S A s.heap H locs → lv_has ls 6 [(0, .ref (aM 0)), (1, .int x1), (2, .int x2)] → (∀ (H : Heap) (locs : List Loc) (ls : Array Slot), va_P D classes (wM cx aM xw xh xk xj xb xr v21.1 xv xn xl yR yT yC yW yA yE yU v21.2 yV yF yZ yI yD) H → va_D A (wM cx aM xw xh xk xj xb xr v21.1 xv xn xl yR yT yC yW yA yE yU v21.2 yV yF yZ yI yD) → va_S A s.heap H locs → lv_has ls 6 [] → W p l e rmX5_decode s m ([.ref (aM 0), .int x1] : List Value).toArray below meth c H locs 0 0 (MQ below (kc_Pv D (fun _ : Unit => (wM cx aM xw xh xk xj xb xr v.1 xv xn xl yR yT yC yW yA yE yU v.2 yV yF yZ yI yD)) A) ([.ref (aM 0), .int x1] : List Value).toArray s 0 0 A) (F0 m 101 ls [])) → W p l e rmX5_decode s m ([.ref (aM 0), .int x1] : List Value).toArray below meth c H locs 0 0 (MQ below (kc_Pv D (fun _ : Unit => (wM cx aM xw xh xk xj xb xr v.1 xv xn xl yR yT yC yW yA yE yU v.2 yV yF yZ yI yD)) A) ([.ref (aM 0), .int x1] : List Value).toArray s 0 0 A) (F0 m 21 ls []) := by
    intro ct
    induction ct with
    | zero =>
      intro xc yM x2 v21 hf
      exact absurd (show (none : Option (Int32 × (Nat → Int32))) = some v21 from hf) (fun q => by cases q)
    | succ ct ih =>
      intro xc yM x2 v21 hf H locs ls hP hD hS hl hE
      rw [fX5_decode_L21] at hf
      refine lv_iload_n hx hb dX5_decode_21 rfl (lv_at hl 2 rfl) ?_
      refine lv_aload_n hx hb dX5_decode_22 rfl (lv_at hl 0 rfl) ?_
      refine va_get (D := D) (ci := 5) (v := .int xw) (C := RX5) (T := TX5) (N := 23) hx hb hts iX5 hown hK hP 0 rfl rfl 0 (by decide) (hts _ wd_640) (fun _ h9 => h9) rfl dX5_decode_23 ?_
      refine lv_icmp_ge (tgt := 101) hx hb dX5_decode_26 (by decide) (fun c11 => ?_) (fun c11 => ?_)
      · replace hf := it_t c11 hf
        obtain rfl := Option.some.inj hf
        exact hE H locs ls hP hD hS (lv_sub hl [] rfl)
      · replace hf := it_f c11 hf
        refine lv_aload_n hx hb dX5_decode_29 rfl (lv_at hl 0 rfl) ?_
        refine lv_iload_n hx hb dX5_decode_30 rfl (lv_at hl 1 rfl) ?_
        refine lv_iload_n hx hb dX5_decode_31 rfl (lv_at hl 2 rfl) ?_
        obtain ⟨u12, hg, hf⟩ := ob_s hf
        refine kc_calli (wn := fun _ => (wM cx aM xw xh xk xj xb xr xc xv xn xl yR yT yC yW yA yE yU yM yV yF yZ yI yD)) (va_runV (As := [.int x1, .int x2]) (rest := []) ⟨hx, hb, hml, hown, hts⟩ (metX5_heightOf l D cx aM xw xh xk xj xb xr xc xv xn xl yR yT yC yW yA yE yU yM yV yF yZ yI yD x1 x2 N H.size u12 hg) ⟨callB_of 2 hts (kc_gI wd_611) rfl rfl rfl (hts _ wd_46) (hts _ wd_608) (by decide +kernel) ⟨Nat.le_of_ble_eq_true rfl, Nat.le_of_ble_eq_true rfl⟩, hts _ wd_610, hts _ wd_23⟩ ⟨kc_blind _ _ _ _ _, va_recv hK hP (ci := 5) (q0 := 0) rfl rfl, kc_pre _ hK hN (hP.sub [0, 1, 2, 3, 4, 5, 6, 7, 8, 9, 10, 11, 12, 13] rfl) (hD.sub [0, 1, 2, 3, 4, 5, 6, 7, 8, 9, 10, 11, 12, 13] (by decide) rfl)⟩ rfl rfl hl.1 rfl (lv_room (Nat.le_of_ble_eq_true rfl)) dX5_decode_32 ⟨Nat.zero_le _, Nat.zero_le _⟩) hP hD hS hA [0, 1, 2, 3, 4, 5, 6, 7, 8, 9, 10, 11, 12, 13] [] [0, 1, 2, 3, 4, 5, 6, 7, 8, 9, 10, 11, 12, 13] rfl rfl (by decide) (by decide) (fun _ => rfl) (by decide) (fun _ H locs hP hD hS => ?_)
        have hP : va_P D classes (wM cx aM xw xh xk xj xb xr xc xv xn xl yR yT yC yW yA yE yU yM yV yF yZ yI yD) H := hP
        have hD : va_D A (wM cx aM xw xh xk xj xb xr xc xv xn xl yR yT yC yW yA yE yU yM yV yF yZ yI yD) := hD
        refine lv_istore_n (lv' := [(3, .int u12), (0, .ref (aM 0)), (1, .int x1), (2, .int x2)]) hx hb dX5_decode_35 rfl hl (by decide) rfl (fun ls hl => ?_)
        refine lv_aload_n hx hb dX5_decode_36 rfl (lv_at hl 1 rfl) ?_
        refine lv_iload_n hx hb dX5_decode_37 rfl (lv_at hl 2 rfl) ?_
        refine lv_iload_n hx hb dX5_decode_38 rfl (lv_at hl 3 rfl) ?_
        obtain ⟨u13, hg, hf⟩ := ob_s hf
        refine kc_calli (wn := fun _ => (wM cx aM xw xh xk xj xb xr xc xv xn xl yR yT yC yW yA yE yU yM yV yF yZ yI yD)) (va_runV (As := [.int x1, .int x2]) (rest := []) ⟨hx, hb, hml, hown, hts⟩ (metX5_columnOf l D cx aM xw xh xk xj xb xr xc xv xn xl yR yT yC yW yA yE yU yM yV yF yZ yI yD x1 x2 N H.size u13 hg) ⟨callB_of 2 hts (kc_gI wd_615) rfl rfl rfl (hts _ wd_46) (hts _ wd_612) (by decide +kernel) ⟨Nat.le_of_ble_eq_true rfl, Nat.le_of_ble_eq_true rfl⟩, hts _ wd_614, hts _ wd_24⟩ ⟨kc_blind _ _ _ _ _, va_recv hK hP (ci := 5) (q0 := 0) rfl rfl, kc_pre _ hK hN (hP.sub [0, 1, 2, 3, 4, 5, 6, 7, 8, 9, 10, 11, 12, 13] rfl) (hD.sub [0, 1, 2, 3, 4, 5, 6, 7, 8, 9, 10, 11, 12, 13] (by decide) rfl)⟩ rfl rfl hl.1 rfl (lv_room (Nat.le_of_ble_eq_true rfl)) dX5_decode_39 ⟨Nat.zero_le _, Nat.zero_le _⟩) hP hD hS hA [0, 1, 2, 3, 4, 5, 6, 7, 8, 9, 10, 11, 12, 13] [] [0, 1, 2, 3, 4, 5, 6, 7, 8, 9, 10, 11, 12, 13] rfl rfl (by decide) (by decide) (fun _ => rfl) (by decide) (fun _ H locs hP hD hS => ?_)
        have hP : va_P D classes (wM cx aM xw xh xk xj xb xr xc xv xn xl yR yT yC yW yA yE yU yM yV yF yZ yI yD) H := hP
        have hD : va_D A (wM cx aM xw xh xk xj xb xr xc xv xn xl yR yT yC yW yA yE yU yM yV yF yZ yI yD) := hD
        refine lv_istore (lv' := [(4, .int u13), (3, .int u12), (0, .ref (aM 0)), (1, .int x1), (2, .int x2)]) hx hb dX5_decode_42 hl (by decide) rfl (fun ls hl => ?_)
        refine lv_iconst (v := (0 : Int32)) hx hb dX5_decode_44 (by decide) ?_
        refine lv_istore (lv' := [(5, .int (0 : Int32)), (4, .int u13), (3, .int u12), (0, .ref (aM 0)), (1, .int x1), (2, .int x2)]) hx hb dX5_decode_45 hl (by decide) rfl (fun ls hl => ?_)
        have L47 : ∀ (ct : Nat) (yM : Nat → Int32) (x5 : Int32) (v47 : (Nat → Int32)), fX5_decode_L47 N xw x2 u12 u13 ct yM x5 = some v47 → ∀ (H : Heap) (locs : List Loc) (ls : Array Slot), va_P D classes (wM cx aM xw xh xk xj xb xr xc xv xn xl yR yT yC yW yA yE yU yM yV yF yZ yI yD) H → va_D A (wM cx aM xw xh xk xj xb xr xc xv xn xl yR yT yC yW yA yE yU yM yV yF yZ yI yD) → va_S A s.heap H locs → lv_has ls 6 [(0, .ref (aM 0)), (1, .int x1), (2, .int x2), (3, .int u12), (4, .int u13), (5, .int x5)] → (∀ (H : Heap) (locs : List Loc) (ls : Array Slot), va_P D classes (wM cx aM xw xh xk xj xb xr xc xv xn xl yR yT yC yW yA yE yU v47 yV yF yZ yI yD) H → va_D A (wM cx aM xw xh xk xj xb xr xc xv xn xl yR yT yC yW yA yE yU v47 yV yF yZ yI yD) → va_S A s.heap H locs → lv_has ls 6 [(0, .ref (aM 0)), (1, .int x1), (2, .int x2), (3, .int u12)] → W p l e rmX5_decode s m ([.ref (aM 0), .int x1] : List Value).toArray below meth c H locs 0 0 (MQ below (kc_Pv D (fun _ : Unit => (wM cx aM xw xh xk xj xb xr v.1 xv xn xl yR yT yC yW yA yE yU v.2 yV yF yZ yI yD)) A) ([.ref (aM 0), .int x1] : List Value).toArray s 0 0 A) (F0 m 85 ls [])) → W p l e rmX5_decode s m ([.ref (aM 0), .int x1] : List Value).toArray below meth c H locs 0 0 (MQ below (kc_Pv D (fun _ : Unit => (wM cx aM xw xh xk xj xb xr v.1 xv xn xl yR yT yC yW yA yE yU v.2 yV yF yZ yI yD)) A) ([.ref (aM 0), .int x1] : List Value).toArray s 0 0 A) (F0 m 47 ls []) := by
          intro ct
          induction ct with
          | zero =>
            intro yM x5 v47 hf
            exact absurd (show (none : Option ((Nat → Int32))) = some v47 from hf) (fun q => by cases q)
          | succ ct ih =>
            intro yM x5 v47 hf H locs ls hP hD hS hl hE
            rw [fX5_decode_L47] at hf
            refine lv_iload hx hb dX5_decode_47 (lv_at hl 5 rfl) ?_
            refine lv_iload_n hx hb dX5_decode_49 rfl (lv_at hl 3 rfl) ?_
            refine lv_icmp_ge (tgt := 85) hx hb dX5_decode_50 (by decide) (fun c14 => ?_) (fun c14 => ?_)
            · replace hf := it_t c14 hf
              obtain rfl := Option.some.inj hf
              exact hE H locs ls hP hD hS (lv_sub hl [0, 1, 2, 3] rfl)
            · replace hf := it_f c14 hf
              refine lv_aload_n hx hb dX5_decode_53 rfl (lv_at hl 0 rfl) ?_
              refine va_get (D := D) (ci := 5) (v := .ref (aM 8)) (C := RX5) (T := TX5) (N := 23) hx hb hts iX5 hown hK hP 0 rfl rfl 13 (by decide) (hts _ wd_653) (fun _ h9 => h9) rfl dX5_decode_54 ?_
              refine lv_iload hx hb dX5_decode_57 (lv_at hl 4 rfl) ?_
              refine lv_iload hx hb dX5_decode_59 (lv_at hl 5 rfl) ?_
              refine lv_ishr hx hb dX5_decode_61 ?_
              refine lv_iconst (v := (1 : Int32)) hx hb dX5_decode_62 (by decide) ?_
              refine lv_iand hx hb dX5_decode_63 ?_
              refine lv_dup2_11 hx hb dX5_decode_64 rfl rfl ?_
              obtain ⟨hz, hf⟩ := okb_s hf
              refine va_iald (D := D) hx hb hK hP 8 0 rfl rfl (inb_s hz) dX5_decode_65 ?_
              refine lv_iconst (v := (1 : Int32)) hx hb dX5_decode_66 (by decide) ?_
              refine lv_aload_n hx hb dX5_decode_67 rfl (lv_at hl 0 rfl) ?_
              refine va_get (D := D) (ci := 5) (v := .int xw) (C := RX5) (T := TX5) (N := 23) hx hb hts iX5 hown hK hP 0 rfl rfl 0 (by decide) (hts _ wd_640) (fun _ h9 => h9) rfl dX5_decode_68 ?_
              refine lv_iload hx hb dX5_decode_71 (lv_at hl 5 rfl) ?_
              refine lv_imul hx hb dX5_decode_73 ?_
              refine lv_iload_n hx hb dX5_decode_74 rfl (lv_at hl 2 rfl) ?_
              refine lv_iadd hx hb dX5_decode_75 ?_
              refine lv_ishl hx hb dX5_decode_76 ?_
              refine lv_ior hx hb dX5_decode_77 ?_
              obtain ⟨hz, hf⟩ := okb_s hf
              refine va_iast (D := D) hx hb hK hP hD hS 8 0 rfl rfl (inb_s hz) dX5_decode_78 (fun H locs hP hD hS => ?_)
              have hP : va_P D classes (wM cx aM xw xh xk xj xb xr xc xv xn xl yR yT yC yW yA yE yU (upd yM ((u13 >>> (x5 &&& 31)) &&& (1 : Int32)).toNatClampNeg ((yM ((u13 >>> (x5 &&& 31)) &&& (1 : Int32)).toNatClampNeg) ||| ((1 : Int32) <<< (((xw * x5) + x2) &&& 31)))) yV yF yZ yI yD) H := hP
              have hD : va_D A (wM cx aM xw xh xk xj xb xr xc xv xn xl yR yT yC yW yA yE yU (upd yM ((u13 >>> (x5 &&& 31)) &&& (1 : Int32)).toNatClampNeg ((yM ((u13 >>> (x5 &&& 31)) &&& (1 : Int32)).toNatClampNeg) ||| ((1 : Int32) <<< (((xw * x5) + x2) &&& 31)))) yV yF yZ yI yD) := hD
              refine lv_iinc (v := (x5 + (1 : Int32))) (lv' := [(5, .int (x5 + (1 : Int32))), (0, .ref (aM 0)), (1, .int x1), (2, .int x2), (3, .int u12), (4, .int u13)]) hx hb dX5_decode_79 hl (k := 5) rfl rfl (by decide) rfl (fun ls hl => ?_)
              refine lv_goto (tgt := 47) hx hb dX5_decode_82 (by decide) ?_
              exact ih (upd yM ((u13 >>> (x5 &&& 31)) &&& (1 : Int32)).toNatClampNeg ((yM ((u13 >>> (x5 &&& 31)) &&& (1 : Int32)).toNatClampNeg) ||| ((1 : Int32) <<< (((xw * x5) + x2) &&& 31)))) (x5 + (1 : Int32)) _ hf H locs ls hP hD hS (lv_sub hl [1, 2, 3, 4, 5, 0] rfl) hE
        obtain ⟨u15, hg, hf⟩ := ob_s hf
        refine L47 _ yM (0 : Int32) u15 hg H locs ls hP hD hS (lv_sub hl [3, 4, 5, 2, 1, 0] rfl) (fun H locs ls hP hD hS hl => ?_)
        refine lv_aload_n hx hb dX5_decode_85 rfl (lv_at hl 0 rfl) ?_
        refine lv_dup hx hb dX5_decode_86 rfl ?_
        refine va_get (D := D) (ci := 5) (v := .int xc) (C := RX5) (T := TX5) (N := 23) hx hb hts iX5 hown hK hP 0 rfl rfl 14 (by decide) (hts _ wd_654) (fun _ h9 => h9) rfl dX5_decode_87 ?_
        refine lv_iload_n hx hb dX5_decode_90 rfl (lv_at hl 3 rfl) ?_
        refine lv_iadd hx hb dX5_decode_91 ?_
        refine va_put (D := D) (ci := 5) (v := .int (xc + u12)) (ty := .int) (C := RX5) (T := TX5) (N := 23) hx hb hts iX5 tyX5 tyX5_ok nmX5 hown hK hP hD hS 0 rfl rfl 14 (by decide) (hts _ wd_654) (fun _ h9 => h9) rfl (by decide +kernel) rfl rfl (Nat.le_of_ble_eq_true rfl) dX5_decode_92 (fun H locs hP hD hS => ?_)
        have hP : va_P D classes (wM cx aM xw xh xk xj xb xr (xc + u12) xv xn xl yR yT yC yW yA yE yU u15 yV yF yZ yI yD) H := hP
        have hD : va_D A (wM cx aM xw xh xk xj xb xr (xc + u12) xv xn xl yR yT yC yW yA yE yU u15 yV yF yZ yI yD) := hD
        refine lv_iinc (v := (x2 + (1 : Int32))) (lv' := [(2, .int (x2 + (1 : Int32))), (0, .ref (aM 0)), (1, .int x1), (3, .int u12)]) hx hb dX5_decode_95 hl (k := 2) rfl rfl (by decide) rfl (fun ls hl => ?_)
        refine lv_goto (tgt := 21) hx hb dX5_decode_98 (by decide) ?_
        exact ih (xc + u12) u15 (x2 + (1 : Int32)) _ hf H locs ls hP hD hS (lv_sub hl [1, 2, 0] rfl) hE
  obtain ⟨u16, hg, hf⟩ := ob_s hf
  refine L21 _ (0 : Int32) (upd (upd yM (0 : Int32).toNatClampNeg (0 : Int32)) (1 : Int32).toNatClampNeg (0 : Int32)) (0 : Int32) u16 hg H locs ls hP hD hS (lv_sub hl [1, 2, 0] rfl) (fun H locs ls hP hD hS hl => ?_)
  obtain rfl := Option.some.inj hf
  exact kc_vret () hx hb hr hk hP hD hS dX5_decode_101
abbrev rmX5_has : Room := { frames := 0, cells := 0, slots := 0, locals := 0 }
set_option maxHeartbeats 4000000 in
set_option maxRecDepth 100000 in
theorem metX5_has (l : Launch) (D : va_G) (cx : Nat → ClassId) (aM : Nat → Nat) (xw : Int32) (xh : Int32) (xk : Int32) (xj : Int32) (xb : Int32) (xr : Int32) (xc : Int32) (xv : Int32) (xn : Int32) (xl : Int32) (yR : Nat → Int32) (yT : Nat → Int32) (yC : Nat → Int32) (yW : Nat → Int32) (yA : Nat → Int32) (yE : Nat → Int32) (yU : Nat → Int32) (yM : Nat → Int32) (yV : Nat → Int32) (yF : Nat → Int32) (yZ : Nat → Int32) (yI : Nat → Int32) (yD : Nat → Int32) (x1 : Int32) (N : Nat) (sz : Nat) (v : Int32) (hf : fX5_has N xr yR x1 = some v) : Met l yX5_has (.code yX5_has cX5_has 3 (some .boolean) :: kc_TB) rmX5_has (kc_Pre D cx (wM cx aM xw xh xk xj xb xr xc xv xn xl yR yT yC yW yA yE yU yM yV yF yZ yI yD) [.ref (aM 0), .int x1] sz) (kc_Pi D (fun _ : Unit => (wM cx aM xw xh xk xj xb xr xc xv xn xl yR yT yC yW yA yE yU yM yV yF yZ yI yD)) v (va_A (wM cx aM xw xh xk xj xb xr xc xv xn xl yR yT yC yW yA yE yU yM yV yF yZ yI yD) sz)) 0 0 (va_A (wM cx aM xw xh xk xj xb xr xc xv xn xl yR yT yC yW yA yE yU yM yV yF yZ yI yD) sz) := by
  refine kc_entry (Qc := fun A => (kc_Pi D (fun _ : Unit => (wM cx aM xw xh xk xj xb xr xc xv xn xl yR yT yC yW yA yE yU yM yV yF yZ yI yD)) v A)) (by decide) (Nat.le_of_ble_eq_true rfl) ?_
  intro p e s m below meth c A hx hb hr hk hml hown hin hts hN hK hP hD hS hA ls hl
  have hown : s.vm.findClass RX5 = some m.cls := hown
  have hl : lv_has ls 3 [(0, .ref (aM 0)), (1, .int x1)] := hl
  unfold fX5_has at hf
  have hP : va_P D classes (wM cx aM xw xh xk xj xb xr xc xv xn xl yR yT yC yW yA yE yU yM yV yF yZ yI yD) s.heap := hP
  obtain ⟨H, hH⟩ : ∃ H, H = s.heap := ⟨_, rfl⟩
  obtain ⟨locs, hL⟩ : ∃ locs : List Loc, locs = [] := ⟨_, rfl⟩
  have hS : va_S A s.heap H locs := by rw [hH, hL]; exact hS
  have hP : va_P D classes (wM cx aM xw xh xk xj xb xr xc xv xn xl yR yT yC yW yA yE yU yM yV yF yZ yI yD) H := by rw [hH]; exact hP
  suffices hW : W p l e rmX5_has s m ([.ref (aM 0), .int x1] : List Value).toArray below meth c H locs 0 0 (MQ below (kc_Pi D (fun _ : Unit => (wM cx aM xw xh xk xj xb xr xc xv xn xl yR yT yC yW yA yE yU yM yV yF yZ yI yD)) v A) ([.ref (aM 0), .int x1] : List Value).toArray s 0 0 A) (F0 m 0 ls []) by rw [hH, hL] at hW; exact hW
  clear hH hL
  refine lv_iconst (v := (0 : Int32)) hx hb dX5_has_0 (by decide) ?_
  refine lv_istore_n (lv' := [(2, .int (0 : Int32)), (0, .ref (aM 0)), (1, .int x1)]) hx hb dX5_has_1 rfl hl (by decide) rfl (fun ls hl => ?_)
  have L2 : ∀ (ct : Nat) (x2 : Int32) (v2 : (Int32) ⊕ (Unit)), fX5_has_L2 N xr yR x1 ct x2 = some v2 → ∀ (H : Heap) (locs : List Loc) (ls : Array Slot), va_P D classes (wM cx aM xw xh xk xj xb xr xc xv xn xl yR yT yC yW yA yE yU yM yV yF yZ yI yD) H → va_D A (wM cx aM xw xh xk xj xb xr xc xv xn xl yR yT yC yW yA yE yU yM yV yF yZ yI yD) → va_S A s.heap H locs → lv_has ls 3 [(0, .ref (aM 0)), (1, .int x1), (2, .int x2)] → (∀ (e2 : Unit), v2 = .inr e2 → ∀ (H : Heap) (locs : List Loc) (ls : Array Slot), va_P D classes (wM cx aM xw xh xk xj xb xr xc xv xn xl yR yT yC yW yA yE yU yM yV yF yZ yI yD) H → va_D A (wM cx aM xw xh xk xj xb xr xc xv xn xl yR yT yC yW yA yE yU yM yV yF yZ yI yD) → va_S A s.heap H locs → lv_has ls 3 [] → W p l e rmX5_has s m ([.ref (aM 0), .int x1] : List Value).toArray below meth c H locs 0 0 (MQ below (kc_Pi D (fun _ : Unit => (wM cx aM xw xh xk xj xb xr xc xv xn xl yR yT yC yW yA yE yU yM yV yF yZ yI yD)) v A) ([.ref (aM 0), .int x1] : List Value).toArray s 0 0 A) (F0 m 35 ls [])) → (∀ (r2 : Int32), v2 = .inl r2 → ∀ (pc : Nat) (H : Heap) (locs : List Loc) (ls : Array Slot), narrow .boolean (.int r2) = .int r2 → va_P D classes (wM cx aM xw xh xk xj xb xr xc xv xn xl yR yT yC yW yA yE yU yM yV yF yZ yI yD) H → va_D A (wM cx aM xw xh xk xj xb xr xc xv xn xl yR yT yC yW yA yE yU yM yV yF yZ yI yD) → va_S A s.heap H locs → decode cX5_has pc = .ok (.ireturn, 1) → W p l e rmX5_has s m ([.ref (aM 0), .int x1] : List Value).toArray below meth c H locs 0 0 (MQ below (kc_Pi D (fun _ : Unit => (wM cx aM xw xh xk xj xb xr xc xv xn xl yR yT yC yW yA yE yU yM yV yF yZ yI yD)) v A) ([.ref (aM 0), .int x1] : List Value).toArray s 0 0 A) (F0 m pc ls [.int r2])) → W p l e rmX5_has s m ([.ref (aM 0), .int x1] : List Value).toArray below meth c H locs 0 0 (MQ below (kc_Pi D (fun _ : Unit => (wM cx aM xw xh xk xj xb xr xc xv xn xl yR yT yC yW yA yE yU yM yV yF yZ yI yD)) v A) ([.ref (aM 0), .int x1] : List Value).toArray s 0 0 A) (F0 m 2 ls []) := by
    intro ct
    induction ct with
    | zero =>
      intro x2 v2 hf
      exact absurd (show (none : Option ((Int32) ⊕ (Unit))) = some v2 from hf) (fun q => by cases q)
    | succ ct ih =>
      intro x2 v2 hf H locs ls hP hD hS hl hE hR
      rw [fX5_has_L2] at hf
      refine lv_iload_n hx hb dX5_has_2 rfl (lv_at hl 2 rfl) ?_
      refine lv_aload_n hx hb dX5_has_3 rfl (lv_at hl 0 rfl) ?_
      refine va_get (D := D) (ci := 5) (v := .int xr) (C := RX5) (T := TX5) (N := 23) hx hb hts iX5 hown hK hP 0 rfl rfl 5 (by decide) (hts _ wd_645) (fun _ h9 => h9) rfl dX5_has_4 ?_
      refine lv_icmp_ge (tgt := 35) hx hb dX5_has_7 (by decide) (fun c5 => ?_) (fun c5 => ?_)
      · replace hf := it_t c5 hf
        obtain rfl := Option.some.inj hf
        exact hE _ rfl H locs ls hP hD hS (lv_sub hl [] rfl)
      · replace hf := it_f c5 hf
        refine lv_iload_n hx hb dX5_has_10 rfl (lv_at hl 1 rfl) ?_
        refine lv_aload_n hx hb dX5_has_11 rfl (lv_at hl 0 rfl) ?_
        refine va_get (D := D) (ci := 5) (v := .ref (aM 1)) (C := RX5) (T := TX5) (N := 23) hx hb hts iX5 hown hK hP 0 rfl rfl 6 (by decide) (hts _ wd_646) (fun _ h9 => h9) rfl dX5_has_12 ?_
        refine lv_iload_n hx hb dX5_has_15 rfl (lv_at hl 2 rfl) ?_
        obtain ⟨hz, hf⟩ := okb_s hf
        refine va_iald (D := D) hx hb hK hP 1 0 rfl rfl (inb_s hz) dX5_has_16 ?_
        refine lv_iand hx hb dX5_has_17 ?_
        refine lv_aload_n hx hb dX5_has_18 rfl (lv_at hl 0 rfl) ?_
        refine va_get (D := D) (ci := 5) (v := .ref (aM 1)) (C := RX5) (T := TX5) (N := 23) hx hb hts iX5 hown hK hP 0 rfl rfl 6 (by decide) (hts _ wd_646) (fun _ h9 => h9) rfl dX5_has_19 ?_
        refine lv_iload_n hx hb dX5_has_22 rfl (lv_at hl 2 rfl) ?_
        obtain ⟨hz, hf⟩ := okb_s hf
        refine va_iald (D := D) hx hb hK hP 1 0 rfl rfl (inb_s hz) dX5_has_23 ?_
        refine lv_icmp_ne (tgt := 29) hx hb dX5_has_24 (by decide) (fun c6 => ?_) (fun c6 => ?_)
        · replace hf := it_f c6 hf
          refine lv_iinc (v := (x2 + (1 : Int32))) (lv' := [(2, .int (x2 + (1 : Int32))), (0, .ref (aM 0)), (1, .int x1)]) hx hb dX5_has_29 hl (k := 2) rfl rfl (by decide) rfl (fun ls hl => ?_)
          refine lv_goto (tgt := 2) hx hb dX5_has_32 (by decide) ?_
          exact ih (x2 + (1 : Int32)) _ hf H locs ls hP hD hS (lv_sub hl [1, 2, 0] rfl) hE hR
        · replace hf := it_t c6 hf
          refine lv_iconst (v := (1 : Int32)) hx hb dX5_has_27 (by decide) ?_
          obtain rfl := Option.some.inj hf
          exact hR _ rfl _ H locs ls rfl hP hD hS dX5_has_28
  obtain ⟨u7, hg, hf⟩ := ob_s hf
  refine L2 _ (0 : Int32) u7 hg H locs ls hP hD hS (lv_sub hl [1, 2, 0] rfl) (fun e8 ee H locs ls hP hD hS hl => ?_) (fun r9 ee pc H locs ls hz hP hD hS hd => ?_)
  · subst ee
    replace hf := onS_r hf
    refine lv_iconst (v := (0 : Int32)) hx hb dX5_has_35 (by decide) ?_
    obtain rfl := Option.some.inj hf
    exact kc_zret () hx hb hr hk hP hD hS rfl rfl dX5_has_36
  · subst ee
    replace hf := onS_l hf
    obtain rfl := Option.some.inj hf
    exact kc_zret () hx hb hr hk hP hD hS rfl hz hd
abbrev rmX5_keys : Room := { frames := 0, cells := 0, slots := 0, locals := 0 }
set_option maxHeartbeats 4000000 in
set_option maxRecDepth 100000 in
theorem metX5_keys (l : Launch) (D : va_G) (cx : Nat → ClassId) (aM : Nat → Nat) (xw : Int32) (xh : Int32) (xk : Int32) (xj : Int32) (xb : Int32) (xr : Int32) (xc : Int32) (xv : Int32) (xn : Int32) (xl : Int32) (yR : Nat → Int32) (yT : Nat → Int32) (yC : Nat → Int32) (yW : Nat → Int32) (yA : Nat → Int32) (yE : Nat → Int32) (yU : Nat → Int32) (yM : Nat → Int32) (yV : Nat → Int32) (yF : Nat → Int32) (yZ : Nat → Int32) (yI : Nat → Int32) (yD : Nat → Int32)  (N : Nat) (sz : Nat) (v : Int32) (hf : fX5_keys N xw xh = some v) : Met l yX5_keys (.code yX5_keys cX5_keys 1 (some .int) :: kc_TB) rmX5_keys (kc_Pre D cx (wM cx aM xw xh xk xj xb xr xc xv xn xl yR yT yC yW yA yE yU yM yV yF yZ yI yD) [.ref (aM 0)] sz) (kc_Pi D (fun _ : Unit => (wM cx aM xw xh xk xj xb xr xc xv xn xl yR yT yC yW yA yE yU yM yV yF yZ yI yD)) v (va_A (wM cx aM xw xh xk xj xb xr xc xv xn xl yR yT yC yW yA yE yU yM yV yF yZ yI yD) sz)) 0 0 (va_A (wM cx aM xw xh xk xj xb xr xc xv xn xl yR yT yC yW yA yE yU yM yV yF yZ yI yD) sz) := by
  refine kc_entry (Qc := fun A => (kc_Pi D (fun _ : Unit => (wM cx aM xw xh xk xj xb xr xc xv xn xl yR yT yC yW yA yE yU yM yV yF yZ yI yD)) v A)) (by decide) (Nat.le_of_ble_eq_true rfl) ?_
  intro p e s m below meth c A hx hb hr hk hml hown hin hts hN hK hP hD hS hA ls hl
  have hown : s.vm.findClass RX5 = some m.cls := hown
  have hl : lv_has ls 1 [(0, .ref (aM 0))] := hl
  unfold fX5_keys at hf
  have hP : va_P D classes (wM cx aM xw xh xk xj xb xr xc xv xn xl yR yT yC yW yA yE yU yM yV yF yZ yI yD) s.heap := hP
  obtain ⟨H, hH⟩ : ∃ H, H = s.heap := ⟨_, rfl⟩
  obtain ⟨locs, hL⟩ : ∃ locs : List Loc, locs = [] := ⟨_, rfl⟩
  have hS : va_S A s.heap H locs := by rw [hH, hL]; exact hS
  have hP : va_P D classes (wM cx aM xw xh xk xj xb xr xc xv xn xl yR yT yC yW yA yE yU yM yV yF yZ yI yD) H := by rw [hH]; exact hP
  suffices hW : W p l e rmX5_keys s m ([.ref (aM 0)] : List Value).toArray below meth c H locs 0 0 (MQ below (kc_Pi D (fun _ : Unit => (wM cx aM xw xh xk xj xb xr xc xv xn xl yR yT yC yW yA yE yU yM yV yF yZ yI yD)) v A) ([.ref (aM 0)] : List Value).toArray s 0 0 A) (F0 m 0 ls []) by rw [hH, hL] at hW; exact hW
  clear hH hL
  refine lv_iconst (v := (1 : Int32)) hx hb dX5_keys_0 (by decide) ?_
  refine lv_aload_n hx hb dX5_keys_1 rfl (lv_at hl 0 rfl) ?_
  refine va_get (D := D) (ci := 5) (v := .int xw) (C := RX5) (T := TX5) (N := 23) hx hb hts iX5 hown hK hP 0 rfl rfl 0 (by decide) (hts _ wd_640) (fun _ h9 => h9) rfl dX5_keys_2 ?_
  refine lv_aload_n hx hb dX5_keys_5 rfl (lv_at hl 0 rfl) ?_
  refine va_get (D := D) (ci := 5) (v := .int xh) (C := RX5) (T := TX5) (N := 23) hx hb hts iX5 hown hK hP 0 rfl rfl 1 (by decide) (hts _ wd_641) (fun _ h9 => h9) rfl dX5_keys_6 ?_
  refine lv_iconst (v := (1 : Int32)) hx hb dX5_keys_9 (by decide) ?_
  refine lv_iadd hx hb dX5_keys_10 ?_
  refine lv_imul hx hb dX5_keys_11 ?_
  refine lv_ishl hx hb dX5_keys_12 ?_
  obtain rfl := Option.some.inj hf
  exact kc_iret () hx hb hr hk hP hD hS rfl dX5_keys_13
abbrev rmX5_goUp : Room := { frames := 3, cells := 0, slots := 0, locals := 71 }
set_option maxHeartbeats 4000000 in
set_option maxRecDepth 100000 in
theorem metX5_goUp (l : Launch) (D : va_G) (cx : Nat → ClassId) (aM : Nat → Nat) (xw : Int32) (xh : Int32) (xk : Int32) (xj : Int32) (xb : Int32) (xr : Int32) (xc : Int32) (xv : Int32) (xn : Int32) (xl : Int32) (yR : Nat → Int32) (yT : Nat → Int32) (yC : Nat → Int32) (yW : Nat → Int32) (yA : Nat → Int32) (yE : Nat → Int32) (yU : Nat → Int32) (yM : Nat → Int32) (yV : Nat → Int32) (yF : Nat → Int32) (yZ : Nat → Int32) (yI : Nat → Int32) (yD : Nat → Int32)  (N : Nat) (sz : Nat) (v : Int32 × (Nat → Int32) × (Nat → Int32) × (Nat → Int32) × (Nat → Int32) × (Nat → Int32) × (Nat → Int32) × (Nat → Int32)) (hf : fX5_goUp N xw xh xr xc yR yT yC yW yA yE yU yM = some v) : Met l yX5_goUp (.code yX5_goUp cX5_goUp 5 none :: kc_TB) rmX5_goUp (kc_Pre D cx (wM cx aM xw xh xk xj xb xr xc xv xn xl yR yT yC yW yA yE yU yM yV yF yZ yI yD) [.ref (aM 0)] sz) (kc_Pv D (fun _ : Unit => (wM cx aM xw xh xk xj xb xr v.1 xv xn xl yR v.2.1 v.2.2.1 v.2.2.2.1 v.2.2.2.2.1 v.2.2.2.2.2.1 v.2.2.2.2.2.2.1 v.2.2.2.2.2.2.2 yV yF yZ yI yD)) (va_A (wM cx aM xw xh xk xj xb xr xc xv xn xl yR yT yC yW yA yE yU yM yV yF yZ yI yD) sz)) 0 0 (va_A (wM cx aM xw xh xk xj xb xr xc xv xn xl yR yT yC yW yA yE yU yM yV yF yZ yI yD) sz) := by
  refine kc_entry (Qc := fun A => (kc_Pv D (fun _ : Unit => (wM cx aM xw xh xk xj xb xr v.1 xv xn xl yR v.2.1 v.2.2.1 v.2.2.2.1 v.2.2.2.2.1 v.2.2.2.2.2.1 v.2.2.2.2.2.2.1 v.2.2.2.2.2.2.2 yV yF yZ yI yD)) A)) (by decide) (Nat.le_of_ble_eq_true rfl) ?_
  intro p e s m below meth c A hx hb hr hk hml hown hin hts hN hK hP hD hS hA ls hl
  have hown : s.vm.findClass RX5 = some m.cls := hown
  have hl : lv_has ls 5 [(0, .ref (aM 0))] := hl
  unfold fX5_goUp at hf
  have hP : va_P D classes (wM cx aM xw xh xk xj xb xr xc xv xn xl yR yT yC yW yA yE yU yM yV yF yZ yI yD) s.heap := hP
  obtain ⟨H, hH⟩ : ∃ H, H = s.heap := ⟨_, rfl⟩
  obtain ⟨locs, hL⟩ : ∃ locs : List Loc, locs = [] := ⟨_, rfl⟩
  have hS : va_S A s.heap H locs := by rw [hH, hL]; exact hS
  have hP : va_P D classes (wM cx aM xw xh xk xj xb xr xc xv xn xl yR yT yC yW yA yE yU yM yV yF yZ yI yD) H := by rw [hH]; exact hP
  suffices hW : W p l e rmX5_goUp s m ([.ref (aM 0)] : List Value).toArray below meth c H locs 0 0 (MQ below (kc_Pv D (fun _ : Unit => (wM cx aM xw xh xk xj xb xr v.1 xv xn xl yR v.2.1 v.2.2.1 v.2.2.2.1 v.2.2.2.2.1 v.2.2.2.2.2.1 v.2.2.2.2.2.2.1 v.2.2.2.2.2.2.2 yV yF yZ yI yD)) A) ([.ref (aM 0)] : List Value).toArray s 0 0 A) (F0 m 0 ls []) by rw [hH, hL] at hW; exact hW
  clear hH hL
  refine lv_aload_n hx hb dX5_goUp_0 rfl (lv_at hl 0 rfl) ?_
  obtain ⟨u17, hg, hf⟩ := ob_s hf
  refine kc_calli (wn := fun _ => (wM cx aM xw xh xk xj xb xr xc xv xn xl yR yT yC yW yA yE yU yM yV yF yZ yI yD)) (va_runV (As := []) (rest := []) ⟨hx, hb, hml, hown, hts⟩ (metX5_keys l D cx aM xw xh xk xj xb xr xc xv xn xl yR yT yC yW yA yE yU yM yV yF yZ yI yD  N H.size u17 hg) ⟨callB_of 0 hts (kc_gI wd_599) rfl rfl rfl (hts _ wd_46) (hts _ wd_596) (by decide +kernel) ⟨Nat.le_of_ble_eq_true rfl, Nat.le_of_ble_eq_true rfl⟩, hts _ wd_598, hts _ wd_20⟩ ⟨kc_blind _ _ _ _ _, va_recv hK hP (ci := 5) (q0 := 0) rfl rfl, kc_pre _ hK hN (hP.sub [0, 1, 2, 3, 4, 5, 6, 7, 8, 9, 10, 11, 12, 13] rfl) (hD.sub [0, 1, 2, 3, 4, 5, 6, 7, 8, 9, 10, 11, 12, 13] (by decide) rfl)⟩ rfl rfl hl.1 rfl (lv_room (Nat.le_of_ble_eq_true rfl)) dX5_goUp_1 ⟨Nat.zero_le _, Nat.zero_le _⟩) hP hD hS hA [0, 1, 2, 3, 4, 5, 6, 7, 8, 9, 10, 11, 12, 13] [] [0, 1, 2, 3, 4, 5, 6, 7, 8, 9, 10, 11, 12, 13] rfl rfl (by decide) (by decide) (fun _ => rfl) (by decide) (fun _ H locs hP hD hS => ?_)
  have hP : va_P D classes (wM cx aM xw xh xk xj xb xr xc xv xn xl yR yT yC yW yA yE yU yM yV yF yZ yI yD) H := hP
  have hD : va_D A (wM cx aM xw xh xk xj xb xr xc xv xn xl yR yT yC yW yA yE yU yM yV yF yZ yI yD) := hD
  refine lv_istore_n (lv' := [(1, .int u17), (0, .ref (aM 0))]) hx hb dX5_goUp_4 rfl hl (by decide) rfl (fun ls hl => ?_)
  refine lv_iconst (v := (0 : Int32)) hx hb dX5_goUp_5 (by decide) ?_
  refine lv_istore_n (lv' := [(2, .int (0 : Int32)), (1, .int u17), (0, .ref (aM 0))]) hx hb dX5_goUp_6 rfl hl (by decide) rfl (fun ls hl => ?_)
  have L7 : ∀ (ct : Nat) (yT : Nat → Int32) (x2 : Int32) (v7 : (Nat → Int32)), fX5_goUp_L7 N u17 ct yT x2 = some v7 → ∀ (H : Heap) (locs : List Loc) (ls : Array Slot), va_P D classes (wM cx aM xw xh xk xj xb xr xc xv xn xl yR yT yC yW yA yE yU yM yV yF yZ yI yD) H → va_D A (wM cx aM xw xh xk xj xb xr xc xv xn xl yR yT yC yW yA yE yU yM yV yF yZ yI yD) → va_S A s.heap H locs → lv_has ls 5 [(0, .ref (aM 0)), (1, .int u17), (2, .int x2)] → (∀ (H : Heap) (locs : List Loc) (ls : Array Slot), va_P D classes (wM cx aM xw xh xk xj xb xr xc xv xn xl yR v7 yC yW yA yE yU yM yV yF yZ yI yD) H → va_D A (wM cx aM xw xh xk xj xb xr xc xv xn xl yR v7 yC yW yA yE yU yM yV yF yZ yI yD) → va_S A s.heap H locs → lv_has ls 5 [(0, .ref (aM 0)), (1, .int u17)] → W p l e rmX5_goUp s m ([.ref (aM 0)] : List Value).toArray below meth c H locs 0 0 (MQ below (kc_Pv D (fun _ : Unit => (wM cx aM xw xh xk xj xb xr v.1 xv xn xl yR v.2.1 v.2.2.1 v.2.2.2.1 v.2.2.2.2.1 v.2.2.2.2.2.1 v.2.2.2.2.2.2.1 v.2.2.2.2.2.2.2 yV yF yZ yI yD)) A) ([.ref (aM 0)] : List Value).toArray s 0 0 A) (F0 m 26 ls [])) → W p l e rmX5_goUp s m ([.ref (aM 0)] : List Value).toArray below meth c H locs 0 0 (MQ below (kc_Pv D (fun _ : Unit => (wM cx aM xw xh xk xj xb xr v.1 xv xn xl yR v.2.1 v.2.2.1 v.2.2.2.1 v.2.2.2.2.1 v.2.2.2.2.2.1 v.2.2.2.2.2.2.1 v.2.2.2.2.2.2.2 yV yF yZ yI yD)) A) ([.ref (aM 0)] : List Value).toArray s 0 0 A) (F0 m 7 ls []) := by
    intro ct
    induction ct with
    | zero =>
      intro yT x2 v7 hf
      exact absurd (show (none : Option ((Nat → Int32))) = some v7 from hf) (fun q => by cases q)
    | succ ct ih =>
      intro yT x2 v7 hf H locs ls hP hD hS hl hE
      rw [fX5_goUp_L7] at hf
      refine lv_iload_n hx hb dX5_goUp_7 rfl (lv_at hl 2 rfl) ?_
      refine lv_iload_n hx hb dX5_goUp_8 rfl (lv_at hl 1 rfl) ?_
      refine lv_icmp_ge (tgt := 26) hx hb dX5_goUp_9 (by decide) (fun c19 => ?_) (fun c19 => ?_)
      · replace hf := it_t c19 hf
        obtain rfl := Option.some.inj hf
        exact hE H locs ls hP hD hS (lv_sub hl [0, 1] rfl)
      · replace hf := it_f c19 hf
        refine lv_aload_n hx hb dX5_goUp_12 rfl (lv_at hl 0 rfl) ?_
        refine va_get (D := D) (ci := 5) (v := .ref (aM 2)) (C := RX5) (T := TX5) (N := 23) hx hb hts iX5 hown hK hP 0 rfl rfl 7 (by decide) (hts _ wd_647) (fun _ h9 => h9) rfl dX5_goUp_13 ?_
        refine lv_iload_n hx hb dX5_goUp_16 rfl (lv_at hl 2 rfl) ?_
        refine lv_bipush (v := (-128 : Int32)) hx hb dX5_goUp_17 (by decide) ?_
        obtain ⟨hz, hf⟩ := okb_s hf
        refine va_bast (D := D) hx hb hK hP hD hS 2 1 rfl rfl (inb_s hz) dX5_goUp_19 (fun H locs hP hD hS => ?_)
        have hP : va_P D classes (wM cx aM xw xh xk xj xb xr xc xv xn xl yR (upd yT x2.toNatClampNeg (vp_nar .byte (-128 : Int32))) yC yW yA yE yU yM yV yF yZ yI yD) H := hP
        have hD : va_D A (wM cx aM xw xh xk xj xb xr xc xv xn xl yR (upd yT x2.toNatClampNeg (vp_nar .byte (-128 : Int32))) yC yW yA yE yU yM yV yF yZ yI yD) := hD
        refine lv_iinc (v := (x2 + (1 : Int32))) (lv' := [(2, .int (x2 + (1 : Int32))), (0, .ref (aM 0)), (1, .int u17)]) hx hb dX5_goUp_20 hl (k := 2) rfl rfl (by decide) rfl (fun ls hl => ?_)
        refine lv_goto (tgt := 7) hx hb dX5_goUp_23 (by decide) ?_
        exact ih (upd yT x2.toNatClampNeg (vp_nar .byte (-128 : Int32))) (x2 + (1 : Int32)) _ hf H locs ls hP hD hS (lv_sub hl [1, 2, 0] rfl) hE
  obtain ⟨u20, hg, hf⟩ := ob_s hf
  refine L7 _ yT (0 : Int32) u20 hg H locs ls hP hD hS (lv_sub hl [2, 1, 0] rfl) (fun H locs ls hP hD hS hl => ?_)
  refine lv_aload_n hx hb dX5_goUp_26 rfl (lv_at hl 0 rfl) ?_
  refine va_get (D := D) (ci := 5) (v := .ref (aM 2)) (C := RX5) (T := TX5) (N := 23) hx hb hts iX5 hown hK hP 0 rfl rfl 7 (by decide) (hts _ wd_647) (fun _ h9 => h9) rfl dX5_goUp_27 ?_
  refine lv_aload_n hx hb dX5_goUp_30 rfl (lv_at hl 0 rfl) ?_
  obtain ⟨u21, hg, hf⟩ := ob_s hf
  refine kc_calli (wn := fun _ => (wM cx aM xw xh xk xj xb xr xc xv xn xl yR u20 yC yW yA yE yU yM yV yF yZ yI yD)) (va_runV (As := []) (rest := [.ref (aM 2)]) ⟨hx, hb, hml, hown, hts⟩ (metX5_keyOfNone l D cx aM xw xh xk xj xb xr xc xv xn xl yR u20 yC yW yA yE yU yM yV yF yZ yI yD  N H.size u21 hg) ⟨callB_of 0 hts (kc_gI wd_603) rfl rfl rfl (hts _ wd_46) (hts _ wd_600) (by decide +kernel) ⟨Nat.le_of_ble_eq_true rfl, Nat.le_of_ble_eq_true rfl⟩, hts _ wd_602, hts _ wd_21⟩ ⟨kc_blind _ _ _ _ _, va_recv hK hP (ci := 5) (q0 := 0) rfl rfl, kc_pre _ hK hN (hP.sub [0, 1, 2, 3, 4, 5, 6, 7, 8, 9, 10, 11, 12, 13] rfl) (hD.sub [0, 1, 2, 3, 4, 5, 6, 7, 8, 9, 10, 11, 12, 13] (by decide) rfl)⟩ rfl rfl hl.1 rfl (lv_room (Nat.le_of_ble_eq_true rfl)) dX5_goUp_31 ⟨Nat.zero_le _, Nat.zero_le _⟩) hP hD hS hA [0, 1, 2, 3, 4, 5, 6, 7, 8, 9, 10, 11, 12, 13] [] [0, 1, 2, 3, 4, 5, 6, 7, 8, 9, 10, 11, 12, 13] rfl rfl (by decide) (by decide) (fun _ => rfl) (by decide) (fun _ H locs hP hD hS => ?_)
  have hP : va_P D classes (wM cx aM xw xh xk xj xb xr xc xv xn xl yR u20 yC yW yA yE yU yM yV yF yZ yI yD) H := hP
  have hD : va_D A (wM cx aM xw xh xk xj xb xr xc xv xn xl yR u20 yC yW yA yE yU yM yV yF yZ yI yD) := hD
  refine lv_iconst (v := (0 : Int32)) hx hb dX5_goUp_34 (by decide) ?_
  obtain ⟨hz, hf⟩ := okb_s hf
  refine va_bast (D := D) hx hb hK hP hD hS 2 1 rfl rfl (inb_s hz) dX5_goUp_35 (fun H locs hP hD hS => ?_)
  have hP : va_P D classes (wM cx aM xw xh xk xj xb xr xc xv xn xl yR (upd u20 u21.toNatClampNeg (vp_nar .byte (0 : Int32))) yC yW yA yE yU yM yV yF yZ yI yD) H := hP
  have hD : va_D A (wM cx aM xw xh xk xj xb xr xc xv xn xl yR (upd u20 u21.toNatClampNeg (vp_nar .byte (0 : Int32))) yC yW yA yE yU yM yV yF yZ yI yD) := hD
  refine lv_iconst (v := (0 : Int32)) hx hb dX5_goUp_36 (by decide) ?_
  refine lv_istore_n (lv' := [(2, .int (0 : Int32)), (0, .ref (aM 0)), (1, .int u17)]) hx hb dX5_goUp_37 rfl hl (by decide) rfl (fun ls hl => ?_)
  have L38 : ∀ (ct : Nat) (yC : Nat → Int32) (yW : Nat → Int32) (yA : Nat → Int32) (yE : Nat → Int32) (yU : Nat → Int32) (x2 : Int32) (v38 : (Nat → Int32) × (Nat → Int32) × (Nat → Int32) × (Nat → Int32) × (Nat → Int32)), fX5_goUp_L38 N  ct yC yW yA yE yU x2 = some v38 → ∀ (H : Heap) (locs : List Loc) (ls : Array Slot), va_P D classes (wM cx aM xw xh xk xj xb xr xc xv xn xl yR (upd u20 u21.toNatClampNeg (vp_nar .byte (0 : Int32))) yC yW yA yE yU yM yV yF yZ yI yD) H → va_D A (wM cx aM xw xh xk xj xb xr xc xv xn xl yR (upd u20 u21.toNatClampNeg (vp_nar .byte (0 : Int32))) yC yW yA yE yU yM yV yF yZ yI yD) → va_S A s.heap H locs → lv_has ls 5 [(0, .ref (aM 0)), (1, .int u17), (2, .int x2)] → (∀ (H : Heap) (locs : List Loc) (ls : Array Slot), va_P D classes (wM cx aM xw xh xk xj xb xr xc xv xn xl yR (upd u20 u21.toNatClampNeg (vp_nar .byte (0 : Int32))) v38.1 v38.2.1 v38.2.2.1 v38.2.2.2.1 v38.2.2.2.2 yM yV yF yZ yI yD) H → va_D A (wM cx aM xw xh xk xj xb xr xc xv xn xl yR (upd u20 u21.toNatClampNeg (vp_nar .byte (0 : Int32))) v38.1 v38.2.1 v38.2.2.1 v38.2.2.2.1 v38.2.2.2.2 yM yV yF yZ yI yD) → va_S A s.heap H locs → lv_has ls 5 [(0, .ref (aM 0)), (1, .int u17)] → W p l e rmX5_goUp s m ([.ref (aM 0)] : List Value).toArray below meth c H locs 0 0 (MQ below (kc_Pv D (fun _ : Unit => (wM cx aM xw xh xk xj xb xr v.1 xv xn xl yR v.2.1 v.2.2.1 v.2.2.2.1 v.2.2.2.2.1 v.2.2.2.2.2.1 v.2.2.2.2.2.2.1 v.2.2.2.2.2.2.2 yV yF yZ yI yD)) A) ([.ref (aM 0)] : List Value).toArray s 0 0 A) (F0 m 85 ls [])) → W p l e rmX5_goUp s m ([.ref (aM 0)] : List Value).toArray below meth c H locs 0 0 (MQ below (kc_Pv D (fun _ : Unit => (wM cx aM xw xh xk xj xb xr v.1 xv xn xl yR v.2.1 v.2.2.1 v.2.2.2.1 v.2.2.2.2.1 v.2.2.2.2.2.1 v.2.2.2.2.2.2.1 v.2.2.2.2.2.2.2 yV yF yZ yI yD)) A) ([.ref (aM 0)] : List Value).toArray s 0 0 A) (F0 m 38 ls []) := by
    intro ct
    induction ct with
    | zero =>
      intro yC yW yA yE yU x2 v38 hf
      exact absurd (show (none : Option ((Nat → Int32) × (Nat → Int32) × (Nat → Int32) × (Nat → Int32) × (Nat → Int32))) = some v38 from hf) (fun q => by cases q)
    | succ ct ih =>
      intro yC yW yA yE yU x2 v38 hf H locs ls hP hD hS hl hE
      rw [fX5_goUp_L38] at hf
      refine lv_iload_n hx hb dX5_goUp_38 rfl (lv_at hl 2 rfl) ?_
      refine lv_bipush (v := (17 : Int32)) hx hb dX5_goUp_39 (by decide) ?_
      refine lv_icmp_ge (tgt := 85) hx hb dX5_goUp_41 (by decide) (fun c23 => ?_) (fun c23 => ?_)
      · replace hf := it_t c23 hf
        obtain rfl := Option.some.inj hf
        exact hE H locs ls hP hD hS (lv_sub hl [0, 1] rfl)
      · replace hf := it_f c23 hf
        refine lv_aload_n hx hb dX5_goUp_44 rfl (lv_at hl 0 rfl) ?_
        refine va_get (D := D) (ci := 5) (v := .ref (aM 3)) (C := RX5) (T := TX5) (N := 23) hx hb hts iX5 hown hK hP 0 rfl rfl 8 (by decide) (hts _ wd_648) (fun _ h9 => h9) rfl dX5_goUp_45 ?_
        refine lv_iload_n hx hb dX5_goUp_48 rfl (lv_at hl 2 rfl) ?_
        refine lv_iconst (v := (0 : Int32)) hx hb dX5_goUp_49 (by decide) ?_
        obtain ⟨hz, hf⟩ := okb_s hf
        refine va_iast (D := D) hx hb hK hP hD hS 3 0 rfl rfl (inb_s hz) dX5_goUp_50 (fun H locs hP hD hS => ?_)
        have hP : va_P D classes (wM cx aM xw xh xk xj xb xr xc xv xn xl yR (upd u20 u21.toNatClampNeg (vp_nar .byte (0 : Int32))) (upd yC x2.toNatClampNeg (0 : Int32)) yW yA yE yU yM yV yF yZ yI yD) H := hP
        have hD : va_D A (wM cx aM xw xh xk xj xb xr xc xv xn xl yR (upd u20 u21.toNatClampNeg (vp_nar .byte (0 : Int32))) (upd yC x2.toNatClampNeg (0 : Int32)) yW yA yE yU yM yV yF yZ yI yD) := hD
        refine lv_aload_n hx hb dX5_goUp_51 rfl (lv_at hl 0 rfl) ?_
        refine va_get (D := D) (ci := 5) (v := .ref (aM 4)) (C := RX5) (T := TX5) (N := 23) hx hb hts iX5 hown hK hP 0 rfl rfl 9 (by decide) (hts _ wd_649) (fun _ h9 => h9) rfl dX5_goUp_52 ?_
        refine lv_iload_n hx hb dX5_goUp_55 rfl (lv_at hl 2 rfl) ?_
        refine lv_iconst (v := (0 : Int32)) hx hb dX5_goUp_56 (by decide) ?_
        obtain ⟨hz, hf⟩ := okb_s hf
        refine va_iast (D := D) hx hb hK hP hD hS 4 0 rfl rfl (inb_s hz) dX5_goUp_57 (fun H locs hP hD hS => ?_)
        have hP : va_P D classes (wM cx aM xw xh xk xj xb xr xc xv xn xl yR (upd u20 u21.toNatClampNeg (vp_nar .byte (0 : Int32))) (upd yC x2.toNatClampNeg (0 : Int32)) (upd yW x2.toNatClampNeg (0 : Int32)) yA yE yU yM yV yF yZ yI yD) H := hP
        have hD : va_D A (wM cx aM xw xh xk xj xb xr xc xv xn xl yR (upd u20 u21.toNatClampNeg (vp_nar .byte (0 : Int32))) (upd yC x2.toNatClampNeg (0 : Int32)) (upd yW x2.toNatClampNeg (0 : Int32)) yA yE yU yM yV yF yZ yI yD) := hD
        refine lv_aload_n hx hb dX5_goUp_58 rfl (lv_at hl 0 rfl) ?_
        refine va_get (D := D) (ci := 5) (v := .ref (aM 5)) (C := RX5) (T := TX5) (N := 23) hx hb hts iX5 hown hK hP 0 rfl rfl 10 (by decide) (hts _ wd_650) (fun _ h9 => h9) rfl dX5_goUp_59 ?_
        refine lv_iload_n hx hb dX5_goUp_62 rfl (lv_at hl 2 rfl) ?_
        refine lv_iconst (v := (0 : Int32)) hx hb dX5_goUp_63 (by decide) ?_
        obtain ⟨hz, hf⟩ := okb_s hf
        refine va_iast (D := D) hx hb hK hP hD hS 5 0 rfl rfl (inb_s hz) dX5_goUp_64 (fun H locs hP hD hS => ?_)
        have hP : va_P D classes (wM cx aM xw xh xk xj xb xr xc xv xn xl yR (upd u20 u21.toNatClampNeg (vp_nar .byte (0 : Int32))) (upd yC x2.toNatClampNeg (0 : Int32)) (upd yW x2.toNatClampNeg (0 : Int32)) (upd yA x2.toNatClampNeg (0 : Int32)) yE yU yM yV yF yZ yI yD) H := hP
        have hD : va_D A (wM cx aM xw xh xk xj xb xr xc xv xn xl yR (upd u20 u21.toNatClampNeg (vp_nar .byte (0 : Int32))) (upd yC x2.toNatClampNeg (0 : Int32)) (upd yW x2.toNatClampNeg (0 : Int32)) (upd yA x2.toNatClampNeg (0 : Int32)) yE yU yM yV yF yZ yI yD) := hD
        refine lv_aload_n hx hb dX5_goUp_65 rfl (lv_at hl 0 rfl) ?_
        refine va_get (D := D) (ci := 5) (v := .ref (aM 6)) (C := RX5) (T := TX5) (N := 23) hx hb hts iX5 hown hK hP 0 rfl rfl 11 (by decide) (hts _ wd_651) (fun _ h9 => h9) rfl dX5_goUp_66 ?_
        refine lv_iload_n hx hb dX5_goUp_69 rfl (lv_at hl 2 rfl) ?_
        refine lv_iconst (v := (0 : Int32)) hx hb dX5_goUp_70 (by decide) ?_
        obtain ⟨hz, hf⟩ := okb_s hf
        refine va_iast (D := D) hx hb hK hP hD hS 6 0 rfl rfl (inb_s hz) dX5_goUp_71 (fun H locs hP hD hS => ?_)
        have hP : va_P D classes (wM cx aM xw xh xk xj xb xr xc xv xn xl yR (upd u20 u21.toNatClampNeg (vp_nar .byte (0 : Int32))) (upd yC x2.toNatClampNeg (0 : Int32)) (upd yW x2.toNatClampNeg (0 : Int32)) (upd yA x2.toNatClampNeg (0 : Int32)) (upd yE x2.toNatClampNeg (0 : Int32)) yU yM yV yF yZ yI yD) H := hP
        have hD : va_D A (wM cx aM xw xh xk xj xb xr xc xv xn xl yR (upd u20 u21.toNatClampNeg (vp_nar .byte (0 : Int32))) (upd yC x2.toNatClampNeg (0 : Int32)) (upd yW x2.toNatClampNeg (0 : Int32)) (upd yA x2.toNatClampNeg (0 : Int32)) (upd yE x2.toNatClampNeg (0 : Int32)) yU yM yV yF yZ yI yD) := hD
        refine lv_aload_n hx hb dX5_goUp_72 rfl (lv_at hl 0 rfl) ?_
        refine va_get (D := D) (ci := 5) (v := .ref (aM 7)) (C := RX5) (T := TX5) (N := 23) hx hb hts iX5 hown hK hP 0 rfl rfl 12 (by decide) (hts _ wd_652) (fun _ h9 => h9) rfl dX5_goUp_73 ?_
        refine lv_iload_n hx hb dX5_goUp_76 rfl (lv_at hl 2 rfl) ?_
        refine lv_iconst (v := (0 : Int32)) hx hb dX5_goUp_77 (by decide) ?_
        obtain ⟨hz, hf⟩ := okb_s hf
        refine va_iast (D := D) hx hb hK hP hD hS 7 0 rfl rfl (inb_s hz) dX5_goUp_78 (fun H locs hP hD hS => ?_)
        have hP : va_P D classes (wM cx aM xw xh xk xj xb xr xc xv xn xl yR (upd u20 u21.toNatClampNeg (vp_nar .byte (0 : Int32))) (upd yC x2.toNatClampNeg (0 : Int32)) (upd yW x2.toNatClampNeg (0 : Int32)) (upd yA x2.toNatClampNeg (0 : Int32)) (upd yE x2.toNatClampNeg (0 : Int32)) (upd yU x2.toNatClampNeg (0 : Int32)) yM yV yF yZ yI yD) H := hP
        have hD : va_D A (wM cx aM xw xh xk xj xb xr xc xv xn xl yR (upd u20 u21.toNatClampNeg (vp_nar .byte (0 : Int32))) (upd yC x2.toNatClampNeg (0 : Int32)) (upd yW x2.toNatClampNeg (0 : Int32)) (upd yA x2.toNatClampNeg (0 : Int32)) (upd yE x2.toNatClampNeg (0 : Int32)) (upd yU x2.toNatClampNeg (0 : Int32)) yM yV yF yZ yI yD) := hD
        refine lv_iinc (v := (x2 + (1 : Int32))) (lv' := [(2, .int (x2 + (1 : Int32))), (0, .ref (aM 0)), (1, .int u17)]) hx hb dX5_goUp_79 hl (k := 2) rfl rfl (by decide) rfl (fun ls hl => ?_)
        refine lv_goto (tgt := 38) hx hb dX5_goUp_82 (by decide) ?_
        exact ih (upd yC x2.toNatClampNeg (0 : Int32)) (upd yW x2.toNatClampNeg (0 : Int32)) (upd yA x2.toNatClampNeg (0 : Int32)) (upd yE x2.toNatClampNeg (0 : Int32)) (upd yU x2.toNatClampNeg (0 : Int32)) (x2 + (1 : Int32)) _ hf H locs ls hP hD hS (lv_sub hl [1, 2, 0] rfl) hE
  obtain ⟨u24, hg, hf⟩ := ob_s hf
  refine L38 _ yC yW yA yE yU (0 : Int32) u24 hg H locs ls hP hD hS (lv_sub hl [1, 2, 0] rfl) (fun H locs ls hP hD hS hl => ?_)
  refine lv_iconst (v := (0 : Int32)) hx hb dX5_goUp_85 (by decide) ?_
  refine lv_istore_n (lv' := [(2, .int (0 : Int32)), (0, .ref (aM 0)), (1, .int u17)]) hx hb dX5_goUp_86 rfl hl (by decide) rfl (fun ls hl => ?_)
  have L87 : ∀ (ct : Nat) (xc : Int32) (yT : Nat → Int32) (yC : Nat → Int32) (yW : Nat → Int32) (yM : Nat → Int32) (x2 : Int32) (v87 : Int32 × (Nat → Int32) × (Nat → Int32) × (Nat → Int32) × (Nat → Int32)), fX5_goUp_L87 N xw xh xr yR u17 ct xc yT yC yW yM x2 = some v87 → ∀ (H : Heap) (locs : List Loc) (ls : Array Slot), va_P D classes (wM cx aM xw xh xk xj xb xr xc xv xn xl yR yT yC yW u24.2.2.1 u24.2.2.2.1 u24.2.2.2.2 yM yV yF yZ yI yD) H → va_D A (wM cx aM xw xh xk xj xb xr xc xv xn xl yR yT yC yW u24.2.2.1 u24.2.2.2.1 u24.2.2.2.2 yM yV yF yZ yI yD) → va_S A s.heap H locs → lv_has ls 5 [(0, .ref (aM 0)), (1, .int u17), (2, .int x2)] → (∀ (H : Heap) (locs : List Loc) (ls : Array Slot), va_P D classes (wM cx aM xw xh xk xj xb xr v87.1 xv xn xl yR v87.2.1 v87.2.2.1 v87.2.2.2.1 u24.2.2.1 u24.2.2.2.1 u24.2.2.2.2 v87.2.2.2.2 yV yF yZ yI yD) H → va_D A (wM cx aM xw xh xk xj xb xr v87.1 xv xn xl yR v87.2.1 v87.2.2.1 v87.2.2.2.1 u24.2.2.1 u24.2.2.2.1 u24.2.2.2.2 v87.2.2.2.2 yV yF yZ yI yD) → va_S A s.heap H locs → lv_has ls 5 [] → W p l e rmX5_goUp s m ([.ref (aM 0)] : List Value).toArray below meth c H locs 0 0 (MQ below (kc_Pv D (fun _ : Unit => (wM cx aM xw xh xk xj xb xr v.1 xv xn xl yR v.2.1 v.2.2.1 v.2.2.2.1 v.2.2.2.2.1 v.2.2.2.2.2.1 v.2.2.2.2.2.2.1 v.2.2.2.2.2.2.2 yV yF yZ yI yD)) A) ([.ref (aM 0)] : List Value).toArray s 0 0 A) (F0 m 253 ls [])) → W p l e rmX5_goUp s m ([.ref (aM 0)] : List Value).toArray below meth c H locs 0 0 (MQ below (kc_Pv D (fun _ : Unit => (wM cx aM xw xh xk xj xb xr v.1 xv xn xl yR v.2.1 v.2.2.1 v.2.2.2.1 v.2.2.2.2.1 v.2.2.2.2.2.1 v.2.2.2.2.2.2.1 v.2.2.2.2.2.2.2 yV yF yZ yI yD)) A) ([.ref (aM 0)] : List Value).toArray s 0 0 A) (F0 m 87 ls []) := by
    intro ct
    induction ct with
    | zero =>
      intro xc yT yC yW yM x2 v87 hf
      exact absurd (show (none : Option (Int32 × (Nat → Int32) × (Nat → Int32) × (Nat → Int32) × (Nat → Int32))) = some v87 from hf) (fun q => by cases q)
    | succ ct ih =>
      intro xc yT yC yW yM x2 v87 hf H locs ls hP hD hS hl hE
      rw [fX5_goUp_L87] at hf
      refine lv_iload_n hx hb dX5_goUp_87 rfl (lv_at hl 2 rfl) ?_
      refine lv_iload_n hx hb dX5_goUp_88 rfl (lv_at hl 1 rfl) ?_
      refine lv_icmp_ge (tgt := 253) hx hb dX5_goUp_89 (by decide) (fun c47 => ?_) (fun c47 => ?_)
      · replace hf := it_t c47 hf
        obtain rfl := Option.some.inj hf
        exact hE H locs ls hP hD hS (lv_sub hl [] rfl)
      · replace hf := it_f c47 hf
        refine lv_aload_n hx hb dX5_goUp_92 rfl (lv_at hl 0 rfl) ?_
        refine va_get (D := D) (ci := 5) (v := .ref (aM 2)) (C := RX5) (T := TX5) (N := 23) hx hb hts iX5 hown hK hP 0 rfl rfl 7 (by decide) (hts _ wd_647) (fun _ h9 => h9) rfl dX5_goUp_93 ?_
        refine lv_iload_n hx hb dX5_goUp_96 rfl (lv_at hl 2 rfl) ?_
        obtain ⟨hz, hf⟩ := okb_s hf
        refine va_bald (D := D) hx hb hK hP 2 1 rfl rfl (inb_s hz) dX5_goUp_97 ?_
        refine lv_bipush (v := (-128 : Int32)) hx hb dX5_goUp_98 (by decide) ?_
        refine lv_icmp_eq (tgt := 247) hx hb dX5_goUp_100 (by decide) (fun c48 => ?_) (fun c48 => ?_)
        · replace hf := it_t c48 hf
          refine lv_iinc (v := (x2 + (1 : Int32))) (lv' := [(2, .int (x2 + (1 : Int32))), (0, .ref (aM 0)), (1, .int u17)]) hx hb dX5_goUp_247 hl (k := 2) rfl rfl (by decide) rfl (fun ls hl => ?_)
          refine lv_goto (tgt := 87) hx hb dX5_goUp_250 (by decide) ?_
          exact ih xc yT yC yW yM (x2 + (1 : Int32)) _ hf H locs ls hP hD hS (lv_sub hl [1, 2, 0] rfl) hE
        · replace hf := it_f c48 hf
          refine lv_aload_n hx hb dX5_goUp_103 rfl (lv_at hl 0 rfl) ?_
          refine lv_iload_n hx hb dX5_goUp_104 rfl (lv_at hl 2 rfl) ?_
          obtain ⟨u49, hg, hf⟩ := ob_s hf
          refine kc_callv (wn := fun _ => (wM cx aM xw xh xk xj xb xr u49.1 xv xn xl yR yT yC yW u24.2.2.1 u24.2.2.2.1 u24.2.2.2.2 u49.2 yV yF yZ yI yD)) (va_runV (As := [.int x2]) (rest := []) ⟨hx, hb, hml, hown, hts⟩ (metX5_decode l D cx aM xw xh xk xj xb xr xc xv xn xl yR yT yC yW u24.2.2.1 u24.2.2.2.1 u24.2.2.2.2 yM yV yF yZ yI yD x2 N H.size u49 hg) ⟨callB_of 1 hts (kc_gI wd_607) rfl rfl rfl (hts _ wd_46) (hts _ wd_604) (by decide +kernel) ⟨Nat.le_of_ble_eq_true rfl, Nat.le_of_ble_eq_true rfl⟩, hts _ wd_606, hts _ wd_22⟩ ⟨kc_blind _ _ _ _ _, va_recv hK hP (ci := 5) (q0 := 0) rfl rfl, kc_pre _ hK hN (hP.sub [0, 1, 2, 3, 4, 5, 6, 7, 8, 9, 10, 11, 12, 13] rfl) (hD.sub [0, 1, 2, 3, 4, 5, 6, 7, 8, 9, 10, 11, 12, 13] (by decide) rfl)⟩ rfl rfl hl.1 rfl (lv_room (Nat.le_of_ble_eq_true rfl)) dX5_goUp_105 ⟨Nat.zero_le _, Nat.zero_le _⟩) hP hD hS hA [0, 1, 2, 3, 4, 5, 6, 7, 8, 9, 10, 11, 12, 13] [] [0, 1, 2, 3, 4, 5, 6, 7, 8, 9, 10, 11, 12, 13] rfl rfl (by decide) (by decide) (fun _ => rfl) (by decide) (fun _ H locs hP hD hS => ?_)
          have hP : va_P D classes (wM cx aM xw xh xk xj xb xr u49.1 xv xn xl yR yT yC yW u24.2.2.1 u24.2.2.2.1 u24.2.2.2.2 u49.2 yV yF yZ yI yD) H := hP
          have hD : va_D A (wM cx aM xw xh xk xj xb xr u49.1 xv xn xl yR yT yC yW u24.2.2.1 u24.2.2.2.1 u24.2.2.2.2 u49.2 yV yF yZ yI yD) := hD
          refine lv_aload_n hx hb dX5_goUp_108 rfl (lv_at hl 0 rfl) ?_
          refine va_get (D := D) (ci := 5) (v := .int u49.1) (C := RX5) (T := TX5) (N := 23) hx hb hts iX5 hown hK hP 0 rfl rfl 14 (by decide) (hts _ wd_654) (fun _ h9 => h9) rfl dX5_goUp_109 ?_
          refine lv_iconst (v := (2 : Int32)) hx hb dX5_goUp_112 (by decide) ?_
          refine lv_irem hx hb dX5_goUp_113 (by decide) ?_
          refine lv_istore_n (lv' := [(3, .int (u49.1 - u49.1 / (2 : Int32) * (2 : Int32))), (0, .ref (aM 0)), (1, .int u17), (2, .int x2)]) hx hb dX5_goUp_114 rfl hl (by decide) rfl (fun ls hl => ?_)
          refine lv_aload_n hx hb dX5_goUp_115 rfl (lv_at hl 1 rfl) ?_
          refine va_get (D := D) (ci := 5) (v := .ref (aM 3)) (C := RX5) (T := TX5) (N := 23) hx hb hts iX5 hown hK hP 0 rfl rfl 8 (by decide) (hts _ wd_648) (fun _ h9 => h9) rfl dX5_goUp_116 ?_
          refine lv_aload_n hx hb dX5_goUp_119 rfl (lv_at hl 1 rfl) ?_
          refine va_get (D := D) (ci := 5) (v := .int u49.1) (C := RX5) (T := TX5) (N := 23) hx hb hts iX5 hown hK hP 0 rfl rfl 14 (by decide) (hts _ wd_654) (fun _ h9 => h9) rfl dX5_goUp_120 ?_
          refine lv_dup2_11 hx hb dX5_goUp_123 rfl rfl ?_
          obtain ⟨hz, hf⟩ := okb_s hf
          refine va_iald (D := D) hx hb hK hP 3 0 rfl rfl (inb_s hz) dX5_goUp_124 ?_
          refine lv_iconst (v := (1 : Int32)) hx hb dX5_goUp_125 (by decide) ?_
          refine lv_iadd hx hb dX5_goUp_126 ?_
          obtain ⟨hz, hf⟩ := okb_s hf
          refine va_iast (D := D) hx hb hK hP hD hS 3 0 rfl rfl (inb_s hz) dX5_goUp_127 (fun H locs hP hD hS => ?_)
          have hP : va_P D classes (wM cx aM xw xh xk xj xb xr u49.1 xv xn xl yR yT (upd yC u49.1.toNatClampNeg ((yC u49.1.toNatClampNeg) + (1 : Int32))) yW u24.2.2.1 u24.2.2.2.1 u24.2.2.2.2 u49.2 yV yF yZ yI yD) H := hP
          have hD : va_D A (wM cx aM xw xh xk xj xb xr u49.1 xv xn xl yR yT (upd yC u49.1.toNatClampNeg ((yC u49.1.toNatClampNeg) + (1 : Int32))) yW u24.2.2.1 u24.2.2.2.1 u24.2.2.2.2 u49.2 yV yF yZ yI yD) := hD
          refine lv_aload_n hx hb dX5_goUp_128 rfl (lv_at hl 1 rfl) ?_
          refine va_get (D := D) (ci := 5) (v := .int u49.1) (C := RX5) (T := TX5) (N := 23) hx hb hts iX5 hown hK hP 0 rfl rfl 14 (by decide) (hts _ wd_654) (fun _ h9 => h9) rfl dX5_goUp_129 ?_
          refine lv_if_le (tgt := 174) hx hb dX5_goUp_132 (by decide) (fun c50 => ?_) (fun c50 => ?_)
          · replace hf := it_t c50 hf
            refine lv_aload_n hx hb dX5_goUp_174 rfl (lv_at hl 1 rfl) ?_
            refine va_get (D := D) (ci := 5) (v := .int u49.1) (C := RX5) (T := TX5) (N := 23) hx hb hts iX5 hown hK hP 0 rfl rfl 14 (by decide) (hts _ wd_654) (fun _ h9 => h9) rfl dX5_goUp_175 ?_
            refine lv_aload_n hx hb dX5_goUp_178 rfl (lv_at hl 1 rfl) ?_
            refine va_get (D := D) (ci := 5) (v := .int xw) (C := RX5) (T := TX5) (N := 23) hx hb hts iX5 hown hK hP 0 rfl rfl 0 (by decide) (hts _ wd_640) (fun _ h9 => h9) rfl dX5_goUp_179 ?_
            refine lv_aload_n hx hb dX5_goUp_182 rfl (lv_at hl 1 rfl) ?_
            refine va_get (D := D) (ci := 5) (v := .int xh) (C := RX5) (T := TX5) (N := 23) hx hb hts iX5 hown hK hP 0 rfl rfl 1 (by decide) (hts _ wd_641) (fun _ h9 => h9) rfl dX5_goUp_183 ?_
            refine lv_imul hx hb dX5_goUp_186 ?_
            refine lv_icmp_ne (tgt := 201) hx hb dX5_goUp_187 (by decide) (fun c51 => ?_) (fun c51 => ?_)
            · replace hf := it_f c51 hf
              refine lv_iconst (v := (0 : Int32)) hx hb dX5_goUp_201 (by decide) ?_
              refine lv_istore (lv' := [(4, .int (0 : Int32)), (3, .int (u49.1 - u49.1 / (2 : Int32) * (2 : Int32))), (0, .ref (aM 0)), (1, .int u17), (2, .int x2)]) hx hb dX5_goUp_202 hl (by decide) rfl (fun ls hl => ?_)
              have L204 : ∀ (ct : Nat) (yT : Nat → Int32) (x4 : Int32) (v204 : (Nat → Int32)), fX5_goUp_L204 N xw xh x2 (u49.1 - u49.1 / (2 : Int32) * (2 : Int32)) ct yT x4 = some v204 → ∀ (H : Heap) (locs : List Loc) (ls : Array Slot), va_P D classes (wM cx aM xw xh xk xj xb xr u49.1 xv xn xl yR yT (upd yC u49.1.toNatClampNeg ((yC u49.1.toNatClampNeg) + (1 : Int32))) yW u24.2.2.1 u24.2.2.2.1 u24.2.2.2.2 u49.2 yV yF yZ yI yD) H → va_D A (wM cx aM xw xh xk xj xb xr u49.1 xv xn xl yR yT (upd yC u49.1.toNatClampNeg ((yC u49.1.toNatClampNeg) + (1 : Int32))) yW u24.2.2.1 u24.2.2.2.1 u24.2.2.2.2 u49.2 yV yF yZ yI yD) → va_S A s.heap H locs → lv_has ls 5 [(0, .ref (aM 0)), (1, .int u17), (2, .int x2), (3, .int (u49.1 - u49.1 / (2 : Int32) * (2 : Int32))), (4, .int x4)] → (∀ (H : Heap) (locs : List Loc) (ls : Array Slot), va_P D classes (wM cx aM xw xh xk xj xb xr u49.1 xv xn xl yR v204 (upd yC u49.1.toNatClampNeg ((yC u49.1.toNatClampNeg) + (1 : Int32))) yW u24.2.2.1 u24.2.2.2.1 u24.2.2.2.2 u49.2 yV yF yZ yI yD) H → va_D A (wM cx aM xw xh xk xj xb xr u49.1 xv xn xl yR v204 (upd yC u49.1.toNatClampNeg ((yC u49.1.toNatClampNeg) + (1 : Int32))) yW u24.2.2.1 u24.2.2.2.1 u24.2.2.2.2 u49.2 yV yF yZ yI yD) → va_S A s.heap H locs → lv_has ls 5 [(0, .ref (aM 0)), (1, .int u17), (2, .int x2)] → W p l e rmX5_goUp s m ([.ref (aM 0)] : List Value).toArray below meth c H locs 0 0 (MQ below (kc_Pv D (fun _ : Unit => (wM cx aM xw xh xk xj xb xr v.1 xv xn xl yR v.2.1 v.2.2.1 v.2.2.2.1 v.2.2.2.2.1 v.2.2.2.2.2.1 v.2.2.2.2.2.2.1 v.2.2.2.2.2.2.2 yV yF yZ yI yD)) A) ([.ref (aM 0)] : List Value).toArray s 0 0 A) (F0 m 247 ls [])) → W p l e rmX5_goUp s m ([.ref (aM 0)] : List Value).toArray below meth c H locs 0 0 (MQ below (kc_Pv D (fun _ : Unit => (wM cx aM xw xh xk xj xb xr v.1 xv xn xl yR v.2.1 v.2.2.1 v.2.2.2.1 v.2.2.2.2.1 v.2.2.2.2.2.1 v.2.2.2.2.2.2.1 v.2.2.2.2.2.2.2 yV yF yZ yI yD)) A) ([.ref (aM 0)] : List Value).toArray s 0 0 A) (F0 m 204 ls []) := by
                intro ct
                induction ct with
                | zero =>
                  intro yT x4 v204 hf
                  exact absurd (show (none : Option ((Nat → Int32))) = some v204 from hf) (fun q => by cases q)
                | succ ct ih =>
                  intro yT x4 v204 hf H locs ls hP hD hS hl hE
                  rw [fX5_goUp_L204] at hf
                  refine lv_iload hx hb dX5_goUp_204 (lv_at hl 4 rfl) ?_
                  refine lv_aload_n hx hb dX5_goUp_206 rfl (lv_at hl 0 rfl) ?_
                  refine va_get (D := D) (ci := 5) (v := .int xw) (C := RX5) (T := TX5) (N := 23) hx hb hts iX5 hown hK hP 0 rfl rfl 0 (by decide) (hts _ wd_640) (fun _ h9 => h9) rfl dX5_goUp_207 ?_
                  refine lv_icmp_ge (tgt := 247) hx hb dX5_goUp_210 (by decide) (fun c52 => ?_) (fun c52 => ?_)
                  · replace hf := it_t c52 hf
                    obtain rfl := Option.some.inj hf
                    exact hE H locs ls hP hD hS (lv_sub hl [0, 1, 2] rfl)
                  · replace hf := it_f c52 hf
                    refine lv_aload_n hx hb dX5_goUp_213 rfl (lv_at hl 0 rfl) ?_
                    refine lv_iload_n hx hb dX5_goUp_214 rfl (lv_at hl 2 rfl) ?_
                    refine lv_iload hx hb dX5_goUp_215 (lv_at hl 4 rfl) ?_
                    obtain ⟨u53, hg, hf⟩ := ob_s hf
                    refine kc_calli (wn := fun _ => (wM cx aM xw xh xk xj xb xr u49.1 xv xn xl yR yT (upd yC u49.1.toNatClampNeg ((yC u49.1.toNatClampNeg) + (1 : Int32))) yW u24.2.2.1 u24.2.2.2.1 u24.2.2.2.2 u49.2 yV yF yZ yI yD)) (va_runV (As := [.int x2, .int x4]) (rest := []) ⟨hx, hb, hml, hown, hts⟩ (metX5_heightOf l D cx aM xw xh xk xj xb xr u49.1 xv xn xl yR yT (upd yC u49.1.toNatClampNeg ((yC u49.1.toNatClampNeg) + (1 : Int32))) yW u24.2.2.1 u24.2.2.2.1 u24.2.2.2.2 u49.2 yV yF yZ yI yD x2 x4 N H.size u53 hg) ⟨callB_of 2 hts (kc_gI wd_611) rfl rfl rfl (hts _ wd_46) (hts _ wd_608) (by decide +kernel) ⟨Nat.le_of_ble_eq_true rfl, Nat.le_of_ble_eq_true rfl⟩, hts _ wd_610, hts _ wd_23⟩ ⟨kc_blind _ _ _ _ _, va_recv hK hP (ci := 5) (q0 := 0) rfl rfl, kc_pre _ hK hN (hP.sub [0, 1, 2, 3, 4, 5, 6, 7, 8, 9, 10, 11, 12, 13] rfl) (hD.sub [0, 1, 2, 3, 4, 5, 6, 7, 8, 9, 10, 11, 12, 13] (by decide) rfl)⟩ rfl rfl hl.1 rfl (lv_room (Nat.le_of_ble_eq_true rfl)) dX5_goUp_217 ⟨Nat.zero_le _, Nat.zero_le _⟩) hP hD hS hA [0, 1, 2, 3, 4, 5, 6, 7, 8, 9, 10, 11, 12, 13] [] [0, 1, 2, 3, 4, 5, 6, 7, 8, 9, 10, 11, 12, 13] rfl rfl (by decide) (by decide) (fun _ => rfl) (by decide) (fun _ H locs hP hD hS => ?_)
                    have hP : va_P D classes (wM cx aM xw xh xk xj xb xr u49.1 xv xn xl yR yT (upd yC u49.1.toNatClampNeg ((yC u49.1.toNatClampNeg) + (1 : Int32))) yW u24.2.2.1 u24.2.2.2.1 u24.2.2.2.2 u49.2 yV yF yZ yI yD) H := hP
                    have hD : va_D A (wM cx aM xw xh xk xj xb xr u49.1 xv xn xl yR yT (upd yC u49.1.toNatClampNeg ((yC u49.1.toNatClampNeg) + (1 : Int32))) yW u24.2.2.1 u24.2.2.2.1 u24.2.2.2.2 u49.2 yV yF yZ yI yD) := hD
                    refine lv_aload_n hx hb dX5_goUp_220 rfl (lv_at hl 0 rfl) ?_
                    refine va_get (D := D) (ci := 5) (v := .int xh) (C := RX5) (T := TX5) (N := 23) hx hb hts iX5 hown hK hP 0 rfl rfl 1 (by decide) (hts _ wd_641) (fun _ h9 => h9) rfl dX5_goUp_221 ?_
                    refine lv_icmp_ge (tgt := 241) hx hb dX5_goUp_224 (by decide) (fun c54 => ?_) (fun c54 => ?_)
                    · replace hf := it_t c54 hf
                      refine lv_iinc (v := (x4 + (1 : Int32))) (lv' := [(4, .int (x4 + (1 : Int32))), (0, .ref (aM 0)), (1, .int u17), (2, .int x2), (3, .int (u49.1 - u49.1 / (2 : Int32) * (2 : Int32)))]) hx hb dX5_goUp_241 hl (k := 4) rfl rfl (by decide) rfl (fun ls hl => ?_)
                      refine lv_goto (tgt := 204) hx hb dX5_goUp_244 (by decide) ?_
                      exact ih yT (x4 + (1 : Int32)) _ hf H locs ls hP hD hS (lv_sub hl [1, 2, 3, 4, 0] rfl) hE
                    · replace hf := it_f c54 hf
                      refine lv_aload_n hx hb dX5_goUp_227 rfl (lv_at hl 0 rfl) ?_
                      refine va_get (D := D) (ci := 5) (v := .ref (aM 2)) (C := RX5) (T := TX5) (N := 23) hx hb hts iX5 hown hK hP 0 rfl rfl 7 (by decide) (hts _ wd_647) (fun _ h9 => h9) rfl dX5_goUp_228 ?_
                      refine lv_aload_n hx hb dX5_goUp_231 rfl (lv_at hl 0 rfl) ?_
                      refine lv_iload_n hx hb dX5_goUp_232 rfl (lv_at hl 2 rfl) ?_
                      refine lv_iload hx hb dX5_goUp_233 (lv_at hl 4 rfl) ?_
                      refine lv_iload_n hx hb dX5_goUp_235 rfl (lv_at hl 3 rfl) ?_
                      obtain ⟨u55, hg, hf⟩ := ob_s hf
                      refine kc_calli (wn := fun _ => (wM cx aM xw xh xk xj xb xr u49.1 xv xn xl yR yT (upd yC u49.1.toNatClampNeg ((yC u49.1.toNatClampNeg) + (1 : Int32))) yW u24.2.2.1 u24.2.2.2.1 u24.2.2.2.2 u49.2 yV yF yZ yI yD)) (va_runV (As := [.int x2, .int x4, .int (u49.1 - u49.1 / (2 : Int32) * (2 : Int32))]) (rest := [.ref (aM 2)]) ⟨hx, hb, hml, hown, hts⟩ (metX5_dropped l D cx aM xw xh xk xj xb xr u49.1 xv xn xl yR yT (upd yC u49.1.toNatClampNeg ((yC u49.1.toNatClampNeg) + (1 : Int32))) yW u24.2.2.1 u24.2.2.2.1 u24.2.2.2.2 u49.2 yV yF yZ yI yD x2 x4 (u49.1 - u49.1 / (2 : Int32) * (2 : Int32)) N H.size u55 hg) ⟨callB_of 3 hts (kc_gI wd_623) rfl rfl rfl (hts _ wd_46) (hts _ wd_620) (by decide +kernel) ⟨Nat.le_of_ble_eq_true rfl, Nat.le_of_ble_eq_true rfl⟩, hts _ wd_622, hts _ wd_26⟩ ⟨kc_blind _ _ _ _ _, va_recv hK hP (ci := 5) (q0 := 0) rfl rfl, kc_pre _ hK hN (hP.sub [0, 1, 2, 3, 4, 5, 6, 7, 8, 9, 10, 11, 12, 13] rfl) (hD.sub [0, 1, 2, 3, 4, 5, 6, 7, 8, 9, 10, 11, 12, 13] (by decide) rfl)⟩ rfl rfl hl.1 rfl (lv_room (Nat.le_of_ble_eq_true rfl)) dX5_goUp_236 ⟨Nat.zero_le _, Nat.zero_le _⟩) hP hD hS hA [0, 1, 2, 3, 4, 5, 6, 7, 8, 9, 10, 11, 12, 13] [] [0, 1, 2, 3, 4, 5, 6, 7, 8, 9, 10, 11, 12, 13] rfl rfl (by decide) (by decide) (fun _ => rfl) (by decide) (fun _ H locs hP hD hS => ?_)
                      have hP : va_P D classes (wM cx aM xw xh xk xj xb xr u49.1 xv xn xl yR yT (upd yC u49.1.toNatClampNeg ((yC u49.1.toNatClampNeg) + (1 : Int32))) yW u24.2.2.1 u24.2.2.2.1 u24.2.2.2.2 u49.2 yV yF yZ yI yD) H := hP
                      have hD : va_D A (wM cx aM xw xh xk xj xb xr u49.1 xv xn xl yR yT (upd yC u49.1.toNatClampNeg ((yC u49.1.toNatClampNeg) + (1 : Int32))) yW u24.2.2.1 u24.2.2.2.1 u24.2.2.2.2 u49.2 yV yF yZ yI yD) := hD
                      refine lv_iconst (v := (0 : Int32)) hx hb dX5_goUp_239 (by decide) ?_
                      obtain ⟨hz, hf⟩ := okb_s hf
                      refine va_bast (D := D) hx hb hK hP hD hS 2 1 rfl rfl (inb_s hz) dX5_goUp_240 (fun H locs hP hD hS => ?_)
                      have hP : va_P D classes (wM cx aM xw xh xk xj xb xr u49.1 xv xn xl yR (upd yT u55.toNatClampNeg (vp_nar .byte (0 : Int32))) (upd yC u49.1.toNatClampNeg ((yC u49.1.toNatClampNeg) + (1 : Int32))) yW u24.2.2.1 u24.2.2.2.1 u24.2.2.2.2 u49.2 yV yF yZ yI yD) H := hP
                      have hD : va_D A (wM cx aM xw xh xk xj xb xr u49.1 xv xn xl yR (upd yT u55.toNatClampNeg (vp_nar .byte (0 : Int32))) (upd yC u49.1.toNatClampNeg ((yC u49.1.toNatClampNeg) + (1 : Int32))) yW u24.2.2.1 u24.2.2.2.1 u24.2.2.2.2 u49.2 yV yF yZ yI yD) := hD
                      refine lv_iinc (v := (x4 + (1 : Int32))) (lv' := [(4, .int (x4 + (1 : Int32))), (0, .ref (aM 0)), (1, .int u17), (2, .int x2), (3, .int (u49.1 - u49.1 / (2 : Int32) * (2 : Int32)))]) hx hb dX5_goUp_241 hl (k := 4) rfl rfl (by decide) rfl (fun ls hl => ?_)
                      refine lv_goto (tgt := 204) hx hb dX5_goUp_244 (by decide) ?_
                      exact ih (upd yT u55.toNatClampNeg (vp_nar .byte (0 : Int32))) (x4 + (1 : Int32)) _ hf H locs ls hP hD hS (lv_sub hl [1, 2, 3, 4, 0] rfl) hE
              obtain ⟨u56, hg, hf⟩ := ob_s hf
              refine L204 _ yT (0 : Int32) u56 hg H locs ls hP hD hS (lv_sub hl [2, 3, 4, 1, 0] rfl) (fun H locs ls hP hD hS hl => ?_)
              refine lv_iinc (v := (x2 + (1 : Int32))) (lv' := [(2, .int (x2 + (1 : Int32))), (0, .ref (aM 0)), (1, .int u17)]) hx hb dX5_goUp_247 hl (k := 2) rfl rfl (by decide) rfl (fun ls hl => ?_)
              refine lv_goto (tgt := 87) hx hb dX5_goUp_250 (by decide) ?_
              exact ih u49.1 u56 (upd yC u49.1.toNatClampNeg ((yC u49.1.toNatClampNeg) + (1 : Int32))) yW u49.2 (x2 + (1 : Int32)) _ hf H locs ls hP hD hS (lv_sub hl [1, 2, 0] rfl) hE
            · replace hf := it_t c51 hf
              refine lv_aload_n hx hb dX5_goUp_190 rfl (lv_at hl 1 rfl) ?_
              refine va_get (D := D) (ci := 5) (v := .ref (aM 2)) (C := RX5) (T := TX5) (N := 23) hx hb hts iX5 hown hK hP 0 rfl rfl 7 (by decide) (hts _ wd_647) (fun _ h9 => h9) rfl dX5_goUp_191 ?_
              refine lv_iload_n hx hb dX5_goUp_194 rfl (lv_at hl 3 rfl) ?_
              refine lv_bipush (v := (126 : Int32)) hx hb dX5_goUp_195 (by decide) ?_
              obtain ⟨hz, hf⟩ := okb_s hf
              refine va_bast (D := D) hx hb hK hP hD hS 2 1 rfl rfl (inb_s hz) dX5_goUp_197 (fun H locs hP hD hS => ?_)
              have hP : va_P D classes (wM cx aM xw xh xk xj xb xr u49.1 xv xn xl yR (upd yT x2.toNatClampNeg (vp_nar .byte (126 : Int32))) (upd yC u49.1.toNatClampNeg ((yC u49.1.toNatClampNeg) + (1 : Int32))) yW u24.2.2.1 u24.2.2.2.1 u24.2.2.2.2 u49.2 yV yF yZ yI yD) H := hP
              have hD : va_D A (wM cx aM xw xh xk xj xb xr u49.1 xv xn xl yR (upd yT x2.toNatClampNeg (vp_nar .byte (126 : Int32))) (upd yC u49.1.toNatClampNeg ((yC u49.1.toNatClampNeg) + (1 : Int32))) yW u24.2.2.1 u24.2.2.2.1 u24.2.2.2.2 u49.2 yV yF yZ yI yD) := hD
              refine lv_goto (tgt := 247) hx hb dX5_goUp_198 (by decide) ?_
              refine lv_iinc (v := (x2 + (1 : Int32))) (lv' := [(2, .int (x2 + (1 : Int32))), (3, .int (u49.1 - u49.1 / (2 : Int32) * (2 : Int32))), (0, .ref (aM 0)), (1, .int u17)]) hx hb dX5_goUp_247 hl (k := 3) rfl rfl (by decide) rfl (fun ls hl => ?_)
              refine lv_goto (tgt := 87) hx hb dX5_goUp_250 (by decide) ?_
              exact ih u49.1 (upd yT x2.toNatClampNeg (vp_nar .byte (126 : Int32))) (upd yC u49.1.toNatClampNeg ((yC u49.1.toNatClampNeg) + (1 : Int32))) yW u49.2 (x2 + (1 : Int32)) _ hf H locs ls hP hD hS (lv_sub hl [2, 3, 0] rfl) hE
          · replace hf := it_f c50 hf
            refine lv_aload_n hx hb dX5_goUp_135 rfl (lv_at hl 1 rfl) ?_
            refine lv_aload_n hx hb dX5_goUp_136 rfl (lv_at hl 1 rfl) ?_
            refine va_get (D := D) (ci := 5) (v := .ref (aM 8)) (C := RX5) (T := TX5) (N := 23) hx hb hts iX5 hown hK hP 0 rfl rfl 13 (by decide) (hts _ wd_653) (fun _ h9 => h9) rfl dX5_goUp_137 ?_
            refine lv_iconst (v := (1 : Int32)) hx hb dX5_goUp_140 (by decide) ?_
            refine lv_iload_n hx hb dX5_goUp_141 rfl (lv_at hl 0 rfl) ?_
            refine lv_isub hx hb dX5_goUp_142 ?_
            obtain ⟨hz, hf⟩ := okb_s hf
            refine va_iald (D := D) hx hb hK hP 8 0 rfl rfl (inb_s hz) dX5_goUp_143 ?_
            obtain ⟨u57, hg, hf⟩ := ob_s hf
            refine kc_calli (wn := fun _ => (wM cx aM xw xh xk xj xb xr u49.1 xv xn xl yR yT (upd yC u49.1.toNatClampNeg ((yC u49.1.toNatClampNeg) + (1 : Int32))) yW u24.2.2.1 u24.2.2.2.1 u24.2.2.2.2 u49.2 yV yF yZ yI yD)) (va_runV (As := [.int (u49.2 ((1 : Int32) - (u49.1 - u49.1 / (2 : Int32) * (2 : Int32))).toNatClampNeg)]) (rest := []) ⟨hx, hb, hml, hown, hts⟩ (metX5_has l D cx aM xw xh xk xj xb xr u49.1 xv xn xl yR yT (upd yC u49.1.toNatClampNeg ((yC u49.1.toNatClampNeg) + (1 : Int32))) yW u24.2.2.1 u24.2.2.2.1 u24.2.2.2.2 u49.2 yV yF yZ yI yD (u49.2 ((1 : Int32) - (u49.1 - u49.1 / (2 : Int32) * (2 : Int32))).toNatClampNeg) N H.size u57 hg) ⟨callB_of 1 hts (kc_gI wd_619) rfl rfl rfl (hts _ wd_46) (hts _ wd_616) (by decide +kernel) ⟨Nat.le_of_ble_eq_true rfl, Nat.le_of_ble_eq_true rfl⟩, hts _ wd_618, hts _ wd_25⟩ ⟨kc_blind _ _ _ _ _, va_recv hK hP (ci := 5) (q0 := 0) rfl rfl, kc_pre _ hK hN (hP.sub [0, 1, 2, 3, 4, 5, 6, 7, 8, 9, 10, 11, 12, 13] rfl) (hD.sub [0, 1, 2, 3, 4, 5, 6, 7, 8, 9, 10, 11, 12, 13] (by decide) rfl)⟩ rfl rfl hl.1 rfl (lv_room (Nat.le_of_ble_eq_true rfl)) dX5_goUp_144 ⟨Nat.zero_le _, Nat.zero_le _⟩) hP hD hS hA [0, 1, 2, 3, 4, 5, 6, 7, 8, 9, 10, 11, 12, 13] [] [0, 1, 2, 3, 4, 5, 6, 7, 8, 9, 10, 11, 12, 13] rfl rfl (by decide) (by decide) (fun _ => rfl) (by decide) (fun _ H locs hP hD hS => ?_)
            have hP : va_P D classes (wM cx aM xw xh xk xj xb xr u49.1 xv xn xl yR yT (upd yC u49.1.toNatClampNeg ((yC u49.1.toNatClampNeg) + (1 : Int32))) yW u24.2.2.1 u24.2.2.2.1 u24.2.2.2.2 u49.2 yV yF yZ yI yD) H := hP
            have hD : va_D A (wM cx aM xw xh xk xj xb xr u49.1 xv xn xl yR yT (upd yC u49.1.toNatClampNeg ((yC u49.1.toNatClampNeg) + (1 : Int32))) yW u24.2.2.1 u24.2.2.2.1 u24.2.2.2.2 u49.2 yV yF yZ yI yD) := hD
            refine lv_if_eq (tgt := 174) hx hb dX5_goUp_147 (by decide) (fun c58 => ?_) (fun c58 => ?_)
            · replace hf := it_t c58 hf
              refine lv_aload_n hx hb dX5_goUp_174 rfl (lv_at hl 1 rfl) ?_
              refine va_get (D := D) (ci := 5) (v := .int u49.1) (C := RX5) (T := TX5) (N := 23) hx hb hts iX5 hown hK hP 0 rfl rfl 14 (by decide) (hts _ wd_654) (fun _ h9 => h9) rfl dX5_goUp_175 ?_
              refine lv_aload_n hx hb dX5_goUp_178 rfl (lv_at hl 1 rfl) ?_
              refine va_get (D := D) (ci := 5) (v := .int xw) (C := RX5) (T := TX5) (N := 23) hx hb hts iX5 hown hK hP 0 rfl rfl 0 (by decide) (hts _ wd_640) (fun _ h9 => h9) rfl dX5_goUp_179 ?_
              refine lv_aload_n hx hb dX5_goUp_182 rfl (lv_at hl 1 rfl) ?_
              refine va_get (D := D) (ci := 5) (v := .int xh) (C := RX5) (T := TX5) (N := 23) hx hb hts iX5 hown hK hP 0 rfl rfl 1 (by decide) (hts _ wd_641) (fun _ h9 => h9) rfl dX5_goUp_183 ?_
              refine lv_imul hx hb dX5_goUp_186 ?_
              refine lv_icmp_ne (tgt := 201) hx hb dX5_goUp_187 (by decide) (fun c59 => ?_) (fun c59 => ?_)
              · replace hf := it_f c59 hf
                refine lv_iconst (v := (0 : Int32)) hx hb dX5_goUp_201 (by decide) ?_
                refine lv_istore (lv' := [(4, .int (0 : Int32)), (3, .int (u49.1 - u49.1 / (2 : Int32) * (2 : Int32))), (0, .ref (aM 0)), (1, .int u17), (2, .int x2)]) hx hb dX5_goUp_202 hl (by decide) rfl (fun ls hl => ?_)
                have L204 : ∀ (ct : Nat) (yT : Nat → Int32) (x4 : Int32) (v204 : (Nat → Int32)), fX5_goUp_L204 N xw xh x2 (u49.1 - u49.1 / (2 : Int32) * (2 : Int32)) ct yT x4 = some v204 → ∀ (H : Heap) (locs : List Loc) (ls : Array Slot), va_P D classes (wM cx aM xw xh xk xj xb xr u49.1 xv xn xl yR yT (upd yC u49.1.toNatClampNeg ((yC u49.1.toNatClampNeg) + (1 : Int32))) yW u24.2.2.1 u24.2.2.2.1 u24.2.2.2.2 u49.2 yV yF yZ yI yD) H → va_D A (wM cx aM xw xh xk xj xb xr u49.1 xv xn xl yR yT (upd yC u49.1.toNatClampNeg ((yC u49.1.toNatClampNeg) + (1 : Int32))) yW u24.2.2.1 u24.2.2.2.1 u24.2.2.2.2 u49.2 yV yF yZ yI yD) → va_S A s.heap H locs → lv_has ls 5 [(0, .ref (aM 0)), (1, .int u17), (2, .int x2), (3, .int (u49.1 - u49.1 / (2 : Int32) * (2 : Int32))), (4, .int x4)] → (∀ (H : Heap) (locs : List Loc) (ls : Array Slot), va_P D classes (wM cx aM xw xh xk xj xb xr u49.1 xv xn xl yR v204 (upd yC u49.1.toNatClampNeg ((yC u49.1.toNatClampNeg) + (1 : Int32))) yW u24.2.2.1 u24.2.2.2.1 u24.2.2.2.2 u49.2 yV yF yZ yI yD) H → va_D A (wM cx aM xw xh xk xj xb xr u49.1 xv xn xl yR v204 (upd yC u49.1.toNatClampNeg ((yC u49.1.toNatClampNeg) + (1 : Int32))) yW u24.2.2.1 u24.2.2.2.1 u24.2.2.2.2 u49.2 yV yF yZ yI yD) → va_S A s.heap H locs → lv_has ls 5 [(0, .ref (aM 0)), (1, .int u17), (2, .int x2)] → W p l e rmX5_goUp s m ([.ref (aM 0)] : List Value).toArray below meth c H locs 0 0 (MQ below (kc_Pv D (fun _ : Unit => (wM cx aM xw xh xk xj xb xr v.1 xv xn xl yR v.2.1 v.2.2.1 v.2.2.2.1 v.2.2.2.2.1 v.2.2.2.2.2.1 v.2.2.2.2.2.2.1 v.2.2.2.2.2.2.2 yV yF yZ yI yD)) A) ([.ref (aM 0)] : List Value).toArray s 0 0 A) (F0 m 247 ls [])) → W p l e rmX5_goUp s m ([.ref (aM 0)] : List Value).toArray below meth c H locs 0 0 (MQ below (kc_Pv D (fun _ : Unit => (wM cx aM xw xh xk xj xb xr v.1 xv xn xl yR v.2.1 v.2.2.1 v.2.2.2.1 v.2.2.2.2.1 v.2.2.2.2.2.1 v.2.2.2.2.2.2.1 v.2.2.2.2.2.2.2 yV yF yZ yI yD)) A) ([.ref (aM 0)] : List Value).toArray s 0 0 A) (F0 m 204 ls []) := by
                  intro ct
                  induction ct with
                  | zero =>
                    intro yT x4 v204 hf
                    exact absurd (show (none : Option ((Nat → Int32))) = some v204 from hf) (fun q => by cases q)
                  | succ ct ih =>
                    intro yT x4 v204 hf H locs ls hP hD hS hl hE
                    rw [fX5_goUp_L204] at hf
                    refine lv_iload hx hb dX5_goUp_204 (lv_at hl 4 rfl) ?_
                    refine lv_aload_n hx hb dX5_goUp_206 rfl (lv_at hl 0 rfl) ?_
                    refine va_get (D := D) (ci := 5) (v := .int xw) (C := RX5) (T := TX5) (N := 23) hx hb hts iX5 hown hK hP 0 rfl rfl 0 (by decide) (hts _ wd_640) (fun _ h9 => h9) rfl dX5_goUp_207 ?_
                    refine lv_icmp_ge (tgt := 247) hx hb dX5_goUp_210 (by decide) (fun c60 => ?_) (fun c60 => ?_)
                    · replace hf := it_t c60 hf
                      obtain rfl := Option.some.inj hf
                      exact hE H locs ls hP hD hS (lv_sub hl [0, 1, 2] rfl)
                    · replace hf := it_f c60 hf
                      refine lv_aload_n hx hb dX5_goUp_213 rfl (lv_at hl 0 rfl) ?_
                      refine lv_iload_n hx hb dX5_goUp_214 rfl (lv_at hl 2 rfl) ?_
                      refine lv_iload hx hb dX5_goUp_215 (lv_at hl 4 rfl) ?_
                      obtain ⟨u61, hg, hf⟩ := ob_s hf
                      refine kc_calli (wn := fun _ => (wM cx aM xw xh xk xj xb xr u49.1 xv xn xl yR yT (upd yC u49.1.toNatClampNeg ((yC u49.1.toNatClampNeg) + (1 : Int32))) yW u24.2.2.1 u24.2.2.2.1 u24.2.2.2.2 u49.2 yV yF yZ yI yD)) (va_runV (As := [.int x2, .int x4]) (rest := []) ⟨hx, hb, hml, hown, hts⟩ (metX5_heightOf l D cx aM xw xh xk xj xb xr u49.1 xv xn xl yR yT (upd yC u49.1.toNatClampNeg ((yC u49.1.toNatClampNeg) + (1 : Int32))) yW u24.2.2.1 u24.2.2.2.1 u24.2.2.2.2 u49.2 yV yF yZ yI yD x2 x4 N H.size u61 hg) ⟨callB_of 2 hts (kc_gI wd_611) rfl rfl rfl (hts _ wd_46) (hts _ wd_608) (by decide +kernel) ⟨Nat.le_of_ble_eq_true rfl, Nat.le_of_ble_eq_true rfl⟩, hts _ wd_610, hts _ wd_23⟩ ⟨kc_blind _ _ _ _ _, va_recv hK hP (ci := 5) (q0 := 0) rfl rfl, kc_pre _ hK hN (hP.sub [0, 1, 2, 3, 4, 5, 6, 7, 8, 9, 10, 11, 12, 13] rfl) (hD.sub [0, 1, 2, 3, 4, 5, 6, 7, 8, 9, 10, 11, 12, 13] (by decide) rfl)⟩ rfl rfl hl.1 rfl (lv_room (Nat.le_of_ble_eq_true rfl)) dX5_goUp_217 ⟨Nat.zero_le _, Nat.zero_le _⟩) hP hD hS hA [0, 1, 2, 3, 4, 5, 6, 7, 8, 9, 10, 11, 12, 13] [] [0, 1, 2, 3, 4, 5, 6, 7, 8, 9, 10, 11, 12, 13] rfl rfl (by decide) (by decide) (fun _ => rfl) (by decide) (fun _ H locs hP hD hS => ?_)
                      have hP : va_P D classes (wM cx aM xw xh xk xj xb xr u49.1 xv xn xl yR yT (upd yC u49.1.toNatClampNeg ((yC u49.1.toNatClampNeg) + (1 : Int32))) yW u24.2.2.1 u24.2.2.2.1 u24.2.2.2.2 u49.2 yV yF yZ yI yD) H := hP
                      have hD : va_D A (wM cx aM xw xh xk xj xb xr u49.1 xv xn xl yR yT (upd yC u49.1.toNatClampNeg ((yC u49.1.toNatClampNeg) + (1 : Int32))) yW u24.2.2.1 u24.2.2.2.1 u24.2.2.2.2 u49.2 yV yF yZ yI yD) := hD
                      refine lv_aload_n hx hb dX5_goUp_220 rfl (lv_at hl 0 rfl) ?_
                      refine va_get (D := D) (ci := 5) (v := .int xh) (C := RX5) (T := TX5) (N := 23) hx hb hts iX5 hown hK hP 0 rfl rfl 1 (by decide) (hts _ wd_641) (fun _ h9 => h9) rfl dX5_goUp_221 ?_
                      refine lv_icmp_ge (tgt := 241) hx hb dX5_goUp_224 (by decide) (fun c62 => ?_) (fun c62 => ?_)
                      · replace hf := it_t c62 hf
                        refine lv_iinc (v := (x4 + (1 : Int32))) (lv' := [(4, .int (x4 + (1 : Int32))), (0, .ref (aM 0)), (1, .int u17), (2, .int x2), (3, .int (u49.1 - u49.1 / (2 : Int32) * (2 : Int32)))]) hx hb dX5_goUp_241 hl (k := 4) rfl rfl (by decide) rfl (fun ls hl => ?_)
                        refine lv_goto (tgt := 204) hx hb dX5_goUp_244 (by decide) ?_
                        exact ih yT (x4 + (1 : Int32)) _ hf H locs ls hP hD hS (lv_sub hl [1, 2, 3, 4, 0] rfl) hE
                      · replace hf := it_f c62 hf
                        refine lv_aload_n hx hb dX5_goUp_227 rfl (lv_at hl 0 rfl) ?_
                        refine va_get (D := D) (ci := 5) (v := .ref (aM 2)) (C := RX5) (T := TX5) (N := 23) hx hb hts iX5 hown hK hP 0 rfl rfl 7 (by decide) (hts _ wd_647) (fun _ h9 => h9) rfl dX5_goUp_228 ?_
                        refine lv_aload_n hx hb dX5_goUp_231 rfl (lv_at hl 0 rfl) ?_
                        refine lv_iload_n hx hb dX5_goUp_232 rfl (lv_at hl 2 rfl) ?_
                        refine lv_iload hx hb dX5_goUp_233 (lv_at hl 4 rfl) ?_
                        refine lv_iload_n hx hb dX5_goUp_235 rfl (lv_at hl 3 rfl) ?_
                        obtain ⟨u63, hg, hf⟩ := ob_s hf
                        refine kc_calli (wn := fun _ => (wM cx aM xw xh xk xj xb xr u49.1 xv xn xl yR yT (upd yC u49.1.toNatClampNeg ((yC u49.1.toNatClampNeg) + (1 : Int32))) yW u24.2.2.1 u24.2.2.2.1 u24.2.2.2.2 u49.2 yV yF yZ yI yD)) (va_runV (As := [.int x2, .int x4, .int (u49.1 - u49.1 / (2 : Int32) * (2 : Int32))]) (rest := [.ref (aM 2)]) ⟨hx, hb, hml, hown, hts⟩ (metX5_dropped l D cx aM xw xh xk xj xb xr u49.1 xv xn xl yR yT (upd yC u49.1.toNatClampNeg ((yC u49.1.toNatClampNeg) + (1 : Int32))) yW u24.2.2.1 u24.2.2.2.1 u24.2.2.2.2 u49.2 yV yF yZ yI yD x2 x4 (u49.1 - u49.1 / (2 : Int32) * (2 : Int32)) N H.size u63 hg) ⟨callB_of 3 hts (kc_gI wd_623) rfl rfl rfl (hts _ wd_46) (hts _ wd_620) (by decide +kernel) ⟨Nat.le_of_ble_eq_true rfl, Nat.le_of_ble_eq_true rfl⟩, hts _ wd_622, hts _ wd_26⟩ ⟨kc_blind _ _ _ _ _, va_recv hK hP (ci := 5) (q0 := 0) rfl rfl, kc_pre _ hK hN (hP.sub [0, 1, 2, 3, 4, 5, 6, 7, 8, 9, 10, 11, 12, 13] rfl) (hD.sub [0, 1, 2, 3, 4, 5, 6, 7, 8, 9, 10, 11, 12, 13] (by decide) rfl)⟩ rfl rfl hl.1 rfl (lv_room (Nat.le_of_ble_eq_true rfl)) dX5_goUp_236 ⟨Nat.zero_le _, Nat.zero_le _⟩) hP hD hS hA [0, 1, 2, 3, 4, 5, 6, 7, 8, 9, 10, 11, 12, 13] [] [0, 1, 2, 3, 4, 5, 6, 7, 8, 9, 10, 11, 12, 13] rfl rfl (by decide) (by decide) (fun _ => rfl) (by decide) (fun _ H locs hP hD hS => ?_)
                        have hP : va_P D classes (wM cx aM xw xh xk xj xb xr u49.1 xv xn xl yR yT (upd yC u49.1.toNatClampNeg ((yC u49.1.toNatClampNeg) + (1 : Int32))) yW u24.2.2.1 u24.2.2.2.1 u24.2.2.2.2 u49.2 yV yF yZ yI yD) H := hP
                        have hD : va_D A (wM cx aM xw xh xk xj xb xr u49.1 xv xn xl yR yT (upd yC u49.1.toNatClampNeg ((yC u49.1.toNatClampNeg) + (1 : Int32))) yW u24.2.2.1 u24.2.2.2.1 u24.2.2.2.2 u49.2 yV yF yZ yI yD) := hD
                        refine lv_iconst (v := (0 : Int32)) hx hb dX5_goUp_239 (by decide) ?_
                        obtain ⟨hz, hf⟩ := okb_s hf
                        refine va_bast (D := D) hx hb hK hP hD hS 2 1 rfl rfl (inb_s hz) dX5_goUp_240 (fun H locs hP hD hS => ?_)
                        have hP : va_P D classes (wM cx aM xw xh xk xj xb xr u49.1 xv xn xl yR (upd yT u63.toNatClampNeg (vp_nar .byte (0 : Int32))) (upd yC u49.1.toNatClampNeg ((yC u49.1.toNatClampNeg) + (1 : Int32))) yW u24.2.2.1 u24.2.2.2.1 u24.2.2.2.2 u49.2 yV yF yZ yI yD) H := hP
                        have hD : va_D A (wM cx aM xw xh xk xj xb xr u49.1 xv xn xl yR (upd yT u63.toNatClampNeg (vp_nar .byte (0 : Int32))) (upd yC u49.1.toNatClampNeg ((yC u49.1.toNatClampNeg) + (1 : Int32))) yW u24.2.2.1 u24.2.2.2.1 u24.2.2.2.2 u49.2 yV yF yZ yI yD) := hD
                        refine lv_iinc (v := (x4 + (1 : Int32))) (lv' := [(4, .int (x4 + (1 : Int32))), (0, .ref (aM 0)), (1, .int u17), (2, .int x2), (3, .int (u49.1 - u49.1 / (2 : Int32) * (2 : Int32)))]) hx hb dX5_goUp_241 hl (k := 4) rfl rfl (by decide) rfl (fun ls hl => ?_)
                        refine lv_goto (tgt := 204) hx hb dX5_goUp_244 (by decide) ?_
                        exact ih (upd yT u63.toNatClampNeg (vp_nar .byte (0 : Int32))) (x4 + (1 : Int32)) _ hf H locs ls hP hD hS (lv_sub hl [1, 2, 3, 4, 0] rfl) hE
                obtain ⟨u64, hg, hf⟩ := ob_s hf
                refine L204 _ yT (0 : Int32) u64 hg H locs ls hP hD hS (lv_sub hl [2, 3, 4, 1, 0] rfl) (fun H locs ls hP hD hS hl => ?_)
                refine lv_iinc (v := (x2 + (1 : Int32))) (lv' := [(2, .int (x2 + (1 : Int32))), (0, .ref (aM 0)), (1, .int u17)]) hx hb dX5_goUp_247 hl (k := 2) rfl rfl (by decide) rfl (fun ls hl => ?_)
                refine lv_goto (tgt := 87) hx hb dX5_goUp_250 (by decide) ?_
                exact ih u49.1 u64 (upd yC u49.1.toNatClampNeg ((yC u49.1.toNatClampNeg) + (1 : Int32))) yW u49.2 (x2 + (1 : Int32)) _ hf H locs ls hP hD hS (lv_sub hl [1, 2, 0] rfl) hE
              · replace hf := it_t c59 hf
                refine lv_aload_n hx hb dX5_goUp_190 rfl (lv_at hl 1 rfl) ?_
                refine va_get (D := D) (ci := 5) (v := .ref (aM 2)) (C := RX5) (T := TX5) (N := 23) hx hb hts iX5 hown hK hP 0 rfl rfl 7 (by decide) (hts _ wd_647) (fun _ h9 => h9) rfl dX5_goUp_191 ?_
                refine lv_iload_n hx hb dX5_goUp_194 rfl (lv_at hl 3 rfl) ?_
                refine lv_bipush (v := (126 : Int32)) hx hb dX5_goUp_195 (by decide) ?_
                obtain ⟨hz, hf⟩ := okb_s hf
                refine va_bast (D := D) hx hb hK hP hD hS 2 1 rfl rfl (inb_s hz) dX5_goUp_197 (fun H locs hP hD hS => ?_)
                have hP : va_P D classes (wM cx aM xw xh xk xj xb xr u49.1 xv xn xl yR (upd yT x2.toNatClampNeg (vp_nar .byte (126 : Int32))) (upd yC u49.1.toNatClampNeg ((yC u49.1.toNatClampNeg) + (1 : Int32))) yW u24.2.2.1 u24.2.2.2.1 u24.2.2.2.2 u49.2 yV yF yZ yI yD) H := hP
                have hD : va_D A (wM cx aM xw xh xk xj xb xr u49.1 xv xn xl yR (upd yT x2.toNatClampNeg (vp_nar .byte (126 : Int32))) (upd yC u49.1.toNatClampNeg ((yC u49.1.toNatClampNeg) + (1 : Int32))) yW u24.2.2.1 u24.2.2.2.1 u24.2.2.2.2 u49.2 yV yF yZ yI yD) := hD
                refine lv_goto (tgt := 247) hx hb dX5_goUp_198 (by decide) ?_
                refine lv_iinc (v := (x2 + (1 : Int32))) (lv' := [(2, .int (x2 + (1 : Int32))), (3, .int (u49.1 - u49.1 / (2 : Int32) * (2 : Int32))), (0, .ref (aM 0)), (1, .int u17)]) hx hb dX5_goUp_247 hl (k := 3) rfl rfl (by decide) rfl (fun ls hl => ?_)
                refine lv_goto (tgt := 87) hx hb dX5_goUp_250 (by decide) ?_
                exact ih u49.1 (upd yT x2.toNatClampNeg (vp_nar .byte (126 : Int32))) (upd yC u49.1.toNatClampNeg ((yC u49.1.toNatClampNeg) + (1 : Int32))) yW u49.2 (x2 + (1 : Int32)) _ hf H locs ls hP hD hS (lv_sub hl [2, 3, 0] rfl) hE
            · replace hf := it_f c58 hf
              refine lv_aload_n hx hb dX5_goUp_150 rfl (lv_at hl 1 rfl) ?_
              refine va_get (D := D) (ci := 5) (v := .ref (aM 4)) (C := RX5) (T := TX5) (N := 23) hx hb hts iX5 hown hK hP 0 rfl rfl 9 (by decide) (hts _ wd_649) (fun _ h9 => h9) rfl dX5_goUp_151 ?_
              refine lv_aload_n hx hb dX5_goUp_154 rfl (lv_at hl 1 rfl) ?_
              refine va_get (D := D) (ci := 5) (v := .int u49.1) (C := RX5) (T := TX5) (N := 23) hx hb hts iX5 hown hK hP 0 rfl rfl 14 (by decide) (hts _ wd_654) (fun _ h9 => h9) rfl dX5_goUp_155 ?_
              refine lv_dup2_11 hx hb dX5_goUp_158 rfl rfl ?_
              obtain ⟨hz, hf⟩ := okb_s hf
              refine va_iald (D := D) hx hb hK hP 4 0 rfl rfl (inb_s hz) dX5_goUp_159 ?_
              refine lv_iconst (v := (1 : Int32)) hx hb dX5_goUp_160 (by decide) ?_
              refine lv_iadd hx hb dX5_goUp_161 ?_
              obtain ⟨hz, hf⟩ := okb_s hf
              refine va_iast (D := D) hx hb hK hP hD hS 4 0 rfl rfl (inb_s hz) dX5_goUp_162 (fun H locs hP hD hS => ?_)
              have hP : va_P D classes (wM cx aM xw xh xk xj xb xr u49.1 xv xn xl yR yT (upd yC u49.1.toNatClampNeg ((yC u49.1.toNatClampNeg) + (1 : Int32))) (upd yW u49.1.toNatClampNeg ((yW u49.1.toNatClampNeg) + (1 : Int32))) u24.2.2.1 u24.2.2.2.1 u24.2.2.2.2 u49.2 yV yF yZ yI yD) H := hP
              have hD : va_D A (wM cx aM xw xh xk xj xb xr u49.1 xv xn xl yR yT (upd yC u49.1.toNatClampNeg ((yC u49.1.toNatClampNeg) + (1 : Int32))) (upd yW u49.1.toNatClampNeg ((yW u49.1.toNatClampNeg) + (1 : Int32))) u24.2.2.1 u24.2.2.2.1 u24.2.2.2.2 u49.2 yV yF yZ yI yD) := hD
              refine lv_aload_n hx hb dX5_goUp_163 rfl (lv_at hl 1 rfl) ?_
              refine va_get (D := D) (ci := 5) (v := .ref (aM 2)) (C := RX5) (T := TX5) (N := 23) hx hb hts iX5 hown hK hP 0 rfl rfl 7 (by decide) (hts _ wd_647) (fun _ h9 => h9) rfl dX5_goUp_164 ?_
              refine lv_iload_n hx hb dX5_goUp_167 rfl (lv_at hl 3 rfl) ?_
              refine lv_bipush (v := (127 : Int32)) hx hb dX5_goUp_168 (by decide) ?_
              obtain ⟨hz, hf⟩ := okb_s hf
              refine va_bast (D := D) hx hb hK hP hD hS 2 1 rfl rfl (inb_s hz) dX5_goUp_170 (fun H locs hP hD hS => ?_)
              have hP : va_P D classes (wM cx aM xw xh xk xj xb xr u49.1 xv xn xl yR (upd yT x2.toNatClampNeg (vp_nar .byte (127 : Int32))) (upd yC u49.1.toNatClampNeg ((yC u49.1.toNatClampNeg) + (1 : Int32))) (upd yW u49.1.toNatClampNeg ((yW u49.1.toNatClampNeg) + (1 : Int32))) u24.2.2.1 u24.2.2.2.1 u24.2.2.2.2 u49.2 yV yF yZ yI yD) H := hP
              have hD : va_D A (wM cx aM xw xh xk xj xb xr u49.1 xv xn xl yR (upd yT x2.toNatClampNeg (vp_nar .byte (127 : Int32))) (upd yC u49.1.toNatClampNeg ((yC u49.1.toNatClampNeg) + (1 : Int32))) (upd yW u49.1.toNatClampNeg ((yW u49.1.toNatClampNeg) + (1 : Int32))) u24.2.2.1 u24.2.2.2.1 u24.2.2.2.2 u49.2 yV yF yZ yI yD) := hD
              refine lv_goto (tgt := 247) hx hb dX5_goUp_171 (by decide) ?_
              refine lv_iinc (v := (x2 + (1 : Int32))) (lv' := [(2, .int (x2 + (1 : Int32))), (3, .int (u49.1 - u49.1 / (2 : Int32) * (2 : Int32))), (0, .ref (aM 0)), (1, .int u17)]) hx hb dX5_goUp_247 hl (k := 3) rfl rfl (by decide) rfl (fun ls hl => ?_)
              refine lv_goto (tgt := 87) hx hb dX5_goUp_250 (by decide) ?_
              exact ih u49.1 (upd yT x2.toNatClampNeg (vp_nar .byte (127 : Int32))) (upd yC u49.1.toNatClampNeg ((yC u49.1.toNatClampNeg) + (1 : Int32))) (upd yW u49.1.toNatClampNeg ((yW u49.1.toNatClampNeg) + (1 : Int32))) u49.2 (x2 + (1 : Int32)) _ hf H locs ls hP hD hS (lv_sub hl [2, 3, 0] rfl) hE
  obtain ⟨u65, hg, hf⟩ := ob_s hf
  refine L87 _ xc (upd u20 u21.toNatClampNeg (vp_nar .byte (0 : Int32))) u24.1 u24.2.1 yM (0 : Int32) u65 hg H locs ls hP hD hS (lv_sub hl [1, 2, 0] rfl) (fun H locs ls hP hD hS hl => ?_)
  obtain rfl := Option.some.inj hf
  exact kc_vret () hx hb hr hk hP hD hS dX5_goUp_253
abbrev rmX5_worthBy : Room := { frames := 3, cells := 0, slots := 0, locals := 69 }
set_option maxHeartbeats 4000000 in
set_option maxRecDepth 100000 in
theorem metX5_worthBy (l : Launch) (D : va_G) (cx : Nat → ClassId) (aM : Nat → Nat) (xw : Int32) (xh : Int32) (xk : Int32) (xj : Int32) (xb : Int32) (xr : Int32) (xc : Int32) (xv : Int32) (xn : Int32) (xl : Int32) (yR : Nat → Int32) (yT : Nat → Int32) (yC : Nat → Int32) (yW : Nat → Int32) (yA : Nat → Int32) (yE : Nat → Int32) (yU : Nat → Int32) (yM : Nat → Int32) (yV : Nat → Int32) (yF : Nat → Int32) (yZ : Nat → Int32) (yI : Nat → Int32) (yD : Nat → Int32) (x1 : Int32) (x2 : Int32) (x3 : Int32) (N : Nat) (sz : Nat) (v : Int32) (hf : fX5_worthBy N xh yT x1 x2 x3 = some v) : Met l yX5_worthBy (.code yX5_worthBy cX5_worthBy 5 (some .int) :: kc_TB) rmX5_worthBy (kc_Pre D cx (wM cx aM xw xh xk xj xb xr xc xv xn xl yR yT yC yW yA yE yU yM yV yF yZ yI yD) [.ref (aM 0), .int x1, .int x2, .int x3] sz) (kc_Pi D (fun _ : Unit => (wM cx aM xw xh xk xj xb xr xc xv xn xl yR yT yC yW yA yE yU yM yV yF yZ yI yD)) v (va_A (wM cx aM xw xh xk xj xb xr xc xv xn xl yR yT yC yW yA yE yU yM yV yF yZ yI yD) sz)) 0 0 (va_A (wM cx aM xw xh xk xj xb xr xc xv xn xl yR yT yC yW yA yE yU yM yV yF yZ yI yD) sz) := by
  refine kc_entry (Qc := fun A => (kc_Pi D (fun _ : Unit => (wM cx aM xw xh xk xj xb xr xc xv xn xl yR yT yC yW yA yE yU yM yV yF yZ yI yD)) v A)) (by decide) (Nat.le_of_ble_eq_true rfl) ?_
  intro p e s m below meth c A hx hb hr hk hml hown hin hts hN hK hP hD hS hA ls hl
  have hown : s.vm.findClass RX5 = some m.cls := hown
  have hl : lv_has ls 5 [(0, .ref (aM 0)), (1, .int x1), (2, .int x2), (3, .int x3)] := hl
  unfold fX5_worthBy at hf
  have hP : va_P D classes (wM cx aM xw xh xk xj xb xr xc xv xn xl yR yT yC yW yA yE yU yM yV yF yZ yI yD) s.heap := hP
  obtain ⟨H, hH⟩ : ∃ H, H = s.heap := ⟨_, rfl⟩
  obtain ⟨locs, hL⟩ : ∃ locs : List Loc, locs = [] := ⟨_, rfl⟩
  have hS : va_S A s.heap H locs := by rw [hH, hL]; exact hS
  have hP : va_P D classes (wM cx aM xw xh xk xj xb xr xc xv xn xl yR yT yC yW yA yE yU yM yV yF yZ yI yD) H := by rw [hH]; exact hP
  suffices hW : W p l e rmX5_worthBy s m ([.ref (aM 0), .int x1, .int x2, .int x3] : List Value).toArray below meth c H locs 0 0 (MQ below (kc_Pi D (fun _ : Unit => (wM cx aM xw xh xk xj xb xr xc xv xn xl yR yT yC yW yA yE yU yM yV yF yZ yI yD)) v A) ([.ref (aM 0), .int x1, .int x2, .int x3] : List Value).toArray s 0 0 A) (F0 m 0 ls []) by rw [hH, hL] at hW; exact hW
  clear hH hL
  refine lv_aload_n hx hb dX5_worthBy_0 rfl (lv_at hl 0 rfl) ?_
  refine va_get (D := D) (ci := 5) (v := .ref (aM 2)) (C := RX5) (T := TX5) (N := 23) hx hb hts iX5 hown hK hP 0 rfl rfl 7 (by decide) (hts _ wd_647) (fun _ h9 => h9) rfl dX5_worthBy_1 ?_
  refine lv_aload_n hx hb dX5_worthBy_4 rfl (lv_at hl 0 rfl) ?_
  refine lv_iload_n hx hb dX5_worthBy_5 rfl (lv_at hl 1 rfl) ?_
  refine lv_iload_n hx hb dX5_worthBy_6 rfl (lv_at hl 2 rfl) ?_
  refine lv_iload_n hx hb dX5_worthBy_7 rfl (lv_at hl 3 rfl) ?_
  obtain ⟨u6, hg, hf⟩ := ob_s hf
  refine kc_calli (wn := fun _ => (wM cx aM xw xh xk xj xb xr xc xv xn xl yR yT yC yW yA yE yU yM yV yF yZ yI yD)) (va_runV (As := [.int x1, .int x2, .int x3]) (rest := [.ref (aM 2)]) ⟨hx, hb, hml, hown, hts⟩ (metX5_dropped l D cx aM xw xh xk xj xb xr xc xv xn xl yR yT yC yW yA yE yU yM yV yF yZ yI yD x1 x2 x3 N H.size u6 hg) ⟨callB_of 3 hts (kc_gI wd_623) rfl rfl rfl (hts _ wd_46) (hts _ wd_620) (by decide +kernel) ⟨Nat.le_of_ble_eq_true rfl, Nat.le_of_ble_eq_true rfl⟩, hts _ wd_622, hts _ wd_26⟩ ⟨kc_blind _ _ _ _ _, va_recv hK hP (ci := 5) (q0 := 0) rfl rfl, kc_pre _ hK hN (hP.sub [0, 1, 2, 3, 4, 5, 6, 7, 8, 9, 10, 11, 12, 13] rfl) (hD.sub [0, 1, 2, 3, 4, 5, 6, 7, 8, 9, 10, 11, 12, 13] (by decide) rfl)⟩ rfl rfl hl.1 rfl (lv_room (Nat.le_of_ble_eq_true rfl)) dX5_worthBy_8 ⟨Nat.zero_le _, Nat.zero_le _⟩) hP hD hS hA [0, 1, 2, 3, 4, 5, 6, 7, 8, 9, 10, 11, 12, 13] [] [0, 1, 2, 3, 4, 5, 6, 7, 8, 9, 10, 11, 12, 13] rfl rfl (by decide) (by decide) (fun _ => rfl) (by decide) (fun _ H locs hP hD hS => ?_)
  have hP : va_P D classes (wM cx aM xw xh xk xj xb xr xc xv xn xl yR yT yC yW yA yE yU yM yV yF yZ yI yD) H := hP
  have hD : va_D A (wM cx aM xw xh xk xj xb xr xc xv xn xl yR yT yC yW yA yE yU yM yV yF yZ yI yD) := hD
  obtain ⟨hz, hf⟩ := okb_s hf
  refine va_bald (D := D) hx hb hK hP 2 1 rfl rfl (inb_s hz) dX5_worthBy_11 ?_
  refine lv_istore (lv' := [(4, .int (yT u6.toNatClampNeg)), (0, .ref (aM 0)), (1, .int x1), (2, .int x2), (3, .int x3)]) hx hb dX5_worthBy_12 hl (by decide) rfl (fun ls hl => ?_)
  refine lv_iload hx hb dX5_worthBy_14 (lv_at hl 0 rfl) ?_
  refine lv_bipush (v := (127 : Int32)) hx hb dX5_worthBy_16 (by decide) ?_
  refine lv_icmp_ne (tgt := 24) hx hb dX5_worthBy_18 (by decide) (fun c7 => ?_) (fun c7 => ?_)
  · replace hf := it_f c7 hf
    refine lv_iload hx hb dX5_worthBy_24 (lv_at hl 0 rfl) ?_
    refine lv_bipush (v := (126 : Int32)) hx hb dX5_worthBy_26 (by decide) ?_
    refine lv_icmp_ne (tgt := 33) hx hb dX5_worthBy_28 (by decide) (fun c8 => ?_) (fun c8 => ?_)
    · replace hf := it_f c8 hf
      refine lv_iload hx hb dX5_worthBy_33 (lv_at hl 0 rfl) ?_
      refine lv_if_le (tgt := 45) hx hb dX5_worthBy_35 (by decide) (fun c9 => ?_) (fun c9 => ?_)
      · replace hf := it_t c9 hf
        refine lv_iload hx hb dX5_worthBy_45 (lv_at hl 0 rfl) ?_
        refine lv_if_ge (tgt := 57) hx hb dX5_worthBy_47 (by decide) (fun c10 => ?_) (fun c10 => ?_)
        · replace hf := it_t c10 hf
          refine lv_iconst (v := (0 : Int32)) hx hb dX5_worthBy_57 (by decide) ?_
          obtain rfl := Option.some.inj hf
          exact kc_iret () hx hb hr hk hP hD hS rfl dX5_worthBy_58
        · replace hf := it_f c10 hf
          refine lv_iconst (v := (-1 : Int32)) hx hb dX5_worthBy_50 (by decide) ?_
          refine lv_iload hx hb dX5_worthBy_51 (lv_at hl 0 rfl) ?_
          refine lv_isub hx hb dX5_worthBy_53 ?_
          refine lv_goto (tgt := 58) hx hb dX5_worthBy_54 (by decide) ?_
          obtain rfl := Option.some.inj hf
          exact kc_iret () hx hb hr hk hP hD hS rfl dX5_worthBy_58
      · replace hf := it_f c9 hf
        refine lv_iconst (v := (1 : Int32)) hx hb dX5_worthBy_38 (by decide) ?_
        refine lv_iload hx hb dX5_worthBy_39 (lv_at hl 0 rfl) ?_
        refine lv_isub hx hb dX5_worthBy_41 ?_
        refine lv_goto (tgt := 58) hx hb dX5_worthBy_42 (by decide) ?_
        obtain rfl := Option.some.inj hf
        exact kc_iret () hx hb hr hk hP hD hS rfl dX5_worthBy_58
    · replace hf := it_t c8 hf
      refine lv_iconst (v := (0 : Int32)) hx hb dX5_worthBy_31 (by decide) ?_
      obtain rfl := Option.some.inj hf
      exact kc_iret () hx hb hr hk hP hD hS rfl dX5_worthBy_32
  · replace hf := it_t c7 hf
    refine lv_bipush (v := (99 : Int32)) hx hb dX5_worthBy_21 (by decide) ?_
    obtain rfl := Option.some.inj hf
    exact kc_iret () hx hb hr hk hP hD hS rfl dX5_worthBy_23
abbrev rmX5_greatest : Room := { frames := 4, cells := 0, slots := 0, locals := 93 }
set_option maxHeartbeats 4000000 in
set_option maxRecDepth 100000 in
theorem metX5_greatest (l : Launch) (D : va_G) (cx : Nat → ClassId) (aM : Nat → Nat) (xw : Int32) (xh : Int32) (xk : Int32) (xj : Int32) (xb : Int32) (xr : Int32) (xc : Int32) (xv : Int32) (xn : Int32) (xl : Int32) (yR : Nat → Int32) (yT : Nat → Int32) (yC : Nat → Int32) (yW : Nat → Int32) (yA : Nat → Int32) (yE : Nat → Int32) (yU : Nat → Int32) (yM : Nat → Int32) (yV : Nat → Int32) (yF : Nat → Int32) (yZ : Nat → Int32) (yI : Nat → Int32) (yD : Nat → Int32) (x1 : Int32) (x2 : Int32) (N : Nat) (sz : Nat) (v : Int32) (hf : fX5_greatest N xw xh yT x1 x2 = some v) : Met l yX5_greatest (.code yX5_greatest cX5_greatest 6 (some .int) :: kc_TB) rmX5_greatest (kc_Pre D cx (wM cx aM xw xh xk xj xb xr xc xv xn xl yR yT yC yW yA yE yU yM yV yF yZ yI yD) [.ref (aM 0), .int x1, .int x2] sz) (kc_Pi D (fun _ : Unit => (wM cx aM xw xh xk xj xb xr xc xv xn xl yR yT yC yW yA yE yU yM yV yF yZ yI yD)) v (va_A (wM cx aM xw xh xk xj xb xr xc xv xn xl yR yT yC yW yA yE yU yM yV yF yZ yI yD) sz)) 0 0 (va_A (wM cx aM xw xh xk xj xb xr xc xv xn xl yR yT yC yW yA yE yU yM yV yF yZ yI yD) sz) := by
  refine kc_entry (Qc := fun A => (kc_Pi D (fun _ : Unit => (wM cx aM xw xh xk xj xb xr xc xv xn xl yR yT yC yW yA yE yU yM yV yF yZ yI yD)) v A)) (by decide) (Nat.le_of_ble_eq_true rfl) ?_
  intro p e s m below meth c A hx hb hr hk hml hown hin hts hN hK hP hD hS hA ls hl
  have hown : s.vm.findClass RX5 = some m.cls := hown
  have hl : lv_has ls 6 [(0, .ref (aM 0)), (1, .int x1), (2, .int x2)] := hl
  unfold fX5_greatest at hf
  have hP : va_P D classes (wM cx aM xw xh xk xj xb xr xc xv xn xl yR yT yC yW yA yE yU yM yV yF yZ yI yD) s.heap := hP
  obtain ⟨H, hH⟩ : ∃ H, H = s.heap := ⟨_, rfl⟩
  obtain ⟨locs, hL⟩ : ∃ locs : List Loc, locs = [] := ⟨_, rfl⟩
  have hS : va_S A s.heap H locs := by rw [hH, hL]; exact hS
  have hP : va_P D classes (wM cx aM xw xh xk xj xb xr xc xv xn xl yR yT yC yW yA yE yU yM yV yF yZ yI yD) H := by rw [hH]; exact hP
  suffices hW : W p l e rmX5_greatest s m ([.ref (aM 0), .int x1, .int x2] : List Value).toArray below meth c H locs 0 0 (MQ below (kc_Pi D (fun _ : Unit => (wM cx aM xw xh xk xj xb xr xc xv xn xl yR yT yC yW yA yE yU yM yV yF yZ yI yD)) v A) ([.ref (aM 0), .int x1, .int x2] : List Value).toArray s 0 0 A) (F0 m 0 ls []) by rw [hH, hL] at hW; exact hW
  clear hH hL
  refine lv_sipush (v := (-1000 : Int32)) hx hb dX5_greatest_0 (by decide) ?_
  refine lv_istore_n (lv' := [(3, .int (-1000 : Int32)), (0, .ref (aM 0)), (1, .int x1), (2, .int x2)]) hx hb dX5_greatest_3 rfl hl (by decide) rfl (fun ls hl => ?_)
  refine lv_iconst (v := (0 : Int32)) hx hb dX5_greatest_4 (by decide) ?_
  refine lv_istore (lv' := [(4, .int (0 : Int32)), (3, .int (-1000 : Int32)), (0, .ref (aM 0)), (1, .int x1), (2, .int x2)]) hx hb dX5_greatest_5 hl (by decide) rfl (fun ls hl => ?_)
  have L7 : ∀ (ct : Nat) (x3 : Int32) (x4 : Int32) (v7 : Int32), fX5_greatest_L7 N xw xh yT x1 x2 ct x3 x4 = some v7 → ∀ (H : Heap) (locs : List Loc) (ls : Array Slot), va_P D classes (wM cx aM xw xh xk xj xb xr xc xv xn xl yR yT yC yW yA yE yU yM yV yF yZ yI yD) H → va_D A (wM cx aM xw xh xk xj xb xr xc xv xn xl yR yT yC yW yA yE yU yM yV yF yZ yI yD) → va_S A s.heap H locs → lv_has ls 6 [(0, .ref (aM 0)), (1, .int x1), (2, .int x2), (3, .int x3), (4, .int x4)] → (∀ (H : Heap) (locs : List Loc) (ls : Array Slot), va_P D classes (wM cx aM xw xh xk xj xb xr xc xv xn xl yR yT yC yW yA yE yU yM yV yF yZ yI yD) H → va_D A (wM cx aM xw xh xk xj xb xr xc xv xn xl yR yT yC yW yA yE yU yM yV yF yZ yI yD) → va_S A s.heap H locs → lv_has ls 6 [(3, .int v7)] → W p l e rmX5_greatest s m ([.ref (aM 0), .int x1, .int x2] : List Value).toArray below meth c H locs 0 0 (MQ below (kc_Pi D (fun _ : Unit => (wM cx aM xw xh xk xj xb xr xc xv xn xl yR yT yC yW yA yE yU yM yV yF yZ yI yD)) v A) ([.ref (aM 0), .int x1, .int x2] : List Value).toArray s 0 0 A) (F0 m 59 ls [])) → W p l e rmX5_greatest s m ([.ref (aM 0), .int x1, .int x2] : List Value).toArray below meth c H locs 0 0 (MQ below (kc_Pi D (fun _ : Unit => (wM cx aM xw xh xk xj xb xr xc xv xn xl yR yT yC yW yA yE yU yM yV yF yZ yI yD)) v A) ([.ref (aM 0), .int x1, .int x2] : List Value).toArray s 0 0 A) (F0 m 7 ls []) := by
    intro ct
    induction ct with
    | zero =>
      intro x3 x4 v7 hf
      exact absurd (show (none : Option (Int32)) = some v7 from hf) (fun q => by cases q)
    | succ ct ih =>
      intro x3 x4 v7 hf H locs ls hP hD hS hl hE
      rw [fX5_greatest_L7] at hf
      refine lv_iload hx hb dX5_greatest_7 (lv_at hl 4 rfl) ?_
      refine lv_aload_n hx hb dX5_greatest_9 rfl (lv_at hl 0 rfl) ?_
      refine va_get (D := D) (ci := 5) (v := .int xw) (C := RX5) (T := TX5) (N := 23) hx hb hts iX5 hown hK hP 0 rfl rfl 0 (by decide) (hts _ wd_640) (fun _ h9 => h9) rfl dX5_greatest_10 ?_
      refine lv_icmp_ge (tgt := 59) hx hb dX5_greatest_13 (by decide) (fun c11 => ?_) (fun c11 => ?_)
      · replace hf := it_t c11 hf
        obtain rfl := Option.some.inj hf
        exact hE H locs ls hP hD hS (lv_sub hl [3] rfl)
      · replace hf := it_f c11 hf
        refine lv_aload_n hx hb dX5_greatest_16 rfl (lv_at hl 0 rfl) ?_
        refine lv_iload_n hx hb dX5_greatest_17 rfl (lv_at hl 1 rfl) ?_
        refine lv_iload hx hb dX5_greatest_18 (lv_at hl 4 rfl) ?_
        obtain ⟨u12, hg, hf⟩ := ob_s hf
        refine kc_calli (wn := fun _ => (wM cx aM xw xh xk xj xb xr xc xv xn xl yR yT yC yW yA yE yU yM yV yF yZ yI yD)) (va_runV (As := [.int x1, .int x4]) (rest := []) ⟨hx, hb, hml, hown, hts⟩ (metX5_heightOf l D cx aM xw xh xk xj xb xr xc xv xn xl yR yT yC yW yA yE yU yM yV yF yZ yI yD x1 x4 N H.size u12 hg) ⟨callB_of 2 hts (kc_gI wd_611) rfl rfl rfl (hts _ wd_46) (hts _ wd_608) (by decide +kernel) ⟨Nat.le_of_ble_eq_true rfl, Nat.le_of_ble_eq_true rfl⟩, hts _ wd_610, hts _ wd_23⟩ ⟨kc_blind _ _ _ _ _, va_recv hK hP (ci := 5) (q0 := 0) rfl rfl, kc_pre _ hK hN (hP.sub [0, 1, 2, 3, 4, 5, 6, 7, 8, 9, 10, 11, 12, 13] rfl) (hD.sub [0, 1, 2, 3, 4, 5, 6, 7, 8, 9, 10, 11, 12, 13] (by decide) rfl)⟩ rfl rfl hl.1 rfl (lv_room (Nat.le_of_ble_eq_true rfl)) dX5_greatest_20 ⟨Nat.zero_le _, Nat.zero_le _⟩) hP hD hS hA [0, 1, 2, 3, 4, 5, 6, 7, 8, 9, 10, 11, 12, 13] [] [0, 1, 2, 3, 4, 5, 6, 7, 8, 9, 10, 11, 12, 13] rfl rfl (by decide) (by decide) (fun _ => rfl) (by decide) (fun _ H locs hP hD hS => ?_)
        have hP : va_P D classes (wM cx aM xw xh xk xj xb xr xc xv xn xl yR yT yC yW yA yE yU yM yV yF yZ yI yD) H := hP
        have hD : va_D A (wM cx aM xw xh xk xj xb xr xc xv xn xl yR yT yC yW yA yE yU yM yV yF yZ yI yD) := hD
        refine lv_aload_n hx hb dX5_greatest_23 rfl (lv_at hl 0 rfl) ?_
        refine va_get (D := D) (ci := 5) (v := .int xh) (C := RX5) (T := TX5) (N := 23) hx hb hts iX5 hown hK hP 0 rfl rfl 1 (by decide) (hts _ wd_641) (fun _ h9 => h9) rfl dX5_greatest_24 ?_
        refine lv_icmp_ge (tgt := 53) hx hb dX5_greatest_27 (by decide) (fun c13 => ?_) (fun c13 => ?_)
        · replace hf := it_t c13 hf
          refine lv_iinc (v := (x4 + (1 : Int32))) (lv' := [(4, .int (x4 + (1 : Int32))), (0, .ref (aM 0)), (1, .int x1), (2, .int x2), (3, .int x3)]) hx hb dX5_greatest_53 hl (k := 4) rfl rfl (by decide) rfl (fun ls hl => ?_)
          refine lv_goto (tgt := 7) hx hb dX5_greatest_56 (by decide) ?_
          exact ih x3 (x4 + (1 : Int32)) _ hf H locs ls hP hD hS (lv_sub hl [1, 2, 3, 4, 0] rfl) hE
        · replace hf := it_f c13 hf
          refine lv_aload_n hx hb dX5_greatest_30 rfl (lv_at hl 0 rfl) ?_
          refine lv_iload_n hx hb dX5_greatest_31 rfl (lv_at hl 1 rfl) ?_
          refine lv_iload hx hb dX5_greatest_32 (lv_at hl 4 rfl) ?_
          refine lv_iload_n hx hb dX5_greatest_34 rfl (lv_at hl 2 rfl) ?_
          obtain ⟨u14, hg, hf⟩ := ob_s hf
          refine kc_calli (wn := fun _ => (wM cx aM xw xh xk xj xb xr xc xv xn xl yR yT yC yW yA yE yU yM yV yF yZ yI yD)) (va_runV (As := [.int x1, .int x4, .int x2]) (rest := []) ⟨hx, hb, hml, hown, hts⟩ (metX5_worthBy l D cx aM xw xh xk xj xb xr xc xv xn xl yR yT yC yW yA yE yU yM yV yF yZ yI yD x1 x4 x2 N H.size u14 hg) ⟨callB_of 3 hts (kc_gI wd_635) rfl rfl rfl (hts _ wd_46) (hts _ wd_632) (by decide +kernel) ⟨Nat.le_of_ble_eq_true rfl, Nat.le_of_ble_eq_true rfl⟩, hts _ wd_634, hts _ wd_29⟩ ⟨kc_blind _ _ _ _ _, va_recv hK hP (ci := 5) (q0 := 0) rfl rfl, kc_pre _ hK hN (hP.sub [0, 1, 2, 3, 4, 5, 6, 7, 8, 9, 10, 11, 12, 13] rfl) (hD.sub [0, 1, 2, 3, 4, 5, 6, 7, 8, 9, 10, 11, 12, 13] (by decide) rfl)⟩ rfl rfl hl.1 rfl (lv_room (Nat.le_of_ble_eq_true rfl)) dX5_greatest_35 ⟨Nat.zero_le _, Nat.zero_le _⟩) hP hD hS hA [0, 1, 2, 3, 4, 5, 6, 7, 8, 9, 10, 11, 12, 13] [] [0, 1, 2, 3, 4, 5, 6, 7, 8, 9, 10, 11, 12, 13] rfl rfl (by decide) (by decide) (fun _ => rfl) (by decide) (fun _ H locs hP hD hS => ?_)
          have hP : va_P D classes (wM cx aM xw xh xk xj xb xr xc xv xn xl yR yT yC yW yA yE yU yM yV yF yZ yI yD) H := hP
          have hD : va_D A (wM cx aM xw xh xk xj xb xr xc xv xn xl yR yT yC yW yA yE yU yM yV yF yZ yI yD) := hD
          refine lv_istore (lv' := [(5, .int u14), (0, .ref (aM 0)), (1, .int x1), (2, .int x2), (3, .int x3), (4, .int x4)]) hx hb dX5_greatest_38 hl (by decide) rfl (fun ls hl => ?_)
          refine lv_iload hx hb dX5_greatest_40 (lv_at hl 0 rfl) ?_
          refine lv_iload_n hx hb dX5_greatest_42 rfl (lv_at hl 4 rfl) ?_
          refine lv_icmp_le (tgt := 51) hx hb dX5_greatest_43 (by decide) (fun c15 => ?_) (fun c15 => ?_)
          · replace hf := it_t c15 hf
            refine lv_iload_n hx hb dX5_greatest_51 rfl (lv_at hl 4 rfl) ?_
            refine lv_istore_n (lv' := [(3, .int x3), (5, .int u14), (0, .ref (aM 0)), (1, .int x1), (2, .int x2), (4, .int x4)]) hx hb dX5_greatest_52 rfl hl (by decide) rfl (fun ls hl => ?_)
            refine lv_iinc (v := (x4 + (1 : Int32))) (lv' := [(4, .int (x4 + (1 : Int32))), (3, .int x3), (5, .int u14), (0, .ref (aM 0)), (1, .int x1), (2, .int x2)]) hx hb dX5_greatest_53 hl (k := 5) rfl rfl (by decide) rfl (fun ls hl => ?_)
            refine lv_goto (tgt := 7) hx hb dX5_greatest_56 (by decide) ?_
            exact ih x3 (x4 + (1 : Int32)) _ hf H locs ls hP hD hS (lv_sub hl [3, 4, 5, 1, 0] rfl) hE
          · replace hf := it_f c15 hf
            refine lv_iload hx hb dX5_greatest_46 (lv_at hl 0 rfl) ?_
            refine lv_goto (tgt := 52) hx hb dX5_greatest_48 (by decide) ?_
            refine lv_istore_n (lv' := [(3, .int u14), (5, .int u14), (0, .ref (aM 0)), (1, .int x1), (2, .int x2), (4, .int x4)]) hx hb dX5_greatest_52 rfl hl (by decide) rfl (fun ls hl => ?_)
            refine lv_iinc (v := (x4 + (1 : Int32))) (lv' := [(4, .int (x4 + (1 : Int32))), (3, .int u14), (5, .int u14), (0, .ref (aM 0)), (1, .int x1), (2, .int x2)]) hx hb dX5_greatest_53 hl (k := 5) rfl rfl (by decide) rfl (fun ls hl => ?_)
            refine lv_goto (tgt := 7) hx hb dX5_greatest_56 (by decide) ?_
            exact ih u14 (x4 + (1 : Int32)) _ hf H locs ls hP hD hS (lv_sub hl [3, 4, 5, 1, 0] rfl) hE
  obtain ⟨u16, hg, hf⟩ := ob_s hf
  refine L7 _ (-1000 : Int32) (0 : Int32) u16 hg H locs ls hP hD hS (lv_sub hl [2, 3, 4, 1, 0] rfl) (fun H locs ls hP hD hS hl => ?_)
  refine lv_iload_n hx hb dX5_greatest_59 rfl (lv_at hl 0 rfl) ?_
  obtain rfl := Option.some.inj hf
  exact kc_iret () hx hb hr hk hP hD hS rfl dX5_greatest_60
abbrev rmX5_goDown : Room := { frames := 5, cells := 0, slots := 0, locals := 118 }
set_option maxHeartbeats 4000000 in
set_option maxRecDepth 100000 in
theorem metX5_goDown (l : Launch) (D : va_G) (cx : Nat → ClassId) (aM : Nat → Nat) (xw : Int32) (xh : Int32) (xk : Int32) (xj : Int32) (xb : Int32) (xr : Int32) (xc : Int32) (xv : Int32) (xn : Int32) (xl : Int32) (yR : Nat → Int32) (yT : Nat → Int32) (yC : Nat → Int32) (yW : Nat → Int32) (yA : Nat → Int32) (yE : Nat → Int32) (yU : Nat → Int32) (yM : Nat → Int32) (yV : Nat → Int32) (yF : Nat → Int32) (yZ : Nat → Int32) (yI : Nat → Int32) (yD : Nat → Int32)  (N : Nat) (sz : Nat) (v : (Nat → Int32) × (Nat → Int32) × (Nat → Int32) × (Nat → Int32)) (hf : fX5_goDown N xw xh yT yA yE yU = some v) : Met l yX5_goDown (.code yX5_goDown cX5_goDown 4 none :: kc_TB) rmX5_goDown (kc_Pre D cx (wM cx aM xw xh xk xj xb xr xc xv xn xl yR yT yC yW yA yE yU yM yV yF yZ yI yD) [.ref (aM 0)] sz) (kc_Pv D (fun _ : Unit => (wM cx aM xw xh xk xj xb xr xc xv xn xl yR v.1 yC yW v.2.1 v.2.2.1 v.2.2.2 yM yV yF yZ yI yD)) (va_A (wM cx aM xw xh xk xj xb xr xc xv xn xl yR yT yC yW yA yE yU yM yV yF yZ yI yD) sz)) 0 0 (va_A (wM cx aM xw xh xk xj xb xr xc xv xn xl yR yT yC yW yA yE yU yM yV yF yZ yI yD) sz) := by
  refine kc_entry (Qc := fun A => (kc_Pv D (fun _ : Unit => (wM cx aM xw xh xk xj xb xr xc xv xn xl yR v.1 yC yW v.2.1 v.2.2.1 v.2.2.2 yM yV yF yZ yI yD)) A)) (by decide) (Nat.le_of_ble_eq_true rfl) ?_
  intro p e s m below meth c A hx hb hr hk hml hown hin hts hN hK hP hD hS hA ls hl
  have hown : s.vm.findClass RX5 = some m.cls := hown
  have hl : lv_has ls 4 [(0, .ref (aM 0))] := hl
  unfold fX5_goDown at hf
  have hP : va_P D classes (wM cx aM xw xh xk xj xb xr xc xv xn xl yR yT yC yW yA yE yU yM yV yF yZ yI yD) s.heap := hP
  obtain ⟨H, hH⟩ : ∃ H, H = s.heap := ⟨_, rfl⟩
  obtain ⟨locs, hL⟩ : ∃ locs : List Loc, locs = [] := ⟨_, rfl⟩
  have hS : va_S A s.heap H locs := by rw [hH, hL]; exact hS
  have hP : va_P D classes (wM cx aM xw xh xk xj xb xr xc xv xn xl yR yT yC yW yA yE yU yM yV yF yZ yI yD) H := by rw [hH]; exact hP
  suffices hW : W p l e rmX5_goDown s m ([.ref (aM 0)] : List Value).toArray below meth c H locs 0 0 (MQ below (kc_Pv D (fun _ : Unit => (wM cx aM xw xh xk xj xb xr xc xv xn xl yR v.1 yC yW v.2.1 v.2.2.1 v.2.2.2 yM yV yF yZ yI yD)) A) ([.ref (aM 0)] : List Value).toArray s 0 0 A) (F0 m 0 ls []) by rw [hH, hL] at hW; exact hW
  clear hH hL
  refine lv_aload_n hx hb dX5_goDown_0 rfl (lv_at hl 0 rfl) ?_
  obtain ⟨u11, hg, hf⟩ := ob_s hf
  refine kc_calli (wn := fun _ => (wM cx aM xw xh xk xj xb xr xc xv xn xl yR yT yC yW yA yE yU yM yV yF yZ yI yD)) (va_runV (As := []) (rest := []) ⟨hx, hb, hml, hown, hts⟩ (metX5_keys l D cx aM xw xh xk xj xb xr xc xv xn xl yR yT yC yW yA yE yU yM yV yF yZ yI yD  N H.size u11 hg) ⟨callB_of 0 hts (kc_gI wd_599) rfl rfl rfl (hts _ wd_46) (hts _ wd_596) (by decide +kernel) ⟨Nat.le_of_ble_eq_true rfl, Nat.le_of_ble_eq_true rfl⟩, hts _ wd_598, hts _ wd_20⟩ ⟨kc_blind _ _ _ _ _, va_recv hK hP (ci := 5) (q0 := 0) rfl rfl, kc_pre _ hK hN (hP.sub [0, 1, 2, 3, 4, 5, 6, 7, 8, 9, 10, 11, 12, 13] rfl) (hD.sub [0, 1, 2, 3, 4, 5, 6, 7, 8, 9, 10, 11, 12, 13] (by decide) rfl)⟩ rfl rfl hl.1 rfl (lv_room (Nat.le_of_ble_eq_true rfl)) dX5_goDown_1 ⟨Nat.zero_le _, Nat.zero_le _⟩) hP hD hS hA [0, 1, 2, 3, 4, 5, 6, 7, 8, 9, 10, 11, 12, 13] [] [0, 1, 2, 3, 4, 5, 6, 7, 8, 9, 10, 11, 12, 13] rfl rfl (by decide) (by decide) (fun _ => rfl) (by decide) (fun _ H locs hP hD hS => ?_)
  have hP : va_P D classes (wM cx aM xw xh xk xj xb xr xc xv xn xl yR yT yC yW yA yE yU yM yV yF yZ yI yD) H := hP
  have hD : va_D A (wM cx aM xw xh xk xj xb xr xc xv xn xl yR yT yC yW yA yE yU yM yV yF yZ yI yD) := hD
  refine lv_iconst (v := (1 : Int32)) hx hb dX5_goDown_4 (by decide) ?_
  refine lv_isub hx hb dX5_goDown_5 ?_
  refine lv_istore_n (lv' := [(1, .int (u11 - (1 : Int32))), (0, .ref (aM 0))]) hx hb dX5_goDown_6 rfl hl (by decide) rfl (fun ls hl => ?_)
  have L7 : ∀ (ct : Nat) (yT : Nat → Int32) (yA : Nat → Int32) (yE : Nat → Int32) (yU : Nat → Int32) (x1 : Int32) (v7 : (Nat → Int32) × (Nat → Int32) × (Nat → Int32) × (Nat → Int32)), fX5_goDown_L7 N xw xh ct yT yA yE yU x1 = some v7 → ∀ (H : Heap) (locs : List Loc) (ls : Array Slot), va_P D classes (wM cx aM xw xh xk xj xb xr xc xv xn xl yR yT yC yW yA yE yU yM yV yF yZ yI yD) H → va_D A (wM cx aM xw xh xk xj xb xr xc xv xn xl yR yT yC yW yA yE yU yM yV yF yZ yI yD) → va_S A s.heap H locs → lv_has ls 4 [(0, .ref (aM 0)), (1, .int x1)] → (∀ (H : Heap) (locs : List Loc) (ls : Array Slot), va_P D classes (wM cx aM xw xh xk xj xb xr xc xv xn xl yR v7.1 yC yW v7.2.1 v7.2.2.1 v7.2.2.2 yM yV yF yZ yI yD) H → va_D A (wM cx aM xw xh xk xj xb xr xc xv xn xl yR v7.1 yC yW v7.2.1 v7.2.2.1 v7.2.2.2 yM yV yF yZ yI yD) → va_S A s.heap H locs → lv_has ls 4 [] → W p l e rmX5_goDown s m ([.ref (aM 0)] : List Value).toArray below meth c H locs 0 0 (MQ below (kc_Pv D (fun _ : Unit => (wM cx aM xw xh xk xj xb xr xc xv xn xl yR v.1 yC yW v.2.1 v.2.2.1 v.2.2.2 yM yV yF yZ yI yD)) A) ([.ref (aM 0)] : List Value).toArray s 0 0 A) (F0 m 138 ls [])) → W p l e rmX5_goDown s m ([.ref (aM 0)] : List Value).toArray below meth c H locs 0 0 (MQ below (kc_Pv D (fun _ : Unit => (wM cx aM xw xh xk xj xb xr xc xv xn xl yR v.1 yC yW v.2.1 v.2.2.1 v.2.2.2 yM yV yF yZ yI yD)) A) ([.ref (aM 0)] : List Value).toArray s 0 0 A) (F0 m 7 ls []) := by
    intro ct
    induction ct with
    | zero =>
      intro yT yA yE yU x1 v7 hf
      exact absurd (show (none : Option ((Nat → Int32) × (Nat → Int32) × (Nat → Int32) × (Nat → Int32))) = some v7 from hf) (fun q => by cases q)
    | succ ct ih =>
      intro yT yA yE yU x1 v7 hf H locs ls hP hD hS hl hE
      rw [fX5_goDown_L7] at hf
      refine lv_iload_n hx hb dX5_goDown_7 rfl (lv_at hl 1 rfl) ?_
      refine lv_if_lt (tgt := 138) hx hb dX5_goDown_8 (by decide) (fun c24 => ?_) (fun c24 => ?_)
      · replace hf := it_t c24 hf
        obtain rfl := Option.some.inj hf
        exact hE H locs ls hP hD hS (lv_sub hl [] rfl)
      · replace hf := it_f c24 hf
        refine lv_aload_n hx hb dX5_goDown_11 rfl (lv_at hl 0 rfl) ?_
        refine va_get (D := D) (ci := 5) (v := .ref (aM 2)) (C := RX5) (T := TX5) (N := 23) hx hb hts iX5 hown hK hP 0 rfl rfl 7 (by decide) (hts _ wd_647) (fun _ h9 => h9) rfl dX5_goDown_12 ?_
        refine lv_iload_n hx hb dX5_goDown_15 rfl (lv_at hl 1 rfl) ?_
        obtain ⟨hz, hf⟩ := okb_s hf
        refine va_bald (D := D) hx hb hK hP 2 1 rfl rfl (inb_s hz) dX5_goDown_16 ?_
        refine lv_bipush (v := (-128 : Int32)) hx hb dX5_goDown_17 (by decide) ?_
        refine lv_icmp_eq (tgt := 132) hx hb dX5_goDown_19 (by decide) (fun c25 => ?_) (fun c25 => ?_)
        · replace hf := it_t c25 hf
          refine lv_iinc (v := (x1 + (-1 : Int32))) (lv' := [(1, .int (x1 + (-1 : Int32))), (0, .ref (aM 0))]) hx hb dX5_goDown_132 hl (k := 1) rfl rfl (by decide) rfl (fun ls hl => ?_)
          refine lv_goto (tgt := 7) hx hb dX5_goDown_135 (by decide) ?_
          exact ih yT yA yE yU (x1 + (-1 : Int32)) _ hf H locs ls hP hD hS (lv_sub hl [1, 0] rfl) hE
        · replace hf := it_f c25 hf
          refine lv_aload_n hx hb dX5_goDown_22 rfl (lv_at hl 0 rfl) ?_
          refine va_get (D := D) (ci := 5) (v := .ref (aM 2)) (C := RX5) (T := TX5) (N := 23) hx hb hts iX5 hown hK hP 0 rfl rfl 7 (by decide) (hts _ wd_647) (fun _ h9 => h9) rfl dX5_goDown_23 ?_
          refine lv_iload_n hx hb dX5_goDown_26 rfl (lv_at hl 1 rfl) ?_
          obtain ⟨hz, hf⟩ := okb_s hf
          refine va_bald (D := D) hx hb hK hP 2 1 rfl rfl (inb_s hz) dX5_goDown_27 ?_
          refine lv_bipush (v := (127 : Int32)) hx hb dX5_goDown_28 (by decide) ?_
          refine lv_icmp_eq (tgt := 132) hx hb dX5_goDown_30 (by decide) (fun c26 => ?_) (fun c26 => ?_)
          · replace hf := it_t c26 hf
            refine lv_iinc (v := (x1 + (-1 : Int32))) (lv' := [(1, .int (x1 + (-1 : Int32))), (0, .ref (aM 0))]) hx hb dX5_goDown_132 hl (k := 1) rfl rfl (by decide) rfl (fun ls hl => ?_)
            refine lv_goto (tgt := 7) hx hb dX5_goDown_135 (by decide) ?_
            exact ih yT yA yE yU (x1 + (-1 : Int32)) _ hf H locs ls hP hD hS (lv_sub hl [1, 0] rfl) hE
          · replace hf := it_f c26 hf
            refine lv_aload_n hx hb dX5_goDown_33 rfl (lv_at hl 0 rfl) ?_
            refine va_get (D := D) (ci := 5) (v := .ref (aM 2)) (C := RX5) (T := TX5) (N := 23) hx hb hts iX5 hown hK hP 0 rfl rfl 7 (by decide) (hts _ wd_647) (fun _ h9 => h9) rfl dX5_goDown_34 ?_
            refine lv_iload_n hx hb dX5_goDown_37 rfl (lv_at hl 1 rfl) ?_
            obtain ⟨hz, hf⟩ := okb_s hf
            refine va_bald (D := D) hx hb hK hP 2 1 rfl rfl (inb_s hz) dX5_goDown_38 ?_
            refine lv_bipush (v := (126 : Int32)) hx hb dX5_goDown_39 (by decide) ?_
            refine lv_icmp_eq (tgt := 132) hx hb dX5_goDown_41 (by decide) (fun c27 => ?_) (fun c27 => ?_)
            · replace hf := it_t c27 hf
              refine lv_iinc (v := (x1 + (-1 : Int32))) (lv' := [(1, .int (x1 + (-1 : Int32))), (0, .ref (aM 0))]) hx hb dX5_goDown_132 hl (k := 1) rfl rfl (by decide) rfl (fun ls hl => ?_)
              refine lv_goto (tgt := 7) hx hb dX5_goDown_135 (by decide) ?_
              exact ih yT yA yE yU (x1 + (-1 : Int32)) _ hf H locs ls hP hD hS (lv_sub hl [1, 0] rfl) hE
            · replace hf := it_f c27 hf
              refine lv_iconst (v := (0 : Int32)) hx hb dX5_goDown_44 (by decide) ?_
              refine lv_istore_n (lv' := [(2, .int (0 : Int32)), (0, .ref (aM 0)), (1, .int x1)]) hx hb dX5_goDown_45 rfl hl (by decide) rfl (fun ls hl => ?_)
              refine lv_iconst (v := (0 : Int32)) hx hb dX5_goDown_46 (by decide) ?_
              refine lv_istore_n (lv' := [(3, .int (0 : Int32)), (2, .int (0 : Int32)), (0, .ref (aM 0)), (1, .int x1)]) hx hb dX5_goDown_47 rfl hl (by decide) rfl (fun ls hl => ?_)
              have L48 : ∀ (ct : Nat) (x2 : Int32) (x3 : Int32) (v48 : Int32), fX5_goDown_L48 N xw xh x1 ct x2 x3 = some v48 → ∀ (H : Heap) (locs : List Loc) (ls : Array Slot), va_P D classes (wM cx aM xw xh xk xj xb xr xc xv xn xl yR yT yC yW yA yE yU yM yV yF yZ yI yD) H → va_D A (wM cx aM xw xh xk xj xb xr xc xv xn xl yR yT yC yW yA yE yU yM yV yF yZ yI yD) → va_S A s.heap H locs → lv_has ls 4 [(0, .ref (aM 0)), (1, .int x1), (2, .int x2), (3, .int x3)] → (∀ (H : Heap) (locs : List Loc) (ls : Array Slot), va_P D classes (wM cx aM xw xh xk xj xb xr xc xv xn xl yR yT yC yW yA yE yU yM yV yF yZ yI yD) H → va_D A (wM cx aM xw xh xk xj xb xr xc xv xn xl yR yT yC yW yA yE yU yM yV yF yZ yI yD) → va_S A s.heap H locs → lv_has ls 4 [(0, .ref (aM 0)), (1, .int x1), (2, .int v48)] → W p l e rmX5_goDown s m ([.ref (aM 0)] : List Value).toArray below meth c H locs 0 0 (MQ below (kc_Pv D (fun _ : Unit => (wM cx aM xw xh xk xj xb xr xc xv xn xl yR v.1 yC yW v.2.1 v.2.2.1 v.2.2.2 yM yV yF yZ yI yD)) A) ([.ref (aM 0)] : List Value).toArray s 0 0 A) (F0 m 71 ls [])) → W p l e rmX5_goDown s m ([.ref (aM 0)] : List Value).toArray below meth c H locs 0 0 (MQ below (kc_Pv D (fun _ : Unit => (wM cx aM xw xh xk xj xb xr xc xv xn xl yR v.1 yC yW v.2.1 v.2.2.1 v.2.2.2 yM yV yF yZ yI yD)) A) ([.ref (aM 0)] : List Value).toArray s 0 0 A) (F0 m 48 ls []) := by
                intro ct
                induction ct with
                | zero =>
                  intro x2 x3 v48 hf
                  exact absurd (show (none : Option (Int32)) = some v48 from hf) (fun q => by cases q)
                | succ ct ih =>
                  intro x2 x3 v48 hf H locs ls hP hD hS hl hE
                  rw [fX5_goDown_L48] at hf
                  refine lv_iload_n hx hb dX5_goDown_48 rfl (lv_at hl 3 rfl) ?_
                  refine lv_aload_n hx hb dX5_goDown_49 rfl (lv_at hl 0 rfl) ?_
                  refine va_get (D := D) (ci := 5) (v := .int xw) (C := RX5) (T := TX5) (N := 23) hx hb hts iX5 hown hK hP 0 rfl rfl 0 (by decide) (hts _ wd_640) (fun _ h9 => h9) rfl dX5_goDown_50 ?_
                  refine lv_icmp_ge (tgt := 71) hx hb dX5_goDown_53 (by decide) (fun c28 => ?_) (fun c28 => ?_)
                  · replace hf := it_t c28 hf
                    obtain rfl := Option.some.inj hf
                    exact hE H locs ls hP hD hS (lv_sub hl [0, 1, 2] rfl)
                  · replace hf := it_f c28 hf
                    refine lv_iload_n hx hb dX5_goDown_56 rfl (lv_at hl 2 rfl) ?_
                    refine lv_aload_n hx hb dX5_goDown_57 rfl (lv_at hl 0 rfl) ?_
                    refine lv_iload_n hx hb dX5_goDown_58 rfl (lv_at hl 1 rfl) ?_
                    refine lv_iload_n hx hb dX5_goDown_59 rfl (lv_at hl 3 rfl) ?_
                    obtain ⟨u29, hg, hf⟩ := ob_s hf
                    refine kc_calli (wn := fun _ => (wM cx aM xw xh xk xj xb xr xc xv xn xl yR yT yC yW yA yE yU yM yV yF yZ yI yD)) (va_runV (As := [.int x1, .int x3]) (rest := [.int x2]) ⟨hx, hb, hml, hown, hts⟩ (metX5_heightOf l D cx aM xw xh xk xj xb xr xc xv xn xl yR yT yC yW yA yE yU yM yV yF yZ yI yD x1 x3 N H.size u29 hg) ⟨callB_of 2 hts (kc_gI wd_611) rfl rfl rfl (hts _ wd_46) (hts _ wd_608) (by decide +kernel) ⟨Nat.le_of_ble_eq_true rfl, Nat.le_of_ble_eq_true rfl⟩, hts _ wd_610, hts _ wd_23⟩ ⟨kc_blind _ _ _ _ _, va_recv hK hP (ci := 5) (q0 := 0) rfl rfl, kc_pre _ hK hN (hP.sub [0, 1, 2, 3, 4, 5, 6, 7, 8, 9, 10, 11, 12, 13] rfl) (hD.sub [0, 1, 2, 3, 4, 5, 6, 7, 8, 9, 10, 11, 12, 13] (by decide) rfl)⟩ rfl rfl hl.1 rfl (lv_room (Nat.le_of_ble_eq_true rfl)) dX5_goDown_60 ⟨Nat.zero_le _, Nat.zero_le _⟩) hP hD hS hA [0, 1, 2, 3, 4, 5, 6, 7, 8, 9, 10, 11, 12, 13] [] [0, 1, 2, 3, 4, 5, 6, 7, 8, 9, 10, 11, 12, 13] rfl rfl (by decide) (by decide) (fun _ => rfl) (by decide) (fun _ H locs hP hD hS => ?_)
                    have hP : va_P D classes (wM cx aM xw xh xk xj xb xr xc xv xn xl yR yT yC yW yA yE yU yM yV yF yZ yI yD) H := hP
                    have hD : va_D A (wM cx aM xw xh xk xj xb xr xc xv xn xl yR yT yC yW yA yE yU yM yV yF yZ yI yD) := hD
                    refine lv_iadd hx hb dX5_goDown_63 ?_
                    refine lv_istore_n (lv' := [(2, .int (x2 + u29)), (0, .ref (aM 0)), (1, .int x1), (3, .int x3)]) hx hb dX5_goDown_64 rfl hl (by decide) rfl (fun ls hl => ?_)
                    refine lv_iinc (v := (x3 + (1 : Int32))) (lv' := [(3, .int (x3 + (1 : Int32))), (2, .int (x2 + u29)), (0, .ref (aM 0)), (1, .int x1)]) hx hb dX5_goDown_65 hl (k := 3) rfl rfl (by decide) rfl (fun ls hl => ?_)
                    refine lv_goto (tgt := 48) hx hb dX5_goDown_68 (by decide) ?_
                    exact ih (x2 + u29) (x3 + (1 : Int32)) _ hf H locs ls hP hD hS (lv_sub hl [2, 3, 1, 0] rfl) hE
              obtain ⟨u30, hg, hf⟩ := ob_s hf
              refine L48 _ (0 : Int32) (0 : Int32) u30 hg H locs ls hP hD hS (lv_sub hl [2, 3, 1, 0] rfl) (fun H locs ls hP hD hS hl => ?_)
              refine lv_aload_n hx hb dX5_goDown_71 rfl (lv_at hl 0 rfl) ?_
              refine lv_iload_n hx hb dX5_goDown_72 rfl (lv_at hl 1 rfl) ?_
              refine lv_iload_n hx hb dX5_goDown_73 rfl (lv_at hl 2 rfl) ?_
              refine lv_iconst (v := (2 : Int32)) hx hb dX5_goDown_74 (by decide) ?_
              refine lv_irem hx hb dX5_goDown_75 (by decide) ?_
              obtain ⟨u31, hg, hf⟩ := ob_s hf
              refine kc_calli (wn := fun _ => (wM cx aM xw xh xk xj xb xr xc xv xn xl yR yT yC yW yA yE yU yM yV yF yZ yI yD)) (va_runV (As := [.int x1, .int (u30 - u30 / (2 : Int32) * (2 : Int32))]) (rest := []) ⟨hx, hb, hml, hown, hts⟩ (metX5_greatest l D cx aM xw xh xk xj xb xr xc xv xn xl yR yT yC yW yA yE yU yM yV yF yZ yI yD x1 (u30 - u30 / (2 : Int32) * (2 : Int32)) N H.size u31 hg) ⟨callB_of 2 hts (kc_gI wd_631) rfl rfl rfl (hts _ wd_46) (hts _ wd_628) (by decide +kernel) ⟨Nat.le_of_ble_eq_true rfl, Nat.le_of_ble_eq_true rfl⟩, hts _ wd_630, hts _ wd_28⟩ ⟨kc_blind _ _ _ _ _, va_recv hK hP (ci := 5) (q0 := 0) rfl rfl, kc_pre _ hK hN (hP.sub [0, 1, 2, 3, 4, 5, 6, 7, 8, 9, 10, 11, 12, 13] rfl) (hD.sub [0, 1, 2, 3, 4, 5, 6, 7, 8, 9, 10, 11, 12, 13] (by decide) rfl)⟩ rfl rfl hl.1 rfl (lv_room (Nat.le_of_ble_eq_true rfl)) dX5_goDown_76 ⟨Nat.zero_le _, Nat.zero_le _⟩) hP hD hS hA [0, 1, 2, 3, 4, 5, 6, 7, 8, 9, 10, 11, 12, 13] [] [0, 1, 2, 3, 4, 5, 6, 7, 8, 9, 10, 11, 12, 13] rfl rfl (by decide) (by decide) (fun _ => rfl) (by decide) (fun _ H locs hP hD hS => ?_)
              have hP : va_P D classes (wM cx aM xw xh xk xj xb xr xc xv xn xl yR yT yC yW yA yE yU yM yV yF yZ yI yD) H := hP
              have hD : va_D A (wM cx aM xw xh xk xj xb xr xc xv xn xl yR yT yC yW yA yE yU yM yV yF yZ yI yD) := hD
              refine lv_istore_n (lv' := [(3, .int u31), (0, .ref (aM 0)), (1, .int x1), (2, .int u30)]) hx hb dX5_goDown_79 rfl hl (by decide) rfl (fun ls hl => ?_)
              refine lv_aload_n hx hb dX5_goDown_80 rfl (lv_at hl 1 rfl) ?_
              refine va_get (D := D) (ci := 5) (v := .ref (aM 2)) (C := RX5) (T := TX5) (N := 23) hx hb hts iX5 hown hK hP 0 rfl rfl 7 (by decide) (hts _ wd_647) (fun _ h9 => h9) rfl dX5_goDown_81 ?_
              refine lv_iload_n hx hb dX5_goDown_84 rfl (lv_at hl 2 rfl) ?_
              refine lv_iload_n hx hb dX5_goDown_85 rfl (lv_at hl 0 rfl) ?_
              refine lv_i2b hx hb dX5_goDown_86 rfl ?_
              obtain ⟨hz, hf⟩ := okb_s hf
              refine va_bast (D := D) hx hb hK hP hD hS 2 1 rfl rfl (inb_s hz) dX5_goDown_87 (fun H locs hP hD hS => ?_)
              have hP : va_P D classes (wM cx aM xw xh xk xj xb xr xc xv xn xl yR (upd yT x1.toNatClampNeg (vp_nar .byte u31.toInt8.toInt32)) yC yW yA yE yU yM yV yF yZ yI yD) H := hP
              have hD : va_D A (wM cx aM xw xh xk xj xb xr xc xv xn xl yR (upd yT x1.toNatClampNeg (vp_nar .byte u31.toInt8.toInt32)) yC yW yA yE yU yM yV yF yZ yI yD) := hD
              refine lv_iload_n hx hb dX5_goDown_88 rfl (lv_at hl 0 rfl) ?_
              refine lv_if_le (tgt := 105) hx hb dX5_goDown_89 (by decide) (fun c32 => ?_) (fun c32 => ?_)
              · replace hf := it_t c32 hf
                refine lv_iload_n hx hb dX5_goDown_105 rfl (lv_at hl 0 rfl) ?_
                refine lv_if_ne (tgt := 122) hx hb dX5_goDown_106 (by decide) (fun c33 => ?_) (fun c33 => ?_)
                · replace hf := it_f c33 hf
                  refine lv_aload_n hx hb dX5_goDown_122 rfl (lv_at hl 1 rfl) ?_
                  refine va_get (D := D) (ci := 5) (v := .ref (aM 7)) (C := RX5) (T := TX5) (N := 23) hx hb hts iX5 hown hK hP 0 rfl rfl 12 (by decide) (hts _ wd_652) (fun _ h9 => h9) rfl dX5_goDown_123 ?_
                  refine lv_iload_n hx hb dX5_goDown_126 rfl (lv_at hl 3 rfl) ?_
                  refine lv_dup2_11 hx hb dX5_goDown_127 rfl rfl ?_
                  obtain ⟨hz, hf⟩ := okb_s hf
                  refine va_iald (D := D) hx hb hK hP 7 0 rfl rfl (inb_s hz) dX5_goDown_128 ?_
                  refine lv_iconst (v := (1 : Int32)) hx hb dX5_goDown_129 (by decide) ?_
                  refine lv_iadd hx hb dX5_goDown_130 ?_
                  obtain ⟨hz, hf⟩ := okb_s hf
                  refine va_iast (D := D) hx hb hK hP hD hS 7 0 rfl rfl (inb_s hz) dX5_goDown_131 (fun H locs hP hD hS => ?_)
                  have hP : va_P D classes (wM cx aM xw xh xk xj xb xr xc xv xn xl yR (upd yT x1.toNatClampNeg (vp_nar .byte u31.toInt8.toInt32)) yC yW yA yE (upd yU u30.toNatClampNeg ((yU u30.toNatClampNeg) + (1 : Int32))) yM yV yF yZ yI yD) H := hP
                  have hD : va_D A (wM cx aM xw xh xk xj xb xr xc xv xn xl yR (upd yT x1.toNatClampNeg (vp_nar .byte u31.toInt8.toInt32)) yC yW yA yE (upd yU u30.toNatClampNeg ((yU u30.toNatClampNeg) + (1 : Int32))) yM yV yF yZ yI yD) := hD
                  refine lv_iinc (v := (x1 + (-1 : Int32))) (lv' := [(1, .int (x1 + (-1 : Int32))), (3, .int u31), (0, .ref (aM 0)), (2, .int u30)]) hx hb dX5_goDown_132 hl (k := 2) rfl rfl (by decide) rfl (fun ls hl => ?_)
                  refine lv_goto (tgt := 7) hx hb dX5_goDown_135 (by decide) ?_
                  exact ih (upd yT x1.toNatClampNeg (vp_nar .byte u31.toInt8.toInt32)) yA yE (upd yU u30.toNatClampNeg ((yU u30.toNatClampNeg) + (1 : Int32))) (x1 + (-1 : Int32)) _ hf H locs ls hP hD hS (lv_sub hl [2, 0] rfl) hE
                · replace hf := it_t c33 hf
                  refine lv_aload_n hx hb dX5_goDown_109 rfl (lv_at hl 1 rfl) ?_
                  refine va_get (D := D) (ci := 5) (v := .ref (aM 6)) (C := RX5) (T := TX5) (N := 23) hx hb hts iX5 hown hK hP 0 rfl rfl 11 (by decide) (hts _ wd_651) (fun _ h9 => h9) rfl dX5_goDown_110 ?_
                  refine lv_iload_n hx hb dX5_goDown_113 rfl (lv_at hl 3 rfl) ?_
                  refine lv_dup2_11 hx hb dX5_goDown_114 rfl rfl ?_
                  obtain ⟨hz, hf⟩ := okb_s hf
                  refine va_iald (D := D) hx hb hK hP 6 0 rfl rfl (inb_s hz) dX5_goDown_115 ?_
                  refine lv_iconst (v := (1 : Int32)) hx hb dX5_goDown_116 (by decide) ?_
                  refine lv_iadd hx hb dX5_goDown_117 ?_
                  obtain ⟨hz, hf⟩ := okb_s hf
                  refine va_iast (D := D) hx hb hK hP hD hS 6 0 rfl rfl (inb_s hz) dX5_goDown_118 (fun H locs hP hD hS => ?_)
                  have hP : va_P D classes (wM cx aM xw xh xk xj xb xr xc xv xn xl yR (upd yT x1.toNatClampNeg (vp_nar .byte u31.toInt8.toInt32)) yC yW yA (upd yE u30.toNatClampNeg ((yE u30.toNatClampNeg) + (1 : Int32))) yU yM yV yF yZ yI yD) H := hP
                  have hD : va_D A (wM cx aM xw xh xk xj xb xr xc xv xn xl yR (upd yT x1.toNatClampNeg (vp_nar .byte u31.toInt8.toInt32)) yC yW yA (upd yE u30.toNatClampNeg ((yE u30.toNatClampNeg) + (1 : Int32))) yU yM yV yF yZ yI yD) := hD
                  refine lv_goto (tgt := 132) hx hb dX5_goDown_119 (by decide) ?_
                  refine lv_iinc (v := (x1 + (-1 : Int32))) (lv' := [(1, .int (x1 + (-1 : Int32))), (3, .int u31), (0, .ref (aM 0)), (2, .int u30)]) hx hb dX5_goDown_132 hl (k := 2) rfl rfl (by decide) rfl (fun ls hl => ?_)
                  refine lv_goto (tgt := 7) hx hb dX5_goDown_135 (by decide) ?_
                  exact ih (upd yT x1.toNatClampNeg (vp_nar .byte u31.toInt8.toInt32)) yA (upd yE u30.toNatClampNeg ((yE u30.toNatClampNeg) + (1 : Int32))) yU (x1 + (-1 : Int32)) _ hf H locs ls hP hD hS (lv_sub hl [2, 0] rfl) hE
              · replace hf := it_f c32 hf
                refine lv_aload_n hx hb dX5_goDown_92 rfl (lv_at hl 1 rfl) ?_
                refine va_get (D := D) (ci := 5) (v := .ref (aM 5)) (C := RX5) (T := TX5) (N := 23) hx hb hts iX5 hown hK hP 0 rfl rfl 10 (by decide) (hts _ wd_650) (fun _ h9 => h9) rfl dX5_goDown_93 ?_
                refine lv_iload_n hx hb dX5_goDown_96 rfl (lv_at hl 3 rfl) ?_
                refine lv_dup2_11 hx hb dX5_goDown_97 rfl rfl ?_
                obtain ⟨hz, hf⟩ := okb_s hf
                refine va_iald (D := D) hx hb hK hP 5 0 rfl rfl (inb_s hz) dX5_goDown_98 ?_
                refine lv_iconst (v := (1 : Int32)) hx hb dX5_goDown_99 (by decide) ?_
                refine lv_iadd hx hb dX5_goDown_100 ?_
                obtain ⟨hz, hf⟩ := okb_s hf
                refine va_iast (D := D) hx hb hK hP hD hS 5 0 rfl rfl (inb_s hz) dX5_goDown_101 (fun H locs hP hD hS => ?_)
                have hP : va_P D classes (wM cx aM xw xh xk xj xb xr xc xv xn xl yR (upd yT x1.toNatClampNeg (vp_nar .byte u31.toInt8.toInt32)) yC yW (upd yA u30.toNatClampNeg ((yA u30.toNatClampNeg) + (1 : Int32))) yE yU yM yV yF yZ yI yD) H := hP
                have hD : va_D A (wM cx aM xw xh xk xj xb xr xc xv xn xl yR (upd yT x1.toNatClampNeg (vp_nar .byte u31.toInt8.toInt32)) yC yW (upd yA u30.toNatClampNeg ((yA u30.toNatClampNeg) + (1 : Int32))) yE yU yM yV yF yZ yI yD) := hD
                refine lv_goto (tgt := 132) hx hb dX5_goDown_102 (by decide) ?_
                refine lv_iinc (v := (x1 + (-1 : Int32))) (lv' := [(1, .int (x1 + (-1 : Int32))), (3, .int u31), (0, .ref (aM 0)), (2, .int u30)]) hx hb dX5_goDown_132 hl (k := 2) rfl rfl (by decide) rfl (fun ls hl => ?_)
                refine lv_goto (tgt := 7) hx hb dX5_goDown_135 (by decide) ?_
                exact ih (upd yT x1.toNatClampNeg (vp_nar .byte u31.toInt8.toInt32)) (upd yA u30.toNatClampNeg ((yA u30.toNatClampNeg) + (1 : Int32))) yE yU (x1 + (-1 : Int32)) _ hf H locs ls hP hD hS (lv_sub hl [2, 0] rfl) hE
  obtain ⟨u34, hg, hf⟩ := ob_s hf
  refine L7 _ yT yA yE yU (u11 - (1 : Int32)) u34 hg H locs ls hP hD hS (lv_sub hl [1, 0] rfl) (fun H locs ls hP hD hS hl => ?_)
  obtain rfl := Option.some.inj hf
  exact kc_vret () hx hb hr hk hP hD hS dX5_goDown_138
abbrev rmX5_place : Room := { frames := 3, cells := 0, slots := 0, locals := 69 }
set_option maxHeartbeats 4000000 in
set_option maxRecDepth 100000 in
theorem metX5_place (l : Launch) (D : va_G) (cx : Nat → ClassId) (aM : Nat → Nat) (xw : Int32) (xh : Int32) (xk : Int32) (xj : Int32) (xb : Int32) (xr : Int32) (xc : Int32) (xv : Int32) (xn : Int32) (xl : Int32) (yR : Nat → Int32) (yT : Nat → Int32) (yC : Nat → Int32) (yW : Nat → Int32) (yA : Nat → Int32) (yE : Nat → Int32) (yU : Nat → Int32) (yM : Nat → Int32) (yV : Nat → Int32) (yF : Nat → Int32) (yZ : Nat → Int32) (yI : Nat → Int32) (yD : Nat → Int32)  (N : Nat) (sz : Nat) (v : Int32) (hf : fX5_place N xw xh xv yV = some v) : Met l yX5_place (.code yX5_place cX5_place 2 none :: kc_TB) rmX5_place (kc_Pre D cx (wM cx aM xw xh xk xj xb xr xc xv xn xl yR yT yC yW yA yE yU yM yV yF yZ yI yD) [.ref (aM 0)] sz) (kc_Pv D (fun _ : Unit => (wM cx aM xw xh xk xj xb xr xc xv v xl yR yT yC yW yA yE yU yM yV yF yZ yI yD)) (va_A (wM cx aM xw xh xk xj xb xr xc xv xn xl yR yT yC yW yA yE yU yM yV yF yZ yI yD) sz)) 0 0 (va_A (wM cx aM xw xh xk xj xb xr xc xv xn xl yR yT yC yW yA yE yU yM yV yF yZ yI yD) sz) := by
  refine kc_entry (Qc := fun A => (kc_Pv D (fun _ : Unit => (wM cx aM xw xh xk xj xb xr xc xv v xl yR yT yC yW yA yE yU yM yV yF yZ yI yD)) A)) (by decide) (Nat.le_of_ble_eq_true rfl) ?_
  intro p e s m below meth c A hx hb hr hk hml hown hin hts hN hK hP hD hS hA ls hl
  have hown : s.vm.findClass RX5 = some m.cls := hown
  have hl : lv_has ls 2 [(0, .ref (aM 0))] := hl
  unfold fX5_place at hf
  have hP : va_P D classes (wM cx aM xw xh xk xj xb xr xc xv xn xl yR yT yC yW yA yE yU yM yV yF yZ yI yD) s.heap := hP
  obtain ⟨H, hH⟩ : ∃ H, H = s.heap := ⟨_, rfl⟩
  obtain ⟨locs, hL⟩ : ∃ locs : List Loc, locs = [] := ⟨_, rfl⟩
  have hS : va_S A s.heap H locs := by rw [hH, hL]; exact hS
  have hP : va_P D classes (wM cx aM xw xh xk xj xb xr xc xv xn xl yR yT yC yW yA yE yU yM yV yF yZ yI yD) H := by rw [hH]; exact hP
  suffices hW : W p l e rmX5_place s m ([.ref (aM 0)] : List Value).toArray below meth c H locs 0 0 (MQ below (kc_Pv D (fun _ : Unit => (wM cx aM xw xh xk xj xb xr xc xv v xl yR yT yC yW yA yE yU yM yV yF yZ yI yD)) A) ([.ref (aM 0)] : List Value).toArray s 0 0 A) (F0 m 0 ls []) by rw [hH, hL] at hW; exact hW
  clear hH hL
  refine lv_aload_n hx hb dX5_place_0 rfl (lv_at hl 0 rfl) ?_
  refine lv_aload_n hx hb dX5_place_1 rfl (lv_at hl 0 rfl) ?_
  obtain ⟨u4, hg, hf⟩ := ob_s hf
  refine kc_calli (wn := fun _ => (wM cx aM xw xh xk xj xb xr xc xv xn xl yR yT yC yW yA yE yU yM yV yF yZ yI yD)) (va_runV (As := []) (rest := [.ref (aM 0)]) ⟨hx, hb, hml, hown, hts⟩ (metX5_keyOfNone l D cx aM xw xh xk xj xb xr xc xv xn xl yR yT yC yW yA yE yU yM yV yF yZ yI yD  N H.size u4 hg) ⟨callB_of 0 hts (kc_gI wd_603) rfl rfl rfl (hts _ wd_46) (hts _ wd_600) (by decide +kernel) ⟨Nat.le_of_ble_eq_true rfl, Nat.le_of_ble_eq_true rfl⟩, hts _ wd_602, hts _ wd_21⟩ ⟨kc_blind _ _ _ _ _, va_recv hK hP (ci := 5) (q0 := 0) rfl rfl, kc_pre _ hK hN (hP.sub [0, 1, 2, 3, 4, 5, 6, 7, 8, 9, 10, 11, 12, 13] rfl) (hD.sub [0, 1, 2, 3, 4, 5, 6, 7, 8, 9, 10, 11, 12, 13] (by decide) rfl)⟩ rfl rfl hl.1 rfl (lv_room (Nat.le_of_ble_eq_true rfl)) dX5_place_2 ⟨Nat.zero_le _, Nat.zero_le _⟩) hP hD hS hA [0, 1, 2, 3, 4, 5, 6, 7, 8, 9, 10, 11, 12, 13] [] [0, 1, 2, 3, 4, 5, 6, 7, 8, 9, 10, 11, 12, 13] rfl rfl (by decide) (by decide) (fun _ => rfl) (by decide) (fun _ H locs hP hD hS => ?_)
  have hP : va_P D classes (wM cx aM xw xh xk xj xb xr xc xv xn xl yR yT yC yW yA yE yU yM yV yF yZ yI yD) H := hP
  have hD : va_D A (wM cx aM xw xh xk xj xb xr xc xv xn xl yR yT yC yW yA yE yU yM yV yF yZ yI yD) := hD
  refine va_put (D := D) (ci := 5) (v := .int u4) (ty := .int) (C := RX5) (T := TX5) (N := 23) hx hb hts iX5 tyX5 tyX5_ok nmX5 hown hK hP hD hS 0 rfl rfl 17 (by decide) (hts _ wd_657) (fun _ h9 => h9) rfl (by decide +kernel) rfl rfl (Nat.le_of_ble_eq_true rfl) dX5_place_5 (fun H locs hP hD hS => ?_)
  have hP : va_P D classes (wM cx aM xw xh xk xj xb xr xc xv u4 xl yR yT yC yW yA yE yU yM yV yF yZ yI yD) H := hP
  have hD : va_D A (wM cx aM xw xh xk xj xb xr xc xv u4 xl yR yT yC yW yA yE yU yM yV yF yZ yI yD) := hD
  refine lv_iconst (v := (0 : Int32)) hx hb dX5_place_8 (by decide) ?_
  refine lv_istore_n (lv' := [(1, .int (0 : Int32)), (0, .ref (aM 0))]) hx hb dX5_place_9 rfl hl (by decide) rfl (fun ls hl => ?_)
  have L10 : ∀ (ct : Nat) (xn : Int32) (x1 : Int32) (v10 : Int32), fX5_place_L10 N xh xv yV ct xn x1 = some v10 → ∀ (H : Heap) (locs : List Loc) (ls : Array Slot), va_P D classes (wM cx aM xw xh xk xj xb xr xc xv xn xl yR yT yC yW yA yE yU yM yV yF yZ yI yD) H → va_D A (wM cx aM xw xh xk xj xb xr xc xv xn xl yR yT yC yW yA yE yU yM yV yF yZ yI yD) → va_S A s.heap H locs → lv_has ls 2 [(0, .ref (aM 0)), (1, .int x1)] → (∀ (H : Heap) (locs : List Loc) (ls : Array Slot), va_P D classes (wM cx aM xw xh xk xj xb xr xc xv v10 xl yR yT yC yW yA yE yU yM yV yF yZ yI yD) H → va_D A (wM cx aM xw xh xk xj xb xr xc xv v10 xl yR yT yC yW yA yE yU yM yV yF yZ yI yD) → va_S A s.heap H locs → lv_has ls 2 [] → W p l e rmX5_place s m ([.ref (aM 0)] : List Value).toArray below meth c H locs 0 0 (MQ below (kc_Pv D (fun _ : Unit => (wM cx aM xw xh xk xj xb xr xc xv v xl yR yT yC yW yA yE yU yM yV yF yZ yI yD)) A) ([.ref (aM 0)] : List Value).toArray s 0 0 A) (F0 m 45 ls [])) → W p l e rmX5_place s m ([.ref (aM 0)] : List Value).toArray below meth c H locs 0 0 (MQ below (kc_Pv D (fun _ : Unit => (wM cx aM xw xh xk xj xb xr xc xv v xl yR yT yC yW yA yE yU yM yV yF yZ yI yD)) A) ([.ref (aM 0)] : List Value).toArray s 0 0 A) (F0 m 10 ls []) := by
    intro ct
    induction ct with
    | zero =>
      intro xn x1 v10 hf
      exact absurd (show (none : Option (Int32)) = some v10 from hf) (fun q => by cases q)
    | succ ct ih =>
      intro xn x1 v10 hf H locs ls hP hD hS hl hE
      rw [fX5_place_L10] at hf
      refine lv_iload_n hx hb dX5_place_10 rfl (lv_at hl 1 rfl) ?_
      refine lv_aload_n hx hb dX5_place_11 rfl (lv_at hl 0 rfl) ?_
      refine va_get (D := D) (ci := 5) (v := .int xv) (C := RX5) (T := TX5) (N := 23) hx hb hts iX5 hown hK hP 0 rfl rfl 15 (by decide) (hts _ wd_655) (fun _ h9 => h9) rfl dX5_place_12 ?_
      refine lv_icmp_ge (tgt := 45) hx hb dX5_place_15 (by decide) (fun c7 => ?_) (fun c7 => ?_)
      · replace hf := it_t c7 hf
        obtain rfl := Option.some.inj hf
        exact hE H locs ls hP hD hS (lv_sub hl [] rfl)
      · replace hf := it_f c7 hf
        refine lv_aload_n hx hb dX5_place_18 rfl (lv_at hl 0 rfl) ?_
        refine lv_aload_n hx hb dX5_place_19 rfl (lv_at hl 0 rfl) ?_
        refine lv_aload_n hx hb dX5_place_20 rfl (lv_at hl 0 rfl) ?_
        refine va_get (D := D) (ci := 5) (v := .int xn) (C := RX5) (T := TX5) (N := 23) hx hb hts iX5 hown hK hP 0 rfl rfl 17 (by decide) (hts _ wd_657) (fun _ h9 => h9) rfl dX5_place_21 ?_
        refine lv_aload_n hx hb dX5_place_24 rfl (lv_at hl 0 rfl) ?_
        refine va_get (D := D) (ci := 5) (v := .ref (aM 9)) (C := RX5) (T := TX5) (N := 23) hx hb hts iX5 hown hK hP 0 rfl rfl 16 (by decide) (hts _ wd_656) (fun _ h9 => h9) rfl dX5_place_25 ?_
        refine lv_iload_n hx hb dX5_place_28 rfl (lv_at hl 1 rfl) ?_
        obtain ⟨hz, hf⟩ := okb_s hf
        refine va_iald (D := D) hx hb hK hP 9 0 rfl rfl (inb_s hz) dX5_place_29 ?_
        refine lv_iload_n hx hb dX5_place_30 rfl (lv_at hl 1 rfl) ?_
        refine lv_iconst (v := (2 : Int32)) hx hb dX5_place_31 (by decide) ?_
        refine lv_irem hx hb dX5_place_32 (by decide) ?_
        obtain ⟨u8, hg, hf⟩ := ob_s hf
        refine kc_calli (wn := fun _ => (wM cx aM xw xh xk xj xb xr xc xv xn xl yR yT yC yW yA yE yU yM yV yF yZ yI yD)) (va_runV (As := [.int xn, .int (yV x1.toNatClampNeg), .int (x1 - x1 / (2 : Int32) * (2 : Int32))]) (rest := [.ref (aM 0)]) ⟨hx, hb, hml, hown, hts⟩ (metX5_dropped l D cx aM xw xh xk xj xb xr xc xv xn xl yR yT yC yW yA yE yU yM yV yF yZ yI yD xn (yV x1.toNatClampNeg) (x1 - x1 / (2 : Int32) * (2 : Int32)) N H.size u8 hg) ⟨callB_of 3 hts (kc_gI wd_623) rfl rfl rfl (hts _ wd_46) (hts _ wd_620) (by decide +kernel) ⟨Nat.le_of_ble_eq_true rfl, Nat.le_of_ble_eq_true rfl⟩, hts _ wd_622, hts _ wd_26⟩ ⟨kc_blind _ _ _ _ _, va_recv hK hP (ci := 5) (q0 := 0) rfl rfl, kc_pre _ hK hN (hP.sub [0, 1, 2, 3, 4, 5, 6, 7, 8, 9, 10, 11, 12, 13] rfl) (hD.sub [0, 1, 2, 3, 4, 5, 6, 7, 8, 9, 10, 11, 12, 13] (by decide) rfl)⟩ rfl rfl hl.1 rfl (lv_room (Nat.le_of_ble_eq_true rfl)) dX5_place_33 ⟨Nat.zero_le _, Nat.zero_le _⟩) hP hD hS hA [0, 1, 2, 3, 4, 5, 6, 7, 8, 9, 10, 11, 12, 13] [] [0, 1, 2, 3, 4, 5, 6, 7, 8, 9, 10, 11, 12, 13] rfl rfl (by decide) (by decide) (fun _ => rfl) (by decide) (fun _ H locs hP hD hS => ?_)
        have hP : va_P D classes (wM cx aM xw xh xk xj xb xr xc xv xn xl yR yT yC yW yA yE yU yM yV yF yZ yI yD) H := hP
        have hD : va_D A (wM cx aM xw xh xk xj xb xr xc xv xn xl yR yT yC yW yA yE yU yM yV yF yZ yI yD) := hD
        refine va_put (D := D) (ci := 5) (v := .int u8) (ty := .int) (C := RX5) (T := TX5) (N := 23) hx hb hts iX5 tyX5 tyX5_ok nmX5 hown hK hP hD hS 0 rfl rfl 17 (by decide) (hts _ wd_657) (fun _ h9 => h9) rfl (by decide +kernel) rfl rfl (Nat.le_of_ble_eq_true rfl) dX5_place_36 (fun H locs hP hD hS => ?_)
        have hP : va_P D classes (wM cx aM xw xh xk xj xb xr xc xv u8 xl yR yT yC yW yA yE yU yM yV yF yZ yI yD) H := hP
        have hD : va_D A (wM cx aM xw xh xk xj xb xr xc xv u8 xl yR yT yC yW yA yE yU yM yV yF yZ yI yD) := hD
        refine lv_iinc (v := (x1 + (1 : Int32))) (lv' := [(1, .int (x1 + (1 : Int32))), (0, .ref (aM 0))]) hx hb dX5_place_39 hl (k := 1) rfl rfl (by decide) rfl (fun ls hl => ?_)
        refine lv_goto (tgt := 10) hx hb dX5_place_42 (by decide) ?_
        exact ih u8 (x1 + (1 : Int32)) _ hf H locs ls hP hD hS (lv_sub hl [1, 0] rfl) hE
  obtain ⟨u9, hg, hf⟩ := ob_s hf
  refine L10 _ u4 (0 : Int32) u9 hg H locs ls hP hD hS (lv_sub hl [1, 0] rfl) (fun H locs ls hP hD hS hl => ?_)
  obtain rfl := Option.some.inj hf
  exact kc_vret () hx hb hr hk hP hD hS dX5_place_45
abbrev rmX5_begin : Room := { frames := 6, cells := 0, slots := 0, locals := 141 }
set_option maxHeartbeats 4000000 in
set_option maxRecDepth 100000 in
theorem metX5_begin (l : Launch) (D : va_G) (cx : Nat → ClassId) (aM : Nat → Nat) (xw : Int32) (xh : Int32) (xk : Int32) (xj : Int32) (xb : Int32) (xr : Int32) (xc : Int32) (xv : Int32) (xn : Int32) (xl : Int32) (yR : Nat → Int32) (yT : Nat → Int32) (yC : Nat → Int32) (yW : Nat → Int32) (yA : Nat → Int32) (yE : Nat → Int32) (yU : Nat → Int32) (yM : Nat → Int32) (yV : Nat → Int32) (yF : Nat → Int32) (yZ : Nat → Int32) (yI : Nat → Int32) (yD : Nat → Int32) (x1 : Int32) (x2 : Int32) (x3 : Int32) (x4 : Int32) (N : Nat) (sz : Nat) (v : Int32 × Int32 × Int32 × Int32 × Int32 × Int32 × Int32 × Int32 × (Nat → Int32) × (Nat → Int32) × (Nat → Int32) × (Nat → Int32) × (Nat → Int32) × (Nat → Int32) × (Nat → Int32) × (Nat → Int32)) (hf : fX5_begin N xc yR yT yC yW yA yE yU yM yV x1 x2 x3 x4 = some v) : Met l yX5_begin (.code yX5_begin cX5_begin 5 none :: kc_TB) rmX5_begin (kc_Pre D cx (wM cx aM xw xh xk xj xb xr xc xv xn xl yR yT yC yW yA yE yU yM yV yF yZ yI yD) [.ref (aM 0), .int x1, .int x2, .int x3, .int x4] sz) (kc_Pv D (fun _ : Unit => (wM cx aM v.1 v.2.1 v.2.2.1 v.2.2.2.1 xb v.2.2.2.2.1 v.2.2.2.2.2.1 v.2.2.2.2.2.2.1 v.2.2.2.2.2.2.2.1 xl v.2.2.2.2.2.2.2.2.1 v.2.2.2.2.2.2.2.2.2.1 v.2.2.2.2.2.2.2.2.2.2.1 v.2.2.2.2.2.2.2.2.2.2.2.1 v.2.2.2.2.2.2.2.2.2.2.2.2.1 v.2.2.2.2.2.2.2.2.2.2.2.2.2.1 v.2.2.2.2.2.2.2.2.2.2.2.2.2.2.1 v.2.2.2.2.2.2.2.2.2.2.2.2.2.2.2 yV yF yZ yI yD)) (va_A (wM cx aM xw xh xk xj xb xr xc xv xn xl yR yT yC yW yA yE yU yM yV yF yZ yI yD) sz)) 0 0 (va_A (wM cx aM xw xh xk xj xb xr xc xv xn xl yR yT yC yW yA yE yU yM yV yF yZ yI yD) sz) := by
  refine kc_entry (Qc := fun A => (kc_Pv D (fun _ : Unit => (wM cx aM v.1 v.2.1 v.2.2.1 v.2.2.2.1 xb v.2.2.2.2.1 v.2.2.2.2.2.1 v.2.2.2.2.2.2.1 v.2.2.2.2.2.2.2.1 xl v.2.2.2.2.2.2.2.2.1 v.2.2.2.2.2.2.2.2.2.1 v.2.2.2.2.2.2.2.2.2.2.1 v.2.2.2.2.2.2.2.2.2.2.2.1 v.2.2.2.2.2.2.2.2.2.2.2.2.1 v.2.2.2.2.2.2.2.2.2.2.2.2.2.1 v.2.2.2.2.2.2.2.2.2.2.2.2.2.2.1 v.2.2.2.2.2.2.2.2.2.2.2.2.2.2.2 yV yF yZ yI yD)) A)) (by decide) (Nat.le_of_ble_eq_true rfl) ?_
  intro p e s m below meth c A hx hb hr hk hml hown hin hts hN hK hP hD hS hA ls hl
  have hown : s.vm.findClass RX5 = some m.cls := hown
  have hl : lv_has ls 5 [(0, .ref (aM 0)), (1, .int x1), (2, .int x2), (3, .int x3), (4, .int x4)] := hl
  unfold fX5_begin at hf
  have hP : va_P D classes (wM cx aM xw xh xk xj xb xr xc xv xn xl yR yT yC yW yA yE yU yM yV yF yZ yI yD) s.heap := hP
  obtain ⟨H, hH⟩ : ∃ H, H = s.heap := ⟨_, rfl⟩
  obtain ⟨locs, hL⟩ : ∃ locs : List Loc, locs = [] := ⟨_, rfl⟩
  have hS : va_S A s.heap H locs := by rw [hH, hL]; exact hS
  have hP : va_P D classes (wM cx aM xw xh xk xj xb xr xc xv xn xl yR yT yC yW yA yE yU yM yV yF yZ yI yD) H := by rw [hH]; exact hP
  suffices hW : W p l e rmX5_begin s m ([.ref (aM 0), .int x1, .int x2, .int x3, .int x4] : List Value).toArray below meth c H locs 0 0 (MQ below (kc_Pv D (fun _ : Unit => (wM cx aM v.1 v.2.1 v.2.2.1 v.2.2.2.1 xb v.2.2.2.2.1 v.2.2.2.2.2.1 v.2.2.2.2.2.2.1 v.2.2.2.2.2.2.2.1 xl v.2.2.2.2.2.2.2.2.1 v.2.2.2.2.2.2.2.2.2.1 v.2.2.2.2.2.2.2.2.2.2.1 v.2.2.2.2.2.2.2.2.2.2.2.1 v.2.2.2.2.2.2.2.2.2.2.2.2.1 v.2.2.2.2.2.2.2.2.2.2.2.2.2.1 v.2.2.2.2.2.2.2.2.2.2.2.2.2.2.1 v.2.2.2.2.2.2.2.2.2.2.2.2.2.2.2 yV yF yZ yI yD)) A) ([.ref (aM 0), .int x1, .int x2, .int x3, .int x4] : List Value).toArray s 0 0 A) (F0 m 0 ls []) by rw [hH, hL] at hW; exact hW
  clear hH hL
  refine lv_aload_n hx hb dX5_begin_0 rfl (lv_at hl 0 rfl) ?_
  refine lv_iload_n hx hb dX5_begin_1 rfl (lv_at hl 1 rfl) ?_
  refine va_put (D := D) (ci := 5) (v := .int x1) (ty := .int) (C := RX5) (T := TX5) (N := 23) hx hb hts iX5 tyX5 tyX5_ok nmX5 hown hK hP hD hS 0 rfl rfl 0 (by decide) (hts _ wd_640) (fun _ h9 => h9) rfl (by decide +kernel) rfl rfl (Nat.le_of_ble_eq_true rfl) dX5_begin_2 (fun H locs hP hD hS => ?_)
  have hP : va_P D classes (wM cx aM x1 xh xk xj xb xr xc xv xn xl yR yT yC yW yA yE yU yM yV yF yZ yI yD) H := hP
  have hD : va_D A (wM cx aM x1 xh xk xj xb xr xc xv xn xl yR yT yC yW yA yE yU yM yV yF yZ yI yD) := hD
  refine lv_aload_n hx hb dX5_begin_5 rfl (lv_at hl 0 rfl) ?_
  refine lv_iload_n hx hb dX5_begin_6 rfl (lv_at hl 2 rfl) ?_
  refine va_put (D := D) (ci := 5) (v := .int x2) (ty := .int) (C := RX5) (T := TX5) (N := 23) hx hb hts iX5 tyX5 tyX5_ok nmX5 hown hK hP hD hS 0 rfl rfl 1 (by decide) (hts _ wd_641) (fun _ h9 => h9) rfl (by decide +kernel) rfl rfl (Nat.le_of_ble_eq_true rfl) dX5_begin_7 (fun H locs hP hD hS => ?_)
  have hP : va_P D classes (wM cx aM x1 x2 xk xj xb xr xc xv xn xl yR yT yC yW yA yE yU yM yV yF yZ yI yD) H := hP
  have hD : va_D A (wM cx aM x1 x2 xk xj xb xr xc xv xn xl yR yT yC yW yA yE yU yM yV yF yZ yI yD) := hD
  refine lv_aload_n hx hb dX5_begin_10 rfl (lv_at hl 0 rfl) ?_
  refine lv_iload_n hx hb dX5_begin_11 rfl (lv_at hl 3 rfl) ?_
  refine va_put (D := D) (ci := 5) (v := .int x3) (ty := .int) (C := RX5) (T := TX5) (N := 23) hx hb hts iX5 tyX5 tyX5_ok nmX5 hown hK hP hD hS 0 rfl rfl 2 (by decide) (hts _ wd_642) (fun _ h9 => h9) rfl (by decide +kernel) rfl rfl (Nat.le_of_ble_eq_true rfl) dX5_begin_12 (fun H locs hP hD hS => ?_)
  have hP : va_P D classes (wM cx aM x1 x2 x3 xj xb xr xc xv xn xl yR yT yC yW yA yE yU yM yV yF yZ yI yD) H := hP
  have hD : va_D A (wM cx aM x1 x2 x3 xj xb xr xc xv xn xl yR yT yC yW yA yE yU yM yV yF yZ yI yD) := hD
  refine lv_aload_n hx hb dX5_begin_15 rfl (lv_at hl 0 rfl) ?_
  refine lv_iload hx hb dX5_begin_16 (lv_at hl 4 rfl) ?_
  obtain ⟨hz, hf⟩ := okb_s hf
  refine va_put (D := D) (ci := 5) (v := .int x4) (ty := .boolean) (C := RX5) (T := TX5) (N := 23) hx hb hts iX5 tyX5 tyX5_ok nmX5 hown hK hP hD hS 0 rfl rfl 3 (by decide) (hts _ wd_643) (fun _ h9 => h9) rfl (by decide +kernel) (isb_n hz).1 (isb_n hz).2 (Nat.le_of_ble_eq_true rfl) dX5_begin_18 (fun H locs hP hD hS => ?_)
  have hP : va_P D classes (wM cx aM x1 x2 x3 x4 xb xr xc xv xn xl yR yT yC yW yA yE yU yM yV yF yZ yI yD) H := hP
  have hD : va_D A (wM cx aM x1 x2 x3 x4 xb xr xc xv xn xl yR yT yC yW yA yE yU yM yV yF yZ yI yD) := hD
  refine lv_aload_n hx hb dX5_begin_21 rfl (lv_at hl 0 rfl) ?_
  obtain ⟨u5, hg, hf⟩ := ob_s hf
  refine kc_callv (wn := fun _ => (wM cx aM x1 x2 x3 x4 xb u5.1 xc xv xn xl u5.2 yT yC yW yA yE yU yM yV yF yZ yI yD)) (va_runV (As := []) (rest := []) ⟨hx, hb, hml, hown, hts⟩ (metX5_findRows l D cx aM x1 x2 x3 x4 xb xr xc xv xn xl yR yT yC yW yA yE yU yM yV yF yZ yI yD  N H.size u5 hg) ⟨callB_of 0 hts (kc_gI wd_580) rfl rfl rfl (hts _ wd_46) (hts _ wd_577) (by decide +kernel) ⟨Nat.le_of_ble_eq_true rfl, Nat.le_of_ble_eq_true rfl⟩, hts _ wd_579, hts _ wd_16⟩ ⟨kc_blind _ _ _ _ _, va_recv hK hP (ci := 5) (q0 := 0) rfl rfl, kc_pre _ hK hN (hP.sub [0, 1, 2, 3, 4, 5, 6, 7, 8, 9, 10, 11, 12, 13] rfl) (hD.sub [0, 1, 2, 3, 4, 5, 6, 7, 8, 9, 10, 11, 12, 13] (by decide) rfl)⟩ rfl rfl hl.1 rfl (lv_room (Nat.le_of_ble_eq_true rfl)) dX5_begin_22 ⟨Nat.zero_le _, Nat.zero_le _⟩) hP hD hS hA [0, 1, 2, 3, 4, 5, 6, 7, 8, 9, 10, 11, 12, 13] [] [0, 1, 2, 3, 4, 5, 6, 7, 8, 9, 10, 11, 12, 13] rfl rfl (by decide) (by decide) (fun _ => rfl) (by decide) (fun _ H locs hP hD hS => ?_)
  have hP : va_P D classes (wM cx aM x1 x2 x3 x4 xb u5.1 xc xv xn xl u5.2 yT yC yW yA yE yU yM yV yF yZ yI yD) H := hP
  have hD : va_D A (wM cx aM x1 x2 x3 x4 xb u5.1 xc xv xn xl u5.2 yT yC yW yA yE yU yM yV yF yZ yI yD) := hD
  refine lv_aload_n hx hb dX5_begin_25 rfl (lv_at hl 0 rfl) ?_
  obtain ⟨u6, hg, hf⟩ := ob_s hf
  refine kc_callv (wn := fun _ => (wM cx aM x1 x2 x3 x4 xb u5.1 u6.1 xv xn xl u5.2 u6.2.1 u6.2.2.1 u6.2.2.2.1 u6.2.2.2.2.1 u6.2.2.2.2.2.1 u6.2.2.2.2.2.2.1 u6.2.2.2.2.2.2.2 yV yF yZ yI yD)) (va_runV (As := []) (rest := []) ⟨hx, hb, hml, hown, hts⟩ (metX5_goUp l D cx aM x1 x2 x3 x4 xb u5.1 xc xv xn xl u5.2 yT yC yW yA yE yU yM yV yF yZ yI yD  N H.size u6 hg) ⟨callB_of 0 hts (kc_gI wd_595) rfl rfl rfl (hts _ wd_46) (hts _ wd_592) (by decide +kernel) ⟨Nat.le_of_ble_eq_true rfl, Nat.le_of_ble_eq_true rfl⟩, hts _ wd_594, hts _ wd_19⟩ ⟨kc_blind _ _ _ _ _, va_recv hK hP (ci := 5) (q0 := 0) rfl rfl, kc_pre _ hK hN (hP.sub [0, 1, 2, 3, 4, 5, 6, 7, 8, 9, 10, 11, 12, 13] rfl) (hD.sub [0, 1, 2, 3, 4, 5, 6, 7, 8, 9, 10, 11, 12, 13] (by decide) rfl)⟩ rfl rfl hl.1 rfl (lv_room (Nat.le_of_ble_eq_true rfl)) dX5_begin_26 ⟨Nat.zero_le _, Nat.zero_le _⟩) hP hD hS hA [0, 1, 2, 3, 4, 5, 6, 7, 8, 9, 10, 11, 12, 13] [] [0, 1, 2, 3, 4, 5, 6, 7, 8, 9, 10, 11, 12, 13] rfl rfl (by decide) (by decide) (fun _ => rfl) (by decide) (fun _ H locs hP hD hS => ?_)
  have hP : va_P D classes (wM cx aM x1 x2 x3 x4 xb u5.1 u6.1 xv xn xl u5.2 u6.2.1 u6.2.2.1 u6.2.2.2.1 u6.2.2.2.2.1 u6.2.2.2.2.2.1 u6.2.2.2.2.2.2.1 u6.2.2.2.2.2.2.2 yV yF yZ yI yD) H := hP
  have hD : va_D A (wM cx aM x1 x2 x3 x4 xb u5.1 u6.1 xv xn xl u5.2 u6.2.1 u6.2.2.1 u6.2.2.2.1 u6.2.2.2.2.1 u6.2.2.2.2.2.1 u6.2.2.2.2.2.2.1 u6.2.2.2.2.2.2.2 yV yF yZ yI yD) := hD
  refine lv_aload_n hx hb dX5_begin_29 rfl (lv_at hl 0 rfl) ?_
  obtain ⟨u7, hg, hf⟩ := ob_s hf
  refine kc_callv (wn := fun _ => (wM cx aM x1 x2 x3 x4 xb u5.1 u6.1 xv xn xl u5.2 u7.1 u6.2.2.1 u6.2.2.2.1 u7.2.1 u7.2.2.1 u7.2.2.2 u6.2.2.2.2.2.2.2 yV yF yZ yI yD)) (va_runV (As := []) (rest := []) ⟨hx, hb, hml, hown, hts⟩ (metX5_goDown l D cx aM x1 x2 x3 x4 xb u5.1 u6.1 xv xn xl u5.2 u6.2.1 u6.2.2.1 u6.2.2.2.1 u6.2.2.2.2.1 u6.2.2.2.2.2.1 u6.2.2.2.2.2.2.1 u6.2.2.2.2.2.2.2 yV yF yZ yI yD  N H.size u7 hg) ⟨callB_of 0 hts (kc_gI wd_627) rfl rfl rfl (hts _ wd_46) (hts _ wd_624) (by decide +kernel) ⟨Nat.le_of_ble_eq_true rfl, Nat.le_of_ble_eq_true rfl⟩, hts _ wd_626, hts _ wd_27⟩ ⟨kc_blind _ _ _ _ _, va_recv hK hP (ci := 5) (q0 := 0) rfl rfl, kc_pre _ hK hN (hP.sub [0, 1, 2, 3, 4, 5, 6, 7, 8, 9, 10, 11, 12, 13] rfl) (hD.sub [0, 1, 2, 3, 4, 5, 6, 7, 8, 9, 10, 11, 12, 13] (by decide) rfl)⟩ rfl rfl hl.1 rfl (lv_room (Nat.le_of_ble_eq_true rfl)) dX5_begin_30 ⟨Nat.zero_le _, Nat.zero_le _⟩) hP hD hS hA [0, 1, 2, 3, 4, 5, 6, 7, 8, 9, 10, 11, 12, 13] [] [0, 1, 2, 3, 4, 5, 6, 7, 8, 9, 10, 11, 12, 13] rfl rfl (by decide) (by decide) (fun _ => rfl) (by decide) (fun _ H locs hP hD hS => ?_)
  have hP : va_P D classes (wM cx aM x1 x2 x3 x4 xb u5.1 u6.1 xv xn xl u5.2 u7.1 u6.2.2.1 u6.2.2.2.1 u7.2.1 u7.2.2.1 u7.2.2.2 u6.2.2.2.2.2.2.2 yV yF yZ yI yD) H := hP
  have hD : va_D A (wM cx aM x1 x2 x3 x4 xb u5.1 u6.1 xv xn xl u5.2 u7.1 u6.2.2.1 u6.2.2.2.1 u7.2.1 u7.2.2.1 u7.2.2.2 u6.2.2.2.2.2.2.2 yV yF yZ yI yD) := hD
  refine lv_aload_n hx hb dX5_begin_33 rfl (lv_at hl 0 rfl) ?_
  refine lv_iconst (v := (0 : Int32)) hx hb dX5_begin_34 (by decide) ?_
  refine va_put (D := D) (ci := 5) (v := .int (0 : Int32)) (ty := .int) (C := RX5) (T := TX5) (N := 23) hx hb hts iX5 tyX5 tyX5_ok nmX5 hown hK hP hD hS 0 rfl rfl 15 (by decide) (hts _ wd_655) (fun _ h9 => h9) rfl (by decide +kernel) rfl rfl (Nat.le_of_ble_eq_true rfl) dX5_begin_35 (fun H locs hP hD hS => ?_)
  have hP : va_P D classes (wM cx aM x1 x2 x3 x4 xb u5.1 u6.1 (0 : Int32) xn xl u5.2 u7.1 u6.2.2.1 u6.2.2.2.1 u7.2.1 u7.2.2.1 u7.2.2.2 u6.2.2.2.2.2.2.2 yV yF yZ yI yD) H := hP
  have hD : va_D A (wM cx aM x1 x2 x3 x4 xb u5.1 u6.1 (0 : Int32) xn xl u5.2 u7.1 u6.2.2.1 u6.2.2.2.1 u7.2.1 u7.2.2.1 u7.2.2.2 u6.2.2.2.2.2.2.2 yV yF yZ yI yD) := hD
  refine lv_aload_n hx hb dX5_begin_38 rfl (lv_at hl 0 rfl) ?_
  obtain ⟨u8, hg, hf⟩ := ob_s hf
  refine kc_callv (wn := fun _ => (wM cx aM x1 x2 x3 x4 xb u5.1 u6.1 (0 : Int32) u8 xl u5.2 u7.1 u6.2.2.1 u6.2.2.2.1 u7.2.1 u7.2.2.1 u7.2.2.2 u6.2.2.2.2.2.2.2 yV yF yZ yI yD)) (va_runV (As := []) (rest := []) ⟨hx, hb, hml, hown, hts⟩ (metX5_place l D cx aM x1 x2 x3 x4 xb u5.1 u6.1 (0 : Int32) xn xl u5.2 u7.1 u6.2.2.1 u6.2.2.2.1 u7.2.1 u7.2.2.1 u7.2.2.2 u6.2.2.2.2.2.2.2 yV yF yZ yI yD  N H.size u8 hg) ⟨callB_of 0 hts (kc_gI wd_639) rfl rfl rfl (hts _ wd_46) (hts _ wd_636) (by decide +kernel) ⟨Nat.le_of_ble_eq_true rfl, Nat.le_of_ble_eq_true rfl⟩, hts _ wd_638, hts _ wd_30⟩ ⟨kc_blind _ _ _ _ _, va_recv hK hP (ci := 5) (q0 := 0) rfl rfl, kc_pre _ hK hN (hP.sub [0, 1, 2, 3, 4, 5, 6, 7, 8, 9, 10, 11, 12, 13] rfl) (hD.sub [0, 1, 2, 3, 4, 5, 6, 7, 8, 9, 10, 11, 12, 13] (by decide) rfl)⟩ rfl rfl hl.1 rfl (lv_room (Nat.le_of_ble_eq_true rfl)) dX5_begin_39 ⟨Nat.zero_le _, Nat.zero_le _⟩) hP hD hS hA [0, 1, 2, 3, 4, 5, 6, 7, 8, 9, 10, 11, 12, 13] [] [0, 1, 2, 3, 4, 5, 6, 7, 8, 9, 10, 11, 12, 13] rfl rfl (by decide) (by decide) (fun _ => rfl) (by decide) (fun _ H locs hP hD hS => ?_)
  have hP : va_P D classes (wM cx aM x1 x2 x3 x4 xb u5.1 u6.1 (0 : Int32) u8 xl u5.2 u7.1 u6.2.2.1 u6.2.2.2.1 u7.2.1 u7.2.2.1 u7.2.2.2 u6.2.2.2.2.2.2.2 yV yF yZ yI yD) H := hP
  have hD : va_D A (wM cx aM x1 x2 x3 x4 xb u5.1 u6.1 (0 : Int32) u8 xl u5.2 u7.1 u6.2.2.1 u6.2.2.2.1 u7.2.1 u7.2.2.1 u7.2.2.2 u6.2.2.2.2.2.2.2 yV yF yZ yI yD) := hD
  obtain rfl := Option.some.inj hf
  exact kc_vret () hx hb hr hk hP hD hS dX5_begin_42
