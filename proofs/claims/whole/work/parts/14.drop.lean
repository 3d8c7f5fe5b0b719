/-! walks, written by program: what a method answers and leaves, as a function; its contract -/
abbrev rmX4_isSheet : Room := { frames := 1, cells := 0, slots := 0, locals := 22 }
set_option maxHeartbeats 4000000 in
set_option maxRecDepth 100000 in
theorem metX4_isSheet (l : Launch) (D : va_G) (cx : Nat → ClassId)   (x0 : Int32) (N : Nat) (sz : Nat) (v : Int32) (hf : fX4_isSheet N x0 = some v) : Met l yX4_isSheet (.code yX4_isSheet cX4_isSheet 1 (some .boolean) :: kc_TB) rmX4_isSheet (kc_Pre D cx ([] : va_W) [.int x0] sz) (kc_Pi D (fun _ : Unit => ([] : va_W)) v (va_A ([] : va_W) sz)) 0 0 (va_A ([] : va_W) sz) := by
  refine kc_entry (Qc := fun A => (kc_Pi D (fun _ : Unit => ([] : va_W)) v A)) (by decide) (Nat.le_of_ble_eq_true rfl) ?_
  intro p e s m below meth c A hx hb hr hk hml hown hin hts hN hK hP hD hS hA ls hl
  have hown : s.vm.findClass RX4 = some m.cls := hown
  have hl : lv_has ls 1 [(0, .int x0)] := hl
  unfold fX4_isSheet at hf
  have hP : va_P D classes ([] : va_W) s.heap := hP
  obtain ⟨H, hH⟩ : ∃ H, H = s.heap := ⟨_, rfl⟩
  obtain ⟨locs, hL⟩ : ∃ locs : List Loc, locs = [] := ⟨_, rfl⟩
  have hS : va_S A s.heap H locs := by rw [hH, hL]; exact hS
  have hP : va_P D classes ([] : va_W) H := by rw [hH]; exact hP
  suffices hW : W p l e rmX4_isSheet s m ([.int x0] : List Value).toArray below meth c H locs 0 0 (MQ below (kc_Pi D (fun _ : Unit => ([] : va_W)) v A) ([.int x0] : List Value).toArray s 0 0 A) (F0 m 0 ls []) by rw [hH, hL] at hW; exact hW
  clear hH hL
  refine lv_iload_n hx hb dX4_isSheet_0 rfl (lv_at hl 0 rfl) ?_
  refine lv_iconst (v := (0 : Int32)) hx hb dX4_isSheet_1 (by decide) ?_
  refine lv_iconst (v := (3 : Int32)) hx hb dX4_isSheet_2 (by decide) ?_
  obtain ⟨u2, hg, hf⟩ := ob_s hf
  refine kc_calli (wn := fun _ => ([] : va_W)) (va_runS (As := [.int x0, .int (0 : Int32), .int (3 : Int32)]) (rest := []) ⟨hx, hb, hml, hown, hts⟩ (metX4_isWithin l D cx   x0 (0 : Int32) (3 : Int32) N H.size u2 hg) ⟨callB_of 3 hts (kc_gI wd_254) rfl rfl rfl (hts _ wd_40) (hts _ wd_252) (by decide +kernel) ⟨Nat.le_of_ble_eq_true rfl, Nat.le_of_ble_eq_true rfl⟩, hts _ wd_253⟩ ⟨kc_blind _ _ _ _ _, kc_pre _ hK hN (hP.sub [] rfl) (hD.sub [] (by decide) rfl)⟩ rfl rfl hl.1 rfl (lv_room (Nat.le_of_ble_eq_true rfl)) dX4_isSheet_3 ⟨Nat.zero_le _, Nat.zero_le _⟩) hP hD hS hA [] [] [] rfl rfl (by decide) (by decide) (fun _ => rfl) (by decide) (fun _ H locs hP hD hS => ?_)
  have hP : va_P D classes ([] : va_W) H := hP
  have hD : va_D A ([] : va_W) := hD
  obtain ⟨hz, hf⟩ := okb_s hf
  obtain rfl := Option.some.inj hf
  exact kc_zret () hx hb hr hk hP hD hS rfl (isb_n hz).1 dX4_isSheet_6
abbrev rmX4_isForm : Room := { frames := 1, cells := 0, slots := 0, locals := 22 }
set_option maxHeartbeats 4000000 in
set_option maxRecDepth 100000 in
theorem metX4_isForm (l : Launch) (D : va_G) (cx : Nat → ClassId)   (x0 : Int32) (N : Nat) (sz : Nat) (v : Int32) (hf : fX4_isForm N x0 = some v) : Met l yX4_isForm (.code yX4_isForm cX4_isForm 1 (some .boolean) :: kc_TB) rmX4_isForm (kc_Pre D cx ([] : va_W) [.int x0] sz) (kc_Pi D (fun _ : Unit => ([] : va_W)) v (va_A ([] : va_W) sz)) 0 0 (va_A ([] : va_W) sz) := by
  refine kc_entry (Qc := fun A => (kc_Pi D (fun _ : Unit => ([] : va_W)) v A)) (by decide) (Nat.le_of_ble_eq_true rfl) ?_
  intro p e s m below meth c A hx hb hr hk hml hown hin hts hN hK hP hD hS hA ls hl
  have hown : s.vm.findClass RX4 = some m.cls := hown
  have hl : lv_has ls 1 [(0, .int x0)] := hl
  unfold fX4_isForm at hf
  have hP : va_P D classes ([] : va_W) s.heap := hP
  obtain ⟨H, hH⟩ : ∃ H, H = s.heap := ⟨_, rfl⟩
  obtain ⟨locs, hL⟩ : ∃ locs : List Loc, locs = [] := ⟨_, rfl⟩
  have hS : va_S A s.heap H locs := by rw [hH, hL]; exact hS
  have hP : va_P D classes ([] : va_W) H := by rw [hH]; exact hP
  suffices hW : W p l e rmX4_isForm s m ([.int x0] : List Value).toArray below meth c H locs 0 0 (MQ below (kc_Pi D (fun _ : Unit => ([] : va_W)) v A) ([.int x0] : List Value).toArray s 0 0 A) (F0 m 0 ls []) by rw [hH, hL] at hW; exact hW
  clear hH hL
  refine lv_iload_n hx hb dX4_isForm_0 rfl (lv_at hl 0 rfl) ?_
  refine lv_iconst (v := (0 : Int32)) hx hb dX4_isForm_1 (by decide) ?_
  refine lv_iconst (v := (2 : Int32)) hx hb dX4_isForm_2 (by decide) ?_
  obtain ⟨u2, hg, hf⟩ := ob_s hf
  refine kc_calli (wn := fun _ => ([] : va_W)) (va_runS (As := [.int x0, .int (0 : Int32), .int (2 : Int32)]) (rest := []) ⟨hx, hb, hml, hown, hts⟩ (metX4_isWithin l D cx   x0 (0 : Int32) (2 : Int32) N H.size u2 hg) ⟨callB_of 3 hts (kc_gI wd_254) rfl rfl rfl (hts _ wd_40) (hts _ wd_252) (by decide +kernel) ⟨Nat.le_of_ble_eq_true rfl, Nat.le_of_ble_eq_true rfl⟩, hts _ wd_253⟩ ⟨kc_blind _ _ _ _ _, kc_pre _ hK hN (hP.sub [] rfl) (hD.sub [] (by decide) rfl)⟩ rfl rfl hl.1 rfl (lv_room (Nat.le_of_ble_eq_true rfl)) dX4_isForm_3 ⟨Nat.zero_le _, Nat.zero_le _⟩) hP hD hS hA [] [] [] rfl rfl (by decide) (by decide) (fun _ => rfl) (by decide) (fun _ H locs hP hD hS => ?_)
  have hP : va_P D classes ([] : va_W) H := hP
  have hD : va_D A ([] : va_W) := hD
  obtain ⟨hz, hf⟩ := okb_s hf
  obtain rfl := Option.some.inj hf
  exact kc_zret () hx hb hr hk hP hD hS rfl (isb_n hz).1 dX4_isForm_6
abbrev rmX4_nthSquare : Room := { frames := 1, cells := 0, slots := 0, locals := 20 }
set_option maxHeartbeats 4000000 in
set_option maxRecDepth 100000 in
theorem metX4_nthSquare (l : Launch) (D : va_G) (cx : Nat → ClassId)   (x0 : Int32) (x1 : Int32) (N : Nat) (sz : Nat) (v : Int32) (hf : fX4_nthSquare N x0 x1 = some v) : Met l yX4_nthSquare (.code yX4_nthSquare cX4_nthSquare 4 (some .int) :: kc_TB) rmX4_nthSquare (kc_Pre D cx ([] : va_W) [.int x0, .int x1] sz) (kc_Pi D (fun _ : Unit => ([] : va_W)) v (va_A ([] : va_W) sz)) 0 0 (va_A ([] : va_W) sz) := by
  refine kc_entry (Qc := fun A => (kc_Pi D (fun _ : Unit => ([] : va_W)) v A)) (by decide) (Nat.le_of_ble_eq_true rfl) ?_
  intro p e s m below meth c A hx hb hr hk hml hown hin hts hN hK hP hD hS hA ls hl
  have hown : s.vm.findClass RX4 = some m.cls := hown
  have hl : lv_has ls 4 [(0, .int x0), (1, .int x1)] := hl
  unfold fX4_nthSquare at hf
  have hP : va_P D classes ([] : va_W) s.heap := hP
  obtain ⟨H, hH⟩ : ∃ H, H = s.heap := ⟨_, rfl⟩
  obtain ⟨locs, hL⟩ : ∃ locs : List Loc, locs = [] := ⟨_, rfl⟩
  have hS : va_S A s.heap H locs := by rw [hH, hL]; exact hS
  have hP : va_P D classes ([] : va_W) H := by rw [hH]; exact hP
  suffices hW : W p l e rmX4_nthSquare s m ([.int x0, .int x1] : List Value).toArray below meth c H locs 0 0 (MQ below (kc_Pi D (fun _ : Unit => ([] : va_W)) v A) ([.int x0, .int x1] : List Value).toArray s 0 0 A) (F0 m 0 ls []) by rw [hH, hL] at hW; exact hW
  clear hH hL
  refine lv_iload_n hx hb dX4_nthSquare_0 rfl (lv_at hl 0 rfl) ?_
  refine lv_istore_n (lv' := [(2, .int x0), (0, .int x0), (1, .int x1)]) hx hb dX4_nthSquare_1 rfl hl (by decide) rfl (fun ls hl => ?_)
  refine lv_iconst (v := (0 : Int32)) hx hb dX4_nthSquare_2 (by decide) ?_
  refine lv_istore_n (lv' := [(3, .int (0 : Int32)), (2, .int x0), (0, .int x0), (1, .int x1)]) hx hb dX4_nthSquare_3 rfl hl (by decide) rfl (fun ls hl => ?_)
  have L4 : ∀ (ct : Nat) (x2 : Int32) (x3 : Int32) (v4 : Int32), fX4_nthSquare_L4 N x1 ct x2 x3 = some v4 → ∀ (H : Heap) (locs : List Loc) (ls : Array Slot), va_P D classes ([] : va_W) H → va_D A ([] : va_W) → va_S A s.heap H locs → lv_has ls 4 [(1, .int x1), (2, .int x2), (3, .int x3)] → (∀ (H : Heap) (locs : List Loc) (ls : Array Slot), va_P D classes ([] : va_W) H → va_D A ([] : va_W) → va_S A s.heap H locs → lv_has ls 4 [(2, .int v4)] → W p l e rmX4_nthSquare s m ([.int x0, .int x1] : List Value).toArray below meth c H locs 0 0 (MQ below (kc_Pi D (fun _ : Unit => ([] : va_W)) v A) ([.int x0, .int x1] : List Value).toArray s 0 0 A) (F0 m 21 ls [])) → W p l e rmX4_nthSquare s m ([.int x0, .int x1] : List Value).toArray below meth c H locs 0 0 (MQ below (kc_Pi D (fun _ : Unit => ([] : va_W)) v A) ([.int x0, .int x1] : List Value).toArray s 0 0 A) (F0 m 4 ls []) := by
    intro ct
    induction ct with
    | zero =>
      intro x2 x3 v4 hf
      exact absurd (show (none : Option (Int32)) = some v4 from hf) (fun q => by cases q)
    | succ ct ih =>
      intro x2 x3 v4 hf H locs ls hP hD hS hl hE
      rw [fX4_nthSquare_L4] at hf
      refine lv_iload_n hx hb dX4_nthSquare_4 rfl (lv_at hl 2 rfl) ?_
      refine lv_iload_n hx hb dX4_nthSquare_5 rfl (lv_at hl 0 rfl) ?_
      refine lv_icmp_ge (tgt := 21) hx hb dX4_nthSquare_6 (by decide) (fun c5 => ?_) (fun c5 => ?_)
      · replace hf := it_t c5 hf
        obtain rfl := Option.some.inj hf
        exact hE H locs ls hP hD hS (lv_sub hl [1] rfl)
      · replace hf := it_f c5 hf
        refine lv_iload_n hx hb dX4_nthSquare_9 rfl (lv_at hl 1 rfl) ?_
        refine lv_iload_n hx hb dX4_nthSquare_10 rfl (lv_at hl 1 rfl) ?_
        refine lv_iconst (v := (1 : Int32)) hx hb dX4_nthSquare_11 (by decide) ?_
        refine lv_isub hx hb dX4_nthSquare_12 ?_
        refine lv_iand hx hb dX4_nthSquare_13 ?_
        refine lv_istore_n (lv' := [(2, .int (x2 &&& (x2 - (1 : Int32)))), (1, .int x1), (3, .int x3)]) hx hb dX4_nthSquare_14 rfl hl (by decide) rfl (fun ls hl => ?_)
        refine lv_iinc (v := (x3 + (1 : Int32))) (lv' := [(3, .int (x3 + (1 : Int32))), (2, .int (x2 &&& (x2 - (1 : Int32)))), (1, .int x1)]) hx hb dX4_nthSquare_15 hl (k := 2) rfl rfl (by decide) rfl (fun ls hl => ?_)
        refine lv_goto (tgt := 4) hx hb dX4_nthSquare_18 (by decide) ?_
        exact ih (x2 &&& (x2 - (1 : Int32))) (x3 + (1 : Int32)) _ hf H locs ls hP hD hS (lv_sub hl [2, 1, 0] rfl) hE
  obtain ⟨u6, hg, hf⟩ := ob_s hf
  refine L4 _ x0 (0 : Int32) u6 hg H locs ls hP hD hS (lv_sub hl [3, 1, 0] rfl) (fun H locs ls hP hD hS hl => ?_)
  refine lv_iload_n hx hb dX4_nthSquare_21 rfl (lv_at hl 0 rfl) ?_
  refine lv_if_ne (tgt := 29) hx hb dX4_nthSquare_22 (by decide) (fun c7 => ?_) (fun c7 => ?_)
  · replace hf := it_f c7 hf
    refine lv_iload_n hx hb dX4_nthSquare_29 rfl (lv_at hl 0 rfl) ?_
    refine lv_iload_n hx hb dX4_nthSquare_30 rfl (lv_at hl 0 rfl) ?_
    refine lv_ineg hx hb dX4_nthSquare_31 ?_
    refine lv_iand hx hb dX4_nthSquare_32 ?_
    refine lv_iconst (v := (1 : Int32)) hx hb dX4_nthSquare_33 (by decide) ?_
    refine lv_isub hx hb dX4_nthSquare_34 ?_
    obtain ⟨u8, hg, hf⟩ := ob_s hf
    refine kc_calli (wn := fun _ => ([] : va_W)) (va_runS (As := [.int ((u6 &&& (-u6)) - (1 : Int32))]) (rest := []) ⟨hx, hb, hml, hown, hts⟩ (metJ6_bitCount_0f7a4 l D cx   ((u6 &&& (-u6)) - (1 : Int32)) N H.size u8 hg) ⟨callB_of 1 hts (kc_gI wd_348) rfl rfl rfl (hts _ wd_47) (hts _ wd_346) (by decide +kernel) ⟨Nat.le_of_ble_eq_true rfl, Nat.le_of_ble_eq_true rfl⟩, hts _ wd_347⟩ ⟨kc_blind _ _ _ _ _, kc_pre _ hK hN (hP.sub [] rfl) (hD.sub [] (by decide) rfl)⟩ rfl rfl hl.1 rfl (lv_room (Nat.le_of_ble_eq_true rfl)) dX4_nthSquare_35 ⟨Nat.zero_le _, Nat.zero_le _⟩) hP hD hS hA [] [] [] rfl rfl (by decide) (by decide) (fun _ => rfl) (by decide) (fun _ H locs hP hD hS => ?_)
    have hP : va_P D classes ([] : va_W) H := hP
    have hD : va_D A ([] : va_W) := hD
    obtain rfl := Option.some.inj hf
    exact kc_iret () hx hb hr hk hP hD hS rfl dX4_nthSquare_38
  · replace hf := it_t c7 hf
    refine lv_iconst (v := (-1 : Int32)) hx hb dX4_nthSquare_25 (by decide) ?_
    refine lv_goto (tgt := 38) hx hb dX4_nthSquare_26 (by decide) ?_
    obtain rfl := Option.some.inj hf
    exact kc_iret () hx hb hr hk hP hD hS rfl dX4_nthSquare_38
abbrev rmX4_refuse : Room := { frames := 0, cells := 0, slots := 0, locals := 0 }
set_option maxHeartbeats 4000000 in
set_option maxRecDepth 100000 in
theorem metX4_refuse (l : Launch) (D : va_G) (cx : Nat → ClassId) (aX : Nat → Nat) (aH : Nat → Nat) (aI : Nat → Nat) (aS : Nat → Nat) (aT : Nat → Nat) (ak : Nat) (aC : Nat → Nat) (aD : Nat → Nat) (aG : Nat → Nat) (db : Int32) (dn : Int32) (ql : Nat → Int32) (qf : Nat → Int32) (qz : Nat → Int32) (qi : Nat → Nat → Int32) (sp : Int32) (s1 : Int32) (s2 : Int32) (s3 : Int32) (s4 : Int32) (s5 : Int32) (sP : Nat → Int32) (sC : Nat → Int32) (sH : Nat → Int32) (tl : Nat → Nat → Int32) (kl : Nat) (kf : Nat → Int64) (cv : Int32) (cc : Nat → Int32) (cm : Nat → Int32) (ch : Nat → Int32) (dv : Int32) (dc : Nat → Int32) (dm : Nat → Int32) (dh : Nat → Int32) (gw : Int32) (gh : Int32) (gk : Int32) (gq : Int32) (gr : Int32) (gj : Int32) (gR : Nat → Int32) (gT : Nat → Int32) (gC : Nat → Int32) (x1 : Int32) (N : Nat) (sz : Nat) (v : Int32 × Int32) (hf : fX4_refuse N x1 = some v) : Met l yX4_refuse (.code yX4_refuse cX4_refuse 2 (some .int) :: kc_TB) rmX4_refuse (kc_Pre D cx (wX cx aX aH aI aS aT ak aC aD (aC 0) (aD 0) aG db dn ql qf qz qi sp s1 s2 s3 s4 s5 sP sC sH tl kl kf cv cc cm ch dv dc dm dh gw gh gk gq gr gj gR gT gC) [.ref (aX 0), .int x1] sz) (kc_Pi D (fun _ : Unit => (wX cx aX aH aI aS aT ak aC aD (aC 0) (aD 0) aG db v.2 ql qf qz qi sp s1 s2 s3 s4 s5 sP sC sH tl kl kf cv cc cm ch dv dc dm dh gw gh gk gq gr gj gR gT gC)) v.1 (va_A (wX cx aX aH aI aS aT ak aC aD (aC 0) (aD 0) aG db dn ql qf qz qi sp s1 s2 s3 s4 s5 sP sC sH tl kl kf cv cc cm ch dv dc dm dh gw gh gk gq gr gj gR gT gC) sz)) 0 0 (va_A (wX cx aX aH aI aS aT ak aC aD (aC 0) (aD 0) aG db dn ql qf qz qi sp s1 s2 s3 s4 s5 sP sC sH tl kl kf cv cc cm ch dv dc dm dh gw gh gk gq gr gj gR gT gC) sz) := by
  refine kc_entry (Qc := fun A => (kc_Pi D (fun _ : Unit => (wX cx aX aH aI aS aT ak aC aD (aC 0) (aD 0) aG db v.2 ql qf qz qi sp s1 s2 s3 s4 s5 sP sC sH tl kl kf cv cc cm ch dv dc dm dh gw gh gk gq gr gj gR gT gC)) v.1 A)) (by decide) (Nat.le_of_ble_eq_true rfl) ?_
  intro p e s m below meth c A hx hb hr hk hml hown hin hts hN hK hP hD hS hA ls hl
  have hown : s.vm.findClass RX4 = some m.cls := hown
  have hl : lv_has ls 2 [(0, .ref (aX 0)), (1, .int x1)] := hl
  unfold fX4_refuse at hf
  have hP : va_P D classes (wX cx aX aH aI aS aT ak aC aD (aC 0) (aD 0) aG db dn ql qf qz qi sp s1 s2 s3 s4 s5 sP sC sH tl kl kf cv cc cm ch dv dc dm dh gw gh gk gq gr gj gR gT gC) s.heap := hP
  obtain ⟨H, hH⟩ : ∃ H, H = s.heap := ⟨_, rfl⟩
  obtain ⟨locs, hL⟩ : ∃ locs : List Loc, locs = [] := ⟨_, rfl⟩
  have hS : va_S A s.heap H locs := by rw [hH, hL]; exact hS
  have hP : va_P D classes (wX cx aX aH aI aS aT ak aC aD (aC 0) (aD 0) aG db dn ql qf qz qi sp s1 s2 s3 s4 s5 sP sC sH tl kl kf cv cc cm ch dv dc dm dh gw gh gk gq gr gj gR gT gC) H := by rw [hH]; exact hP
  suffices hW : W p l e rmX4_refuse s m ([.ref (aX 0), .int x1] : List Value).toArray below meth c H locs 0 0 (MQ below (kc_Pi D (fun _ : Unit => (wX cx aX aH aI aS aT ak aC aD (aC 0) (aD 0) aG db v.2 ql qf qz qi sp s1 s2 s3 s4 s5 sP sC sH tl kl kf cv cc cm ch dv dc dm dh gw gh gk gq gr gj gR gT gC)) v.1 A) ([.ref (aX 0), .int x1] : List Value).toArray s 0 0 A) (F0 m 0 ls []) by rw [hH, hL] at hW; exact hW
  clear hH hL
  refine lv_aload_n hx hb dX4_refuse_0 rfl (lv_at hl 0 rfl) ?_
  refine lv_iload_n hx hb dX4_refuse_1 rfl (lv_at hl 1 rfl) ?_
  refine va_put (D := D) (ci := 4) (v := .int x1) (ty := .int) (C := RX4) (T := TX4) (N := 7) hx hb hts iX4 tyX4 tyX4_ok nmX4 hown hK hP hD hS 0 rfl rfl 6 (by decide) (hts _ wd_232) (fun _ h9 => h9) rfl (by decide +kernel) rfl rfl (Nat.le_of_ble_eq_true rfl) dX4_refuse_2 (fun H locs hP hD hS => ?_)
  have hP : va_P D classes (wX cx aX aH aI aS aT ak aC aD (aC 0) (aD 0) aG db x1 ql qf qz qi sp s1 s2 s3 s4 s5 sP sC sH tl kl kf cv cc cm ch dv dc dm dh gw gh gk gq gr gj gR gT gC) H := hP
  have hD : va_D A (wX cx aX aH aI aS aT ak aC aD (aC 0) (aD 0) aG db x1 ql qf qz qi sp s1 s2 s3 s4 s5 sP sC sH tl kl kf cv cc cm ch dv dc dm dh gw gh gk gq gr gj gR gT gC) := hD
  refine lv_bipush (v := (-10 : Int32)) hx hb dX4_refuse_5 (by decide) ?_
  refine lv_iload_n hx hb dX4_refuse_7 rfl (lv_at hl 1 rfl) ?_
  refine lv_isub hx hb dX4_refuse_8 ?_
  obtain rfl := Option.some.inj hf
  exact kc_iret () hx hb hr hk hP hD hS rfl dX4_refuse_9
abbrev rmX4_board : Room := { frames := 3, cells := 0, slots := 0, locals := 78 }
set_option maxHeartbeats 4000000 in
set_option maxRecDepth 100000 in
theorem metX4_board (l : Launch) (D : va_G) (cx : Nat → ClassId) (aX : Nat → Nat) (aH : Nat → Nat) (aI : Nat → Nat) (aS : Nat → Nat) (aT : Nat → Nat) (ak : Nat) (aC : Nat → Nat) (aD : Nat → Nat) (aG : Nat → Nat) (db : Int32) (dn : Int32) (ql : Nat → Int32) (qf : Nat → Int32) (qz : Nat → Int32) (qi : Nat → Nat → Int32) (sp : Int32) (s1 : Int32) (s2 : Int32) (s3 : Int32) (s4 : Int32) (s5 : Int32) (sP : Nat → Int32) (sC : Nat → Int32) (sH : Nat → Int32) (tl : Nat → Nat → Int32) (kl : Nat) (kf : Nat → Int64) (cv : Int32) (cc : Nat → Int32) (cm : Nat → Int32) (ch : Nat → Int32) (dv : Int32) (dc : Nat → Int32) (dm : Nat → Int32) (dh : Nat → Int32) (gw : Int32) (gh : Int32) (gk : Int32) (gq : Int32) (gr : Int32) (gj : Int32) (gR : Nat → Int32) (gT : Nat → Int32) (gC : Nat → Int32) (x1 : Int32) (x2 : Int32) (x3 : Int32) (x4 : Int32) (N : Nat) (sz : Nat) (v : Int32 × Int32 × Int32 × Int32 × (Nat → Int32) × (Nat → Int32) × Int32 × Int32 × Int32 × Int32 × Int32 × Int32 × (Nat → Int32) × (Nat → Int32) × (Nat → Int32)) (hf : fX4_board N db sp cv cm ch gw gh gk gq gr gj gR gT gC x1 x2 x3 x4 = some v) : Met l yX4_board (.code yX4_board cX4_board 5 (some .int) :: kc_TB) rmX4_board (kc_Pre D cx (wX cx aX aH aI aS aT ak aC aD (aC 0) (aD 0) aG db dn ql qf qz qi sp s1 s2 s3 s4 s5 sP sC sH tl kl kf cv cc cm ch dv dc dm dh gw gh gk gq gr gj gR gT gC) [.ref (aX 0), .int x1, .int x2, .int x3, .int x4] sz) (kc_Pi D (fun _ : Unit => (wX cx aX aH aI aS aT ak aC aD (aC 0) (aD 0) aG v.2.1 dn ql qf qz qi v.2.2.1 s1 s2 s3 s4 s5 sP sC sH tl kl kf v.2.2.2.1 cc v.2.2.2.2.1 v.2.2.2.2.2.1 dv dc dm dh v.2.2.2.2.2.2.1 v.2.2.2.2.2.2.2.1 v.2.2.2.2.2.2.2.2.1 v.2.2.2.2.2.2.2.2.2.1 v.2.2.2.2.2.2.2.2.2.2.1 v.2.2.2.2.2.2.2.2.2.2.2.1 v.2.2.2.2.2.2.2.2.2.2.2.2.1 v.2.2.2.2.2.2.2.2.2.2.2.2.2.1 v.2.2.2.2.2.2.2.2.2.2.2.2.2.2)) v.1 (va_A (wX cx aX aH aI aS aT ak aC aD (aC 0) (aD 0) aG db dn ql qf qz qi sp s1 s2 s3 s4 s5 sP sC sH tl kl kf cv cc cm ch dv dc dm dh gw gh gk gq gr gj gR gT gC) sz)) 0 0 (va_A (wX cx aX aH aI aS aT ak aC aD (aC 0) (aD 0) aG db dn ql qf qz qi sp s1 s2 s3 s4 s5 sP sC sH tl kl kf cv cc cm ch dv dc dm dh gw gh gk gq gr gj gR gT gC) sz) := by
  refine kc_entry (Qc := fun A => (kc_Pi D (fun _ : Unit => (wX cx aX aH aI aS aT ak aC aD (aC 0) (aD 0) aG v.2.1 dn ql qf qz qi v.2.2.1 s1 s2 s3 s4 s5 sP sC sH tl kl kf v.2.2.2.1 cc v.2.2.2.2.1 v.2.2.2.2.2.1 dv dc dm dh v.2.2.2.2.2.2.1 v.2.2.2.2.2.2.2.1 v.2.2.2.2.2.2.2.2.1 v.2.2.2.2.2.2.2.2.2.1 v.2.2.2.2.2.2.2.2.2.2.1 v.2.2.2.2.2.2.2.2.2.2.2.1 v.2.2.2.2.2.2.2.2.2.2.2.2.1 v.2.2.2.2.2.2.2.2.2.2.2.2.2.1 v.2.2.2.2.2.2.2.2.2.2.2.2.2.2)) v.1 A)) (by decide) (Nat.le_of_ble_eq_true rfl) ?_
  intro p e s m below meth c A hx hb hr hk hml hown hin hts hN hK hP hD hS hA ls hl
  have hown : s.vm.findClass RX4 = some m.cls := hown
  have hl : lv_has ls 5 [(0, .ref (aX 0)), (1, .int x1), (2, .int x2), (3, .int x3), (4, .int x4)] := hl
  unfold fX4_board at hf
  have hP : va_P D classes (wX cx aX aH aI aS aT ak aC aD (aC 0) (aD 0) aG db dn ql qf qz qi sp s1 s2 s3 s4 s5 sP sC sH tl kl kf cv cc cm ch dv dc dm dh gw gh gk gq gr gj gR gT gC) s.heap := hP
  obtain ⟨H, hH⟩ : ∃ H, H = s.heap := ⟨_, rfl⟩
  obtain ⟨locs, hL⟩ : ∃ locs : List Loc, locs = [] := ⟨_, rfl⟩
  have hS : va_S A s.heap H locs := by rw [hH, hL]; exact hS
  have hP : va_P D classes (wX cx aX aH aI aS aT ak aC aD (aC 0) (aD 0) aG db dn ql qf qz qi sp s1 s2 s3 s4 s5 sP sC sH tl kl kf cv cc cm ch dv dc dm dh gw gh gk gq gr gj gR gT gC) H := by rw [hH]; exact hP
  suffices hW : W p l e rmX4_board s m ([.ref (aX 0), .int x1, .int x2, .int x3, .int x4] : List Value).toArray below meth c H locs 0 0 (MQ below (kc_Pi D (fun _ : Unit => (wX cx aX aH aI aS aT ak aC aD (aC 0) (aD 0) aG v.2.1 dn ql qf qz qi v.2.2.1 s1 s2 s3 s4 s5 sP sC sH tl kl kf v.2.2.2.1 cc v.2.2.2.2.1 v.2.2.2.2.2.1 dv dc dm dh v.2.2.2.2.2.2.1 v.2.2.2.2.2.2.2.1 v.2.2.2.2.2.2.2.2.1 v.2.2.2.2.2.2.2.2.2.1 v.2.2.2.2.2.2.2.2.2.2.1 v.2.2.2.2.2.2.2.2.2.2.2.1 v.2.2.2.2.2.2.2.2.2.2.2.2.1 v.2.2.2.2.2.2.2.2.2.2.2.2.2.1 v.2.2.2.2.2.2.2.2.2.2.2.2.2.2)) v.1 A) ([.ref (aX 0), .int x1, .int x2, .int x3, .int x4] : List Value).toArray s 0 0 A) (F0 m 0 ls []) by rw [hH, hL] at hW; exact hW
  clear hH hL
  refine lv_iload_n hx hb dX4_board_0 rfl (lv_at hl 1 rfl) ?_
  refine lv_iconst (v := (1 : Int32)) hx hb dX4_board_1 (by decide) ?_
  refine lv_bipush (v := (7 : Int32)) hx hb dX4_board_2 (by decide) ?_
  obtain ⟨u12, hg, hf⟩ := ob_s hf
  refine kc_calli (wn := fun _ => (wX cx aX aH aI aS aT ak aC aD (aC 0) (aD 0) aG db dn ql qf qz qi sp s1 s2 s3 s4 s5 sP sC sH tl kl kf cv cc cm ch dv dc dm dh gw gh gk gq gr gj gR gT gC)) (va_runS (As := [.int x1, .int (1 : Int32), .int (7 : Int32)]) (rest := []) ⟨hx, hb, hml, hown, hts⟩ (metX4_isWithin l D cx   x1 (1 : Int32) (7 : Int32) N H.size u12 hg) ⟨callB_of 3 hts (kc_gI wd_254) rfl rfl rfl (hts _ wd_40) (hts _ wd_252) (by decide +kernel) ⟨Nat.le_of_ble_eq_true rfl, Nat.le_of_ble_eq_true rfl⟩, hts _ wd_253⟩ ⟨kc_blind _ _ _ _ _, kc_pre _ hK hN (hP.sub [] rfl) (hD.sub [] (by decide) rfl)⟩ rfl rfl hl.1 rfl (lv_room (Nat.le_of_ble_eq_true rfl)) dX4_board_4 ⟨Nat.zero_le _, Nat.zero_le _⟩) hP hD hS hA [] [0, 1, 2, 3, 4, 5, 6, 7, 8, 9, 10, 11, 12, 13, 14, 15, 16, 17, 18, 19, 20, 21, 22, 23, 24, 25, 26, 27, 28, 29, 30, 31, 32] [0, 1, 2, 3, 4, 5, 6, 7, 8, 9, 10, 11, 12, 13, 14, 15, 16, 17, 18, 19, 20, 21, 22, 23, 24, 25, 26, 27, 28, 29, 30, 31, 32] rfl rfl (by decide) (by decide) (fun _ => rfl) (by decide) (fun _ H locs hP hD hS => ?_)
  have hP : va_P D classes (wX cx aX aH aI aS aT ak aC aD (aC 0) (aD 0) aG db dn ql qf qz qi sp s1 s2 s3 s4 s5 sP sC sH tl kl kf cv cc cm ch dv dc dm dh gw gh gk gq gr gj gR gT gC) H := hP
  have hD : va_D A (wX cx aX aH aI aS aT ak aC aD (aC 0) (aD 0) aG db dn ql qf qz qi sp s1 s2 s3 s4 s5 sP sC sH tl kl kf cv cc cm ch dv dc dm dh gw gh gk gq gr gj gR gT gC) := hD
  refine lv_if_eq (tgt := 37) hx hb dX4_board_7 (by decide) (fun c13 => ?_) (fun c13 => ?_)
  · replace hf := it_t c13 hf
    refine lv_sipush (v := (-200 : Int32)) hx hb dX4_board_37 (by decide) ?_
    obtain rfl := Option.some.inj hf
    exact kc_iret () hx hb hr hk hP hD hS rfl dX4_board_40
  · replace hf := it_f c13 hf
    refine lv_iload_n hx hb dX4_board_10 rfl (lv_at hl 2 rfl) ?_
    refine lv_iconst (v := (1 : Int32)) hx hb dX4_board_11 (by decide) ?_
    refine lv_bipush (v := (6 : Int32)) hx hb dX4_board_12 (by decide) ?_
    obtain ⟨u14, hg, hf⟩ := ob_s hf
    refine kc_calli (wn := fun _ => (wX cx aX aH aI aS aT ak aC aD (aC 0) (aD 0) aG db dn ql qf qz qi sp s1 s2 s3 s4 s5 sP sC sH tl kl kf cv cc cm ch dv dc dm dh gw gh gk gq gr gj gR gT gC)) (va_runS (As := [.int x2, .int (1 : Int32), .int (6 : Int32)]) (rest := []) ⟨hx, hb, hml, hown, hts⟩ (metX4_isWithin l D cx   x2 (1 : Int32) (6 : Int32) N H.size u14 hg) ⟨callB_of 3 hts (kc_gI wd_254) rfl rfl rfl (hts _ wd_40) (hts _ wd_252) (by decide +kernel) ⟨Nat.le_of_ble_eq_true rfl, Nat.le_of_ble_eq_true rfl⟩, hts _ wd_253⟩ ⟨kc_blind _ _ _ _ _, kc_pre _ hK hN (hP.sub [] rfl) (hD.sub [] (by decide) rfl)⟩ rfl rfl hl.1 rfl (lv_room (Nat.le_of_ble_eq_true rfl)) dX4_board_14 ⟨Nat.zero_le _, Nat.zero_le _⟩) hP hD hS hA [] [0, 1, 2, 3, 4, 5, 6, 7, 8, 9, 10, 11, 12, 13, 14, 15, 16, 17, 18, 19, 20, 21, 22, 23, 24, 25, 26, 27, 28, 29, 30, 31, 32] [0, 1, 2, 3, 4, 5, 6, 7, 8, 9, 10, 11, 12, 13, 14, 15, 16, 17, 18, 19, 20, 21, 22, 23, 24, 25, 26, 27, 28, 29, 30, 31, 32] rfl rfl (by decide) (by decide) (fun _ => rfl) (by decide) (fun _ H locs hP hD hS => ?_)
    have hP : va_P D classes (wX cx aX aH aI aS aT ak aC aD (aC 0) (aD 0) aG db dn ql qf qz qi sp s1 s2 s3 s4 s5 sP sC sH tl kl kf cv cc cm ch dv dc dm dh gw gh gk gq gr gj gR gT gC) H := hP
    have hD : va_D A (wX cx aX aH aI aS aT ak aC aD (aC 0) (aD 0) aG db dn ql qf qz qi sp s1 s2 s3 s4 s5 sP sC sH tl kl kf cv cc cm ch dv dc dm dh gw gh gk gq gr gj gR gT gC) := hD
    refine lv_if_eq (tgt := 37) hx hb dX4_board_17 (by decide) (fun c15 => ?_) (fun c15 => ?_)
    · replace hf := it_t c15 hf
      refine lv_sipush (v := (-200 : Int32)) hx hb dX4_board_37 (by decide) ?_
      obtain rfl := Option.some.inj hf
      exact kc_iret () hx hb hr hk hP hD hS rfl dX4_board_40
    · replace hf := it_f c15 hf
      refine lv_iload_n hx hb dX4_board_20 rfl (lv_at hl 1 rfl) ?_
      refine lv_iload_n hx hb dX4_board_21 rfl (lv_at hl 2 rfl) ?_
      refine lv_imul hx hb dX4_board_22 ?_
      refine lv_bipush (v := (16 : Int32)) hx hb dX4_board_23 (by decide) ?_
      refine lv_icmp_gt (tgt := 37) hx hb dX4_board_25 (by decide) (fun c16 => ?_) (fun c16 => ?_)
      · replace hf := it_t c16 hf
        refine lv_sipush (v := (-200 : Int32)) hx hb dX4_board_37 (by decide) ?_
        obtain rfl := Option.some.inj hf
        exact kc_iret () hx hb hr hk hP hD hS rfl dX4_board_40
      · replace hf := it_f c16 hf
        refine lv_iload_n hx hb dX4_board_28 rfl (lv_at hl 3 rfl) ?_
        refine lv_iconst (v := (2 : Int32)) hx hb dX4_board_29 (by decide) ?_
        refine lv_iconst (v := (4 : Int32)) hx hb dX4_board_30 (by decide) ?_
        obtain ⟨u17, hg, hf⟩ := ob_s hf
        refine kc_calli (wn := fun _ => (wX cx aX aH aI aS aT ak aC aD (aC 0) (aD 0) aG db dn ql qf qz qi sp s1 s2 s3 s4 s5 sP sC sH tl kl kf cv cc cm ch dv dc dm dh gw gh gk gq gr gj gR gT gC)) (va_runS (As := [.int x3, .int (2 : Int32), .int (4 : Int32)]) (rest := []) ⟨hx, hb, hml, hown, hts⟩ (metX4_isWithin l D cx   x3 (2 : Int32) (4 : Int32) N H.size u17 hg) ⟨callB_of 3 hts (kc_gI wd_254) rfl rfl rfl (hts _ wd_40) (hts _ wd_252) (by decide +kernel) ⟨Nat.le_of_ble_eq_true rfl, Nat.le_of_ble_eq_true rfl⟩, hts _ wd_253⟩ ⟨kc_blind _ _ _ _ _, kc_pre _ hK hN (hP.sub [] rfl) (hD.sub [] (by decide) rfl)⟩ rfl rfl hl.1 rfl (lv_room (Nat.le_of_ble_eq_true rfl)) dX4_board_31 ⟨Nat.zero_le _, Nat.zero_le _⟩) hP hD hS hA [] [0, 1, 2, 3, 4, 5, 6, 7, 8, 9, 10, 11, 12, 13, 14, 15, 16, 17, 18, 19, 20, 21, 22, 23, 24, 25, 26, 27, 28, 29, 30, 31, 32] [0, 1, 2, 3, 4, 5, 6, 7, 8, 9, 10, 11, 12, 13, 14, 15, 16, 17, 18, 19, 20, 21, 22, 23, 24, 25, 26, 27, 28, 29, 30, 31, 32] rfl rfl (by decide) (by decide) (fun _ => rfl) (by decide) (fun _ H locs hP hD hS => ?_)
        have hP : va_P D classes (wX cx aX aH aI aS aT ak aC aD (aC 0) (aD 0) aG db dn ql qf qz qi sp s1 s2 s3 s4 s5 sP sC sH tl kl kf cv cc cm ch dv dc dm dh gw gh gk gq gr gj gR gT gC) H := hP
        have hD : va_D A (wX cx aX aH aI aS aT ak aC aD (aC 0) (aD 0) aG db dn ql qf qz qi sp s1 s2 s3 s4 s5 sP sC sH tl kl kf cv cc cm ch dv dc dm dh gw gh gk gq gr gj gR gT gC) := hD
        refine lv_if_ne (tgt := 41) hx hb dX4_board_34 (by decide) (fun c18 => ?_) (fun c18 => ?_)
        · replace hf := it_f c18 hf
          refine lv_aload_n hx hb dX4_board_41 rfl (lv_at hl 0 rfl) ?_
          refine va_get (D := D) (ci := 4) (v := .int db) (C := RX4) (T := TX4) (N := 7) hx hb hts iX4 hown hK hP 0 rfl rfl 5 (by decide) (hts _ wd_231) (fun _ h9 => h9) rfl dX4_board_42 ?_
          refine lv_bipush (v := (12 : Int32)) hx hb dX4_board_45 (by decide) ?_
          refine lv_icmp_lt (tgt := 54) hx hb dX4_board_47 (by decide) (fun c19 => ?_) (fun c19 => ?_)
          · replace hf := it_t c19 hf
            refine lv_aload_n hx hb dX4_board_54 rfl (lv_at hl 0 rfl) ?_
            refine lv_dup hx hb dX4_board_55 rfl ?_
            refine va_get (D := D) (ci := 4) (v := .int db) (C := RX4) (T := TX4) (N := 7) hx hb hts iX4 hown hK hP 0 rfl rfl 5 (by decide) (hts _ wd_231) (fun _ h9 => h9) rfl dX4_board_56 ?_
            refine lv_iconst (v := (1 : Int32)) hx hb dX4_board_59 (by decide) ?_
            refine lv_iadd hx hb dX4_board_60 ?_
            refine va_put (D := D) (ci := 4) (v := .int (db + (1 : Int32))) (ty := .int) (C := RX4) (T := TX4) (N := 7) hx hb hts iX4 tyX4 tyX4_ok nmX4 hown hK hP hD hS 0 rfl rfl 5 (by decide) (hts _ wd_231) (fun _ h9 => h9) rfl (by decide +kernel) rfl rfl (Nat.le_of_ble_eq_true rfl) dX4_board_61 (fun H locs hP hD hS => ?_)
            have hP : va_P D classes (wX cx aX aH aI aS aT ak aC aD (aC 0) (aD 0) aG (db + (1 : Int32)) dn ql qf qz qi sp s1 s2 s3 s4 s5 sP sC sH tl kl kf cv cc cm ch dv dc dm dh gw gh gk gq gr gj gR gT gC) H := hP
            have hD : va_D A (wX cx aX aH aI aS aT ak aC aD (aC 0) (aD 0) aG (db + (1 : Int32)) dn ql qf qz qi sp s1 s2 s3 s4 s5 sP sC sH tl kl kf cv cc cm ch dv dc dm dh gw gh gk gq gr gj gR gT gC) := hD
            refine lv_aload_n hx hb dX4_board_64 rfl (lv_at hl 0 rfl) ?_
            refine va_get (D := D) (ci := 4) (v := .ref (aG 0)) (C := RX4) (T := TX4) (N := 7) hx hb hts iX4 hown hK hP 0 rfl rfl 0 (by decide) (hts _ wd_226) (fun _ h9 => h9) rfl dX4_board_65 ?_
            refine lv_iload_n hx hb dX4_board_68 rfl (lv_at hl 1 rfl) ?_
            refine lv_iload_n hx hb dX4_board_69 rfl (lv_at hl 2 rfl) ?_
            refine lv_iload_n hx hb dX4_board_70 rfl (lv_at hl 3 rfl) ?_
            refine lv_iload hx hb dX4_board_71 (lv_at hl 4 rfl) ?_
            obtain ⟨u20, hg, hf⟩ := ob_s hf
            refine kc_callv (wn := fun _ => (wX cx aX aH aI aS aT ak aC aD (aC 0) (aD 0) aG (db + (1 : Int32)) dn ql qf qz qi sp s1 s2 s3 s4 s5 sP sC sH tl kl kf cv cc cm ch dv dc dm dh u20.1 u20.2.1 u20.2.2.1 u20.2.2.2.1 u20.2.2.2.2.1 u20.2.2.2.2.2.1 u20.2.2.2.2.2.2.1 u20.2.2.2.2.2.2.2.1 u20.2.2.2.2.2.2.2.2)) (va_runV (As := [.int x1, .int x2, .int x3, .int x4]) (rest := []) ⟨hx, hb, hml, hown, hts⟩ (metX1_tell l D cx aG gw gh gk gq gr gj gR gT gC x1 x2 x3 x4 N H.size u20 hg) ⟨callB_of 4 hts (kc_gI wd_108) rfl rfl rfl (hts _ wd_41) (hts _ wd_105) (by decide +kernel) ⟨Nat.le_of_ble_eq_true rfl, Nat.le_of_ble_eq_true rfl⟩, hts _ wd_106, hts _ wd_107⟩ ⟨kc_blind _ _ _ _ _, va_recv hK hP (ci := 1) (q0 := 29) rfl rfl, kc_pre _ hK hN (hP.sub [29, 30, 31, 32] rfl) (hD.sub [29, 30, 31, 32] (by decide) rfl)⟩ rfl rfl hl.1 rfl (lv_room (Nat.le_of_ble_eq_true rfl)) dX4_board_73 ⟨Nat.zero_le _, Nat.zero_le _⟩) hP hD hS hA [29, 30, 31, 32] [0, 1, 2, 3, 4, 5, 6, 7, 8, 9, 10, 11, 12, 13, 14, 15, 16, 17, 18, 19, 20, 21, 22, 23, 24, 25, 26, 27, 28] [0, 1, 2, 3, 4, 5, 6, 7, 8, 9, 10, 11, 12, 13, 14, 15, 16, 17, 18, 19, 20, 21, 22, 23, 24, 25, 26, 27, 28, 29, 30, 31, 32] rfl rfl (by decide) (by decide) (fun _ => rfl) (by decide) (fun _ H locs hP hD hS => ?_)
            have hP : va_P D classes (wX cx aX aH aI aS aT ak aC aD (aC 0) (aD 0) aG (db + (1 : Int32)) dn ql qf qz qi sp s1 s2 s3 s4 s5 sP sC sH tl kl kf cv cc cm ch dv dc dm dh u20.1 u20.2.1 u20.2.2.1 u20.2.2.2.1 u20.2.2.2.2.1 u20.2.2.2.2.2.1 u20.2.2.2.2.2.2.1 u20.2.2.2.2.2.2.2.1 u20.2.2.2.2.2.2.2.2) H := hP
            have hD : va_D A (wX cx aX aH aI aS aT ak aC aD (aC 0) (aD 0) aG (db + (1 : Int32)) dn ql qf qz qi sp s1 s2 s3 s4 s5 sP sC sH tl kl kf cv cc cm ch dv dc dm dh u20.1 u20.2.1 u20.2.2.1 u20.2.2.2.1 u20.2.2.2.2.1 u20.2.2.2.2.2.1 u20.2.2.2.2.2.2.1 u20.2.2.2.2.2.2.2.1 u20.2.2.2.2.2.2.2.2) := hD
            refine lv_aload_n hx hb dX4_board_76 rfl (lv_at hl 0 rfl) ?_
            refine va_get (D := D) (ci := 4) (v := .ref (aS 0)) (C := RX4) (T := TX4) (N := 7) hx hb hts iX4 hown hK hP 0 rfl rfl 1 (by decide) (hts _ wd_227) (fun _ h9 => h9) rfl dX4_board_77 ?_
            obtain ⟨u21, hg, hf⟩ := ob_s hf
            refine kc_callv (wn := fun _ => (wX cx aX aH aI aS aT ak aC aD (aC 0) (aD 0) aG (db + (1 : Int32)) dn ql qf qz qi u21 s1 s2 s3 s4 s5 sP sC sH tl kl kf cv cc cm ch dv dc dm dh u20.1 u20.2.1 u20.2.2.1 u20.2.2.2.1 u20.2.2.2.2.1 u20.2.2.2.2.2.1 u20.2.2.2.2.2.2.1 u20.2.2.2.2.2.2.2.1 u20.2.2.2.2.2.2.2.2)) (va_runV (As := []) (rest := []) ⟨hx, hb, hml, hown, hts⟩ (metX3_forget l D cx aS aT ak aG sp s1 s2 s3 s4 s5 sP sC sH tl kl kf u20.1 u20.2.1 u20.2.2.1 u20.2.2.2.1 u20.2.2.2.2.1 u20.2.2.2.2.2.1 u20.2.2.2.2.2.2.1 u20.2.2.2.2.2.2.2.1 u20.2.2.2.2.2.2.2.2  N H.size u21 hg) ⟨callB_of 0 hts (kc_gI wd_258) rfl rfl rfl (hts _ wd_43) (hts _ wd_255) (by decide +kernel) ⟨Nat.le_of_ble_eq_true rfl, Nat.le_of_ble_eq_true rfl⟩, hts _ wd_256, hts _ wd_257⟩ ⟨kc_blind _ _ _ _ _, va_recv hK hP (ci := 3) (q0 := 10) rfl rfl, kc_pre _ hK hN (hP.sub [10, 11, 12, 13, 14, 15, 16, 17, 18, 19, 20, 29, 30, 31, 32] rfl) (hD.sub [10, 11, 12, 13, 14, 15, 16, 17, 18, 19, 20, 29, 30, 31, 32] (by decide) rfl)⟩ rfl rfl hl.1 rfl (lv_room (Nat.le_of_ble_eq_true rfl)) dX4_board_80 ⟨Nat.zero_le _, Nat.zero_le _⟩) hP hD hS hA [10, 11, 12, 13, 14, 15, 16, 17, 18, 19, 20, 29, 30, 31, 32] [0, 1, 2, 3, 4, 5, 6, 7, 8, 9, 21, 22, 23, 24, 25, 26, 27, 28] [0, 1, 2, 3, 4, 5, 6, 7, 8, 9, 18, 19, 20, 21, 22, 23, 24, 25, 26, 27, 28, 10, 11, 12, 13, 14, 15, 16, 17, 29, 30, 31, 32] rfl rfl (by decide) (by decide) (fun _ => rfl) (by decide) (fun _ H locs hP hD hS => ?_)
            have hP : va_P D classes (wX cx aX aH aI aS aT ak aC aD (aC 0) (aD 0) aG (db + (1 : Int32)) dn ql qf qz qi u21 s1 s2 s3 s4 s5 sP sC sH tl kl kf cv cc cm ch dv dc dm dh u20.1 u20.2.1 u20.2.2.1 u20.2.2.2.1 u20.2.2.2.2.1 u20.2.2.2.2.2.1 u20.2.2.2.2.2.2.1 u20.2.2.2.2.2.2.2.1 u20.2.2.2.2.2.2.2.2) H := hP
            have hD : va_D A (wX cx aX aH aI aS aT ak aC aD (aC 0) (aD 0) aG (db + (1 : Int32)) dn ql qf qz qi u21 s1 s2 s3 s4 s5 sP sC sH tl kl kf cv cc cm ch dv dc dm dh u20.1 u20.2.1 u20.2.2.1 u20.2.2.2.1 u20.2.2.2.2.1 u20.2.2.2.2.2.1 u20.2.2.2.2.2.2.1 u20.2.2.2.2.2.2.2.1 u20.2.2.2.2.2.2.2.2) := hD
            refine lv_aload_n hx hb dX4_board_83 rfl (lv_at hl 0 rfl) ?_
            refine va_get (D := D) (ci := 4) (v := .ref (aC 0)) (C := RX4) (T := TX4) (N := 7) hx hb hts iX4 hown hK hP 0 rfl rfl 3 (by decide) (hts _ wd_229) (fun _ h9 => h9) rfl dX4_board_84 ?_
            obtain ⟨u22, hg, hf⟩ := ob_s hf
            refine kc_callv (wn := fun _ => (wX cx aX aH aI aS aT ak aC aD (aC 0) (aD 0) aG (db + (1 : Int32)) dn ql qf qz qi u21 s1 s2 s3 s4 s5 sP sC sH tl kl kf u22.1 cc u22.2.1 u22.2.2 dv dc dm dh u20.1 u20.2.1 u20.2.2.1 u20.2.2.2.1 u20.2.2.2.2.1 u20.2.2.2.2.2.1 u20.2.2.2.2.2.2.1 u20.2.2.2.2.2.2.2.1 u20.2.2.2.2.2.2.2.2)) (va_runV (As := []) (rest := []) ⟨hx, hb, hml, hown, hts⟩ (metX0_clear l D cx aC aG cv cc cm ch u20.1 u20.2.1 u20.2.2.1 u20.2.2.2.1 u20.2.2.2.2.1 u20.2.2.2.2.2.1 u20.2.2.2.2.2.2.1 u20.2.2.2.2.2.2.2.1 u20.2.2.2.2.2.2.2.2  N H.size u22 hg) ⟨callB_of 0 hts (kc_gI wd_262) rfl rfl rfl (hts _ wd_44) (hts _ wd_259) (by decide +kernel) ⟨Nat.le_of_ble_eq_true rfl, Nat.le_of_ble_eq_true rfl⟩, hts _ wd_260, hts _ wd_261⟩ ⟨kc_blind _ _ _ _ _, va_recv hK hP (ci := 0) (q0 := 21) rfl rfl, kc_pre _ hK hN (hP.sub [21, 22, 23, 24, 29, 30, 31, 32] rfl) (hD.sub [21, 22, 23, 24, 29, 30, 31, 32] (by decide) rfl)⟩ rfl rfl hl.1 rfl (lv_room (Nat.le_of_ble_eq_true rfl)) dX4_board_87 ⟨Nat.zero_le _, Nat.zero_le _⟩) hP hD hS hA [21, 22, 23, 24, 29, 30, 31, 32] [0, 1, 2, 3, 4, 5, 6, 7, 8, 9, 10, 11, 12, 13, 14, 15, 16, 17, 18, 19, 20, 25, 26, 27, 28] [0, 1, 2, 3, 4, 5, 6, 7, 8, 9, 10, 11, 12, 13, 14, 15, 16, 17, 18, 19, 20, 25, 26, 27, 28, 21, 22, 23, 24, 29, 30, 31, 32] rfl rfl (by decide) (by decide) (fun _ => rfl) (by decide) (fun _ H locs hP hD hS => ?_)
            have hP : va_P D classes (wX cx aX aH aI aS aT ak aC aD (aC 0) (aD 0) aG (db + (1 : Int32)) dn ql qf qz qi u21 s1 s2 s3 s4 s5 sP sC sH tl kl kf u22.1 cc u22.2.1 u22.2.2 dv dc dm dh u20.1 u20.2.1 u20.2.2.1 u20.2.2.2.1 u20.2.2.2.2.1 u20.2.2.2.2.2.1 u20.2.2.2.2.2.2.1 u20.2.2.2.2.2.2.2.1 u20.2.2.2.2.2.2.2.2) H := hP
            have hD : va_D A (wX cx aX aH aI aS aT ak aC aD (aC 0) (aD 0) aG (db + (1 : Int32)) dn ql qf qz qi u21 s1 s2 s3 s4 s5 sP sC sH tl kl kf u22.1 cc u22.2.1 u22.2.2 dv dc dm dh u20.1 u20.2.1 u20.2.2.1 u20.2.2.2.1 u20.2.2.2.2.1 u20.2.2.2.2.2.1 u20.2.2.2.2.2.2.1 u20.2.2.2.2.2.2.2.1 u20.2.2.2.2.2.2.2.2) := hD
            refine lv_aload_n hx hb dX4_board_90 rfl (lv_at hl 0 rfl) ?_
            refine va_get (D := D) (ci := 4) (v := .ref (aG 0)) (C := RX4) (T := TX4) (N := 7) hx hb hts iX4 hown hK hP 0 rfl rfl 0 (by decide) (hts _ wd_226) (fun _ h9 => h9) rfl dX4_board_91 ?_
            refine va_get (D := D) (ci := 1) (v := .int u20.2.2.2.2.1) (C := RX1) (T := TX1) (N := 9) hx hb hts iX1 hown hK hP 29 rfl rfl 4 (by decide) (hts _ wd_79) (fun _ h9 => h9) rfl dX4_board_94 ?_
            obtain rfl := Option.some.inj hf
            exact kc_iret () hx hb hr hk hP hD hS rfl dX4_board_97
          · replace hf := it_f c19 hf
            refine lv_sipush (v := (-202 : Int32)) hx hb dX4_board_50 (by decide) ?_
            obtain rfl := Option.some.inj hf
            exact kc_iret () hx hb hr hk hP hD hS rfl dX4_board_53
        · replace hf := it_t c18 hf
          refine lv_sipush (v := (-200 : Int32)) hx hb dX4_board_37 (by decide) ?_
          obtain rfl := Option.some.inj hf
          exact kc_iret () hx hb hr hk hP hD hS rfl dX4_board_40
abbrev rmX4_drop : Room := { frames := 3, cells := 0, slots := 0, locals := 65 }
set_option maxHeartbeats 4000000 in
set_option maxRecDepth 100000 in
theorem metX4_drop (l : Launch) (D : va_G) (cx : Nat → ClassId) (aX : Nat → Nat) (aH : Nat → Nat) (aI : Nat → Nat) (aS : Nat → Nat) (aT : Nat → Nat) (ak : Nat) (aC : Nat → Nat) (aD : Nat → Nat) (aG : Nat → Nat) (db : Int32) (dn : Int32) (ql : Nat → Int32) (qf : Nat → Int32) (qz : Nat → Int32) (qi : Nat → Nat → Int32) (sp : Int32) (s1 : Int32) (s2 : Int32) (s3 : Int32) (s4 : Int32) (s5 : Int32) (sP : Nat → Int32) (sC : Nat → Int32) (sH : Nat → Int32) (tl : Nat → Nat → Int32) (kl : Nat) (kf : Nat → Int64) (cv : Int32) (cc : Nat → Int32) (cm : Nat → Int32) (ch : Nat → Int32) (dv : Int32) (dc : Nat → Int32) (dm : Nat → Int32) (dh : Nat → Int32) (gw : Int32) (gh : Int32) (gk : Int32) (gq : Int32) (gr : Int32) (gj : Int32) (gR : Nat → Int32) (gT : Nat → Int32) (gC : Nat → Int32) (x1 : Int32) (N : Nat) (sz : Nat) (v : Int32 × Int32 × (Nat → Int32) × (Nat → Int32) × (Nat → Int32)) (hf : fX4_drop N cv cc cm ch gw gh gq gr gR x1 = some v) : Met l yX4_drop (.code yX4_drop cX4_drop 2 (some .int) :: kc_TB) rmX4_drop (kc_Pre D cx (wX cx aX aH aI aS aT ak aC aD (aC 0) (aD 0) aG db dn ql qf qz qi sp s1 s2 s3 s4 s5 sP sC sH tl kl kf cv cc cm ch dv dc dm dh gw gh gk gq gr gj gR gT gC) [.ref (aX 0), .int x1] sz) (kc_Pi D (fun _ : Unit => (wX cx aX aH aI aS aT ak aC aD (aC 0) (aD 0) aG db dn ql qf qz qi sp s1 s2 s3 s4 s5 sP sC sH tl kl kf v.2.1 v.2.2.1 v.2.2.2.1 v.2.2.2.2 dv dc dm dh gw gh gk gq gr gj gR gT gC)) v.1 (va_A (wX cx aX aH aI aS aT ak aC aD (aC 0) (aD 0) aG db dn ql qf qz qi sp s1 s2 s3 s4 s5 sP sC sH tl kl kf cv cc cm ch dv dc dm dh gw gh gk gq gr gj gR gT gC) sz)) 0 0 (va_A (wX cx aX aH aI aS aT ak aC aD (aC 0) (aD 0) aG db dn ql qf qz qi sp s1 s2 s3 s4 s5 sP sC sH tl kl kf cv cc cm ch dv dc dm dh gw gh gk gq gr gj gR gT gC) sz) := by
  refine kc_entry (Qc := fun A => (kc_Pi D (fun _ : Unit => (wX cx aX aH aI aS aT ak aC aD (aC 0) (aD 0) aG db dn ql qf qz qi sp s1 s2 s3 s4 s5 sP sC sH tl kl kf v.2.1 v.2.2.1 v.2.2.2.1 v.2.2.2.2 dv dc dm dh gw gh gk gq gr gj gR gT gC)) v.1 A)) (by decide) (Nat.le_of_ble_eq_true rfl) ?_
  intro p e s m below meth c A hx hb hr hk hml hown hin hts hN hK hP hD hS hA ls hl
  have hown : s.vm.findClass RX4 = some m.cls := hown
  have hl : lv_has ls 2 [(0, .ref (aX 0)), (1, .int x1)] := hl
  unfold fX4_drop at hf
  have hP : va_P D classes (wX cx aX aH aI aS aT ak aC aD (aC 0) (aD 0) aG db dn ql qf qz qi sp s1 s2 s3 s4 s5 sP sC sH tl kl kf cv cc cm ch dv dc dm dh gw gh gk gq gr gj gR gT gC) s.heap := hP
  obtain ⟨H, hH⟩ : ∃ H, H = s.heap := ⟨_, rfl⟩
  obtain ⟨locs, hL⟩ : ∃ locs : List Loc, locs = [] := ⟨_, rfl⟩
  have hS : va_S A s.heap H locs := by rw [hH, hL]; exact hS
  have hP : va_P D classes (wX cx aX aH aI aS aT ak aC aD (aC 0) (aD 0) aG db dn ql qf qz qi sp s1 s2 s3 s4 s5 sP sC sH tl kl kf cv cc cm ch dv dc dm dh gw gh gk gq gr gj gR gT gC) H := by rw [hH]; exact hP
  suffices hW : W p l e rmX4_drop s m ([.ref (aX 0), .int x1] : List Value).toArray below meth c H locs 0 0 (MQ below (kc_Pi D (fun _ : Unit => (wX cx aX aH aI aS aT ak aC aD (aC 0) (aD 0) aG db dn ql qf qz qi sp s1 s2 s3 s4 s5 sP sC sH tl kl kf v.2.1 v.2.2.1 v.2.2.2.1 v.2.2.2.2 dv dc dm dh gw gh gk gq gr gj gR gT gC)) v.1 A) ([.ref (aX 0), .int x1] : List Value).toArray s 0 0 A) (F0 m 0 ls []) by rw [hH, hL] at hW; exact hW
  clear hH hL
  refine lv_aload_n hx hb dX4_drop_0 rfl (lv_at hl 0 rfl) ?_
  refine va_get (D := D) (ci := 4) (v := .ref (aC 0)) (C := RX4) (T := TX4) (N := 7) hx hb hts iX4 hown hK hP 0 rfl rfl 3 (by decide) (hts _ wd_229) (fun _ h9 => h9) rfl dX4_drop_1 ?_
  refine lv_iload_n hx hb dX4_drop_4 rfl (lv_at hl 1 rfl) ?_
  obtain ⟨u6, hg, hf⟩ := ob_s hf
  refine kc_calli (wn := fun _ => (wX cx aX aH aI aS aT ak aC aD (aC 0) (aD 0) aG db dn ql qf qz qi sp s1 s2 s3 s4 s5 sP sC sH tl kl kf cv cc cm ch dv dc dm dh gw gh gk gq gr gj gR gT gC)) (va_runV (As := [.int x1]) (rest := []) ⟨hx, hb, hml, hown, hts⟩ (metX0_isOpen l D cx aC aG cv cc cm ch gw gh gk gq gr gj gR gT gC x1 N H.size u6 hg) ⟨callB_of 1 hts (kc_gI wd_271) rfl rfl rfl (hts _ wd_44) (hts _ wd_268) (by decide +kernel) ⟨Nat.le_of_ble_eq_true rfl, Nat.le_of_ble_eq_true rfl⟩, hts _ wd_269, hts _ wd_270⟩ ⟨kc_blind _ _ _ _ _, va_recv hK hP (ci := 0) (q0 := 21) rfl rfl, kc_pre _ hK hN (hP.sub [21, 22, 23, 24, 29, 30, 31, 32] rfl) (hD.sub [21, 22, 23, 24, 29, 30, 31, 32] (by decide) rfl)⟩ rfl rfl hl.1 rfl (lv_room (Nat.le_of_ble_eq_true rfl)) dX4_drop_5 ⟨Nat.zero_le _, Nat.zero_le _⟩) hP hD hS hA [21, 22, 23, 24, 29, 30, 31, 32] [0, 1, 2, 3, 4, 5, 6, 7, 8, 9, 10, 11, 12, 13, 14, 15, 16, 17, 18, 19, 20, 25, 26, 27, 28] [0, 1, 2, 3, 4, 5, 6, 7, 8, 9, 10, 11, 12, 13, 14, 15, 16, 17, 18, 19, 20, 25, 26, 27, 28, 21, 22, 23, 24, 29, 30, 31, 32] rfl rfl (by decide) (by decide) (fun _ => rfl) (by decide) (fun _ H locs hP hD hS => ?_)
  have hP : va_P D classes (wX cx aX aH aI aS aT ak aC aD (aC 0) (aD 0) aG db dn ql qf qz qi sp s1 s2 s3 s4 s5 sP sC sH tl kl kf cv cc cm ch dv dc dm dh gw gh gk gq gr gj gR gT gC) H := hP
  have hD : va_D A (wX cx aX aH aI aS aT ak aC aD (aC 0) (aD 0) aG db dn ql qf qz qi sp s1 s2 s3 s4 s5 sP sC sH tl kl kf cv cc cm ch dv dc dm dh gw gh gk gq gr gj gR gT gC) := hD
  refine lv_if_ne (tgt := 15) hx hb dX4_drop_8 (by decide) (fun c7 => ?_) (fun c7 => ?_)
  · replace hf := it_f c7 hf
    refine lv_aload_n hx hb dX4_drop_15 rfl (lv_at hl 0 rfl) ?_
    refine va_get (D := D) (ci := 4) (v := .ref (aC 0)) (C := RX4) (T := TX4) (N := 7) hx hb hts iX4 hown hK hP 0 rfl rfl 3 (by decide) (hts _ wd_229) (fun _ h9 => h9) rfl dX4_drop_16 ?_
    obtain ⟨u8, hg, hf⟩ := ob_s hf
    refine kc_calli (wn := fun _ => (wX cx aX aH aI aS aT ak aC aD (aC 0) (aD 0) aG db dn ql qf qz qi sp s1 s2 s3 s4 s5 sP sC sH tl kl kf cv cc cm ch dv dc dm dh gw gh gk gq gr gj gR gT gC)) (va_runV (As := []) (rest := []) ⟨hx, hb, hml, hown, hts⟩ (metX0_isOver l D cx aC aG cv cc cm ch gw gh gk gq gr gj gR gT gC  N H.size u8 hg) ⟨callB_of 0 hts (kc_gI wd_276) rfl rfl rfl (hts _ wd_44) (hts _ wd_273) (by decide +kernel) ⟨Nat.le_of_ble_eq_true rfl, Nat.le_of_ble_eq_true rfl⟩, hts _ wd_274, hts _ wd_275⟩ ⟨kc_blind _ _ _ _ _, va_recv hK hP (ci := 0) (q0 := 21) rfl rfl, kc_pre _ hK hN (hP.sub [21, 22, 23, 24, 29, 30, 31, 32] rfl) (hD.sub [21, 22, 23, 24, 29, 30, 31, 32] (by decide) rfl)⟩ rfl rfl hl.1 rfl (lv_room (Nat.le_of_ble_eq_true rfl)) dX4_drop_19 ⟨Nat.zero_le _, Nat.zero_le _⟩) hP hD hS hA [21, 22, 23, 24, 29, 30, 31, 32] [0, 1, 2, 3, 4, 5, 6, 7, 8, 9, 10, 11, 12, 13, 14, 15, 16, 17, 18, 19, 20, 25, 26, 27, 28] [0, 1, 2, 3, 4, 5, 6, 7, 8, 9, 10, 11, 12, 13, 14, 15, 16, 17, 18, 19, 20, 25, 26, 27, 28, 21, 22, 23, 24, 29, 30, 31, 32] rfl rfl (by decide) (by decide) (fun _ => rfl) (by decide) (fun _ H locs hP hD hS => ?_)
    have hP : va_P D classes (wX cx aX aH aI aS aT ak aC aD (aC 0) (aD 0) aG db dn ql qf qz qi sp s1 s2 s3 s4 s5 sP sC sH tl kl kf cv cc cm ch dv dc dm dh gw gh gk gq gr gj gR gT gC) H := hP
    have hD : va_D A (wX cx aX aH aI aS aT ak aC aD (aC 0) (aD 0) aG db dn ql qf qz qi sp s1 s2 s3 s4 s5 sP sC sH tl kl kf cv cc cm ch dv dc dm dh gw gh gk gq gr gj gR gT gC) := hD
    refine lv_if_eq (tgt := 29) hx hb dX4_drop_22 (by decide) (fun c9 => ?_) (fun c9 => ?_)
    · replace hf := it_t c9 hf
      refine lv_aload_n hx hb dX4_drop_29 rfl (lv_at hl 0 rfl) ?_
      refine va_get (D := D) (ci := 4) (v := .ref (aC 0)) (C := RX4) (T := TX4) (N := 7) hx hb hts iX4 hown hK hP 0 rfl rfl 3 (by decide) (hts _ wd_229) (fun _ h9 => h9) rfl dX4_drop_30 ?_
      refine lv_iload_n hx hb dX4_drop_33 rfl (lv_at hl 1 rfl) ?_
      obtain ⟨u10, hg, hf⟩ := ob_s hf
      refine kc_calli (wn := fun _ => (wX cx aX aH aI aS aT ak aC aD (aC 0) (aD 0) aG db dn ql qf qz qi sp s1 s2 s3 s4 s5 sP sC sH tl kl kf u10.2.1 u10.2.2.1 u10.2.2.2.1 u10.2.2.2.2 dv dc dm dh gw gh gk gq gr gj gR gT gC)) (va_runV (As := [.int x1]) (rest := []) ⟨hx, hb, hml, hown, hts⟩ (metX0_make l D cx aC aG cv cc cm ch gw gh gk gq gr gj gR gT gC x1 N H.size u10 hg) ⟨callB_of 1 hts (kc_gI wd_292) rfl rfl rfl (hts _ wd_44) (hts _ wd_289) (by decide +kernel) ⟨Nat.le_of_ble_eq_true rfl, Nat.le_of_ble_eq_true rfl⟩, hts _ wd_290, hts _ wd_291⟩ ⟨kc_blind _ _ _ _ _, va_recv hK hP (ci := 0) (q0 := 21) rfl rfl, kc_pre _ hK hN (hP.sub [21, 22, 23, 24, 29, 30, 31, 32] rfl) (hD.sub [21, 22, 23, 24, 29, 30, 31, 32] (by decide) rfl)⟩ rfl rfl hl.1 rfl (lv_room (Nat.le_of_ble_eq_true rfl)) dX4_drop_34 ⟨Nat.zero_le _, Nat.zero_le _⟩) hP hD hS hA [21, 22, 23, 24, 29, 30, 31, 32] [0, 1, 2, 3, 4, 5, 6, 7, 8, 9, 10, 11, 12, 13, 14, 15, 16, 17, 18, 19, 20, 25, 26, 27, 28] [0, 1, 2, 3, 4, 5, 6, 7, 8, 9, 10, 11, 12, 13, 14, 15, 16, 17, 18, 19, 20, 25, 26, 27, 28, 21, 22, 23, 24, 29, 30, 31, 32] rfl rfl (by decide) (by decide) (fun _ => rfl) (by decide) (fun _ H locs hP hD hS => ?_)
      have hP : va_P D classes (wX cx aX aH aI aS aT ak aC aD (aC 0) (aD 0) aG db dn ql qf qz qi sp s1 s2 s3 s4 s5 sP sC sH tl kl kf u10.2.1 u10.2.2.1 u10.2.2.2.1 u10.2.2.2.2 dv dc dm dh gw gh gk gq gr gj gR gT gC) H := hP
      have hD : va_D A (wX cx aX aH aI aS aT ak aC aD (aC 0) (aD 0) aG db dn ql qf qz qi sp s1 s2 s3 s4 s5 sP sC sH tl kl kf u10.2.1 u10.2.2.1 u10.2.2.2.1 u10.2.2.2.2 dv dc dm dh gw gh gk gq gr gj gR gT gC) := hD
      obtain rfl := Option.some.inj hf
      exact kc_iret () hx hb hr hk hP hD hS rfl dX4_drop_37
    · replace hf := it_f c9 hf
      refine lv_sipush (v := (-201 : Int32)) hx hb dX4_drop_25 (by decide) ?_
      obtain rfl := Option.some.inj hf
      exact kc_iret () hx hb hr hk hP hD hS rfl dX4_drop_28
  · replace hf := it_t c7 hf
    refine lv_sipush (v := (-200 : Int32)) hx hb dX4_drop_11 (by decide) ?_
    obtain rfl := Option.some.inj hf
    exact kc_iret () hx hb hr hk hP hD hS rfl dX4_drop_14
abbrev rmX4_back : Room := { frames := 2, cells := 0, slots := 0, locals := 42 }
set_option maxHeartbeats 4000000 in
set_option maxRecDepth 100000 in
theorem metX4_back (l : Launch) (D : va_G) (cx : Nat → ClassId) (aX : Nat → Nat) (aH : Nat → Nat) (aI : Nat → Nat) (aS : Nat → Nat) (aT : Nat → Nat) (ak : Nat) (aC : Nat → Nat) (aD : Nat → Nat) (aG : Nat → Nat) (db : Int32) (dn : Int32) (ql : Nat → Int32) (qf : Nat → Int32) (qz : Nat → Int32) (qi : Nat → Nat → Int32) (sp : Int32) (s1 : Int32) (s2 : Int32) (s3 : Int32) (s4 : Int32) (s5 : Int32) (sP : Nat → Int32) (sC : Nat → Int32) (sH : Nat → Int32) (tl : Nat → Nat → Int32) (kl : Nat) (kf : Nat → Int64) (cv : Int32) (cc : Nat → Int32) (cm : Nat → Int32) (ch : Nat → Int32) (dv : Int32) (dc : Nat → Int32) (dm : Nat → Int32) (dh : Nat → Int32) (gw : Int32) (gh : Int32) (gk : Int32) (gq : Int32) (gr : Int32) (gj : Int32) (gR : Nat → Int32) (gT : Nat → Int32) (gC : Nat → Int32) (x1 : Int32) (N : Nat) (sz : Nat) (v : Int32 × Int32 × (Nat → Int32) × (Nat → Int32)) (hf : fX4_back N cv cc cm ch gw x1 = some v) : Met l yX4_back (.code yX4_back cX4_back 3 (some .int) :: kc_TB) rmX4_back (kc_Pre D cx (wX cx aX aH aI aS aT ak aC aD (aC 0) (aD 0) aG db dn ql qf qz qi sp s1 s2 s3 s4 s5 sP sC sH tl kl kf cv cc cm ch dv dc dm dh gw gh gk gq gr gj gR gT gC) [.ref (aX 0), .int x1] sz) (kc_Pi D (fun _ : Unit => (wX cx aX aH aI aS aT ak aC aD (aC 0) (aD 0) aG db dn ql qf qz qi sp s1 s2 s3 s4 s5 sP sC sH tl kl kf v.2.1 cc v.2.2.1 v.2.2.2 dv dc dm dh gw gh gk gq gr gj gR gT gC)) v.1 (va_A (wX cx aX aH aI aS aT ak aC aD (aC 0) (aD 0) aG db dn ql qf qz qi sp s1 s2 s3 s4 s5 sP sC sH tl kl kf cv cc cm ch dv dc dm dh gw gh gk gq gr gj gR gT gC) sz)) 0 0 (va_A (wX cx aX aH aI aS aT ak aC aD (aC 0) (aD 0) aG db dn ql qf qz qi sp s1 s2 s3 s4 s5 sP sC sH tl kl kf cv cc cm ch dv dc dm dh gw gh gk gq gr gj gR gT gC) sz) := by
  refine kc_entry (Qc := fun A => (kc_Pi D (fun _ : Unit => (wX cx aX aH aI aS aT ak aC aD (aC 0) (aD 0) aG db dn ql qf qz qi sp s1 s2 s3 s4 s5 sP sC sH tl kl kf v.2.1 cc v.2.2.1 v.2.2.2 dv dc dm dh gw gh gk gq gr gj gR gT gC)) v.1 A)) (by decide) (Nat.le_of_ble_eq_true rfl) ?_
  intro p e s m below meth c A hx hb hr hk hml hown hin hts hN hK hP hD hS hA ls hl
  have hown : s.vm.findClass RX4 = some m.cls := hown
  have hl : lv_has ls 3 [(0, .ref (aX 0)), (1, .int x1)] := hl
  unfold fX4_back at hf
  have hP : va_P D classes (wX cx aX aH aI aS aT ak aC aD (aC 0) (aD 0) aG db dn ql qf qz qi sp s1 s2 s3 s4 s5 sP sC sH tl kl kf cv cc cm ch dv dc dm dh gw gh gk gq gr gj gR gT gC) s.heap := hP
  obtain ⟨H, hH⟩ : ∃ H, H = s.heap := ⟨_, rfl⟩
  obtain ⟨locs, hL⟩ : ∃ locs : List Loc, locs = [] := ⟨_, rfl⟩
  have hS : va_S A s.heap H locs := by rw [hH, hL]; exact hS
  have hP : va_P D classes (wX cx aX aH aI aS aT ak aC aD (aC 0) (aD 0) aG db dn ql qf qz qi sp s1 s2 s3 s4 s5 sP sC sH tl kl kf cv cc cm ch dv dc dm dh gw gh gk gq gr gj gR gT gC) H := by rw [hH]; exact hP
  suffices hW : W p l e rmX4_back s m ([.ref (aX 0), .int x1] : List Value).toArray below meth c H locs 0 0 (MQ below (kc_Pi D (fun _ : Unit => (wX cx aX aH aI aS aT ak aC aD (aC 0) (aD 0) aG db dn ql qf qz qi sp s1 s2 s3 s4 s5 sP sC sH tl kl kf v.2.1 cc v.2.2.1 v.2.2.2 dv dc dm dh gw gh gk gq gr gj gR gT gC)) v.1 A) ([.ref (aX 0), .int x1] : List Value).toArray s 0 0 A) (F0 m 0 ls []) by rw [hH, hL] at hW; exact hW
  clear hH hL
  refine lv_iload_n hx hb dX4_back_0 rfl (lv_at hl 1 rfl) ?_
  refine lv_iconst (v := (0 : Int32)) hx hb dX4_back_1 (by decide) ?_
  refine lv_aload_n hx hb dX4_back_2 rfl (lv_at hl 0 rfl) ?_
  refine va_get (D := D) (ci := 4) (v := .ref (aC 0)) (C := RX4) (T := TX4) (N := 7) hx hb hts iX4 hown hK hP 0 rfl rfl 3 (by decide) (hts _ wd_229) (fun _ h9 => h9) rfl dX4_back_3 ?_
  refine va_get (D := D) (ci := 0) (v := .int cv) (C := RX0) (T := TX0) (N := 5) hx hb hts iX0 hown hK hP 21 rfl rfl 4 (by decide) (hts _ wd_189) (fun _ h9 => h9) rfl dX4_back_6 ?_
  obtain ⟨u5, hg, hf⟩ := ob_s hf
  refine kc_calli (wn := fun _ => (wX cx aX aH aI aS aT ak aC aD (aC 0) (aD 0) aG db dn ql qf qz qi sp s1 s2 s3 s4 s5 sP sC sH tl kl kf cv cc cm ch dv dc dm dh gw gh gk gq gr gj gR gT gC)) (va_runS (As := [.int x1, .int (0 : Int32), .int cv]) (rest := []) ⟨hx, hb, hml, hown, hts⟩ (metX4_isWithin l D cx   x1 (0 : Int32) cv N H.size u5 hg) ⟨callB_of 3 hts (kc_gI wd_254) rfl rfl rfl (hts _ wd_40) (hts _ wd_252) (by decide +kernel) ⟨Nat.le_of_ble_eq_true rfl, Nat.le_of_ble_eq_true rfl⟩, hts _ wd_253⟩ ⟨kc_blind _ _ _ _ _, kc_pre _ hK hN (hP.sub [] rfl) (hD.sub [] (by decide) rfl)⟩ rfl rfl hl.1 rfl (lv_room (Nat.le_of_ble_eq_true rfl)) dX4_back_9 ⟨Nat.zero_le _, Nat.zero_le _⟩) hP hD hS hA [] [0, 1, 2, 3, 4, 5, 6, 7, 8, 9, 10, 11, 12, 13, 14, 15, 16, 17, 18, 19, 20, 21, 22, 23, 24, 25, 26, 27, 28, 29, 30, 31, 32] [0, 1, 2, 3, 4, 5, 6, 7, 8, 9, 10, 11, 12, 13, 14, 15, 16, 17, 18, 19, 20, 21, 22, 23, 24, 25, 26, 27, 28, 29, 30, 31, 32] rfl rfl (by decide) (by decide) (fun _ => rfl) (by decide) (fun _ H locs hP hD hS => ?_)
  have hP : va_P D classes (wX cx aX aH aI aS aT ak aC aD (aC 0) (aD 0) aG db dn ql qf qz qi sp s1 s2 s3 s4 s5 sP sC sH tl kl kf cv cc cm ch dv dc dm dh gw gh gk gq gr gj gR gT gC) H := hP
  have hD : va_D A (wX cx aX aH aI aS aT ak aC aD (aC 0) (aD 0) aG db dn ql qf qz qi sp s1 s2 s3 s4 s5 sP sC sH tl kl kf cv cc cm ch dv dc dm dh gw gh gk gq gr gj gR gT gC) := hD
  refine lv_if_ne (tgt := 19) hx hb dX4_back_12 (by decide) (fun c6 => ?_) (fun c6 => ?_)
  · replace hf := it_f c6 hf
    refine lv_iconst (v := (0 : Int32)) hx hb dX4_back_19 (by decide) ?_
    refine lv_istore_n (lv' := [(2, .int (0 : Int32)), (0, .ref (aX 0)), (1, .int x1)]) hx hb dX4_back_20 rfl hl (by decide) rfl (fun ls hl => ?_)
    have L21 : ∀ (ct : Nat) (cv : Int32) (cm : Nat → Int32) (ch : Nat → Int32) (x2 : Int32) (v21 : Int32 × (Nat → Int32) × (Nat → Int32)), fX4_back_L21 N cc gw x1 ct cv cm ch x2 = some v21 → ∀ (H : Heap) (locs : List Loc) (ls : Array Slot), va_P D classes (wX cx aX aH aI aS aT ak aC aD (aC 0) (aD 0) aG db dn ql qf qz qi sp s1 s2 s3 s4 s5 sP sC sH tl kl kf cv cc cm ch dv dc dm dh gw gh gk gq gr gj gR gT gC) H → va_D A (wX cx aX aH aI aS aT ak aC aD (aC 0) (aD 0) aG db dn ql qf qz qi sp s1 s2 s3 s4 s5 sP sC sH tl kl kf cv cc cm ch dv dc dm dh gw gh gk gq gr gj gR gT gC) → va_S A s.heap H locs → lv_has ls 3 [(0, .ref (aX 0)), (1, .int x1), (2, .int x2)] → (∀ (H : Heap) (locs : List Loc) (ls : Array Slot), va_P D classes (wX cx aX aH aI aS aT ak aC aD (aC 0) (aD 0) aG db dn ql qf qz qi sp s1 s2 s3 s4 s5 sP sC sH tl kl kf v21.1 cc v21.2.1 v21.2.2 dv dc dm dh gw gh gk gq gr gj gR gT gC) H → va_D A (wX cx aX aH aI aS aT ak aC aD (aC 0) (aD 0) aG db dn ql qf qz qi sp s1 s2 s3 s4 s5 sP sC sH tl kl kf v21.1 cc v21.2.1 v21.2.2 dv dc dm dh gw gh gk gq gr gj gR gT gC) → va_S A s.heap H locs → lv_has ls 3 [(0, .ref (aX 0))] → W p l e rmX4_back s m ([.ref (aX 0), .int x1] : List Value).toArray below meth c H locs 0 0 (MQ below (kc_Pi D (fun _ : Unit => (wX cx aX aH aI aS aT ak aC aD (aC 0) (aD 0) aG db dn ql qf qz qi sp s1 s2 s3 s4 s5 sP sC sH tl kl kf v.2.1 cc v.2.2.1 v.2.2.2 dv dc dm dh gw gh gk gq gr gj gR gT gC)) v.1 A) ([.ref (aX 0), .int x1] : List Value).toArray s 0 0 A) (F0 m 39 ls [])) → W p l e rmX4_back s m ([.ref (aX 0), .int x1] : List Value).toArray below meth c H locs 0 0 (MQ below (kc_Pi D (fun _ : Unit => (wX cx aX aH aI aS aT ak aC aD (aC 0) (aD 0) aG db dn ql qf qz qi sp s1 s2 s3 s4 s5 sP sC sH tl kl kf v.2.1 cc v.2.2.1 v.2.2.2 dv dc dm dh gw gh gk gq gr gj gR gT gC)) v.1 A) ([.ref (aX 0), .int x1] : List Value).toArray s 0 0 A) (F0 m 21 ls []) := by
      intro ct
      induction ct with
      | zero =>
        intro cv cm ch x2 v21 hf
        exact absurd (show (none : Option (Int32 × (Nat → Int32) × (Nat → Int32))) = some v21 from hf) (fun q => by cases q)
      | succ ct ih =>
        intro cv cm ch x2 v21 hf H locs ls hP hD hS hl hE
        rw [fX4_back_L21] at hf
        refine lv_iload_n hx hb dX4_back_21 rfl (lv_at hl 2 rfl) ?_
        refine lv_iload_n hx hb dX4_back_22 rfl (lv_at hl 1 rfl) ?_
        refine lv_icmp_ge (tgt := 39) hx hb dX4_back_23 (by decide) (fun c9 => ?_) (fun c9 => ?_)
        · replace hf := it_t c9 hf
          obtain rfl := Option.some.inj hf
          exact hE H locs ls hP hD hS (lv_sub hl [0] rfl)
        · replace hf := it_f c9 hf
          refine lv_aload_n hx hb dX4_back_26 rfl (lv_at hl 0 rfl) ?_
          refine va_get (D := D) (ci := 4) (v := .ref (aC 0)) (C := RX4) (T := TX4) (N := 7) hx hb hts iX4 hown hK hP 0 rfl rfl 3 (by decide) (hts _ wd_229) (fun _ h9 => h9) rfl dX4_back_27 ?_
          obtain ⟨u10, hg, hf⟩ := ob_s hf
          refine kc_callv (wn := fun _ => (wX cx aX aH aI aS aT ak aC aD (aC 0) (aD 0) aG db dn ql qf qz qi sp s1 s2 s3 s4 s5 sP sC sH tl kl kf u10.1 cc u10.2.1 u10.2.2 dv dc dm dh gw gh gk gq gr gj gR gT gC)) (va_runV (As := []) (rest := []) ⟨hx, hb, hml, hown, hts⟩ (metX0_unmake l D cx aC aG cv cc cm ch gw gh gk gq gr gj gR gT gC  N H.size u10 hg) ⟨callB_of 0 hts (kc_gI wd_305) rfl rfl rfl (hts _ wd_44) (hts _ wd_302) (by decide +kernel) ⟨Nat.le_of_ble_eq_true rfl, Nat.le_of_ble_eq_true rfl⟩, hts _ wd_303, hts _ wd_304⟩ ⟨kc_blind _ _ _ _ _, va_recv hK hP (ci := 0) (q0 := 21) rfl rfl, kc_pre _ hK hN (hP.sub [21, 22, 23, 24, 29, 30, 31, 32] rfl) (hD.sub [21, 22, 23, 24, 29, 30, 31, 32] (by decide) rfl)⟩ rfl rfl hl.1 rfl (lv_room (Nat.le_of_ble_eq_true rfl)) dX4_back_30 ⟨Nat.zero_le _, Nat.zero_le _⟩) hP hD hS hA [21, 22, 23, 24, 29, 30, 31, 32] [0, 1, 2, 3, 4, 5, 6, 7, 8, 9, 10, 11, 12, 13, 14, 15, 16, 17, 18, 19, 20, 25, 26, 27, 28] [0, 1, 2, 3, 4, 5, 6, 7, 8, 9, 10, 11, 12, 13, 14, 15, 16, 17, 18, 19, 20, 25, 26, 27, 28, 21, 22, 23, 24, 29, 30, 31, 32] rfl rfl (by decide) (by decide) (fun _ => rfl) (by decide) (fun _ H locs hP hD hS => ?_)
          have hP : va_P D classes (wX cx aX aH aI aS aT ak aC aD (aC 0) (aD 0) aG db dn ql qf qz qi sp s1 s2 s3 s4 s5 sP sC sH tl kl kf u10.1 cc u10.2.1 u10.2.2 dv dc dm dh gw gh gk gq gr gj gR gT gC) H := hP
          have hD : va_D A (wX cx aX aH aI aS aT ak aC aD (aC 0) (aD 0) aG db dn ql qf qz qi sp s1 s2 s3 s4 s5 sP sC sH tl kl kf u10.1 cc u10.2.1 u10.2.2 dv dc dm dh gw gh gk gq gr gj gR gT gC) := hD
          refine lv_iinc (v := (x2 + (1 : Int32))) (lv' := [(2, .int (x2 + (1 : Int32))), (0, .ref (aX 0)), (1, .int x1)]) hx hb dX4_back_33 hl (k := 2) rfl rfl (by decide) rfl (fun ls hl => ?_)
          refine lv_goto (tgt := 21) hx hb dX4_back_36 (by decide) ?_
          exact ih u10.1 u10.2.1 u10.2.2 (x2 + (1 : Int32)) _ hf H locs ls hP hD hS (lv_sub hl [1, 2, 0] rfl) hE
    obtain ⟨u11, hg, hf⟩ := ob_s hf
    refine L21 _ cv cm ch (0 : Int32) u11 hg H locs ls hP hD hS (lv_sub hl [1, 2, 0] rfl) (fun H locs ls hP hD hS hl => ?_)
    refine lv_aload_n hx hb dX4_back_39 rfl (lv_at hl 0 rfl) ?_
    refine va_get (D := D) (ci := 4) (v := .ref (aC 0)) (C := RX4) (T := TX4) (N := 7) hx hb hts iX4 hown hK hP 0 rfl rfl 3 (by decide) (hts _ wd_229) (fun _ h9 => h9) rfl dX4_back_40 ?_
    refine va_get (D := D) (ci := 0) (v := .int u11.1) (C := RX0) (T := TX0) (N := 5) hx hb hts iX0 hown hK hP 21 rfl rfl 4 (by decide) (hts _ wd_189) (fun _ h9 => h9) rfl dX4_back_43 ?_
    obtain rfl := Option.some.inj hf
    exact kc_iret () hx hb hr hk hP hD hS rfl dX4_back_46
  · replace hf := it_t c6 hf
    refine lv_sipush (v := (-200 : Int32)) hx hb dX4_back_15 (by decide) ?_
    obtain rfl := Option.some.inj hf
    exact kc_iret () hx hb hr hk hP hD hS rfl dX4_back_18
abbrev rmX4_move : Room := { frames := 1, cells := 0, slots := 0, locals := 22 }
set_option maxHeartbeats 4000000 in
set_option maxRecDepth 100000 in
theorem metX4_move (l : Launch) (D : va_G) (cx : Nat → ClassId) (aX : Nat → Nat) (aH : Nat → Nat) (aI : Nat → Nat) (aS : Nat → Nat) (aT : Nat → Nat) (ak : Nat) (aC : Nat → Nat) (aD : Nat → Nat) (aG : Nat → Nat) (db : Int32) (dn : Int32) (ql : Nat → Int32) (qf : Nat → Int32) (qz : Nat → Int32) (qi : Nat → Nat → Int32) (sp : Int32) (s1 : Int32) (s2 : Int32) (s3 : Int32) (s4 : Int32) (s5 : Int32) (sP : Nat → Int32) (sC : Nat → Int32) (sH : Nat → Int32) (tl : Nat → Nat → Int32) (kl : Nat) (kf : Nat → Int64) (cv : Int32) (cc : Nat → Int32) (cm : Nat → Int32) (ch : Nat → Int32) (dv : Int32) (dc : Nat → Int32) (dm : Nat → Int32) (dh : Nat → Int32) (gw : Int32) (gh : Int32) (gk : Int32) (gq : Int32) (gr : Int32) (gj : Int32) (gR : Nat → Int32) (gT : Nat → Int32) (gC : Nat → Int32) (x1 : Int32) (N : Nat) (sz : Nat) (v : Int32) (hf : fX4_move N cv cc x1 = some v) : Met l yX4_move (.code yX4_move cX4_move 2 (some .int) :: kc_TB) rmX4_move (kc_Pre D cx (wX cx aX aH aI aS aT ak aC aD (aC 0) (aD 0) aG db dn ql qf qz qi sp s1 s2 s3 s4 s5 sP sC sH tl kl kf cv cc cm ch dv dc dm dh gw gh gk gq gr gj gR gT gC) [.ref (aX 0), .int x1] sz) (kc_Pi D (fun _ : Unit => (wX cx aX aH aI aS aT ak aC aD (aC 0) (aD 0) aG db dn ql qf qz qi sp s1 s2 s3 s4 s5 sP sC sH tl kl kf cv cc cm ch dv dc dm dh gw gh gk gq gr gj gR gT gC)) v (va_A (wX cx aX aH aI aS aT ak aC aD (aC 0) (aD 0) aG db dn ql qf qz qi sp s1 s2 s3 s4 s5 sP sC sH tl kl kf cv cc cm ch dv dc dm dh gw gh gk gq gr gj gR gT gC) sz)) 0 0 (va_A (wX cx aX aH aI aS aT ak aC aD (aC 0) (aD 0) aG db dn ql qf qz qi sp s1 s2 s3 s4 s5 sP sC sH tl kl kf cv cc cm ch dv dc dm dh gw gh gk gq gr gj gR gT gC) sz) := by
  refine kc_entry (Qc := fun A => (kc_Pi D (fun _ : Unit => (wX cx aX aH aI aS aT ak aC aD (aC 0) (aD 0) aG db dn ql qf qz qi sp s1 s2 s3 s4 s5 sP sC sH tl kl kf cv cc cm ch dv dc dm dh gw gh gk gq gr gj gR gT gC)) v A)) (by decide) (Nat.le_of_ble_eq_true rfl) ?_
  intro p e s m below meth c A hx hb hr hk hml hown hin hts hN hK hP hD hS hA ls hl
  have hown : s.vm.findClass RX4 = some m.cls := hown
  have hl : lv_has ls 2 [(0, .ref (aX 0)), (1, .int x1)] := hl
  unfold fX4_move at hf
  have hP : va_P D classes (wX cx aX aH aI aS aT ak aC aD (aC 0) (aD 0) aG db dn ql qf qz qi sp s1 s2 s3 s4 s5 sP sC sH tl kl kf cv cc cm ch dv dc dm dh gw gh gk gq gr gj gR gT gC) s.heap := hP
  obtain ⟨H, hH⟩ : ∃ H, H = s.heap := ⟨_, rfl⟩
  obtain ⟨locs, hL⟩ : ∃ locs : List Loc, locs = [] := ⟨_, rfl⟩
  have hS : va_S A s.heap H locs := by rw [hH, hL]; exact hS
  have hP : va_P D classes (wX cx aX aH aI aS aT ak aC aD (aC 0) (aD 0) aG db dn ql qf qz qi sp s1 s2 s3 s4 s5 sP sC sH tl kl kf cv cc cm ch dv dc dm dh gw gh gk gq gr gj gR gT gC) H := by rw [hH]; exact hP
  suffices hW : W p l e rmX4_move s m ([.ref (aX 0), .int x1] : List Value).toArray below meth c H locs 0 0 (MQ below (kc_Pi D (fun _ : Unit => (wX cx aX aH aI aS aT ak aC aD (aC 0) (aD 0) aG db dn ql qf qz qi sp s1 s2 s3 s4 s5 sP sC sH tl kl kf cv cc cm ch dv dc dm dh gw gh gk gq gr gj gR gT gC)) v A) ([.ref (aX 0), .int x1] : List Value).toArray s 0 0 A) (F0 m 0 ls []) by rw [hH, hL] at hW; exact hW
  clear hH hL
  refine lv_iload_n hx hb dX4_move_0 rfl (lv_at hl 1 rfl) ?_
  refine lv_iconst (v := (0 : Int32)) hx hb dX4_move_1 (by decide) ?_
  refine lv_aload_n hx hb dX4_move_2 rfl (lv_at hl 0 rfl) ?_
  refine va_get (D := D) (ci := 4) (v := .ref (aC 0)) (C := RX4) (T := TX4) (N := 7) hx hb hts iX4 hown hK hP 0 rfl rfl 3 (by decide) (hts _ wd_229) (fun _ h9 => h9) rfl dX4_move_3 ?_
  refine va_get (D := D) (ci := 0) (v := .int cv) (C := RX0) (T := TX0) (N := 5) hx hb hts iX0 hown hK hP 21 rfl rfl 4 (by decide) (hts _ wd_189) (fun _ h9 => h9) rfl dX4_move_6 ?_
  refine lv_iconst (v := (1 : Int32)) hx hb dX4_move_9 (by decide) ?_
  refine lv_isub hx hb dX4_move_10 ?_
  obtain ⟨u3, hg, hf⟩ := ob_s hf
  refine kc_calli (wn := fun _ => (wX cx aX aH aI aS aT ak aC aD (aC 0) (aD 0) aG db dn ql qf qz qi sp s1 s2 s3 s4 s5 sP sC sH tl kl kf cv cc cm ch dv dc dm dh gw gh gk gq gr gj gR gT gC)) (va_runS (As := [.int x1, .int (0 : Int32), .int (cv - (1 : Int32))]) (rest := []) ⟨hx, hb, hml, hown, hts⟩ (metX4_isWithin l D cx   x1 (0 : Int32) (cv - (1 : Int32)) N H.size u3 hg) ⟨callB_of 3 hts (kc_gI wd_254) rfl rfl rfl (hts _ wd_40) (hts _ wd_252) (by decide +kernel) ⟨Nat.le_of_ble_eq_true rfl, Nat.le_of_ble_eq_true rfl⟩, hts _ wd_253⟩ ⟨kc_blind _ _ _ _ _, kc_pre _ hK hN (hP.sub [] rfl) (hD.sub [] (by decide) rfl)⟩ rfl rfl hl.1 rfl (lv_room (Nat.le_of_ble_eq_true rfl)) dX4_move_11 ⟨Nat.zero_le _, Nat.zero_le _⟩) hP hD hS hA [] [0, 1, 2, 3, 4, 5, 6, 7, 8, 9, 10, 11, 12, 13, 14, 15, 16, 17, 18, 19, 20, 21, 22, 23, 24, 25, 26, 27, 28, 29, 30, 31, 32] [0, 1, 2, 3, 4, 5, 6, 7, 8, 9, 10, 11, 12, 13, 14, 15, 16, 17, 18, 19, 20, 21, 22, 23, 24, 25, 26, 27, 28, 29, 30, 31, 32] rfl rfl (by decide) (by decide) (fun _ => rfl) (by decide) (fun _ H locs hP hD hS => ?_)
  have hP : va_P D classes (wX cx aX aH aI aS aT ak aC aD (aC 0) (aD 0) aG db dn ql qf qz qi sp s1 s2 s3 s4 s5 sP sC sH tl kl kf cv cc cm ch dv dc dm dh gw gh gk gq gr gj gR gT gC) H := hP
  have hD : va_D A (wX cx aX aH aI aS aT ak aC aD (aC 0) (aD 0) aG db dn ql qf qz qi sp s1 s2 s3 s4 s5 sP sC sH tl kl kf cv cc cm ch dv dc dm dh gw gh gk gq gr gj gR gT gC) := hD
  refine lv_if_eq (tgt := 29) hx hb dX4_move_14 (by decide) (fun c4 => ?_) (fun c4 => ?_)
  · replace hf := it_t c4 hf
    refine lv_sipush (v := (-200 : Int32)) hx hb dX4_move_29 (by decide) ?_
    obtain rfl := Option.some.inj hf
    exact kc_iret () hx hb hr hk hP hD hS rfl dX4_move_32
  · replace hf := it_f c4 hf
    refine lv_aload_n hx hb dX4_move_17 rfl (lv_at hl 0 rfl) ?_
    refine va_get (D := D) (ci := 4) (v := .ref (aC 0)) (C := RX4) (T := TX4) (N := 7) hx hb hts iX4 hown hK hP 0 rfl rfl 3 (by decide) (hts _ wd_229) (fun _ h9 => h9) rfl dX4_move_18 ?_
    refine va_get (D := D) (ci := 0) (v := .ref (aC 1)) (C := RX0) (T := TX0) (N := 5) hx hb hts iX0 hown hK hP 21 rfl rfl 1 (by decide) (hts _ wd_183) (fun _ h9 => h9) rfl dX4_move_21 ?_
    refine lv_iload_n hx hb dX4_move_24 rfl (lv_at hl 1 rfl) ?_
    obtain ⟨hz, hf⟩ := okb_s hf
    refine va_iald (D := D) hx hb hK hP 22 0 rfl rfl (inb_s hz) dX4_move_25 ?_
    refine lv_goto (tgt := 32) hx hb dX4_move_26 (by decide) ?_
    obtain rfl := Option.some.inj hf
    exact kc_iret () hx hb hr hk hP hD hS rfl dX4_move_32
abbrev rmX4_at : Room := { frames := 1, cells := 0, slots := 0, locals := 22 }
set_option maxHeartbeats 4000000 in
set_option maxRecDepth 100000 in
theorem metX4_at (l : Launch) (D : va_G) (cx : Nat → ClassId) (aX : Nat → Nat) (aH : Nat → Nat) (aI : Nat → Nat) (aS : Nat → Nat) (aT : Nat → Nat) (ak : Nat) (aC : Nat → Nat) (aD : Nat → Nat) (aG : Nat → Nat) (db : Int32) (dn : Int32) (ql : Nat → Int32) (qf : Nat → Int32) (qz : Nat → Int32) (qi : Nat → Nat → Int32) (sp : Int32) (s1 : Int32) (s2 : Int32) (s3 : Int32) (s4 : Int32) (s5 : Int32) (sP : Nat → Int32) (sC : Nat → Int32) (sH : Nat → Int32) (tl : Nat → Nat → Int32) (kl : Nat) (kf : Nat → Int64) (cv : Int32) (cc : Nat → Int32) (cm : Nat → Int32) (ch : Nat → Int32) (dv : Int32) (dc : Nat → Int32) (dm : Nat → Int32) (dh : Nat → Int32) (gw : Int32) (gh : Int32) (gk : Int32) (gq : Int32) (gr : Int32) (gj : Int32) (gR : Nat → Int32) (gT : Nat → Int32) (gC : Nat → Int32) (x1 : Int32) (N : Nat) (sz : Nat) (v : Int32) (hf : fX4_at N cm gq x1 = some v) : Met l yX4_at (.code yX4_at cX4_at 2 (some .int) :: kc_TB) rmX4_at (kc_Pre D cx (wX cx aX aH aI aS aT ak aC aD (aC 0) (aD 0) aG db dn ql qf qz qi sp s1 s2 s3 s4 s5 sP sC sH tl kl kf cv cc cm ch dv dc dm dh gw gh gk gq gr gj gR gT gC) [.ref (aX 0), .int x1] sz) (kc_Pi D (fun _ : Unit => (wX cx aX aH aI aS aT ak aC aD (aC 0) (aD 0) aG db dn ql qf qz qi sp s1 s2 s3 s4 s5 sP sC sH tl kl kf cv cc cm ch dv dc dm dh gw gh gk gq gr gj gR gT gC)) v (va_A (wX cx aX aH aI aS aT ak aC aD (aC 0) (aD 0) aG db dn ql qf qz qi sp s1 s2 s3 s4 s5 sP sC sH tl kl kf cv cc cm ch dv dc dm dh gw gh gk gq gr gj gR gT gC) sz)) 0 0 (va_A (wX cx aX aH aI aS aT ak aC aD (aC 0) (aD 0) aG db dn ql qf qz qi sp s1 s2 s3 s4 s5 sP sC sH tl kl kf cv cc cm ch dv dc dm dh gw gh gk gq gr gj gR gT gC) sz) := by
  refine kc_entry (Qc := fun A => (kc_Pi D (fun _ : Unit => (wX cx aX aH aI aS aT ak aC aD (aC 0) (aD 0) aG db dn ql qf qz qi sp s1 s2 s3 s4 s5 sP sC sH tl kl kf cv cc cm ch dv dc dm dh gw gh gk gq gr gj gR gT gC)) v A)) (by decide) (Nat.le_of_ble_eq_true rfl) ?_
  intro p e s m below meth c A hx hb hr hk hml hown hin hts hN hK hP hD hS hA ls hl
  have hown : s.vm.findClass RX4 = some m.cls := hown
  have hl : lv_has ls 2 [(0, .ref (aX 0)), (1, .int x1)] := hl
  unfold fX4_at at hf
  have hP : va_P D classes (wX cx aX aH aI aS aT ak aC aD (aC 0) (aD 0) aG db dn ql qf qz qi sp s1 s2 s3 s4 s5 sP sC sH tl kl kf cv cc cm ch dv dc dm dh gw gh gk gq gr gj gR gT gC) s.heap := hP
  obtain ⟨H, hH⟩ : ∃ H, H = s.heap := ⟨_, rfl⟩
  obtain ⟨locs, hL⟩ : ∃ locs : List Loc, locs = [] := ⟨_, rfl⟩
  have hS : va_S A s.heap H locs := by rw [hH, hL]; exact hS
  have hP : va_P D classes (wX cx aX aH aI aS aT ak aC aD (aC 0) (aD 0) aG db dn ql qf qz qi sp s1 s2 s3 s4 s5 sP sC sH tl kl kf cv cc cm ch dv dc dm dh gw gh gk gq gr gj gR gT gC) H := by rw [hH]; exact hP
  suffices hW : W p l e rmX4_at s m ([.ref (aX 0), .int x1] : List Value).toArray below meth c H locs 0 0 (MQ below (kc_Pi D (fun _ : Unit => (wX cx aX aH aI aS aT ak aC aD (aC 0) (aD 0) aG db dn ql qf qz qi sp s1 s2 s3 s4 s5 sP sC sH tl kl kf cv cc cm ch dv dc dm dh gw gh gk gq gr gj gR gT gC)) v A) ([.ref (aX 0), .int x1] : List Value).toArray s 0 0 A) (F0 m 0 ls []) by rw [hH, hL] at hW; exact hW
  clear hH hL
  refine lv_iload_n hx hb dX4_at_0 rfl (lv_at hl 1 rfl) ?_
  refine lv_iconst (v := (0 : Int32)) hx hb dX4_at_1 (by decide) ?_
  refine lv_aload_n hx hb dX4_at_2 rfl (lv_at hl 0 rfl) ?_
  refine va_get (D := D) (ci := 4) (v := .ref (aG 0)) (C := RX4) (T := TX4) (N := 7) hx hb hts iX4 hown hK hP 0 rfl rfl 0 (by decide) (hts _ wd_226) (fun _ h9 => h9) rfl dX4_at_3 ?_
  refine va_get (D := D) (ci := 1) (v := .int gq) (C := RX1) (T := TX1) (N := 9) hx hb hts iX1 hown hK hP 29 rfl rfl 3 (by decide) (hts _ wd_75) (fun _ h9 => h9) rfl dX4_at_6 ?_
  refine lv_iconst (v := (1 : Int32)) hx hb dX4_at_9 (by decide) ?_
  refine lv_isub hx hb dX4_at_10 ?_
  obtain ⟨u4, hg, hf⟩ := ob_s hf
  refine kc_calli (wn := fun _ => (wX cx aX aH aI aS aT ak aC aD (aC 0) (aD 0) aG db dn ql qf qz qi sp s1 s2 s3 s4 s5 sP sC sH tl kl kf cv cc cm ch dv dc dm dh gw gh gk gq gr gj gR gT gC)) (va_runS (As := [.int x1, .int (0 : Int32), .int (gq - (1 : Int32))]) (rest := []) ⟨hx, hb, hml, hown, hts⟩ (metX4_isWithin l D cx   x1 (0 : Int32) (gq - (1 : Int32)) N H.size u4 hg) ⟨callB_of 3 hts (kc_gI wd_254) rfl rfl rfl (hts _ wd_40) (hts _ wd_252) (by decide +kernel) ⟨Nat.le_of_ble_eq_true rfl, Nat.le_of_ble_eq_true rfl⟩, hts _ wd_253⟩ ⟨kc_blind _ _ _ _ _, kc_pre _ hK hN (hP.sub [] rfl) (hD.sub [] (by decide) rfl)⟩ rfl rfl hl.1 rfl (lv_room (Nat.le_of_ble_eq_true rfl)) dX4_at_11 ⟨Nat.zero_le _, Nat.zero_le _⟩) hP hD hS hA [] [0, 1, 2, 3, 4, 5, 6, 7, 8, 9, 10, 11, 12, 13, 14, 15, 16, 17, 18, 19, 20, 21, 22, 23, 24, 25, 26, 27, 28, 29, 30, 31, 32] [0, 1, 2, 3, 4, 5, 6, 7, 8, 9, 10, 11, 12, 13, 14, 15, 16, 17, 18, 19, 20, 21, 22, 23, 24, 25, 26, 27, 28, 29, 30, 31, 32] rfl rfl (by decide) (by decide) (fun _ => rfl) (by decide) (fun _ H locs hP hD hS => ?_)
  have hP : va_P D classes (wX cx aX aH aI aS aT ak aC aD (aC 0) (aD 0) aG db dn ql qf qz qi sp s1 s2 s3 s4 s5 sP sC sH tl kl kf cv cc cm ch dv dc dm dh gw gh gk gq gr gj gR gT gC) H := hP
  have hD : va_D A (wX cx aX aH aI aS aT ak aC aD (aC 0) (aD 0) aG db dn ql qf qz qi sp s1 s2 s3 s4 s5 sP sC sH tl kl kf cv cc cm ch dv dc dm dh gw gh gk gq gr gj gR gT gC) := hD
  refine lv_if_eq (tgt := 28) hx hb dX4_at_14 (by decide) (fun c5 => ?_) (fun c5 => ?_)
  · replace hf := it_t c5 hf
    refine lv_sipush (v := (-200 : Int32)) hx hb dX4_at_28 (by decide) ?_
    obtain rfl := Option.some.inj hf
    exact kc_iret () hx hb hr hk hP hD hS rfl dX4_at_31
  · replace hf := it_f c5 hf
    refine lv_aload_n hx hb dX4_at_17 rfl (lv_at hl 0 rfl) ?_
    refine va_get (D := D) (ci := 4) (v := .ref (aC 0)) (C := RX4) (T := TX4) (N := 7) hx hb hts iX4 hown hK hP 0 rfl rfl 3 (by decide) (hts _ wd_229) (fun _ h9 => h9) rfl dX4_at_18 ?_
    refine lv_iload_n hx hb dX4_at_21 rfl (lv_at hl 1 rfl) ?_
    obtain ⟨u6, hg, hf⟩ := ob_s hf
    refine kc_calli (wn := fun _ => (wX cx aX aH aI aS aT ak aC aD (aC 0) (aD 0) aG db dn ql qf qz qi sp s1 s2 s3 s4 s5 sP sC sH tl kl kf cv cc cm ch dv dc dm dh gw gh gk gq gr gj gR gT gC)) (va_runV (As := [.int x1]) (rest := []) ⟨hx, hb, hml, hown, hts⟩ (metX0_manOn l D cx aC aG cv cc cm ch gw gh gk gq gr gj gR gT gC x1 N H.size u6 hg) ⟨callB_of 1 hts (kc_gI wd_317) rfl rfl rfl (hts _ wd_44) (hts _ wd_314) (by decide +kernel) ⟨Nat.le_of_ble_eq_true rfl, Nat.le_of_ble_eq_true rfl⟩, hts _ wd_315, hts _ wd_316⟩ ⟨kc_blind _ _ _ _ _, va_recv hK hP (ci := 0) (q0 := 21) rfl rfl, kc_pre _ hK hN (hP.sub [21, 22, 23, 24, 29, 30, 31, 32] rfl) (hD.sub [21, 22, 23, 24, 29, 30, 31, 32] (by decide) rfl)⟩ rfl rfl hl.1 rfl (lv_room (Nat.le_of_ble_eq_true rfl)) dX4_at_22 ⟨Nat.zero_le _, Nat.zero_le _⟩) hP hD hS hA [21, 22, 23, 24, 29, 30, 31, 32] [0, 1, 2, 3, 4, 5, 6, 7, 8, 9, 10, 11, 12, 13, 14, 15, 16, 17, 18, 19, 20, 25, 26, 27, 28] [0, 1, 2, 3, 4, 5, 6, 7, 8, 9, 10, 11, 12, 13, 14, 15, 16, 17, 18, 19, 20, 25, 26, 27, 28, 21, 22, 23, 24, 29, 30, 31, 32] rfl rfl (by decide) (by decide) (fun _ => rfl) (by decide) (fun _ H locs hP hD hS => ?_)
    have hP : va_P D classes (wX cx aX aH aI aS aT ak aC aD (aC 0) (aD 0) aG db dn ql qf qz qi sp s1 s2 s3 s4 s5 sP sC sH tl kl kf cv cc cm ch dv dc dm dh gw gh gk gq gr gj gR gT gC) H := hP
    have hD : va_D A (wX cx aX aH aI aS aT ak aC aD (aC 0) (aD 0) aG db dn ql qf qz qi sp s1 s2 s3 s4 s5 sP sC sH tl kl kf cv cc cm ch dv dc dm dh gw gh gk gq gr gj gR gT gC) := hD
    refine lv_goto (tgt := 31) hx hb dX4_at_25 (by decide) ?_
    obtain rfl := Option.some.inj hf
    exact kc_iret () hx hb hr hk hP hD hS rfl dX4_at_31
abbrev rmX4_game : Room := { frames := 3, cells := 0, slots := 0, locals := 65 }
set_option maxHeartbeats 4000000 in
set_option maxRecDepth 100000 in
theorem metX4_game (l : Launch) (D : va_G) (cx : Nat → ClassId) (aX : Nat → Nat) (aH : Nat → Nat) (aI : Nat → Nat) (aS : Nat → Nat) (aT : Nat → Nat) (ak : Nat) (aC : Nat → Nat) (aD : Nat → Nat) (aG : Nat → Nat) (db : Int32) (dn : Int32) (ql : Nat → Int32) (qf : Nat → Int32) (qz : Nat → Int32) (qi : Nat → Nat → Int32) (sp : Int32) (s1 : Int32) (s2 : Int32) (s3 : Int32) (s4 : Int32) (s5 : Int32) (sP : Nat → Int32) (sC : Nat → Int32) (sH : Nat → Int32) (tl : Nat → Nat → Int32) (kl : Nat) (kf : Nat → Int64) (cv : Int32) (cc : Nat → Int32) (cm : Nat → Int32) (ch : Nat → Int32) (dv : Int32) (dc : Nat → Int32) (dm : Nat → Int32) (dh : Nat → Int32) (gw : Int32) (gh : Int32) (gk : Int32) (gq : Int32) (gr : Int32) (gj : Int32) (gR : Nat → Int32) (gT : Nat → Int32) (gC : Nat → Int32) (x1 : Int32) (N : Nat) (sz : Nat) (v : Int32) (hf : fX4_game N cv cm ch gw gh gq gr gR x1 = some v) : Met l yX4_game (.code yX4_game cX4_game 2 (some .int) :: kc_TB) rmX4_game (kc_Pre D cx (wX cx aX aH aI aS aT ak aC aD (aC 0) (aD 0) aG db dn ql qf qz qi sp s1 s2 s3 s4 s5 sP sC sH tl kl kf cv cc cm ch dv dc dm dh gw gh gk gq gr gj gR gT gC) [.ref (aX 0), .int x1] sz) (kc_Pi D (fun _ : Unit => (wX cx aX aH aI aS aT ak aC aD (aC 0) (aD 0) aG db dn ql qf qz qi sp s1 s2 s3 s4 s5 sP sC sH tl kl kf cv cc cm ch dv dc dm dh gw gh gk gq gr gj gR gT gC)) v (va_A (wX cx aX aH aI aS aT ak aC aD (aC 0) (aD 0) aG db dn ql qf qz qi sp s1 s2 s3 s4 s5 sP sC sH tl kl kf cv cc cm ch dv dc dm dh gw gh gk gq gr gj gR gT gC) sz)) 0 0 (va_A (wX cx aX aH aI aS aT ak aC aD (aC 0) (aD 0) aG db dn ql qf qz qi sp s1 s2 s3 s4 s5 sP sC sH tl kl kf cv cc cm ch dv dc dm dh gw gh gk gq gr gj gR gT gC) sz) := by
  refine kc_entry (Qc := fun A => (kc_Pi D (fun _ : Unit => (wX cx aX aH aI aS aT ak aC aD (aC 0) (aD 0) aG db dn ql qf qz qi sp s1 s2 s3 s4 s5 sP sC sH tl kl kf cv cc cm ch dv dc dm dh gw gh gk gq gr gj gR gT gC)) v A)) (by decide) (Nat.le_of_ble_eq_true rfl) ?_
  intro p e s m below meth c A hx hb hr hk hml hown hin hts hN hK hP hD hS hA ls hl
  have hown : s.vm.findClass RX4 = some m.cls := hown
  have hl : lv_has ls 2 [(0, .ref (aX 0)), (1, .int x1)] := hl
  unfold fX4_game at hf
  have hP : va_P D classes (wX cx aX aH aI aS aT ak aC aD (aC 0) (aD 0) aG db dn ql qf qz qi sp s1 s2 s3 s4 s5 sP sC sH tl kl kf cv cc cm ch dv dc dm dh gw gh gk gq gr gj gR gT gC) s.heap := hP
  obtain ⟨H, hH⟩ : ∃ H, H = s.heap := ⟨_, rfl⟩
  obtain ⟨locs, hL⟩ : ∃ locs : List Loc, locs = [] := ⟨_, rfl⟩
  have hS : va_S A s.heap H locs := by rw [hH, hL]; exact hS
  have hP : va_P D classes (wX cx aX aH aI aS aT ak aC aD (aC 0) (aD 0) aG db dn ql qf qz qi sp s1 s2 s3 s4 s5 sP sC sH tl kl kf cv cc cm ch dv dc dm dh gw gh gk gq gr gj gR gT gC) H := by rw [hH]; exact hP
  suffices hW : W p l e rmX4_game s m ([.ref (aX 0), .int x1] : List Value).toArray below meth c H locs 0 0 (MQ below (kc_Pi D (fun _ : Unit => (wX cx aX aH aI aS aT ak aC aD (aC 0) (aD 0) aG db dn ql qf qz qi sp s1 s2 s3 s4 s5 sP sC sH tl kl kf cv cc cm ch dv dc dm dh gw gh gk gq gr gj gR gT gC)) v A) ([.ref (aX 0), .int x1] : List Value).toArray s 0 0 A) (F0 m 0 ls []) by rw [hH, hL] at hW; exact hW
  clear hH hL
  refine lv_iload_n hx hb dX4_game_0 rfl (lv_at hl 1 rfl) ?_
  by_cases c16 : x1 = (0 : Int32)
  · replace hf := it_t c16 hf
    refine lv_tableIn (tgt := 36) (off := 35) hx hb dX4_game_1 (by rw [c16]; decide) (by rw [c16]; decide) (by rw [c16]; decide) (by decide) ?_
    refine lv_aload_n hx hb dX4_game_36 rfl (lv_at hl 0 rfl) ?_
    refine va_get (D := D) (ci := 4) (v := .ref (aC 0)) (C := RX4) (T := TX4) (N := 7) hx hb hts iX4 hown hK hP 0 rfl rfl 3 (by decide) (hts _ wd_229) (fun _ h9 => h9) rfl dX4_game_37 ?_
    obtain ⟨u11, hg, hf⟩ := ob_s hf
    refine kc_calli (wn := fun _ => (wX cx aX aH aI aS aT ak aC aD (aC 0) (aD 0) aG db dn ql qf qz qi sp s1 s2 s3 s4 s5 sP sC sH tl kl kf cv cc cm ch dv dc dm dh gw gh gk gq gr gj gR gT gC)) (va_runV (As := []) (rest := []) ⟨hx, hb, hml, hown, hts⟩ (metX0_side l D cx aC aG cv cc cm ch gw gh gk gq gr gj gR gT gC  N H.size u11 hg) ⟨callB_of 0 hts (kc_gI wd_284) rfl rfl rfl (hts _ wd_44) (hts _ wd_322) (by decide +kernel) ⟨Nat.le_of_ble_eq_true rfl, Nat.le_of_ble_eq_true rfl⟩, hts _ wd_282, hts _ wd_283⟩ ⟨kc_blind _ _ _ _ _, va_recv hK hP (ci := 0) (q0 := 21) rfl rfl, kc_pre _ hK hN (hP.sub [21, 22, 23, 24, 29, 30, 31, 32] rfl) (hD.sub [21, 22, 23, 24, 29, 30, 31, 32] (by decide) rfl)⟩ rfl rfl hl.1 rfl (lv_room (Nat.le_of_ble_eq_true rfl)) dX4_game_40 ⟨Nat.zero_le _, Nat.zero_le _⟩) hP hD hS hA [21, 22, 23, 24, 29, 30, 31, 32] [0, 1, 2, 3, 4, 5, 6, 7, 8, 9, 10, 11, 12, 13, 14, 15, 16, 17, 18, 19, 20, 25, 26, 27, 28] [0, 1, 2, 3, 4, 5, 6, 7, 8, 9, 10, 11, 12, 13, 14, 15, 16, 17, 18, 19, 20, 25, 26, 27, 28, 21, 22, 23, 24, 29, 30, 31, 32] rfl rfl (by decide) (by decide) (fun _ => rfl) (by decide) (fun _ H locs hP hD hS => ?_)
    have hP : va_P D classes (wX cx aX aH aI aS aT ak aC aD (aC 0) (aD 0) aG db dn ql qf qz qi sp s1 s2 s3 s4 s5 sP sC sH tl kl kf cv cc cm ch dv dc dm dh gw gh gk gq gr gj gR gT gC) H := hP
    have hD : va_D A (wX cx aX aH aI aS aT ak aC aD (aC 0) (aD 0) aG db dn ql qf qz qi sp s1 s2 s3 s4 s5 sP sC sH tl kl kf cv cc cm ch dv dc dm dh gw gh gk gq gr gj gR gT gC) := hD
    obtain rfl := Option.some.inj hf
    exact kc_iret () hx hb hr hk hP hD hS rfl dX4_game_43
  · replace hf := it_f c16 hf
    by_cases c17 : x1 = (1 : Int32)
    · replace hf := it_t c17 hf
      refine lv_tableIn (tgt := 44) (off := 43) hx hb dX4_game_1 (by rw [c17]; decide) (by rw [c17]; decide) (by rw [c17]; decide) (by decide) ?_
      refine lv_aload_n hx hb dX4_game_44 rfl (lv_at hl 0 rfl) ?_
      refine va_get (D := D) (ci := 4) (v := .ref (aC 0)) (C := RX4) (T := TX4) (N := 7) hx hb hts iX4 hown hK hP 0 rfl rfl 3 (by decide) (hts _ wd_229) (fun _ h9 => h9) rfl dX4_game_45 ?_
      refine va_get (D := D) (ci := 0) (v := .int cv) (C := RX0) (T := TX0) (N := 5) hx hb hts iX0 hown hK hP 21 rfl rfl 4 (by decide) (hts _ wd_189) (fun _ h9 => h9) rfl dX4_game_48 ?_
      obtain rfl := Option.some.inj hf
      exact kc_iret () hx hb hr hk hP hD hS rfl dX4_game_51
    · replace hf := it_f c17 hf
      by_cases c18 : x1 = (2 : Int32)
      · replace hf := it_t c18 hf
        refine lv_tableIn (tgt := 52) (off := 51) hx hb dX4_game_1 (by rw [c18]; decide) (by rw [c18]; decide) (by rw [c18]; decide) (by decide) ?_
        refine lv_aload_n hx hb dX4_game_52 rfl (lv_at hl 0 rfl) ?_
        refine va_get (D := D) (ci := 4) (v := .ref (aC 0)) (C := RX4) (T := TX4) (N := 7) hx hb hts iX4 hown hK hP 0 rfl rfl 3 (by decide) (hts _ wd_229) (fun _ h9 => h9) rfl dX4_game_53 ?_
        obtain ⟨u12, hg, hf⟩ := ob_s hf
        refine kc_calli (wn := fun _ => (wX cx aX aH aI aS aT ak aC aD (aC 0) (aD 0) aG db dn ql qf qz qi sp s1 s2 s3 s4 s5 sP sC sH tl kl kf cv cc cm ch dv dc dm dh gw gh gk gq gr gj gR gT gC)) (va_runV (As := []) (rest := []) ⟨hx, hb, hml, hown, hts⟩ (metX0_state l D cx aC aG cv cc cm ch gw gh gk gq gr gj gR gT gC  N H.size u12 hg) ⟨callB_of 0 hts (kc_gI wd_280) rfl rfl rfl (hts _ wd_44) (hts _ wd_323) (by decide +kernel) ⟨Nat.le_of_ble_eq_true rfl, Nat.le_of_ble_eq_true rfl⟩, hts _ wd_278, hts _ wd_279⟩ ⟨kc_blind _ _ _ _ _, va_recv hK hP (ci := 0) (q0 := 21) rfl rfl, kc_pre _ hK hN (hP.sub [21, 22, 23, 24, 29, 30, 31, 32] rfl) (hD.sub [21, 22, 23, 24, 29, 30, 31, 32] (by decide) rfl)⟩ rfl rfl hl.1 rfl (lv_room (Nat.le_of_ble_eq_true rfl)) dX4_game_56 ⟨Nat.zero_le _, Nat.zero_le _⟩) hP hD hS hA [21, 22, 23, 24, 29, 30, 31, 32] [0, 1, 2, 3, 4, 5, 6, 7, 8, 9, 10, 11, 12, 13, 14, 15, 16, 17, 18, 19, 20, 25, 26, 27, 28] [0, 1, 2, 3, 4, 5, 6, 7, 8, 9, 10, 11, 12, 13, 14, 15, 16, 17, 18, 19, 20, 25, 26, 27, 28, 21, 22, 23, 24, 29, 30, 31, 32] rfl rfl (by decide) (by decide) (fun _ => rfl) (by decide) (fun _ H locs hP hD hS => ?_)
        have hP : va_P D classes (wX cx aX aH aI aS aT ak aC aD (aC 0) (aD 0) aG db dn ql qf qz qi sp s1 s2 s3 s4 s5 sP sC sH tl kl kf cv cc cm ch dv dc dm dh gw gh gk gq gr gj gR gT gC) H := hP
        have hD : va_D A (wX cx aX aH aI aS aT ak aC aD (aC 0) (aD 0) aG db dn ql qf qz qi sp s1 s2 s3 s4 s5 sP sC sH tl kl kf cv cc cm ch dv dc dm dh gw gh gk gq gr gj gR gT gC) := hD
        obtain rfl := Option.some.inj hf
        exact kc_iret () hx hb hr hk hP hD hS rfl dX4_game_59
      · replace hf := it_f c18 hf
        by_cases c19 : x1 = (3 : Int32)
        · replace hf := it_t c19 hf
          refine lv_tableIn (tgt := 60) (off := 59) hx hb dX4_game_1 (by rw [c19]; decide) (by rw [c19]; decide) (by rw [c19]; decide) (by decide) ?_
          refine lv_aload_n hx hb dX4_game_60 rfl (lv_at hl 0 rfl) ?_
          refine va_get (D := D) (ci := 4) (v := .ref (aC 0)) (C := RX4) (T := TX4) (N := 7) hx hb hts iX4 hown hK hP 0 rfl rfl 3 (by decide) (hts _ wd_229) (fun _ h9 => h9) rfl dX4_game_61 ?_
          obtain ⟨u13, hg, hf⟩ := ob_s hf
          refine kc_calli (wn := fun _ => (wX cx aX aH aI aS aT ak aC aD (aC 0) (aD 0) aG db dn ql qf qz qi sp s1 s2 s3 s4 s5 sP sC sH tl kl kf cv cc cm ch dv dc dm dh gw gh gk gq gr gj gR gT gC)) (va_runV (As := []) (rest := []) ⟨hx, hb, hml, hown, hts⟩ (metX0_openColumns l D cx aC aG cv cc cm ch gw gh gk gq gr gj gR gT gC  N H.size u13 hg) ⟨callB_of 0 hts (kc_gI wd_327) rfl rfl rfl (hts _ wd_44) (hts _ wd_324) (by decide +kernel) ⟨Nat.le_of_ble_eq_true rfl, Nat.le_of_ble_eq_true rfl⟩, hts _ wd_325, hts _ wd_326⟩ ⟨kc_blind _ _ _ _ _, va_recv hK hP (ci := 0) (q0 := 21) rfl rfl, kc_pre _ hK hN (hP.sub [21, 22, 23, 24, 29, 30, 31, 32] rfl) (hD.sub [21, 22, 23, 24, 29, 30, 31, 32] (by decide) rfl)⟩ rfl rfl hl.1 rfl (lv_room (Nat.le_of_ble_eq_true rfl)) dX4_game_64 ⟨Nat.zero_le _, Nat.zero_le _⟩) hP hD hS hA [21, 22, 23, 24, 29, 30, 31, 32] [0, 1, 2, 3, 4, 5, 6, 7, 8, 9, 10, 11, 12, 13, 14, 15, 16, 17, 18, 19, 20, 25, 26, 27, 28] [0, 1, 2, 3, 4, 5, 6, 7, 8, 9, 10, 11, 12, 13, 14, 15, 16, 17, 18, 19, 20, 25, 26, 27, 28, 21, 22, 23, 24, 29, 30, 31, 32] rfl rfl (by decide) (by decide) (fun _ => rfl) (by decide) (fun _ H locs hP hD hS => ?_)
          have hP : va_P D classes (wX cx aX aH aI aS aT ak aC aD (aC 0) (aD 0) aG db dn ql qf qz qi sp s1 s2 s3 s4 s5 sP sC sH tl kl kf cv cc cm ch dv dc dm dh gw gh gk gq gr gj gR gT gC) H := hP
          have hD : va_D A (wX cx aX aH aI aS aT ak aC aD (aC 0) (aD 0) aG db dn ql qf qz qi sp s1 s2 s3 s4 s5 sP sC sH tl kl kf cv cc cm ch dv dc dm dh gw gh gk gq gr gj gR gT gC) := hD
          obtain rfl := Option.some.inj hf
          exact kc_iret () hx hb hr hk hP hD hS rfl dX4_game_67
        · replace hf := it_f c19 hf
          by_cases c20 : x1 = (4 : Int32)
          · replace hf := it_t c20 hf
            refine lv_tableIn (tgt := 68) (off := 67) hx hb dX4_game_1 (by rw [c20]; decide) (by rw [c20]; decide) (by rw [c20]; decide) (by decide) ?_
            refine lv_aload_n hx hb dX4_game_68 rfl (lv_at hl 0 rfl) ?_
            refine va_get (D := D) (ci := 4) (v := .ref (aG 0)) (C := RX4) (T := TX4) (N := 7) hx hb hts iX4 hown hK hP 0 rfl rfl 0 (by decide) (hts _ wd_226) (fun _ h9 => h9) rfl dX4_game_69 ?_
            refine lv_aload_n hx hb dX4_game_72 rfl (lv_at hl 0 rfl) ?_
            refine va_get (D := D) (ci := 4) (v := .ref (aC 0)) (C := RX4) (T := TX4) (N := 7) hx hb hts iX4 hown hK hP 0 rfl rfl 3 (by decide) (hts _ wd_229) (fun _ h9 => h9) rfl dX4_game_73 ?_
            refine va_get (D := D) (ci := 0) (v := .ref (aC 2)) (C := RX0) (T := TX0) (N := 5) hx hb hts iX0 hown hK hP 21 rfl rfl 2 (by decide) (hts _ wd_186) (fun _ h9 => h9) rfl dX4_game_76 ?_
            refine lv_iconst (v := (0 : Int32)) hx hb dX4_game_79 (by decide) ?_
            obtain ⟨hz, hf⟩ := okb_s hf
            refine va_iald (D := D) hx hb hK hP 23 0 rfl rfl (inb_s hz) dX4_game_80 ?_
            obtain ⟨u14, hg, hf⟩ := ob_s hf
            refine kc_calli (wn := fun _ => (wX cx aX aH aI aS aT ak aC aD (aC 0) (aD 0) aG db dn ql qf qz qi sp s1 s2 s3 s4 s5 sP sC sH tl kl kf cv cc cm ch dv dc dm dh gw gh gk gq gr gj gR gT gC)) (va_runV (As := [.int (cm (0 : Int32).toNatClampNeg)]) (rest := []) ⟨hx, hb, hml, hown, hts⟩ (metX1_rowsWithout l D cx aG gw gh gk gq gr gj gR gT gC (cm (0 : Int32).toNatClampNeg) N H.size u14 hg) ⟨callB_of 1 hts (kc_gI wd_331) rfl rfl rfl (hts _ wd_41) (hts _ wd_328) (by decide +kernel) ⟨Nat.le_of_ble_eq_true rfl, Nat.le_of_ble_eq_true rfl⟩, hts _ wd_329, hts _ wd_330⟩ ⟨kc_blind _ _ _ _ _, va_recv hK hP (ci := 1) (q0 := 29) rfl rfl, kc_pre _ hK hN (hP.sub [29, 30, 31, 32] rfl) (hD.sub [29, 30, 31, 32] (by decide) rfl)⟩ rfl rfl hl.1 rfl (lv_room (Nat.le_of_ble_eq_true rfl)) dX4_game_81 ⟨Nat.zero_le _, Nat.zero_le _⟩) hP hD hS hA [29, 30, 31, 32] [0, 1, 2, 3, 4, 5, 6, 7, 8, 9, 10, 11, 12, 13, 14, 15, 16, 17, 18, 19, 20, 21, 22, 23, 24, 25, 26, 27, 28] [0, 1, 2, 3, 4, 5, 6, 7, 8, 9, 10, 11, 12, 13, 14, 15, 16, 17, 18, 19, 20, 21, 22, 23, 24, 25, 26, 27, 28, 29, 30, 31, 32] rfl rfl (by decide) (by decide) (fun _ => rfl) (by decide) (fun _ H locs hP hD hS => ?_)
            have hP : va_P D classes (wX cx aX aH aI aS aT ak aC aD (aC 0) (aD 0) aG db dn ql qf qz qi sp s1 s2 s3 s4 s5 sP sC sH tl kl kf cv cc cm ch dv dc dm dh gw gh gk gq gr gj gR gT gC) H := hP
            have hD : va_D A (wX cx aX aH aI aS aT ak aC aD (aC 0) (aD 0) aG db dn ql qf qz qi sp s1 s2 s3 s4 s5 sP sC sH tl kl kf cv cc cm ch dv dc dm dh gw gh gk gq gr gj gR gT gC) := hD
            refine lv_aload_n hx hb dX4_game_84 rfl (lv_at hl 0 rfl) ?_
            refine va_get (D := D) (ci := 4) (v := .ref (aG 0)) (C := RX4) (T := TX4) (N := 7) hx hb hts iX4 hown hK hP 0 rfl rfl 0 (by decide) (hts _ wd_226) (fun _ h9 => h9) rfl dX4_game_85 ?_
            refine lv_aload_n hx hb dX4_game_88 rfl (lv_at hl 0 rfl) ?_
            refine va_get (D := D) (ci := 4) (v := .ref (aC 0)) (C := RX4) (T := TX4) (N := 7) hx hb hts iX4 hown hK hP 0 rfl rfl 3 (by decide) (hts _ wd_229) (fun _ h9 => h9) rfl dX4_game_89 ?_
            refine va_get (D := D) (ci := 0) (v := .ref (aC 2)) (C := RX0) (T := TX0) (N := 5) hx hb hts iX0 hown hK hP 21 rfl rfl 2 (by decide) (hts _ wd_186) (fun _ h9 => h9) rfl dX4_game_92 ?_
            refine lv_iconst (v := (1 : Int32)) hx hb dX4_game_95 (by decide) ?_
            obtain ⟨hz, hf⟩ := okb_s hf
            refine va_iald (D := D) hx hb hK hP 23 0 rfl rfl (inb_s hz) dX4_game_96 ?_
            obtain ⟨u15, hg, hf⟩ := ob_s hf
            refine kc_calli (wn := fun _ => (wX cx aX aH aI aS aT ak aC aD (aC 0) (aD 0) aG db dn ql qf qz qi sp s1 s2 s3 s4 s5 sP sC sH tl kl kf cv cc cm ch dv dc dm dh gw gh gk gq gr gj gR gT gC)) (va_runV (As := [.int (cm (1 : Int32).toNatClampNeg)]) (rest := [.int u14]) ⟨hx, hb, hml, hown, hts⟩ (metX1_rowsWithout l D cx aG gw gh gk gq gr gj gR gT gC (cm (1 : Int32).toNatClampNeg) N H.size u15 hg) ⟨callB_of 1 hts (kc_gI wd_331) rfl rfl rfl (hts _ wd_41) (hts _ wd_328) (by decide +kernel) ⟨Nat.le_of_ble_eq_true rfl, Nat.le_of_ble_eq_true rfl⟩, hts _ wd_329, hts _ wd_330⟩ ⟨kc_blind _ _ _ _ _, va_recv hK hP (ci := 1) (q0 := 29) rfl rfl, kc_pre _ hK hN (hP.sub [29, 30, 31, 32] rfl) (hD.sub [29, 30, 31, 32] (by decide) rfl)⟩ rfl rfl hl.1 rfl (lv_room (Nat.le_of_ble_eq_true rfl)) dX4_game_97 ⟨Nat.zero_le _, Nat.zero_le _⟩) hP hD hS hA [29, 30, 31, 32] [0, 1, 2, 3, 4, 5, 6, 7, 8, 9, 10, 11, 12, 13, 14, 15, 16, 17, 18, 19, 20, 21, 22, 23, 24, 25, 26, 27, 28] [0, 1, 2, 3, 4, 5, 6, 7, 8, 9, 10, 11, 12, 13, 14, 15, 16, 17, 18, 19, 20, 21, 22, 23, 24, 25, 26, 27, 28, 29, 30, 31, 32] rfl rfl (by decide) (by decide) (fun _ => rfl) (by decide) (fun _ H locs hP hD hS => ?_)
            have hP : va_P D classes (wX cx aX aH aI aS aT ak aC aD (aC 0) (aD 0) aG db dn ql qf qz qi sp s1 s2 s3 s4 s5 sP sC sH tl kl kf cv cc cm ch dv dc dm dh gw gh gk gq gr gj gR gT gC) H := hP
            have hD : va_D A (wX cx aX aH aI aS aT ak aC aD (aC 0) (aD 0) aG db dn ql qf qz qi sp s1 s2 s3 s4 s5 sP sC sH tl kl kf cv cc cm ch dv dc dm dh gw gh gk gq gr gj gR gT gC) := hD
            refine lv_iadd hx hb dX4_game_100 ?_
            obtain rfl := Option.some.inj hf
            exact kc_iret () hx hb hr hk hP hD hS rfl dX4_game_101
          · replace hf := it_f c20 hf
            refine lv_tableOut (tgt := 102) hx hb dX4_game_1 (sw_out4 c16 c17 c18 c19 c20) (by decide) ?_
            refine lv_sipush (v := (-200 : Int32)) hx hb dX4_game_102 (by decide) ?_
            obtain rfl := Option.some.inj hf
            exact kc_iret () hx hb hr hk hP hD hS rfl dX4_game_105
abbrev rmX4_won : Room := { frames := 2, cells := 0, slots := 0, locals := 45 }
set_option maxHeartbeats 4000000 in
set_option maxRecDepth 100000 in
theorem metX4_won (l : Launch) (D : va_G) (cx : Nat → ClassId) (aX : Nat → Nat) (aH : Nat → Nat) (aI : Nat → Nat) (aS : Nat → Nat) (aT : Nat → Nat) (ak : Nat) (aC : Nat → Nat) (aD : Nat → Nat) (aG : Nat → Nat) (db : Int32) (dn : Int32) (ql : Nat → Int32) (qf : Nat → Int32) (qz : Nat → Int32) (qi : Nat → Nat → Int32) (sp : Int32) (s1 : Int32) (s2 : Int32) (s3 : Int32) (s4 : Int32) (s5 : Int32) (sP : Nat → Int32) (sC : Nat → Int32) (sH : Nat → Int32) (tl : Nat → Nat → Int32) (kl : Nat) (kf : Nat → Int64) (cv : Int32) (cc : Nat → Int32) (cm : Nat → Int32) (ch : Nat → Int32) (dv : Int32) (dc : Nat → Int32) (dm : Nat → Int32) (dh : Nat → Int32) (gw : Int32) (gh : Int32) (gk : Int32) (gq : Int32) (gr : Int32) (gj : Int32) (gR : Nat → Int32) (gT : Nat → Int32) (gC : Nat → Int32) (x1 : Int32) (N : Nat) (sz : Nat) (v : Int32) (hf : fX4_won N cv cm gk gq gr gR x1 = some v) : Met l yX4_won (.code yX4_won cX4_won 2 (some .int) :: kc_TB) rmX4_won (kc_Pre D cx (wX cx aX aH aI aS aT ak aC aD (aC 0) (aD 0) aG db dn ql qf qz qi sp s1 s2 s3 s4 s5 sP sC sH tl kl kf cv cc cm ch dv dc dm dh gw gh gk gq gr gj gR gT gC) [.ref (aX 0), .int x1] sz) (kc_Pi D (fun _ : Unit => (wX cx aX aH aI aS aT ak aC aD (aC 0) (aD 0) aG db dn ql qf qz qi sp s1 s2 s3 s4 s5 sP sC sH tl kl kf cv cc cm ch dv dc dm dh gw gh gk gq gr gj gR gT gC)) v (va_A (wX cx aX aH aI aS aT ak aC aD (aC 0) (aD 0) aG db dn ql qf qz qi sp s1 s2 s3 s4 s5 sP sC sH tl kl kf cv cc cm ch dv dc dm dh gw gh gk gq gr gj gR gT gC) sz)) 0 0 (va_A (wX cx aX aH aI aS aT ak aC aD (aC 0) (aD 0) aG db dn ql qf qz qi sp s1 s2 s3 s4 s5 sP sC sH tl kl kf cv cc cm ch dv dc dm dh gw gh gk gq gr gj gR gT gC) sz) := by
  refine kc_entry (Qc := fun A => (kc_Pi D (fun _ : Unit => (wX cx aX aH aI aS aT ak aC aD (aC 0) (aD 0) aG db dn ql qf qz qi sp s1 s2 s3 s4 s5 sP sC sH tl kl kf cv cc cm ch dv dc dm dh gw gh gk gq gr gj gR gT gC)) v A)) (by decide) (Nat.le_of_ble_eq_true rfl) ?_
  intro p e s m below meth c A hx hb hr hk hml hown hin hts hN hK hP hD hS hA ls hl
  have hown : s.vm.findClass RX4 = some m.cls := hown
  have hl : lv_has ls 2 [(0, .ref (aX 0)), (1, .int x1)] := hl
  unfold fX4_won at hf
  have hP : va_P D classes (wX cx aX aH aI aS aT ak aC aD (aC 0) (aD 0) aG db dn ql qf qz qi sp s1 s2 s3 s4 s5 sP sC sH tl kl kf cv cc cm ch dv dc dm dh gw gh gk gq gr gj gR gT gC) s.heap := hP
  obtain ⟨H, hH⟩ : ∃ H, H = s.heap := ⟨_, rfl⟩
  obtain ⟨locs, hL⟩ : ∃ locs : List Loc, locs = [] := ⟨_, rfl⟩
  have hS : va_S A s.heap H locs := by rw [hH, hL]; exact hS
  have hP : va_P D classes (wX cx aX aH aI aS aT ak aC aD (aC 0) (aD 0) aG db dn ql qf qz qi sp s1 s2 s3 s4 s5 sP sC sH tl kl kf cv cc cm ch dv dc dm dh gw gh gk gq gr gj gR gT gC) H := by rw [hH]; exact hP
  suffices hW : W p l e rmX4_won s m ([.ref (aX 0), .int x1] : List Value).toArray below meth c H locs 0 0 (MQ below (kc_Pi D (fun _ : Unit => (wX cx aX aH aI aS aT ak aC aD (aC 0) (aD 0) aG db dn ql qf qz qi sp s1 s2 s3 s4 s5 sP sC sH tl kl kf cv cc cm ch dv dc dm dh gw gh gk gq gr gj gR gT gC)) v A) ([.ref (aX 0), .int x1] : List Value).toArray s 0 0 A) (F0 m 0 ls []) by rw [hH, hL] at hW; exact hW
  clear hH hL
  refine lv_aload_n hx hb dX4_won_0 rfl (lv_at hl 0 rfl) ?_
  refine va_get (D := D) (ci := 4) (v := .ref (aC 0)) (C := RX4) (T := TX4) (N := 7) hx hb hts iX4 hown hK hP 0 rfl rfl 3 (by decide) (hts _ wd_229) (fun _ h9 => h9) rfl dX4_won_1 ?_
  obtain ⟨u8, hg, hf⟩ := ob_s hf
  refine kc_calli (wn := fun _ => (wX cx aX aH aI aS aT ak aC aD (aC 0) (aD 0) aG db dn ql qf qz qi sp s1 s2 s3 s4 s5 sP sC sH tl kl kf cv cc cm ch dv dc dm dh gw gh gk gq gr gj gR gT gC)) (va_runV (As := []) (rest := []) ⟨hx, hb, hml, hown, hts⟩ (metX0_state l D cx aC aG cv cc cm ch gw gh gk gq gr gj gR gT gC  N H.size u8 hg) ⟨callB_of 0 hts (kc_gI wd_280) rfl rfl rfl (hts _ wd_44) (hts _ wd_323) (by decide +kernel) ⟨Nat.le_of_ble_eq_true rfl, Nat.le_of_ble_eq_true rfl⟩, hts _ wd_278, hts _ wd_279⟩ ⟨kc_blind _ _ _ _ _, va_recv hK hP (ci := 0) (q0 := 21) rfl rfl, kc_pre _ hK hN (hP.sub [21, 22, 23, 24, 29, 30, 31, 32] rfl) (hD.sub [21, 22, 23, 24, 29, 30, 31, 32] (by decide) rfl)⟩ rfl rfl hl.1 rfl (lv_room (Nat.le_of_ble_eq_true rfl)) dX4_won_4 ⟨Nat.zero_le _, Nat.zero_le _⟩) hP hD hS hA [21, 22, 23, 24, 29, 30, 31, 32] [0, 1, 2, 3, 4, 5, 6, 7, 8, 9, 10, 11, 12, 13, 14, 15, 16, 17, 18, 19, 20, 25, 26, 27, 28] [0, 1, 2, 3, 4, 5, 6, 7, 8, 9, 10, 11, 12, 13, 14, 15, 16, 17, 18, 19, 20, 25, 26, 27, 28, 21, 22, 23, 24, 29, 30, 31, 32] rfl rfl (by decide) (by decide) (fun _ => rfl) (by decide) (fun _ H locs hP hD hS => ?_)
  have hP : va_P D classes (wX cx aX aH aI aS aT ak aC aD (aC 0) (aD 0) aG db dn ql qf qz qi sp s1 s2 s3 s4 s5 sP sC sH tl kl kf cv cc cm ch dv dc dm dh gw gh gk gq gr gj gR gT gC) H := hP
  have hD : va_D A (wX cx aX aH aI aS aT ak aC aD (aC 0) (aD 0) aG db dn ql qf qz qi sp s1 s2 s3 s4 s5 sP sC sH tl kl kf cv cc cm ch dv dc dm dh gw gh gk gq gr gj gR gT gC) := hD
  refine lv_iconst (v := (1 : Int32)) hx hb dX4_won_7 (by decide) ?_
  refine lv_icmp_ne (tgt := 28) hx hb dX4_won_8 (by decide) (fun c9 => ?_) (fun c9 => ?_)
  · replace hf := it_f c9 hf
    refine lv_sipush (v := (-200 : Int32)) hx hb dX4_won_28 (by decide) ?_
    obtain rfl := Option.some.inj hf
    exact kc_iret () hx hb hr hk hP hD hS rfl dX4_won_31
  · replace hf := it_t c9 hf
    refine lv_iload_n hx hb dX4_won_11 rfl (lv_at hl 1 rfl) ?_
    refine lv_iconst (v := (0 : Int32)) hx hb dX4_won_12 (by decide) ?_
    refine lv_aload_n hx hb dX4_won_13 rfl (lv_at hl 0 rfl) ?_
    refine va_get (D := D) (ci := 4) (v := .ref (aG 0)) (C := RX4) (T := TX4) (N := 7) hx hb hts iX4 hown hK hP 0 rfl rfl 0 (by decide) (hts _ wd_226) (fun _ h9 => h9) rfl dX4_won_14 ?_
    refine va_get (D := D) (ci := 1) (v := .int gk) (C := RX1) (T := TX1) (N := 9) hx hb hts iX1 hown hK hP 29 rfl rfl 2 (by decide) (hts _ wd_73) (fun _ h9 => h9) rfl dX4_won_17 ?_
    refine lv_iconst (v := (1 : Int32)) hx hb dX4_won_20 (by decide) ?_
    refine lv_isub hx hb dX4_won_21 ?_
    obtain ⟨u10, hg, hf⟩ := ob_s hf
    refine kc_calli (wn := fun _ => (wX cx aX aH aI aS aT ak aC aD (aC 0) (aD 0) aG db dn ql qf qz qi sp s1 s2 s3 s4 s5 sP sC sH tl kl kf cv cc cm ch dv dc dm dh gw gh gk gq gr gj gR gT gC)) (va_runS (As := [.int x1, .int (0 : Int32), .int (gk - (1 : Int32))]) (rest := []) ⟨hx, hb, hml, hown, hts⟩ (metX4_isWithin l D cx   x1 (0 : Int32) (gk - (1 : Int32)) N H.size u10 hg) ⟨callB_of 3 hts (kc_gI wd_254) rfl rfl rfl (hts _ wd_40) (hts _ wd_252) (by decide +kernel) ⟨Nat.le_of_ble_eq_true rfl, Nat.le_of_ble_eq_true rfl⟩, hts _ wd_253⟩ ⟨kc_blind _ _ _ _ _, kc_pre _ hK hN (hP.sub [] rfl) (hD.sub [] (by decide) rfl)⟩ rfl rfl hl.1 rfl (lv_room (Nat.le_of_ble_eq_true rfl)) dX4_won_22 ⟨Nat.zero_le _, Nat.zero_le _⟩) hP hD hS hA [] [0, 1, 2, 3, 4, 5, 6, 7, 8, 9, 10, 11, 12, 13, 14, 15, 16, 17, 18, 19, 20, 21, 22, 23, 24, 25, 26, 27, 28, 29, 30, 31, 32] [0, 1, 2, 3, 4, 5, 6, 7, 8, 9, 10, 11, 12, 13, 14, 15, 16, 17, 18, 19, 20, 21, 22, 23, 24, 25, 26, 27, 28, 29, 30, 31, 32] rfl rfl (by decide) (by decide) (fun _ => rfl) (by decide) (fun _ H locs hP hD hS => ?_)
    have hP : va_P D classes (wX cx aX aH aI aS aT ak aC aD (aC 0) (aD 0) aG db dn ql qf qz qi sp s1 s2 s3 s4 s5 sP sC sH tl kl kf cv cc cm ch dv dc dm dh gw gh gk gq gr gj gR gT gC) H := hP
    have hD : va_D A (wX cx aX aH aI aS aT ak aC aD (aC 0) (aD 0) aG db dn ql qf qz qi sp s1 s2 s3 s4 s5 sP sC sH tl kl kf cv cc cm ch dv dc dm dh gw gh gk gq gr gj gR gT gC) := hD
    refine lv_if_ne (tgt := 32) hx hb dX4_won_25 (by decide) (fun c11 => ?_) (fun c11 => ?_)
    · replace hf := it_f c11 hf
      refine lv_aload_n hx hb dX4_won_32 rfl (lv_at hl 0 rfl) ?_
      refine va_get (D := D) (ci := 4) (v := .ref (aG 0)) (C := RX4) (T := TX4) (N := 7) hx hb hts iX4 hown hK hP 0 rfl rfl 0 (by decide) (hts _ wd_226) (fun _ h9 => h9) rfl dX4_won_33 ?_
      refine lv_aload_n hx hb dX4_won_36 rfl (lv_at hl 0 rfl) ?_
      refine va_get (D := D) (ci := 4) (v := .ref (aC 0)) (C := RX4) (T := TX4) (N := 7) hx hb hts iX4 hown hK hP 0 rfl rfl 3 (by decide) (hts _ wd_229) (fun _ h9 => h9) rfl dX4_won_37 ?_
      refine va_get (D := D) (ci := 0) (v := .ref (aC 2)) (C := RX0) (T := TX0) (N := 5) hx hb hts iX0 hown hK hP 21 rfl rfl 2 (by decide) (hts _ wd_186) (fun _ h9 => h9) rfl dX4_won_40 ?_
      refine lv_iconst (v := (1 : Int32)) hx hb dX4_won_43 (by decide) ?_
      refine lv_aload_n hx hb dX4_won_44 rfl (lv_at hl 0 rfl) ?_
      refine va_get (D := D) (ci := 4) (v := .ref (aC 0)) (C := RX4) (T := TX4) (N := 7) hx hb hts iX4 hown hK hP 0 rfl rfl 3 (by decide) (hts _ wd_229) (fun _ h9 => h9) rfl dX4_won_45 ?_
      obtain ⟨u12, hg, hf⟩ := ob_s hf
      refine kc_calli (wn := fun _ => (wX cx aX aH aI aS aT ak aC aD (aC 0) (aD 0) aG db dn ql qf qz qi sp s1 s2 s3 s4 s5 sP sC sH tl kl kf cv cc cm ch dv dc dm dh gw gh gk gq gr gj gR gT gC)) (va_runV (As := []) (rest := [.int (1 : Int32), .ref (aC 2), .ref (aG 0)]) ⟨hx, hb, hml, hown, hts⟩ (metX0_side l D cx aC aG cv cc cm ch gw gh gk gq gr gj gR gT gC  N H.size u12 hg) ⟨callB_of 0 hts (kc_gI wd_284) rfl rfl rfl (hts _ wd_44) (hts _ wd_322) (by decide +kernel) ⟨Nat.le_of_ble_eq_true rfl, Nat.le_of_ble_eq_true rfl⟩, hts _ wd_282, hts _ wd_283⟩ ⟨kc_blind _ _ _ _ _, va_recv hK hP (ci := 0) (q0 := 21) rfl rfl, kc_pre _ hK hN (hP.sub [21, 22, 23, 24, 29, 30, 31, 32] rfl) (hD.sub [21, 22, 23, 24, 29, 30, 31, 32] (by decide) rfl)⟩ rfl rfl hl.1 rfl (lv_room (Nat.le_of_ble_eq_true rfl)) dX4_won_48 ⟨Nat.zero_le _, Nat.zero_le _⟩) hP hD hS hA [21, 22, 23, 24, 29, 30, 31, 32] [0, 1, 2, 3, 4, 5, 6, 7, 8, 9, 10, 11, 12, 13, 14, 15, 16, 17, 18, 19, 20, 25, 26, 27, 28] [0, 1, 2, 3, 4, 5, 6, 7, 8, 9, 10, 11, 12, 13, 14, 15, 16, 17, 18, 19, 20, 25, 26, 27, 28, 21, 22, 23, 24, 29, 30, 31, 32] rfl rfl (by decide) (by decide) (fun _ => rfl) (by decide) (fun _ H locs hP hD hS => ?_)
      have hP : va_P D classes (wX cx aX aH aI aS aT ak aC aD (aC 0) (aD 0) aG db dn ql qf qz qi sp s1 s2 s3 s4 s5 sP sC sH tl kl kf cv cc cm ch dv dc dm dh gw gh gk gq gr gj gR gT gC) H := hP
      have hD : va_D A (wX cx aX aH aI aS aT ak aC aD (aC 0) (aD 0) aG db dn ql qf qz qi sp s1 s2 s3 s4 s5 sP sC sH tl kl kf cv cc cm ch dv dc dm dh gw gh gk gq gr gj gR gT gC) := hD
      refine lv_isub hx hb dX4_won_51 ?_
      obtain ⟨hz, hf⟩ := okb_s hf
      refine va_iald (D := D) hx hb hK hP 23 0 rfl rfl (inb_s hz) dX4_won_52 ?_
      obtain ⟨u13, hg, hf⟩ := ob_s hf
      refine kc_calli (wn := fun _ => (wX cx aX aH aI aS aT ak aC aD (aC 0) (aD 0) aG db dn ql qf qz qi sp s1 s2 s3 s4 s5 sP sC sH tl kl kf cv cc cm ch dv dc dm dh gw gh gk gq gr gj gR gT gC)) (va_runV (As := [.int (cm ((1 : Int32) - u12).toNatClampNeg)]) (rest := []) ⟨hx, hb, hml, hown, hts⟩ (metX1_firstRowOf l D cx aG gw gh gk gq gr gj gR gT gC (cm ((1 : Int32) - u12).toNatClampNeg) N H.size u13 hg) ⟨callB_of 1 hts (kc_gI wd_339) rfl rfl rfl (hts _ wd_41) (hts _ wd_336) (by decide +kernel) ⟨Nat.le_of_ble_eq_true rfl, Nat.le_of_ble_eq_true rfl⟩, hts _ wd_337, hts _ wd_338⟩ ⟨kc_blind _ _ _ _ _, va_recv hK hP (ci := 1) (q0 := 29) rfl rfl, kc_pre _ hK hN (hP.sub [29, 30, 31, 32] rfl) (hD.sub [29, 30, 31, 32] (by decide) rfl)⟩ rfl rfl hl.1 rfl (lv_room (Nat.le_of_ble_eq_true rfl)) dX4_won_53 ⟨Nat.zero_le _, Nat.zero_le _⟩) hP hD hS hA [29, 30, 31, 32] [0, 1, 2, 3, 4, 5, 6, 7, 8, 9, 10, 11, 12, 13, 14, 15, 16, 17, 18, 19, 20, 21, 22, 23, 24, 25, 26, 27, 28] [0, 1, 2, 3, 4, 5, 6, 7, 8, 9, 10, 11, 12, 13, 14, 15, 16, 17, 18, 19, 20, 21, 22, 23, 24, 25, 26, 27, 28, 29, 30, 31, 32] rfl rfl (by decide) (by decide) (fun _ => rfl) (by decide) (fun _ H locs hP hD hS => ?_)
      have hP : va_P D classes (wX cx aX aH aI aS aT ak aC aD (aC 0) (aD 0) aG db dn ql qf qz qi sp s1 s2 s3 s4 s5 sP sC sH tl kl kf cv cc cm ch dv dc dm dh gw gh gk gq gr gj gR gT gC) H := hP
      have hD : va_D A (wX cx aX aH aI aS aT ak aC aD (aC 0) (aD 0) aG db dn ql qf qz qi sp s1 s2 s3 s4 s5 sP sC sH tl kl kf cv cc cm ch dv dc dm dh gw gh gk gq gr gj gR gT gC) := hD
      refine lv_iload_n hx hb dX4_won_56 rfl (lv_at hl 1 rfl) ?_
      obtain ⟨u14, hg, hf⟩ := ob_s hf
      refine kc_calli (wn := fun _ => (wX cx aX aH aI aS aT ak aC aD (aC 0) (aD 0) aG db dn ql qf qz qi sp s1 s2 s3 s4 s5 sP sC sH tl kl kf cv cc cm ch dv dc dm dh gw gh gk gq gr gj gR gT gC)) (va_runS (As := [.int u13, .int x1]) (rest := []) ⟨hx, hb, hml, hown, hts⟩ (metX4_nthSquare l D cx   u13 x1 N H.size u14 hg) ⟨callB_of 2 hts (kc_gI wd_345) rfl rfl rfl (hts _ wd_40) (hts _ wd_343) (by decide +kernel) ⟨Nat.le_of_ble_eq_true rfl, Nat.le_of_ble_eq_true rfl⟩, hts _ wd_344⟩ ⟨kc_blind _ _ _ _ _, kc_pre _ hK hN (hP.sub [] rfl) (hD.sub [] (by decide) rfl)⟩ rfl rfl hl.1 rfl (lv_room (Nat.le_of_ble_eq_true rfl)) dX4_won_57 ⟨Nat.zero_le _, Nat.zero_le _⟩) hP hD hS hA [] [0, 1, 2, 3, 4, 5, 6, 7, 8, 9, 10, 11, 12, 13, 14, 15, 16, 17, 18, 19, 20, 21, 22, 23, 24, 25, 26, 27, 28, 29, 30, 31, 32] [0, 1, 2, 3, 4, 5, 6, 7, 8, 9, 10, 11, 12, 13, 14, 15, 16, 17, 18, 19, 20, 21, 22, 23, 24, 25, 26, 27, 28, 29, 30, 31, 32] rfl rfl (by decide) (by decide) (fun _ => rfl) (by decide) (fun _ H locs hP hD hS => ?_)
      have hP : va_P D classes (wX cx aX aH aI aS aT ak aC aD (aC 0) (aD 0) aG db dn ql qf qz qi sp s1 s2 s3 s4 s5 sP sC sH tl kl kf cv cc cm ch dv dc dm dh gw gh gk gq gr gj gR gT gC) H := hP
      have hD : va_D A (wX cx aX aH aI aS aT ak aC aD (aC 0) (aD 0) aG db dn ql qf qz qi sp s1 s2 s3 s4 s5 sP sC sH tl kl kf cv cc cm ch dv dc dm dh gw gh gk gq gr gj gR gT gC) := hD
      obtain rfl := Option.some.inj hf
      exact kc_iret () hx hb hr hk hP hD hS rfl dX4_won_60
    · replace hf := it_t c11 hf
      refine lv_sipush (v := (-200 : Int32)) hx hb dX4_won_28 (by decide) ?_
      obtain rfl := Option.some.inj hf
      exact kc_iret () hx hb hr hk hP hD hS rfl dX4_won_31
abbrev rmX4_worth (ka sa : Nat) : Room := { frames := 52, cells := ka, slots := sa, locals := 2049 }
set_option maxHeartbeats 4000000 in
set_option maxRecDepth 100000 in
theorem metX4_worth (l : Launch) (D : va_G) (cx : Nat → ClassId) (aX : Nat → Nat) (aH : Nat → Nat) (aI : Nat → Nat) (aS : Nat → Nat) (aT : Nat → Nat) (ak : Nat) (aC : Nat → Nat) (aD : Nat → Nat) (aG : Nat → Nat) (db : Int32) (dn : Int32) (ql : Nat → Int32) (qf : Nat → Int32) (qz : Nat → Int32) (qi : Nat → Nat → Int32) (sp : Int32) (s1 : Int32) (s2 : Int32) (s3 : Int32) (s4 : Int32) (s5 : Int32) (sP : Nat → Int32) (sC : Nat → Int32) (sH : Nat → Int32) (tl : Nat → Nat → Int32) (kl : Nat) (kf : Nat → Int64) (cv : Int32) (cc : Nat → Int32) (cm : Nat → Int32) (ch : Nat → Int32) (dv : Int32) (dc : Nat → Int32) (dm : Nat → Int32) (dh : Nat → Int32) (gw : Int32) (gh : Int32) (gk : Int32) (gq : Int32) (gr : Int32) (gj : Int32) (gR : Nat → Int32) (gT : Nat → Int32) (gC : Nat → Int32)  (N : Nat) (sz : Nat) (v : Int32 × Int32 × Int32 × Int32 × Int32 × Int32 × Int32 × (Nat → Int32) × (Nat → Int32) × (Nat → Int32) × (Nat → Nat → Int32) × Nat × (Nat → Int64)) (hf : fX4_worth N sp s1 s2 s3 s4 s5 sP sC sH tl kl kf cv cc cm gw gh gq gr gR gT gC = some v) (ka sa : Nat) (hk9 : ∀ (u6 : Int32), fX0_isOver N cv cm gq gr gR = some u6 → (u6 = 0) → (az sp ≤ ka ∧ azs sp ≤ sa)) : Met l yX4_worth (.code yX4_worth cX4_worth 1 (some .int) :: kc_TB) (rmX4_worth ka sa) (kc_Pre D cx (wX cx aX aH aI aS aT ak aC aD (aC 0) (aD 0) aG db dn ql qf qz qi sp s1 s2 s3 s4 s5 sP sC sH tl kl kf cv cc cm ch dv dc dm dh gw gh gk gq gr gj gR gT gC) [.ref (aX 0)] sz) (kc_Pi D (fun ak : Nat => (wX cx aX aH aI aS aT ak aC aD (aC 0) (aD 0) aG db dn ql qf qz qi v.2.1 v.2.2.1 v.2.2.2.1 v.2.2.2.2.1 v.2.2.2.2.2.1 v.2.2.2.2.2.2.1 v.2.2.2.2.2.2.2.1 v.2.2.2.2.2.2.2.2.1 v.2.2.2.2.2.2.2.2.2.1 v.2.2.2.2.2.2.2.2.2.2.1 v.2.2.2.2.2.2.2.2.2.2.2.1 v.2.2.2.2.2.2.2.2.2.2.2.2 cv cc cm ch dv dc dm dh gw gh gk gq gr gj gR gT gC)) v.1 (va_A (wX cx aX aH aI aS aT ak aC aD (aC 0) (aD 0) aG db dn ql qf qz qi sp s1 s2 s3 s4 s5 sP sC sH tl kl kf cv cc cm ch dv dc dm dh gw gh gk gq gr gj gR gT gC) sz)) ka sa (va_A (wX cx aX aH aI aS aT ak aC aD (aC 0) (aD 0) aG db dn ql qf qz qi sp s1 s2 s3 s4 s5 sP sC sH tl kl kf cv cc cm ch dv dc dm dh gw gh gk gq gr gj gR gT gC) sz) := by
  refine kc_entry (Qc := fun A => (kc_Pi D (fun ak : Nat => (wX cx aX aH aI aS aT ak aC aD (aC 0) (aD 0) aG db dn ql qf qz qi v.2.1 v.2.2.1 v.2.2.2.1 v.2.2.2.2.1 v.2.2.2.2.2.1 v.2.2.2.2.2.2.1 v.2.2.2.2.2.2.2.1 v.2.2.2.2.2.2.2.2.1 v.2.2.2.2.2.2.2.2.2.1 v.2.2.2.2.2.2.2.2.2.2.1 v.2.2.2.2.2.2.2.2.2.2.2.1 v.2.2.2.2.2.2.2.2.2.2.2.2 cv cc cm ch dv dc dm dh gw gh gk gq gr gj gR gT gC)) v.1 A)) (by decide) (Nat.le_of_ble_eq_true rfl) ?_
  intro p e s m below meth c A hx hb hr hk hml hown hin hts hN hK hP hD hS hA ls hl
  have hown : s.vm.findClass RX4 = some m.cls := hown
  have hl : lv_has ls 1 [(0, .ref (aX 0))] := hl
  unfold fX4_worth at hf
  have hP : va_P D classes (wX cx aX aH aI aS aT ak aC aD (aC 0) (aD 0) aG db dn ql qf qz qi sp s1 s2 s3 s4 s5 sP sC sH tl kl kf cv cc cm ch dv dc dm dh gw gh gk gq gr gj gR gT gC) s.heap := hP
  obtain ⟨H, hH⟩ : ∃ H, H = s.heap := ⟨_, rfl⟩
  obtain ⟨locs, hL⟩ : ∃ locs : List Loc, locs = [] := ⟨_, rfl⟩
  have hS : va_S A s.heap H locs := by rw [hH, hL]; exact hS
  have hP : va_P D classes (wX cx aX aH aI aS aT ak aC aD (aC 0) (aD 0) aG db dn ql qf qz qi sp s1 s2 s3 s4 s5 sP sC sH tl kl kf cv cc cm ch dv dc dm dh gw gh gk gq gr gj gR gT gC) H := by rw [hH]; exact hP
  suffices hW : W p l e (rmX4_worth ka sa) s m ([.ref (aX 0)] : List Value).toArray below meth c H locs 0 0 (MQ below (kc_Pi D (fun ak : Nat => (wX cx aX aH aI aS aT ak aC aD (aC 0) (aD 0) aG db dn ql qf qz qi v.2.1 v.2.2.1 v.2.2.2.1 v.2.2.2.2.1 v.2.2.2.2.2.1 v.2.2.2.2.2.2.1 v.2.2.2.2.2.2.2.1 v.2.2.2.2.2.2.2.2.1 v.2.2.2.2.2.2.2.2.2.1 v.2.2.2.2.2.2.2.2.2.2.1 v.2.2.2.2.2.2.2.2.2.2.2.1 v.2.2.2.2.2.2.2.2.2.2.2.2 cv cc cm ch dv dc dm dh gw gh gk gq gr gj gR gT gC)) v.1 A) ([.ref (aX 0)] : List Value).toArray s ka sa A) (F0 m 0 ls []) by rw [hH, hL] at hW; exact hW
  clear hH hL
  refine lv_aload_n hx hb dX4_worth_0 rfl (lv_at hl 0 rfl) ?_
  refine va_get (D := D) (ci := 4) (v := .ref (aC 0)) (C := RX4) (T := TX4) (N := 7) hx hb hts iX4 hown hK hP 0 rfl rfl 3 (by decide) (hts _ wd_229) (fun _ h9 => h9) rfl dX4_worth_1 ?_
  obtain ⟨u6, hu6, hf⟩ := ob_s hf
  refine kc_calli (wn := fun _ => (wX cx aX aH aI aS aT ak aC aD (aC 0) (aD 0) aG db dn ql qf qz qi sp s1 s2 s3 s4 s5 sP sC sH tl kl kf cv cc cm ch dv dc dm dh gw gh gk gq gr gj gR gT gC)) (va_runV (As := []) (rest := []) ⟨hx, hb, hml, hown, hts⟩ (metX0_isOver l D cx aC aG cv cc cm ch gw gh gk gq gr gj gR gT gC  N H.size u6 hu6) ⟨callB_of 0 hts (kc_gI wd_276) rfl rfl rfl (hts _ wd_44) (hts _ wd_273) (by decide +kernel) ⟨Nat.le_of_ble_eq_true rfl, Nat.le_of_ble_eq_true rfl⟩, hts _ wd_274, hts _ wd_275⟩ ⟨kc_blind _ _ _ _ _, va_recv hK hP (ci := 0) (q0 := 21) rfl rfl, kc_pre _ hK hN (hP.sub [21, 22, 23, 24, 29, 30, 31, 32] rfl) (hD.sub [21, 22, 23, 24, 29, 30, 31, 32] (by decide) rfl)⟩ rfl rfl hl.1 rfl (lv_room (Nat.le_of_ble_eq_true rfl)) dX4_worth_4 ⟨Nat.zero_le _, Nat.zero_le _⟩) hP hD hS hA [21, 22, 23, 24, 29, 30, 31, 32] [0, 1, 2, 3, 4, 5, 6, 7, 8, 9, 10, 11, 12, 13, 14, 15, 16, 17, 18, 19, 20, 25, 26, 27, 28] [0, 1, 2, 3, 4, 5, 6, 7, 8, 9, 10, 11, 12, 13, 14, 15, 16, 17, 18, 19, 20, 25, 26, 27, 28, 21, 22, 23, 24, 29, 30, 31, 32] rfl rfl (by decide) (by decide) (fun _ => rfl) (by decide) (fun _ H locs hP hD hS => ?_)
  have hP : va_P D classes (wX cx aX aH aI aS aT ak aC aD (aC 0) (aD 0) aG db dn ql qf qz qi sp s1 s2 s3 s4 s5 sP sC sH tl kl kf cv cc cm ch dv dc dm dh gw gh gk gq gr gj gR gT gC) H := hP
  have hD : va_D A (wX cx aX aH aI aS aT ak aC aD (aC 0) (aD 0) aG db dn ql qf qz qi sp s1 s2 s3 s4 s5 sP sC sH tl kl kf cv cc cm ch dv dc dm dh gw gh gk gq gr gj gR gT gC) := hD
  refine lv_if_eq (tgt := 14) hx hb dX4_worth_7 (by decide) (fun c7 => ?_) (fun c7 => ?_)
  · replace hf := it_t c7 hf
    refine lv_aload_n hx hb dX4_worth_14 rfl (lv_at hl 0 rfl) ?_
    refine va_get (D := D) (ci := 4) (v := .ref (aS 0)) (C := RX4) (T := TX4) (N := 7) hx hb hts iX4 hown hK hP 0 rfl rfl 1 (by decide) (hts _ wd_227) (fun _ h9 => h9) rfl dX4_worth_15 ?_
    refine lv_aload_n hx hb dX4_worth_18 rfl (lv_at hl 0 rfl) ?_
    refine va_get (D := D) (ci := 4) (v := .ref (aC 0)) (C := RX4) (T := TX4) (N := 7) hx hb hts iX4 hown hK hP 0 rfl rfl 3 (by decide) (hts _ wd_229) (fun _ h9 => h9) rfl dX4_worth_19 ?_
    have hka := hk9 u6 hu6 c7
    obtain ⟨u8, hu8, hf⟩ := ob_s hf
    refine kc_callv (wn := fun ak9 => (wX cx aX aH aI aS aT ak9 aC aD (aC 0) (aD 0) aG db dn ql qf qz qi u8.1 u8.2.1 u8.2.2.1 u8.2.2.2.1 u8.2.2.2.2.1 u8.2.2.2.2.2.1 u8.2.2.2.2.2.2.1 u8.2.2.2.2.2.2.2.1 u8.2.2.2.2.2.2.2.2.1 u8.2.2.2.2.2.2.2.2.2.1 u8.2.2.2.2.2.2.2.2.2.2.1 u8.2.2.2.2.2.2.2.2.2.2.2 cv cc cm ch dv dc dm dh gw gh gk gq gr gj gR gT gC)) (va_runV (As := [.ref (aC 0)]) (rest := []) ⟨hx, hb, hml, hown, hts⟩ (metX3_start l D cx aS aT ak aC aG sp s1 s2 s3 s4 s5 sP sC sH tl kl kf cv cc cm ch gw gh gk gq gr gj gR gT gC  N H.size u8 hu8) ⟨callB_of 1 hts (kc_gI wd_359) rfl rfl rfl (hts _ wd_43) (hts _ wd_356) (by decide +kernel) ⟨Nat.le_of_ble_eq_true rfl, Nat.le_of_ble_eq_true rfl⟩, hts _ wd_357, hts _ wd_358⟩ ⟨kc_blind _ _ _ _ _, va_recv hK hP (ci := 3) (q0 := 10) rfl rfl, kc_pre _ hK hN (hP.sub [10, 11, 12, 13, 14, 15, 16, 17, 18, 19, 20, 21, 22, 23, 24, 29, 30, 31, 32] rfl) (hD.sub [10, 11, 12, 13, 14, 15, 16, 17, 18, 19, 20, 21, 22, 23, 24, 29, 30, 31, 32] (by decide) rfl)⟩ rfl rfl hl.1 rfl (lv_room (Nat.le_of_ble_eq_true rfl)) dX4_worth_22 ⟨(by show 0 + az sp ≤ ka; omega), (by show 0 + azs sp ≤ sa; omega)⟩) hP hD hS hA [10, 11, 12, 13, 14, 15, 16, 17, 18, 19, 20, 21, 22, 23, 24, 29, 30, 31, 32] [0, 1, 2, 3, 4, 5, 6, 7, 8, 9, 25, 26, 27, 28] [0, 1, 2, 3, 4, 5, 6, 7, 8, 9, 14, 15, 16, 17, 18, 19, 20, 21, 22, 23, 24, 25, 26, 27, 28, 10, 11, 12, 13, 29, 30, 31, 32] rfl rfl (by decide) (by decide) (fun _ => rfl) (by decide) (fun ak9 H locs hP hD hS => ?_)
    have hP : va_P D classes (wX cx aX aH aI aS aT ak9 aC aD (aC 0) (aD 0) aG db dn ql qf qz qi u8.1 u8.2.1 u8.2.2.1 u8.2.2.2.1 u8.2.2.2.2.1 u8.2.2.2.2.2.1 u8.2.2.2.2.2.2.1 u8.2.2.2.2.2.2.2.1 u8.2.2.2.2.2.2.2.2.1 u8.2.2.2.2.2.2.2.2.2.1 u8.2.2.2.2.2.2.2.2.2.2.1 u8.2.2.2.2.2.2.2.2.2.2.2 cv cc cm ch dv dc dm dh gw gh gk gq gr gj gR gT gC) H := hP
    have hD : va_D A (wX cx aX aH aI aS aT ak9 aC aD (aC 0) (aD 0) aG db dn ql qf qz qi u8.1 u8.2.1 u8.2.2.1 u8.2.2.2.1 u8.2.2.2.2.1 u8.2.2.2.2.2.1 u8.2.2.2.2.2.2.1 u8.2.2.2.2.2.2.2.1 u8.2.2.2.2.2.2.2.2.1 u8.2.2.2.2.2.2.2.2.2.1 u8.2.2.2.2.2.2.2.2.2.2.1 u8.2.2.2.2.2.2.2.2.2.2.2 cv cc cm ch dv dc dm dh gw gh gk gq gr gj gR gT gC) := hD
    refine W.widen (k := ka) (n := sa) (by omega) (by omega) ?_
    refine lv_aload_n hx hb dX4_worth_25 rfl (lv_at hl 0 rfl) ?_
    refine va_get (D := D) (ci := 4) (v := .ref (aS 0)) (C := RX4) (T := TX4) (N := 7) hx hb hts iX4 hown hK hP 0 rfl rfl 1 (by decide) (hts _ wd_227) (fun _ h9 => h9) rfl dX4_worth_26 ?_
    obtain ⟨u10, hu10, hf⟩ := ob_s hf
    refine kc_calli (wn := fun _ => (wX cx aX aH aI aS aT ak9 aC aD (aC 0) (aD 0) aG db dn ql qf qz qi u8.1 u8.2.1 u8.2.2.1 u8.2.2.2.1 u8.2.2.2.2.1 u8.2.2.2.2.2.1 u8.2.2.2.2.2.2.1 u10.2.1 u10.2.2.1 u10.2.2.2.1 u8.2.2.2.2.2.2.2.2.2.2.1 u10.2.2.2.2 cv cc cm ch dv dc dm dh gw gh gk gq gr gj gR gT gC)) (va_runV (As := []) (rest := []) ⟨hx, hb, hml, hown, hts⟩ (metX3_worthOfStart l D cx aS aT ak9 aG u8.1 u8.2.1 u8.2.2.1 u8.2.2.2.1 u8.2.2.2.2.1 u8.2.2.2.2.2.1 u8.2.2.2.2.2.2.1 u8.2.2.2.2.2.2.2.1 u8.2.2.2.2.2.2.2.2.1 u8.2.2.2.2.2.2.2.2.2.1 u8.2.2.2.2.2.2.2.2.2.2.1 u8.2.2.2.2.2.2.2.2.2.2.2 gw gh gk gq gr gj gR gT gC  N H.size u10 hu10) ⟨callB_of 0 hts (kc_gI wd_379) rfl rfl rfl (hts _ wd_43) (hts _ wd_376) (by decide +kernel) ⟨Nat.le_of_ble_eq_true rfl, Nat.le_of_ble_eq_true rfl⟩, hts _ wd_377, hts _ wd_378⟩ ⟨kc_blind _ _ _ _ _, va_recv hK hP (ci := 3) (q0 := 10) rfl rfl, kc_pre _ hK hN (hP.sub [10, 11, 12, 13, 14, 15, 16, 17, 18, 19, 20, 29, 30, 31, 32] rfl) (hD.sub [10, 11, 12, 13, 14, 15, 16, 17, 18, 19, 20, 29, 30, 31, 32] (by decide) rfl)⟩ rfl rfl hl.1 rfl (lv_room (Nat.le_of_ble_eq_true rfl)) dX4_worth_29 ⟨(by show ka + 0 ≤ ka; omega), (by show sa + 0 ≤ sa; omega)⟩) hP hD hS hA [10, 11, 12, 13, 14, 15, 16, 17, 18, 19, 20, 29, 30, 31, 32] [0, 1, 2, 3, 4, 5, 6, 7, 8, 9, 21, 22, 23, 24, 25, 26, 27, 28] [0, 1, 2, 3, 4, 5, 6, 7, 8, 9, 18, 19, 20, 21, 22, 23, 24, 25, 26, 27, 28, 10, 11, 12, 13, 14, 15, 16, 17, 29, 30, 31, 32] rfl rfl (by decide) (by decide) (fun _ => rfl) (by decide) (fun _ H locs hP hD hS => ?_)
    have hP : va_P D classes (wX cx aX aH aI aS aT ak9 aC aD (aC 0) (aD 0) aG db dn ql qf qz qi u8.1 u8.2.1 u8.2.2.1 u8.2.2.2.1 u8.2.2.2.2.1 u8.2.2.2.2.2.1 u8.2.2.2.2.2.2.1 u10.2.1 u10.2.2.1 u10.2.2.2.1 u8.2.2.2.2.2.2.2.2.2.2.1 u10.2.2.2.2 cv cc cm ch dv dc dm dh gw gh gk gq gr gj gR gT gC) H := hP
    have hD : va_D A (wX cx aX aH aI aS aT ak9 aC aD (aC 0) (aD 0) aG db dn ql qf qz qi u8.1 u8.2.1 u8.2.2.1 u8.2.2.2.1 u8.2.2.2.2.1 u8.2.2.2.2.2.1 u8.2.2.2.2.2.2.1 u10.2.1 u10.2.2.1 u10.2.2.2.1 u8.2.2.2.2.2.2.2.2.2.2.1 u10.2.2.2.2 cv cc cm ch dv dc dm dh gw gh gk gq gr gj gR gT gC) := hD
    refine W.widen (k := ka) (n := sa) (by omega) (by omega) ?_
    obtain rfl := Option.some.inj hf
    exact kc_iret (ak9) hx hb hr hk hP hD hS rfl dX4_worth_32
  · replace hf := it_f c7 hf
    refine lv_sipush (v := (-201 : Int32)) hx hb dX4_worth_10 (by decide) ?_
    obtain rfl := Option.some.inj hf
    refine W.widen (k := ka) (n := sa) (Nat.zero_le _) (Nat.zero_le _) ?_
    exact kc_iret (ak) hx hb hr hk hP hD hS rfl dX4_worth_13
abbrev rmX4_worthOf (ka sa : Nat) : Room := { frames := 53, cells := ka, slots := sa, locals := 2154 }
set_option maxHeartbeats 4000000 in
set_option maxRecDepth 100000 in
theorem metX4_worthOf (l : Launch) (D : va_G) (cx : Nat → ClassId) (aX : Nat → Nat) (aH : Nat → Nat) (aI : Nat → Nat) (aS : Nat → Nat) (aT : Nat → Nat) (ak : Nat) (aC : Nat → Nat) (aD : Nat → Nat) (aG : Nat → Nat) (db : Int32) (dn : Int32) (ql : Nat → Int32) (qf : Nat → Int32) (qz : Nat → Int32) (qi : Nat → Nat → Int32) (sp : Int32) (s1 : Int32) (s2 : Int32) (s3 : Int32) (s4 : Int32) (s5 : Int32) (sP : Nat → Int32) (sC : Nat → Int32) (sH : Nat → Int32) (tl : Nat → Nat → Int32) (kl : Nat) (kf : Nat → Int64) (cv : Int32) (cc : Nat → Int32) (cm : Nat → Int32) (ch : Nat → Int32) (dv : Int32) (dc : Nat → Int32) (dm : Nat → Int32) (dh : Nat → Int32) (gw : Int32) (gh : Int32) (gk : Int32) (gq : Int32) (gr : Int32) (gj : Int32) (gR : Nat → Int32) (gT : Nat → Int32) (gC : Nat → Int32) (x1 : Int32) (N : Nat) (sz : Nat) (v : Int32 × Int32 × Int32 × Int32 × Int32 × Int32 × Int32 × (Nat → Int32) × (Nat → Int32) × (Nat → Int32) × (Nat → Nat → Int32) × Nat × (Nat → Int64)) (hf : fX4_worthOf N sp s1 s2 s3 s4 s5 sP sC sH tl kl kf cv cc cm ch gw gh gq gr gR gT gC x1 = some v) (ka sa : Nat) (hk9 : ∀ (u8 : Int32), fX0_isOver N cv cm gq gr gR = some u8 → (u8 = 0) → ∀ (u10 : Int32), fX0_isOpen N ch gw gh x1 = some u10 → (¬ (u10 = 0)) → (az sp ≤ ka ∧ azs sp ≤ sa)) : Met l yX4_worthOf (.code yX4_worthOf cX4_worthOf 2 (some .int) :: kc_TB) (rmX4_worthOf ka sa) (kc_Pre D cx (wX cx aX aH aI aS aT ak aC aD (aC 0) (aD 0) aG db dn ql qf qz qi sp s1 s2 s3 s4 s5 sP sC sH tl kl kf cv cc cm ch dv dc dm dh gw gh gk gq gr gj gR gT gC) [.ref (aX 0), .int x1] sz) (kc_Pi D (fun ak : Nat => (wX cx aX aH aI aS aT ak aC aD (aC 0) (aD 0) aG db dn ql qf qz qi v.2.1 v.2.2.1 v.2.2.2.1 v.2.2.2.2.1 v.2.2.2.2.2.1 v.2.2.2.2.2.2.1 v.2.2.2.2.2.2.2.1 v.2.2.2.2.2.2.2.2.1 v.2.2.2.2.2.2.2.2.2.1 v.2.2.2.2.2.2.2.2.2.2.1 v.2.2.2.2.2.2.2.2.2.2.2.1 v.2.2.2.2.2.2.2.2.2.2.2.2 cv cc cm ch dv dc dm dh gw gh gk gq gr gj gR gT gC)) v.1 (va_A (wX cx aX aH aI aS aT ak aC aD (aC 0) (aD 0) aG db dn ql qf qz qi sp s1 s2 s3 s4 s5 sP sC sH tl kl kf cv cc cm ch dv dc dm dh gw gh gk gq gr gj gR gT gC) sz)) ka sa (va_A (wX cx aX aH aI aS aT ak aC aD (aC 0) (aD 0) aG db dn ql qf qz qi sp s1 s2 s3 s4 s5 sP sC sH tl kl kf cv cc cm ch dv dc dm dh gw gh gk gq gr gj gR gT gC) sz) := by
  refine kc_entry (Qc := fun A => (kc_Pi D (fun ak : Nat => (wX cx aX aH aI aS aT ak aC aD (aC 0) (aD 0) aG db dn ql qf qz qi v.2.1 v.2.2.1 v.2.2.2.1 v.2.2.2.2.1 v.2.2.2.2.2.1 v.2.2.2.2.2.2.1 v.2.2.2.2.2.2.2.1 v.2.2.2.2.2.2.2.2.1 v.2.2.2.2.2.2.2.2.2.1 v.2.2.2.2.2.2.2.2.2.2.1 v.2.2.2.2.2.2.2.2.2.2.2.1 v.2.2.2.2.2.2.2.2.2.2.2.2 cv cc cm ch dv dc dm dh gw gh gk gq gr gj gR gT gC)) v.1 A)) (by decide) (Nat.le_of_ble_eq_true rfl) ?_
  intro p e s m below meth c A hx hb hr hk hml hown hin hts hN hK hP hD hS hA ls hl
  have hown : s.vm.findClass RX4 = some m.cls := hown
  have hl : lv_has ls 2 [(0, .ref (aX 0)), (1, .int x1)] := hl
  unfold fX4_worthOf at hf
  have hP : va_P D classes (wX cx aX aH aI aS aT ak aC aD (aC 0) (aD 0) aG db dn ql qf qz qi sp s1 s2 s3 s4 s5 sP sC sH tl kl kf cv cc cm ch dv dc dm dh gw gh gk gq gr gj gR gT gC) s.heap := hP
  obtain ⟨H, hH⟩ : ∃ H, H = s.heap := ⟨_, rfl⟩
  obtain ⟨locs, hL⟩ : ∃ locs : List Loc, locs = [] := ⟨_, rfl⟩
  have hS : va_S A s.heap H locs := by rw [hH, hL]; exact hS
  have hP : va_P D classes (wX cx aX aH aI aS aT ak aC aD (aC 0) (aD 0) aG db dn ql qf qz qi sp s1 s2 s3 s4 s5 sP sC sH tl kl kf cv cc cm ch dv dc dm dh gw gh gk gq gr gj gR gT gC) H := by rw [hH]; exact hP
  suffices hW : W p l e (rmX4_worthOf ka sa) s m ([.ref (aX 0), .int x1] : List Value).toArray below meth c H locs 0 0 (MQ below (kc_Pi D (fun ak : Nat => (wX cx aX aH aI aS aT ak aC aD (aC 0) (aD 0) aG db dn ql qf qz qi v.2.1 v.2.2.1 v.2.2.2.1 v.2.2.2.2.1 v.2.2.2.2.2.1 v.2.2.2.2.2.2.1 v.2.2.2.2.2.2.2.1 v.2.2.2.2.2.2.2.2.1 v.2.2.2.2.2.2.2.2.2.1 v.2.2.2.2.2.2.2.2.2.2.1 v.2.2.2.2.2.2.2.2.2.2.2.1 v.2.2.2.2.2.2.2.2.2.2.2.2 cv cc cm ch dv dc dm dh gw gh gk gq gr gj gR gT gC)) v.1 A) ([.ref (aX 0), .int x1] : List Value).toArray s ka sa A) (F0 m 0 ls []) by rw [hH, hL] at hW; exact hW
  clear hH hL
  refine lv_aload_n hx hb dX4_worthOf_0 rfl (lv_at hl 0 rfl) ?_
  refine va_get (D := D) (ci := 4) (v := .ref (aC 0)) (C := RX4) (T := TX4) (N := 7) hx hb hts iX4 hown hK hP 0 rfl rfl 3 (by decide) (hts _ wd_229) (fun _ h9 => h9) rfl dX4_worthOf_1 ?_
  obtain ⟨u8, hu8, hf⟩ := ob_s hf
  refine kc_calli (wn := fun _ => (wX cx aX aH aI aS aT ak aC aD (aC 0) (aD 0) aG db dn ql qf qz qi sp s1 s2 s3 s4 s5 sP sC sH tl kl kf cv cc cm ch dv dc dm dh gw gh gk gq gr gj gR gT gC)) (va_runV (As := []) (rest := []) ⟨hx, hb, hml, hown, hts⟩ (metX0_isOver l D cx aC aG cv cc cm ch gw gh gk gq gr gj gR gT gC  N H.size u8 hu8) ⟨callB_of 0 hts (kc_gI wd_276) rfl rfl rfl (hts _ wd_44) (hts _ wd_273) (by decide +kernel) ⟨Nat.le_of_ble_eq_true rfl, Nat.le_of_ble_eq_true rfl⟩, hts _ wd_274, hts _ wd_275⟩ ⟨kc_blind _ _ _ _ _, va_recv hK hP (ci := 0) (q0 := 21) rfl rfl, kc_pre _ hK hN (hP.sub [21, 22, 23, 24, 29, 30, 31, 32] rfl) (hD.sub [21, 22, 23, 24, 29, 30, 31, 32] (by decide) rfl)⟩ rfl rfl hl.1 rfl (lv_room (Nat.le_of_ble_eq_true rfl)) dX4_worthOf_4 ⟨Nat.zero_le _, Nat.zero_le _⟩) hP hD hS hA [21, 22, 23, 24, 29, 30, 31, 32] [0, 1, 2, 3, 4, 5, 6, 7, 8, 9, 10, 11, 12, 13, 14, 15, 16, 17, 18, 19, 20, 25, 26, 27, 28] [0, 1, 2, 3, 4, 5, 6, 7, 8, 9, 10, 11, 12, 13, 14, 15, 16, 17, 18, 19, 20, 25, 26, 27, 28, 21, 22, 23, 24, 29, 30, 31, 32] rfl rfl (by decide) (by decide) (fun _ => rfl) (by decide) (fun _ H locs hP hD hS => ?_)
  have hP : va_P D classes (wX cx aX aH aI aS aT ak aC aD (aC 0) (aD 0) aG db dn ql qf qz qi sp s1 s2 s3 s4 s5 sP sC sH tl kl kf cv cc cm ch dv dc dm dh gw gh gk gq gr gj gR gT gC) H := hP
  have hD : va_D A (wX cx aX aH aI aS aT ak aC aD (aC 0) (aD 0) aG db dn ql qf qz qi sp s1 s2 s3 s4 s5 sP sC sH tl kl kf cv cc cm ch dv dc dm dh gw gh gk gq gr gj gR gT gC) := hD
  refine lv_if_eq (tgt := 14) hx hb dX4_worthOf_7 (by decide) (fun c9 => ?_) (fun c9 => ?_)
  · replace hf := it_t c9 hf
    refine lv_aload_n hx hb dX4_worthOf_14 rfl (lv_at hl 0 rfl) ?_
    refine va_get (D := D) (ci := 4) (v := .ref (aC 0)) (C := RX4) (T := TX4) (N := 7) hx hb hts iX4 hown hK hP 0 rfl rfl 3 (by decide) (hts _ wd_229) (fun _ h9 => h9) rfl dX4_worthOf_15 ?_
    refine lv_iload_n hx hb dX4_worthOf_18 rfl (lv_at hl 1 rfl) ?_
    obtain ⟨u10, hu10, hf⟩ := ob_s hf
    refine kc_calli (wn := fun _ => (wX cx aX aH aI aS aT ak aC aD (aC 0) (aD 0) aG db dn ql qf qz qi sp s1 s2 s3 s4 s5 sP sC sH tl kl kf cv cc cm ch dv dc dm dh gw gh gk gq gr gj gR gT gC)) (va_runV (As := [.int x1]) (rest := []) ⟨hx, hb, hml, hown, hts⟩ (metX0_isOpen l D cx aC aG cv cc cm ch gw gh gk gq gr gj gR gT gC x1 N H.size u10 hu10) ⟨callB_of 1 hts (kc_gI wd_271) rfl rfl rfl (hts _ wd_44) (hts _ wd_268) (by decide +kernel) ⟨Nat.le_of_ble_eq_true rfl, Nat.le_of_ble_eq_true rfl⟩, hts _ wd_269, hts _ wd_270⟩ ⟨kc_blind _ _ _ _ _, va_recv hK hP (ci := 0) (q0 := 21) rfl rfl, kc_pre _ hK hN (hP.sub [21, 22, 23, 24, 29, 30, 31, 32] rfl) (hD.sub [21, 22, 23, 24, 29, 30, 31, 32] (by decide) rfl)⟩ rfl rfl hl.1 rfl (lv_room (Nat.le_of_ble_eq_true rfl)) dX4_worthOf_19 ⟨Nat.zero_le _, Nat.zero_le _⟩) hP hD hS hA [21, 22, 23, 24, 29, 30, 31, 32] [0, 1, 2, 3, 4, 5, 6, 7, 8, 9, 10, 11, 12, 13, 14, 15, 16, 17, 18, 19, 20, 25, 26, 27, 28] [0, 1, 2, 3, 4, 5, 6, 7, 8, 9, 10, 11, 12, 13, 14, 15, 16, 17, 18, 19, 20, 25, 26, 27, 28, 21, 22, 23, 24, 29, 30, 31, 32] rfl rfl (by decide) (by decide) (fun _ => rfl) (by decide) (fun _ H locs hP hD hS => ?_)
    have hP : va_P D classes (wX cx aX aH aI aS aT ak aC aD (aC 0) (aD 0) aG db dn ql qf qz qi sp s1 s2 s3 s4 s5 sP sC sH tl kl kf cv cc cm ch dv dc dm dh gw gh gk gq gr gj gR gT gC) H := hP
    have hD : va_D A (wX cx aX aH aI aS aT ak aC aD (aC 0) (aD 0) aG db dn ql qf qz qi sp s1 s2 s3 s4 s5 sP sC sH tl kl kf cv cc cm ch dv dc dm dh gw gh gk gq gr gj gR gT gC) := hD
    refine lv_if_ne (tgt := 29) hx hb dX4_worthOf_22 (by decide) (fun c11 => ?_) (fun c11 => ?_)
    · replace hf := it_f c11 hf
      refine lv_aload_n hx hb dX4_worthOf_29 rfl (lv_at hl 0 rfl) ?_
      refine va_get (D := D) (ci := 4) (v := .ref (aS 0)) (C := RX4) (T := TX4) (N := 7) hx hb hts iX4 hown hK hP 0 rfl rfl 1 (by decide) (hts _ wd_227) (fun _ h9 => h9) rfl dX4_worthOf_30 ?_
      refine lv_aload_n hx hb dX4_worthOf_33 rfl (lv_at hl 0 rfl) ?_
      refine va_get (D := D) (ci := 4) (v := .ref (aC 0)) (C := RX4) (T := TX4) (N := 7) hx hb hts iX4 hown hK hP 0 rfl rfl 3 (by decide) (hts _ wd_229) (fun _ h9 => h9) rfl dX4_worthOf_34 ?_
      have hka := hk9 u8 hu8 c9 u10 hu10 c11
      obtain ⟨u12, hu12, hf⟩ := ob_s hf
      refine kc_callv (wn := fun ak13 => (wX cx aX aH aI aS aT ak13 aC aD (aC 0) (aD 0) aG db dn ql qf qz qi u12.1 u12.2.1 u12.2.2.1 u12.2.2.2.1 u12.2.2.2.2.1 u12.2.2.2.2.2.1 u12.2.2.2.2.2.2.1 u12.2.2.2.2.2.2.2.1 u12.2.2.2.2.2.2.2.2.1 u12.2.2.2.2.2.2.2.2.2.1 u12.2.2.2.2.2.2.2.2.2.2.1 u12.2.2.2.2.2.2.2.2.2.2.2 cv cc cm ch dv dc dm dh gw gh gk gq gr gj gR gT gC)) (va_runV (As := [.ref (aC 0)]) (rest := []) ⟨hx, hb, hml, hown, hts⟩ (metX3_start l D cx aS aT ak aC aG sp s1 s2 s3 s4 s5 sP sC sH tl kl kf cv cc cm ch gw gh gk gq gr gj gR gT gC  N H.size u12 hu12) ⟨callB_of 1 hts (kc_gI wd_359) rfl rfl rfl (hts _ wd_43) (hts _ wd_356) (by decide +kernel) ⟨Nat.le_of_ble_eq_true rfl, Nat.le_of_ble_eq_true rfl⟩, hts _ wd_357, hts _ wd_358⟩ ⟨kc_blind _ _ _ _ _, va_recv hK hP (ci := 3) (q0 := 10) rfl rfl, kc_pre _ hK hN (hP.sub [10, 11, 12, 13, 14, 15, 16, 17, 18, 19, 20, 21, 22, 23, 24, 29, 30, 31, 32] rfl) (hD.sub [10, 11, 12, 13, 14, 15, 16, 17, 18, 19, 20, 21, 22, 23, 24, 29, 30, 31, 32] (by decide) rfl)⟩ rfl rfl hl.1 rfl (lv_room (Nat.le_of_ble_eq_true rfl)) dX4_worthOf_37 ⟨(by show 0 + az sp ≤ ka; omega), (by show 0 + azs sp ≤ sa; omega)⟩) hP hD hS hA [10, 11, 12, 13, 14, 15, 16, 17, 18, 19, 20, 21, 22, 23, 24, 29, 30, 31, 32] [0, 1, 2, 3, 4, 5, 6, 7, 8, 9, 25, 26, 27, 28] [0, 1, 2, 3, 4, 5, 6, 7, 8, 9, 14, 15, 16, 17, 18, 19, 20, 21, 22, 23, 24, 25, 26, 27, 28, 10, 11, 12, 13, 29, 30, 31, 32] rfl rfl (by decide) (by decide) (fun _ => rfl) (by decide) (fun ak13 H locs hP hD hS => ?_)
      have hP : va_P D classes (wX cx aX aH aI aS aT ak13 aC aD (aC 0) (aD 0) aG db dn ql qf qz qi u12.1 u12.2.1 u12.2.2.1 u12.2.2.2.1 u12.2.2.2.2.1 u12.2.2.2.2.2.1 u12.2.2.2.2.2.2.1 u12.2.2.2.2.2.2.2.1 u12.2.2.2.2.2.2.2.2.1 u12.2.2.2.2.2.2.2.2.2.1 u12.2.2.2.2.2.2.2.2.2.2.1 u12.2.2.2.2.2.2.2.2.2.2.2 cv cc cm ch dv dc dm dh gw gh gk gq gr gj gR gT gC) H := hP
      have hD : va_D A (wX cx aX aH aI aS aT ak13 aC aD (aC 0) (aD 0) aG db dn ql qf qz qi u12.1 u12.2.1 u12.2.2.1 u12.2.2.2.1 u12.2.2.2.2.1 u12.2.2.2.2.2.1 u12.2.2.2.2.2.2.1 u12.2.2.2.2.2.2.2.1 u12.2.2.2.2.2.2.2.2.1 u12.2.2.2.2.2.2.2.2.2.1 u12.2.2.2.2.2.2.2.2.2.2.1 u12.2.2.2.2.2.2.2.2.2.2.2 cv cc cm ch dv dc dm dh gw gh gk gq gr gj gR gT gC) := hD
      refine W.widen (k := ka) (n := sa) (by omega) (by omega) ?_
      refine lv_aload_n hx hb dX4_worthOf_40 rfl (lv_at hl 0 rfl) ?_
      refine va_get (D := D) (ci := 4) (v := .ref (aS 0)) (C := RX4) (T := TX4) (N := 7) hx hb hts iX4 hown hK hP 0 rfl rfl 1 (by decide) (hts _ wd_227) (fun _ h9 => h9) rfl dX4_worthOf_41 ?_
      refine lv_iload_n hx hb dX4_worthOf_44 rfl (lv_at hl 1 rfl) ?_
      obtain ⟨u14, hu14, hf⟩ := ob_s hf
      refine kc_calli (wn := fun _ => (wX cx aX aH aI aS aT ak13 aC aD (aC 0) (aD 0) aG db dn ql qf qz qi u12.1 u12.2.1 u12.2.2.1 u12.2.2.2.1 u12.2.2.2.2.1 u12.2.2.2.2.2.1 u12.2.2.2.2.2.2.1 u14.2.1 u14.2.2.1 u14.2.2.2.1 u12.2.2.2.2.2.2.2.2.2.2.1 u14.2.2.2.2 cv cc cm ch dv dc dm dh gw gh gk gq gr gj gR gT gC)) (va_runV (As := [.int x1]) (rest := []) ⟨hx, hb, hml, hown, hts⟩ (metX3_worthOfMove l D cx aS aT ak13 aG u12.1 u12.2.1 u12.2.2.1 u12.2.2.2.1 u12.2.2.2.2.1 u12.2.2.2.2.2.1 u12.2.2.2.2.2.2.1 u12.2.2.2.2.2.2.2.1 u12.2.2.2.2.2.2.2.2.1 u12.2.2.2.2.2.2.2.2.2.1 u12.2.2.2.2.2.2.2.2.2.2.1 u12.2.2.2.2.2.2.2.2.2.2.2 gw gh gk gq gr gj gR gT gC x1 N H.size u14 hu14) ⟨callB_of 1 hts (kc_gI wd_416) rfl rfl rfl (hts _ wd_43) (hts _ wd_413) (by decide +kernel) ⟨Nat.le_of_ble_eq_true rfl, Nat.le_of_ble_eq_true rfl⟩, hts _ wd_414, hts _ wd_415⟩ ⟨kc_blind _ _ _ _ _, va_recv hK hP (ci := 3) (q0 := 10) rfl rfl, kc_pre _ hK hN (hP.sub [10, 11, 12, 13, 14, 15, 16, 17, 18, 19, 20, 29, 30, 31, 32] rfl) (hD.sub [10, 11, 12, 13, 14, 15, 16, 17, 18, 19, 20, 29, 30, 31, 32] (by decide) rfl)⟩ rfl rfl hl.1 rfl (lv_room (Nat.le_of_ble_eq_true rfl)) dX4_worthOf_45 ⟨(by show ka + 0 ≤ ka; omega), (by show sa + 0 ≤ sa; omega)⟩) hP hD hS hA [10, 11, 12, 13, 14, 15, 16, 17, 18, 19, 20, 29, 30, 31, 32] [0, 1, 2, 3, 4, 5, 6, 7, 8, 9, 21, 22, 23, 24, 25, 26, 27, 28] [0, 1, 2, 3, 4, 5, 6, 7, 8, 9, 18, 19, 20, 21, 22, 23, 24, 25, 26, 27, 28, 10, 11, 12, 13, 14, 15, 16, 17, 29, 30, 31, 32] rfl rfl (by decide) (by decide) (fun _ => rfl) (by decide) (fun _ H locs hP hD hS => ?_)
      have hP : va_P D classes (wX cx aX aH aI aS aT ak13 aC aD (aC 0) (aD 0) aG db dn ql qf qz qi u12.1 u12.2.1 u12.2.2.1 u12.2.2.2.1 u12.2.2.2.2.1 u12.2.2.2.2.2.1 u12.2.2.2.2.2.2.1 u14.2.1 u14.2.2.1 u14.2.2.2.1 u12.2.2.2.2.2.2.2.2.2.2.1 u14.2.2.2.2 cv cc cm ch dv dc dm dh gw gh gk gq gr gj gR gT gC) H := hP
      have hD : va_D A (wX cx aX aH aI aS aT ak13 aC aD (aC 0) (aD 0) aG db dn ql qf qz qi u12.1 u12.2.1 u12.2.2.1 u12.2.2.2.1 u12.2.2.2.2.1 u12.2.2.2.2.2.1 u12.2.2.2.2.2.2.1 u14.2.1 u14.2.2.1 u14.2.2.2.1 u12.2.2.2.2.2.2.2.2.2.2.1 u14.2.2.2.2 cv cc cm ch dv dc dm dh gw gh gk gq gr gj gR gT gC) := hD
      refine W.widen (k := ka) (n := sa) (by omega) (by omega) ?_
      obtain rfl := Option.some.inj hf
      exact kc_iret (ak13) hx hb hr hk hP hD hS rfl dX4_worthOf_48
    · replace hf := it_t c11 hf
      refine lv_sipush (v := (-200 : Int32)) hx hb dX4_worthOf_25 (by decide) ?_
      obtain rfl := Option.some.inj hf
      refine W.widen (k := ka) (n := sa) (Nat.zero_le _) (Nat.zero_le _) ?_
      exact kc_iret (ak) hx hb hr hk hP hD hS rfl dX4_worthOf_28
  · replace hf := it_f c9 hf
    refine lv_sipush (v := (-201 : Int32)) hx hb dX4_worthOf_10 (by decide) ?_
    obtain rfl := Option.some.inj hf
    refine W.widen (k := ka) (n := sa) (Nat.zero_le _) (Nat.zero_le _) ?_
    exact kc_iret (ak) hx hb hr hk hP hD hS rfl dX4_worthOf_13
abbrev rmX4_bestColumn (sp : Int32) : Room := { frames := 53, cells := az sp, slots := azs sp, locals := 2154 }
set_option maxHeartbeats 4000000 in
set_option maxRecDepth 100000 in
theorem metX4_bestColumn (l : Launch) (D : va_G) (cx : Nat → ClassId) (aX : Nat → Nat) (aH : Nat → Nat) (aI : Nat → Nat) (aS : Nat → Nat) (aT : Nat → Nat) (ak : Nat) (aC : Nat → Nat) (aD : Nat → Nat) (aG : Nat → Nat) (db : Int32) (dn : Int32) (ql : Nat → Int32) (qf : Nat → Int32) (qz : Nat → Int32) (qi : Nat → Nat → Int32) (sp : Int32) (s1 : Int32) (s2 : Int32) (s3 : Int32) (s4 : Int32) (s5 : Int32) (sP : Nat → Int32) (sC : Nat → Int32) (sH : Nat → Int32) (tl : Nat → Nat → Int32) (kl : Nat) (kf : Nat → Int64) (cv : Int32) (cc : Nat → Int32) (cm : Nat → Int32) (ch : Nat → Int32) (dv : Int32) (dc : Nat → Int32) (dm : Nat → Int32) (dh : Nat → Int32) (gw : Int32) (gh : Int32) (gk : Int32) (gq : Int32) (gr : Int32) (gj : Int32) (gR : Nat → Int32) (gT : Nat → Int32) (gC : Nat → Int32)  (N : Nat) (sz : Nat) (v : Int32 × Int32 × Int32 × Int32 × Int32 × Int32 × Int32 × (Nat → Int32) × (Nat → Int32) × (Nat → Int32) × (Nat → Nat → Int32) × Nat × (Nat → Int64)) (hf : fX4_bestColumn N sp sP sC sH tl kl kf cv cc cm ch gw gh gq gT gC = some v) : Met l yX4_bestColumn (.code yX4_bestColumn cX4_bestColumn 5 (some .int) :: kc_TB) (rmX4_bestColumn sp) (kc_Pre D cx (wX cx aX aH aI aS aT ak aC aD (aC 0) (aD 0) aG db dn ql qf qz qi sp s1 s2 s3 s4 s5 sP sC sH tl kl kf cv cc cm ch dv dc dm dh gw gh gk gq gr gj gR gT gC) [.ref (aX 0)] sz) (kc_Pi D (fun ak : Nat => (wX cx aX aH aI aS aT ak aC aD (aC 0) (aD 0) aG db dn ql qf qz qi v.2.1 v.2.2.1 v.2.2.2.1 v.2.2.2.2.1 v.2.2.2.2.2.1 v.2.2.2.2.2.2.1 v.2.2.2.2.2.2.2.1 v.2.2.2.2.2.2.2.2.1 v.2.2.2.2.2.2.2.2.2.1 v.2.2.2.2.2.2.2.2.2.2.1 v.2.2.2.2.2.2.2.2.2.2.2.1 v.2.2.2.2.2.2.2.2.2.2.2.2 cv cc cm ch dv dc dm dh gw gh gk gq gr gj gR gT gC)) v.1 (va_A (wX cx aX aH aI aS aT ak aC aD (aC 0) (aD 0) aG db dn ql qf qz qi sp s1 s2 s3 s4 s5 sP sC sH tl kl kf cv cc cm ch dv dc dm dh gw gh gk gq gr gj gR gT gC) sz)) (az sp) (azs sp) (va_A (wX cx aX aH aI aS aT ak aC aD (aC 0) (aD 0) aG db dn ql qf qz qi sp s1 s2 s3 s4 s5 sP sC sH tl kl kf cv cc cm ch dv dc dm dh gw gh gk gq gr gj gR gT gC) sz) := by
  refine kc_entry (Qc := fun A => (kc_Pi D (fun ak : Nat => (wX cx aX aH aI aS aT ak aC aD (aC 0) (aD 0) aG db dn ql qf qz qi v.2.1 v.2.2.1 v.2.2.2.1 v.2.2.2.2.1 v.2.2.2.2.2.1 v.2.2.2.2.2.2.1 v.2.2.2.2.2.2.2.1 v.2.2.2.2.2.2.2.2.1 v.2.2.2.2.2.2.2.2.2.1 v.2.2.2.2.2.2.2.2.2.2.1 v.2.2.2.2.2.2.2.2.2.2.2.1 v.2.2.2.2.2.2.2.2.2.2.2.2 cv cc cm ch dv dc dm dh gw gh gk gq gr gj gR gT gC)) v.1 A)) (by decide) (Nat.le_of_ble_eq_true rfl) ?_
  intro p e s m below meth c A hx hb hr hk hml hown hin hts hN hK hP hD hS hA ls hl
  have hown : s.vm.findClass RX4 = some m.cls := hown
  have hl : lv_has ls 5 [(0, .ref (aX 0))] := hl
  unfold fX4_bestColumn at hf
  have hP : va_P D classes (wX cx aX aH aI aS aT ak aC aD (aC 0) (aD 0) aG db dn ql qf qz qi sp s1 s2 s3 s4 s5 sP sC sH tl kl kf cv cc cm ch dv dc dm dh gw gh gk gq gr gj gR gT gC) s.heap := hP
  obtain ⟨H, hH⟩ : ∃ H, H = s.heap := ⟨_, rfl⟩
  obtain ⟨locs, hL⟩ : ∃ locs : List Loc, locs = [] := ⟨_, rfl⟩
  have hS : va_S A s.heap H locs := by rw [hH, hL]; exact hS
  have hP : va_P D classes (wX cx aX aH aI aS aT ak aC aD (aC 0) (aD 0) aG db dn ql qf qz qi sp s1 s2 s3 s4 s5 sP sC sH tl kl kf cv cc cm ch dv dc dm dh gw gh gk gq gr gj gR gT gC) H := by rw [hH]; exact hP
  suffices hW : W p l e (rmX4_bestColumn sp) s m ([.ref (aX 0)] : List Value).toArray below meth c H locs 0 0 (MQ below (kc_Pi D (fun ak : Nat => (wX cx aX aH aI aS aT ak aC aD (aC 0) (aD 0) aG db dn ql qf qz qi v.2.1 v.2.2.1 v.2.2.2.1 v.2.2.2.2.1 v.2.2.2.2.2.1 v.2.2.2.2.2.2.1 v.2.2.2.2.2.2.2.1 v.2.2.2.2.2.2.2.2.1 v.2.2.2.2.2.2.2.2.2.1 v.2.2.2.2.2.2.2.2.2.2.1 v.2.2.2.2.2.2.2.2.2.2.2.1 v.2.2.2.2.2.2.2.2.2.2.2.2 cv cc cm ch dv dc dm dh gw gh gk gq gr gj gR gT gC)) v.1 A) ([.ref (aX 0)] : List Value).toArray s (az sp) (azs sp) A) (F0 m 0 ls []) by rw [hH, hL] at hW; exact hW
  clear hH hL
  refine lv_aload_n hx hb dX4_bestColumn_0 rfl (lv_at hl 0 rfl) ?_
  refine va_get (D := D) (ci := 4) (v := .ref (aS 0)) (C := RX4) (T := TX4) (N := 7) hx hb hts iX4 hown hK hP 0 rfl rfl 1 (by decide) (hts _ wd_227) (fun _ h9 => h9) rfl dX4_bestColumn_1 ?_
  refine lv_aload_n hx hb dX4_bestColumn_4 rfl (lv_at hl 0 rfl) ?_
  refine va_get (D := D) (ci := 4) (v := .ref (aC 0)) (C := RX4) (T := TX4) (N := 7) hx hb hts iX4 hown hK hP 0 rfl rfl 3 (by decide) (hts _ wd_229) (fun _ h9 => h9) rfl dX4_bestColumn_5 ?_
  obtain ⟨u8, hg, hf⟩ := ob_s hf
  refine kc_callv (wn := fun ak9 => (wX cx aX aH aI aS aT ak9 aC aD (aC 0) (aD 0) aG db dn ql qf qz qi u8.1 u8.2.1 u8.2.2.1 u8.2.2.2.1 u8.2.2.2.2.1 u8.2.2.2.2.2.1 u8.2.2.2.2.2.2.1 u8.2.2.2.2.2.2.2.1 u8.2.2.2.2.2.2.2.2.1 u8.2.2.2.2.2.2.2.2.2.1 u8.2.2.2.2.2.2.2.2.2.2.1 u8.2.2.2.2.2.2.2.2.2.2.2 cv cc cm ch dv dc dm dh gw gh gk gq gr gj gR gT gC)) (va_runV (As := [.ref (aC 0)]) (rest := []) ⟨hx, hb, hml, hown, hts⟩ (metX3_start l D cx aS aT ak aC aG sp s1 s2 s3 s4 s5 sP sC sH tl kl kf cv cc cm ch gw gh gk gq gr gj gR gT gC  N H.size u8 hg) ⟨callB_of 1 hts (kc_gI wd_359) rfl rfl rfl (hts _ wd_43) (hts _ wd_356) (by decide +kernel) ⟨Nat.le_of_ble_eq_true rfl, Nat.le_of_ble_eq_true rfl⟩, hts _ wd_357, hts _ wd_358⟩ ⟨kc_blind _ _ _ _ _, va_recv hK hP (ci := 3) (q0 := 10) rfl rfl, kc_pre _ hK hN (hP.sub [10, 11, 12, 13, 14, 15, 16, 17, 18, 19, 20, 21, 22, 23, 24, 29, 30, 31, 32] rfl) (hD.sub [10, 11, 12, 13, 14, 15, 16, 17, 18, 19, 20, 21, 22, 23, 24, 29, 30, 31, 32] (by decide) rfl)⟩ rfl rfl hl.1 rfl (lv_room (Nat.le_of_ble_eq_true rfl)) dX4_bestColumn_8 ⟨(by show 0 + az sp ≤ az sp; omega), (by show 0 + azs sp ≤ azs sp; omega)⟩) hP hD hS hA [10, 11, 12, 13, 14, 15, 16, 17, 18, 19, 20, 21, 22, 23, 24, 29, 30, 31, 32] [0, 1, 2, 3, 4, 5, 6, 7, 8, 9, 25, 26, 27, 28] [0, 1, 2, 3, 4, 5, 6, 7, 8, 9, 14, 15, 16, 17, 18, 19, 20, 21, 22, 23, 24, 25, 26, 27, 28, 10, 11, 12, 13, 29, 30, 31, 32] rfl rfl (by decide) (by decide) (fun _ => rfl) (by decide) (fun ak9 H locs hP hD hS => ?_)
  have hP : va_P D classes (wX cx aX aH aI aS aT ak9 aC aD (aC 0) (aD 0) aG db dn ql qf qz qi u8.1 u8.2.1 u8.2.2.1 u8.2.2.2.1 u8.2.2.2.2.1 u8.2.2.2.2.2.1 u8.2.2.2.2.2.2.1 u8.2.2.2.2.2.2.2.1 u8.2.2.2.2.2.2.2.2.1 u8.2.2.2.2.2.2.2.2.2.1 u8.2.2.2.2.2.2.2.2.2.2.1 u8.2.2.2.2.2.2.2.2.2.2.2 cv cc cm ch dv dc dm dh gw gh gk gq gr gj gR gT gC) H := hP
  have hD : va_D A (wX cx aX aH aI aS aT ak9 aC aD (aC 0) (aD 0) aG db dn ql qf qz qi u8.1 u8.2.1 u8.2.2.1 u8.2.2.2.1 u8.2.2.2.2.1 u8.2.2.2.2.2.1 u8.2.2.2.2.2.2.1 u8.2.2.2.2.2.2.2.1 u8.2.2.2.2.2.2.2.2.1 u8.2.2.2.2.2.2.2.2.2.1 u8.2.2.2.2.2.2.2.2.2.2.1 u8.2.2.2.2.2.2.2.2.2.2.2 cv cc cm ch dv dc dm dh gw gh gk gq gr gj gR gT gC) := hD
  refine W.widen (k := az sp) (n := azs sp) (by omega) (by omega) ?_
  refine lv_iconst (v := (-1 : Int32)) hx hb dX4_bestColumn_11 (by decide) ?_
  refine lv_istore_n (lv' := [(1, .int (-1 : Int32)), (0, .ref (aX 0))]) hx hb dX4_bestColumn_12 rfl hl (by decide) rfl (fun ls hl => ?_)
  refine lv_bipush (v := (-100 : Int32)) hx hb dX4_bestColumn_13 (by decide) ?_
  refine lv_istore_n (lv' := [(2, .int (-100 : Int32)), (1, .int (-1 : Int32)), (0, .ref (aX 0))]) hx hb dX4_bestColumn_15 rfl hl (by decide) rfl (fun ls hl => ?_)
  refine lv_iconst (v := (0 : Int32)) hx hb dX4_bestColumn_16 (by decide) ?_
  refine lv_istore_n (lv' := [(3, .int (0 : Int32)), (2, .int (-100 : Int32)), (1, .int (-1 : Int32)), (0, .ref (aX 0))]) hx hb dX4_bestColumn_17 rfl hl (by decide) rfl (fun ls hl => ?_)
  have L18 : ∀ (ct : Nat) (sC : Nat → Int32) (sH : Nat → Int32) (tl : Nat → Nat → Int32) (kf : Nat → Int64) (x1 : Int32) (x2 : Int32) (x3 : Int32) (v18 : (Nat → Int32) × (Nat → Int32) × (Nat → Nat → Int32) × (Nat → Int64) × Int32), fX4_bestColumn_L18 N u8.2.1 u8.2.2.1 u8.2.2.2.1 u8.2.2.2.2.1 u8.2.2.2.2.2.1 u8.2.2.2.2.2.2.1 u8.2.2.2.2.2.2.2.2.2.2.1 ch gw gh gq gT gC ct sC sH tl kf x1 x2 x3 = some v18 → ∀ (H : Heap) (locs : List Loc) (ls : Array Slot), va_P D classes (wX cx aX aH aI aS aT ak9 aC aD (aC 0) (aD 0) aG db dn ql qf qz qi u8.1 u8.2.1 u8.2.2.1 u8.2.2.2.1 u8.2.2.2.2.1 u8.2.2.2.2.2.1 u8.2.2.2.2.2.2.1 sC sH tl u8.2.2.2.2.2.2.2.2.2.2.1 kf cv cc cm ch dv dc dm dh gw gh gk gq gr gj gR gT gC) H → va_D A (wX cx aX aH aI aS aT ak9 aC aD (aC 0) (aD 0) aG db dn ql qf qz qi u8.1 u8.2.1 u8.2.2.1 u8.2.2.2.1 u8.2.2.2.2.1 u8.2.2.2.2.2.1 u8.2.2.2.2.2.2.1 sC sH tl u8.2.2.2.2.2.2.2.2.2.2.1 kf cv cc cm ch dv dc dm dh gw gh gk gq gr gj gR gT gC) → va_S A s.heap H locs → lv_has ls 5 [(0, .ref (aX 0)), (1, .int x1), (2, .int x2), (3, .int x3)] → (∀ (H : Heap) (locs : List Loc) (ls : Array Slot), va_P D classes (wX cx aX aH aI aS aT ak9 aC aD (aC 0) (aD 0) aG db dn ql qf qz qi u8.1 u8.2.1 u8.2.2.1 u8.2.2.2.1 u8.2.2.2.2.1 u8.2.2.2.2.2.1 u8.2.2.2.2.2.2.1 v18.1 v18.2.1 v18.2.2.1 u8.2.2.2.2.2.2.2.2.2.2.1 v18.2.2.2.1 cv cc cm ch dv dc dm dh gw gh gk gq gr gj gR gT gC) H → va_D A (wX cx aX aH aI aS aT ak9 aC aD (aC 0) (aD 0) aG db dn ql qf qz qi u8.1 u8.2.1 u8.2.2.1 u8.2.2.2.1 u8.2.2.2.2.1 u8.2.2.2.2.2.1 u8.2.2.2.2.2.2.1 v18.1 v18.2.1 v18.2.2.1 u8.2.2.2.2.2.2.2.2.2.2.1 v18.2.2.2.1 cv cc cm ch dv dc dm dh gw gh gk gq gr gj gR gT gC) → va_S A s.heap H locs → lv_has ls 5 [(1, .int v18.2.2.2.2)] → W p l e (rmX4_bestColumn sp) s m ([.ref (aX 0)] : List Value).toArray below meth c H locs (az sp) (azs sp) (MQ below (kc_Pi D (fun ak : Nat => (wX cx aX aH aI aS aT ak aC aD (aC 0) (aD 0) aG db dn ql qf qz qi v.2.1 v.2.2.1 v.2.2.2.1 v.2.2.2.2.1 v.2.2.2.2.2.1 v.2.2.2.2.2.2.1 v.2.2.2.2.2.2.2.1 v.2.2.2.2.2.2.2.2.1 v.2.2.2.2.2.2.2.2.2.1 v.2.2.2.2.2.2.2.2.2.2.1 v.2.2.2.2.2.2.2.2.2.2.2.1 v.2.2.2.2.2.2.2.2.2.2.2.2 cv cc cm ch dv dc dm dh gw gh gk gq gr gj gR gT gC)) v.1 A) ([.ref (aX 0)] : List Value).toArray s (az sp) (azs sp) A) (F0 m 67 ls [])) → W p l e (rmX4_bestColumn sp) s m ([.ref (aX 0)] : List Value).toArray below meth c H locs (az sp) (azs sp) (MQ below (kc_Pi D (fun ak : Nat => (wX cx aX aH aI aS aT ak aC aD (aC 0) (aD 0) aG db dn ql qf qz qi v.2.1 v.2.2.1 v.2.2.2.1 v.2.2.2.2.1 v.2.2.2.2.2.1 v.2.2.2.2.2.2.1 v.2.2.2.2.2.2.2.1 v.2.2.2.2.2.2.2.2.1 v.2.2.2.2.2.2.2.2.2.1 v.2.2.2.2.2.2.2.2.2.2.1 v.2.2.2.2.2.2.2.2.2.2.2.1 v.2.2.2.2.2.2.2.2.2.2.2.2 cv cc cm ch dv dc dm dh gw gh gk gq gr gj gR gT gC)) v.1 A) ([.ref (aX 0)] : List Value).toArray s (az sp) (azs sp) A) (F0 m 18 ls []) := by
    intro ct
    induction ct with
    | zero =>
      intro sC sH tl kf x1 x2 x3 v18 hf
      exact absurd (show (none : Option ((Nat → Int32) × (Nat → Int32) × (Nat → Nat → Int32) × (Nat → Int64) × Int32)) = some v18 from hf) (fun q => by cases q)
    | succ ct ih =>
      intro sC sH tl kf x1 x2 x3 v18 hf H locs ls hP hD hS hl hE
      rw [fX4_bestColumn_L18] at hf
      refine lv_iload_n hx hb dX4_bestColumn_18 rfl (lv_at hl 3 rfl) ?_
      refine lv_aload_n hx hb dX4_bestColumn_19 rfl (lv_at hl 0 rfl) ?_
      refine va_get (D := D) (ci := 4) (v := .ref (aG 0)) (C := RX4) (T := TX4) (N := 7) hx hb hts iX4 hown hK hP 0 rfl rfl 0 (by decide) (hts _ wd_226) (fun _ h9 => h9) rfl dX4_bestColumn_20 ?_
      refine va_get (D := D) (ci := 1) (v := .int gw) (C := RX1) (T := TX1) (N := 9) hx hb hts iX1 hown hK hP 29 rfl rfl 0 (by decide) (hts _ wd_67) (fun _ h9 => h9) rfl dX4_bestColumn_23 ?_
      refine lv_icmp_ge (tgt := 67) hx hb dX4_bestColumn_26 (by decide) (fun c15 => ?_) (fun c15 => ?_)
      · replace hf := it_t c15 hf
        obtain rfl := Option.some.inj hf
        exact hE H locs ls hP hD hS (lv_sub hl [1] rfl)
      · replace hf := it_f c15 hf
        refine lv_aload_n hx hb dX4_bestColumn_29 rfl (lv_at hl 0 rfl) ?_
        refine va_get (D := D) (ci := 4) (v := .ref (aC 0)) (C := RX4) (T := TX4) (N := 7) hx hb hts iX4 hown hK hP 0 rfl rfl 3 (by decide) (hts _ wd_229) (fun _ h9 => h9) rfl dX4_bestColumn_30 ?_
        refine lv_iload_n hx hb dX4_bestColumn_33 rfl (lv_at hl 3 rfl) ?_
        obtain ⟨u16, hg, hf⟩ := ob_s hf
        refine kc_calli (wn := fun _ => (wX cx aX aH aI aS aT ak9 aC aD (aC 0) (aD 0) aG db dn ql qf qz qi u8.1 u8.2.1 u8.2.2.1 u8.2.2.2.1 u8.2.2.2.2.1 u8.2.2.2.2.2.1 u8.2.2.2.2.2.2.1 sC sH tl u8.2.2.2.2.2.2.2.2.2.2.1 kf cv cc cm ch dv dc dm dh gw gh gk gq gr gj gR gT gC)) (va_runV (As := [.int x3]) (rest := []) ⟨hx, hb, hml, hown, hts⟩ (metX0_isOpen l D cx aC aG cv cc cm ch gw gh gk gq gr gj gR gT gC x3 N H.size u16 hg) ⟨callB_of 1 hts (kc_gI wd_271) rfl rfl rfl (hts _ wd_44) (hts _ wd_268) (by decide +kernel) ⟨Nat.le_of_ble_eq_true rfl, Nat.le_of_ble_eq_true rfl⟩, hts _ wd_269, hts _ wd_270⟩ ⟨kc_blind _ _ _ _ _, va_recv hK hP (ci := 0) (q0 := 21) rfl rfl, kc_pre _ hK hN (hP.sub [21, 22, 23, 24, 29, 30, 31, 32] rfl) (hD.sub [21, 22, 23, 24, 29, 30, 31, 32] (by decide) rfl)⟩ rfl rfl hl.1 rfl (lv_room (Nat.le_of_ble_eq_true rfl)) dX4_bestColumn_34 ⟨(by show az sp + 0 ≤ az sp; omega), (by show azs sp + 0 ≤ azs sp; omega)⟩) hP hD hS hA [21, 22, 23, 24, 29, 30, 31, 32] [0, 1, 2, 3, 4, 5, 6, 7, 8, 9, 10, 11, 12, 13, 14, 15, 16, 17, 18, 19, 20, 25, 26, 27, 28] [0, 1, 2, 3, 4, 5, 6, 7, 8, 9, 10, 11, 12, 13, 14, 15, 16, 17, 18, 19, 20, 25, 26, 27, 28, 21, 22, 23, 24, 29, 30, 31, 32] rfl rfl (by decide) (by decide) (fun _ => rfl) (by decide) (fun _ H locs hP hD hS => ?_)
        have hP : va_P D classes (wX cx aX aH aI aS aT ak9 aC aD (aC 0) (aD 0) aG db dn ql qf qz qi u8.1 u8.2.1 u8.2.2.1 u8.2.2.2.1 u8.2.2.2.2.1 u8.2.2.2.2.2.1 u8.2.2.2.2.2.2.1 sC sH tl u8.2.2.2.2.2.2.2.2.2.2.1 kf cv cc cm ch dv dc dm dh gw gh gk gq gr gj gR gT gC) H := hP
        have hD : va_D A (wX cx aX aH aI aS aT ak9 aC aD (aC 0) (aD 0) aG db dn ql qf qz qi u8.1 u8.2.1 u8.2.2.1 u8.2.2.2.1 u8.2.2.2.2.1 u8.2.2.2.2.2.1 u8.2.2.2.2.2.2.1 sC sH tl u8.2.2.2.2.2.2.2.2.2.2.1 kf cv cc cm ch dv dc dm dh gw gh gk gq gr gj gR gT gC) := hD
        refine W.widen (k := az sp) (n := azs sp) (by omega) (by omega) ?_
        refine lv_if_eq (tgt := 61) hx hb dX4_bestColumn_37 (by decide) (fun c17 => ?_) (fun c17 => ?_)
        · replace hf := it_t c17 hf
          refine lv_iinc (v := (x3 + (1 : Int32))) (lv' := [(3, .int (x3 + (1 : Int32))), (0, .ref (aX 0)), (1, .int x1), (2, .int x2)]) hx hb dX4_bestColumn_61 hl (k := 3) rfl rfl (by decide) rfl (fun ls hl => ?_)
          refine lv_goto (tgt := 18) hx hb dX4_bestColumn_64 (by decide) ?_
          exact ih sC sH tl kf x1 x2 (x3 + (1 : Int32)) _ hf H locs ls hP hD hS (lv_sub hl [1, 2, 3, 0] rfl) hE
        · replace hf := it_f c17 hf
          refine lv_aload_n hx hb dX4_bestColumn_40 rfl (lv_at hl 0 rfl) ?_
          refine va_get (D := D) (ci := 4) (v := .ref (aS 0)) (C := RX4) (T := TX4) (N := 7) hx hb hts iX4 hown hK hP 0 rfl rfl 1 (by decide) (hts _ wd_227) (fun _ h9 => h9) rfl dX4_bestColumn_41 ?_
          refine lv_iload_n hx hb dX4_bestColumn_44 rfl (lv_at hl 3 rfl) ?_
          obtain ⟨u18, hg, hf⟩ := ob_s hf
          refine kc_calli (wn := fun _ => (wX cx aX aH aI aS aT ak9 aC aD (aC 0) (aD 0) aG db dn ql qf qz qi u8.1 u8.2.1 u8.2.2.1 u8.2.2.2.1 u8.2.2.2.2.1 u8.2.2.2.2.2.1 u8.2.2.2.2.2.2.1 u18.2.1 u18.2.2.1 u18.2.2.2.1 u8.2.2.2.2.2.2.2.2.2.2.1 u18.2.2.2.2 cv cc cm ch dv dc dm dh gw gh gk gq gr gj gR gT gC)) (va_runV (As := [.int x3]) (rest := []) ⟨hx, hb, hml, hown, hts⟩ (metX3_worthOfMove l D cx aS aT ak9 aG u8.1 u8.2.1 u8.2.2.1 u8.2.2.2.1 u8.2.2.2.2.1 u8.2.2.2.2.2.1 u8.2.2.2.2.2.2.1 sC sH tl u8.2.2.2.2.2.2.2.2.2.2.1 kf gw gh gk gq gr gj gR gT gC x3 N H.size u18 hg) ⟨callB_of 1 hts (kc_gI wd_416) rfl rfl rfl (hts _ wd_43) (hts _ wd_413) (by decide +kernel) ⟨Nat.le_of_ble_eq_true rfl, Nat.le_of_ble_eq_true rfl⟩, hts _ wd_414, hts _ wd_415⟩ ⟨kc_blind _ _ _ _ _, va_recv hK hP (ci := 3) (q0 := 10) rfl rfl, kc_pre _ hK hN (hP.sub [10, 11, 12, 13, 14, 15, 16, 17, 18, 19, 20, 29, 30, 31, 32] rfl) (hD.sub [10, 11, 12, 13, 14, 15, 16, 17, 18, 19, 20, 29, 30, 31, 32] (by decide) rfl)⟩ rfl rfl hl.1 rfl (lv_room (Nat.le_of_ble_eq_true rfl)) dX4_bestColumn_45 ⟨(by show az sp + 0 ≤ az sp; omega), (by show azs sp + 0 ≤ azs sp; omega)⟩) hP hD hS hA [10, 11, 12, 13, 14, 15, 16, 17, 18, 19, 20, 29, 30, 31, 32] [0, 1, 2, 3, 4, 5, 6, 7, 8, 9, 21, 22, 23, 24, 25, 26, 27, 28] [0, 1, 2, 3, 4, 5, 6, 7, 8, 9, 18, 19, 20, 21, 22, 23, 24, 25, 26, 27, 28, 10, 11, 12, 13, 14, 15, 16, 17, 29, 30, 31, 32] rfl rfl (by decide) (by decide) (fun _ => rfl) (by decide) (fun _ H locs hP hD hS => ?_)
          have hP : va_P D classes (wX cx aX aH aI aS aT ak9 aC aD (aC 0) (aD 0) aG db dn ql qf qz qi u8.1 u8.2.1 u8.2.2.1 u8.2.2.2.1 u8.2.2.2.2.1 u8.2.2.2.2.2.1 u8.2.2.2.2.2.2.1 u18.2.1 u18.2.2.1 u18.2.2.2.1 u8.2.2.2.2.2.2.2.2.2.2.1 u18.2.2.2.2 cv cc cm ch dv dc dm dh gw gh gk gq gr gj gR gT gC) H := hP
          have hD : va_D A (wX cx aX aH aI aS aT ak9 aC aD (aC 0) (aD 0) aG db dn ql qf qz qi u8.1 u8.2.1 u8.2.2.1 u8.2.2.2.1 u8.2.2.2.2.1 u8.2.2.2.2.2.1 u8.2.2.2.2.2.2.1 u18.2.1 u18.2.2.1 u18.2.2.2.1 u8.2.2.2.2.2.2.2.2.2.2.1 u18.2.2.2.2 cv cc cm ch dv dc dm dh gw gh gk gq gr gj gR gT gC) := hD
          refine W.widen (k := az sp) (n := azs sp) (by omega) (by omega) ?_
          refine lv_istore (lv' := [(4, .int u18.1), (0, .ref (aX 0)), (1, .int x1), (2, .int x2), (3, .int x3)]) hx hb dX4_bestColumn_48 hl (by decide) rfl (fun ls hl => ?_)
          refine lv_iload hx hb dX4_bestColumn_50 (lv_at hl 0 rfl) ?_
          refine lv_iload_n hx hb dX4_bestColumn_52 rfl (lv_at hl 3 rfl) ?_
          refine lv_icmp_le (tgt := 61) hx hb dX4_bestColumn_53 (by decide) (fun c19 => ?_) (fun c19 => ?_)
          · replace hf := it_t c19 hf
            refine lv_iinc (v := (x3 + (1 : Int32))) (lv' := [(3, .int (x3 + (1 : Int32))), (4, .int u18.1), (0, .ref (aX 0)), (1, .int x1), (2, .int x2)]) hx hb dX4_bestColumn_61 hl (k := 4) rfl rfl (by decide) rfl (fun ls hl => ?_)
            refine lv_goto (tgt := 18) hx hb dX4_bestColumn_64 (by decide) ?_
            exact ih u18.2.1 u18.2.2.1 u18.2.2.2.1 u18.2.2.2.2 x1 x2 (x3 + (1 : Int32)) _ hf H locs ls hP hD hS (lv_sub hl [2, 3, 4, 0] rfl) hE
          · replace hf := it_f c19 hf
            refine lv_iload hx hb dX4_bestColumn_56 (lv_at hl 0 rfl) ?_
            refine lv_istore_n (lv' := [(2, .int u18.1), (4, .int u18.1), (0, .ref (aX 0)), (1, .int x1), (3, .int x3)]) hx hb dX4_bestColumn_58 rfl hl (by decide) rfl (fun ls hl => ?_)
            refine lv_iload_n hx hb dX4_bestColumn_59 rfl (lv_at hl 4 rfl) ?_
            refine lv_istore_n (lv' := [(1, .int x3), (2, .int u18.1), (4, .int u18.1), (0, .ref (aX 0)), (3, .int x3)]) hx hb dX4_bestColumn_60 rfl hl (by decide) rfl (fun ls hl => ?_)
            refine lv_iinc (v := (x3 + (1 : Int32))) (lv' := [(3, .int (x3 + (1 : Int32))), (1, .int x3), (2, .int u18.1), (4, .int u18.1), (0, .ref (aX 0))]) hx hb dX4_bestColumn_61 hl (k := 4) rfl rfl (by decide) rfl (fun ls hl => ?_)
            refine lv_goto (tgt := 18) hx hb dX4_bestColumn_64 (by decide) ?_
            exact ih u18.2.1 u18.2.2.1 u18.2.2.2.1 u18.2.2.2.2 x3 u18.1 (x3 + (1 : Int32)) _ hf H locs ls hP hD hS (lv_sub hl [4, 1, 2, 0] rfl) hE
  obtain ⟨u20, hg, hf⟩ := ob_s hf
  refine L18 _ u8.2.2.2.2.2.2.2.1 u8.2.2.2.2.2.2.2.2.1 u8.2.2.2.2.2.2.2.2.2.1 u8.2.2.2.2.2.2.2.2.2.2.2 (-1 : Int32) (-100 : Int32) (0 : Int32) u20 hg H locs ls hP hD hS (lv_sub hl [3, 2, 1, 0] rfl) (fun H locs ls hP hD hS hl => ?_)
  refine lv_iload_n hx hb dX4_bestColumn_67 rfl (lv_at hl 0 rfl) ?_
  obtain rfl := Option.some.inj hf
  exact kc_iret (ak9) hx hb hr hk hP hD hS rfl dX4_bestColumn_68
abbrev rmX4_best (ka sa : Nat) : Room := { frames := 54, cells := ka, slots := sa, locals := 2178 }
set_option maxHeartbeats 4000000 in
set_option maxRecDepth 100000 in
theorem metX4_best (l : Launch) (D : va_G) (cx : Nat → ClassId) (aX : Nat → Nat) (aH : Nat → Nat) (aI : Nat → Nat) (aS : Nat → Nat) (aT : Nat → Nat) (ak : Nat) (aC : Nat → Nat) (aD : Nat → Nat) (aG : Nat → Nat) (db : Int32) (dn : Int32) (ql : Nat → Int32) (qf : Nat → Int32) (qz : Nat → Int32) (qi : Nat → Nat → Int32) (sp : Int32) (s1 : Int32) (s2 : Int32) (s3 : Int32) (s4 : Int32) (s5 : Int32) (sP : Nat → Int32) (sC : Nat → Int32) (sH : Nat → Int32) (tl : Nat → Nat → Int32) (kl : Nat) (kf : Nat → Int64) (cv : Int32) (cc : Nat → Int32) (cm : Nat → Int32) (ch : Nat → Int32) (dv : Int32) (dc : Nat → Int32) (dm : Nat → Int32) (dh : Nat → Int32) (gw : Int32) (gh : Int32) (gk : Int32) (gq : Int32) (gr : Int32) (gj : Int32) (gR : Nat → Int32) (gT : Nat → Int32) (gC : Nat → Int32)  (N : Nat) (sz : Nat) (v : Int32 × Int32 × Int32 × Int32 × Int32 × Int32 × Int32 × (Nat → Int32) × (Nat → Int32) × (Nat → Int32) × (Nat → Nat → Int32) × Nat × (Nat → Int64)) (hf : fX4_best N sp s1 s2 s3 s4 s5 sP sC sH tl kl kf cv cc cm ch gw gh gq gr gR gT gC = some v) (ka sa : Nat) (hk9 : ∀ (u5 : Int32), fX0_isOver N cv cm gq gr gR = some u5 → (u5 = 0) → (az sp ≤ ka ∧ azs sp ≤ sa)) : Met l yX4_best (.code yX4_best cX4_best 1 (some .int) :: kc_TB) (rmX4_best ka sa) (kc_Pre D cx (wX cx aX aH aI aS aT ak aC aD (aC 0) (aD 0) aG db dn ql qf qz qi sp s1 s2 s3 s4 s5 sP sC sH tl kl kf cv cc cm ch dv dc dm dh gw gh gk gq gr gj gR gT gC) [.ref (aX 0)] sz) (kc_Pi D (fun ak : Nat => (wX cx aX aH aI aS aT ak aC aD (aC 0) (aD 0) aG db dn ql qf qz qi v.2.1 v.2.2.1 v.2.2.2.1 v.2.2.2.2.1 v.2.2.2.2.2.1 v.2.2.2.2.2.2.1 v.2.2.2.2.2.2.2.1 v.2.2.2.2.2.2.2.2.1 v.2.2.2.2.2.2.2.2.2.1 v.2.2.2.2.2.2.2.2.2.2.1 v.2.2.2.2.2.2.2.2.2.2.2.1 v.2.2.2.2.2.2.2.2.2.2.2.2 cv cc cm ch dv dc dm dh gw gh gk gq gr gj gR gT gC)) v.1 (va_A (wX cx aX aH aI aS aT ak aC aD (aC 0) (aD 0) aG db dn ql qf qz qi sp s1 s2 s3 s4 s5 sP sC sH tl kl kf cv cc cm ch dv dc dm dh gw gh gk gq gr gj gR gT gC) sz)) ka sa (va_A (wX cx aX aH aI aS aT ak aC aD (aC 0) (aD 0) aG db dn ql qf qz qi sp s1 s2 s3 s4 s5 sP sC sH tl kl kf cv cc cm ch dv dc dm dh gw gh gk gq gr gj gR gT gC) sz) := by
  refine kc_entry (Qc := fun A => (kc_Pi D (fun ak : Nat => (wX cx aX aH aI aS aT ak aC aD (aC 0) (aD 0) aG db dn ql qf qz qi v.2.1 v.2.2.1 v.2.2.2.1 v.2.2.2.2.1 v.2.2.2.2.2.1 v.2.2.2.2.2.2.1 v.2.2.2.2.2.2.2.1 v.2.2.2.2.2.2.2.2.1 v.2.2.2.2.2.2.2.2.2.1 v.2.2.2.2.2.2.2.2.2.2.1 v.2.2.2.2.2.2.2.2.2.2.2.1 v.2.2.2.2.2.2.2.2.2.2.2.2 cv cc cm ch dv dc dm dh gw gh gk gq gr gj gR gT gC)) v.1 A)) (by decide) (Nat.le_of_ble_eq_true rfl) ?_
  intro p e s m below meth c A hx hb hr hk hml hown hin hts hN hK hP hD hS hA ls hl
  have hown : s.vm.findClass RX4 = some m.cls := hown
  have hl : lv_has ls 1 [(0, .ref (aX 0))] := hl
  unfold fX4_best at hf
  have hP : va_P D classes (wX cx aX aH aI aS aT ak aC aD (aC 0) (aD 0) aG db dn ql qf qz qi sp s1 s2 s3 s4 s5 sP sC sH tl kl kf cv cc cm ch dv dc dm dh gw gh gk gq gr gj gR gT gC) s.heap := hP
  obtain ⟨H, hH⟩ : ∃ H, H = s.heap := ⟨_, rfl⟩
  obtain ⟨locs, hL⟩ : ∃ locs : List Loc, locs = [] := ⟨_, rfl⟩
  have hS : va_S A s.heap H locs := by rw [hH, hL]; exact hS
  have hP : va_P D classes (wX cx aX aH aI aS aT ak aC aD (aC 0) (aD 0) aG db dn ql qf qz qi sp s1 s2 s3 s4 s5 sP sC sH tl kl kf cv cc cm ch dv dc dm dh gw gh gk gq gr gj gR gT gC) H := by rw [hH]; exact hP
  suffices hW : W p l e (rmX4_best ka sa) s m ([.ref (aX 0)] : List Value).toArray below meth c H locs 0 0 (MQ below (kc_Pi D (fun ak : Nat => (wX cx aX aH aI aS aT ak aC aD (aC 0) (aD 0) aG db dn ql qf qz qi v.2.1 v.2.2.1 v.2.2.2.1 v.2.2.2.2.1 v.2.2.2.2.2.1 v.2.2.2.2.2.2.1 v.2.2.2.2.2.2.2.1 v.2.2.2.2.2.2.2.2.1 v.2.2.2.2.2.2.2.2.2.1 v.2.2.2.2.2.2.2.2.2.2.1 v.2.2.2.2.2.2.2.2.2.2.2.1 v.2.2.2.2.2.2.2.2.2.2.2.2 cv cc cm ch dv dc dm dh gw gh gk gq gr gj gR gT gC)) v.1 A) ([.ref (aX 0)] : List Value).toArray s ka sa A) (F0 m 0 ls []) by rw [hH, hL] at hW; exact hW
  clear hH hL
  refine lv_aload_n hx hb dX4_best_0 rfl (lv_at hl 0 rfl) ?_
  refine va_get (D := D) (ci := 4) (v := .ref (aC 0)) (C := RX4) (T := TX4) (N := 7) hx hb hts iX4 hown hK hP 0 rfl rfl 3 (by decide) (hts _ wd_229) (fun _ h9 => h9) rfl dX4_best_1 ?_
  obtain ⟨u5, hu5, hf⟩ := ob_s hf
  refine kc_calli (wn := fun _ => (wX cx aX aH aI aS aT ak aC aD (aC 0) (aD 0) aG db dn ql qf qz qi sp s1 s2 s3 s4 s5 sP sC sH tl kl kf cv cc cm ch dv dc dm dh gw gh gk gq gr gj gR gT gC)) (va_runV (As := []) (rest := []) ⟨hx, hb, hml, hown, hts⟩ (metX0_isOver l D cx aC aG cv cc cm ch gw gh gk gq gr gj gR gT gC  N H.size u5 hu5) ⟨callB_of 0 hts (kc_gI wd_276) rfl rfl rfl (hts _ wd_44) (hts _ wd_273) (by decide +kernel) ⟨Nat.le_of_ble_eq_true rfl, Nat.le_of_ble_eq_true rfl⟩, hts _ wd_274, hts _ wd_275⟩ ⟨kc_blind _ _ _ _ _, va_recv hK hP (ci := 0) (q0 := 21) rfl rfl, kc_pre _ hK hN (hP.sub [21, 22, 23, 24, 29, 30, 31, 32] rfl) (hD.sub [21, 22, 23, 24, 29, 30, 31, 32] (by decide) rfl)⟩ rfl rfl hl.1 rfl (lv_room (Nat.le_of_ble_eq_true rfl)) dX4_best_4 ⟨Nat.zero_le _, Nat.zero_le _⟩) hP hD hS hA [21, 22, 23, 24, 29, 30, 31, 32] [0, 1, 2, 3, 4, 5, 6, 7, 8, 9, 10, 11, 12, 13, 14, 15, 16, 17, 18, 19, 20, 25, 26, 27, 28] [0, 1, 2, 3, 4, 5, 6, 7, 8, 9, 10, 11, 12, 13, 14, 15, 16, 17, 18, 19, 20, 25, 26, 27, 28, 21, 22, 23, 24, 29, 30, 31, 32] rfl rfl (by decide) (by decide) (fun _ => rfl) (by decide) (fun _ H locs hP hD hS => ?_)
  have hP : va_P D classes (wX cx aX aH aI aS aT ak aC aD (aC 0) (aD 0) aG db dn ql qf qz qi sp s1 s2 s3 s4 s5 sP sC sH tl kl kf cv cc cm ch dv dc dm dh gw gh gk gq gr gj gR gT gC) H := hP
  have hD : va_D A (wX cx aX aH aI aS aT ak aC aD (aC 0) (aD 0) aG db dn ql qf qz qi sp s1 s2 s3 s4 s5 sP sC sH tl kl kf cv cc cm ch dv dc dm dh gw gh gk gq gr gj gR gT gC) := hD
  refine lv_if_eq (tgt := 16) hx hb dX4_best_7 (by decide) (fun c6 => ?_) (fun c6 => ?_)
  · replace hf := it_t c6 hf
    refine lv_aload_n hx hb dX4_best_16 rfl (lv_at hl 0 rfl) ?_
    have hka := hk9 u5 hu5 c6
    obtain ⟨u7, hu7, hf⟩ := ob_s hf
    refine kc_calli (wn := fun ak8 => (wX cx aX aH aI aS aT ak8 aC aD (aC 0) (aD 0) aG db dn ql qf qz qi u7.2.1 u7.2.2.1 u7.2.2.2.1 u7.2.2.2.2.1 u7.2.2.2.2.2.1 u7.2.2.2.2.2.2.1 u7.2.2.2.2.2.2.2.1 u7.2.2.2.2.2.2.2.2.1 u7.2.2.2.2.2.2.2.2.2.1 u7.2.2.2.2.2.2.2.2.2.2.1 u7.2.2.2.2.2.2.2.2.2.2.2.1 u7.2.2.2.2.2.2.2.2.2.2.2.2 cv cc cm ch dv dc dm dh gw gh gk gq gr gj gR gT gC)) (va_runV (As := []) (rest := []) ⟨hx, hb, hml, hown, hts⟩ (metX4_bestColumn l D cx aX aH aI aS aT ak aC aD aG db dn ql qf qz qi sp s1 s2 s3 s4 s5 sP sC sH tl kl kf cv cc cm ch dv dc dm dh gw gh gk gq gr gj gR gT gC  N H.size u7 hu7) ⟨callB_of 0 hts (kc_gI wd_424) rfl rfl rfl (hts _ wd_40) (hts _ wd_421) (by decide +kernel) ⟨Nat.le_of_ble_eq_true rfl, Nat.le_of_ble_eq_true rfl⟩, hts _ wd_423, hts _ wd_11⟩ ⟨kc_blind _ _ _ _ _, va_recv hK hP (ci := 4) (q0 := 0) rfl rfl, kc_pre _ hK hN (hP.sub [0, 1, 2, 3, 4, 5, 6, 7, 8, 9, 10, 11, 12, 13, 14, 15, 16, 17, 18, 19, 20, 21, 22, 23, 24, 25, 26, 27, 28, 29, 30, 31, 32] rfl) (hD.sub [0, 1, 2, 3, 4, 5, 6, 7, 8, 9, 10, 11, 12, 13, 14, 15, 16, 17, 18, 19, 20, 21, 22, 23, 24, 25, 26, 27, 28, 29, 30, 31, 32] (by decide) rfl)⟩ rfl rfl hl.1 rfl (lv_room (Nat.le_of_ble_eq_true rfl)) dX4_best_17 ⟨(by show 0 + az sp ≤ ka; omega), (by show 0 + azs sp ≤ sa; omega)⟩) hP hD hS hA [0, 1, 2, 3, 4, 5, 6, 7, 8, 9, 10, 11, 12, 13, 14, 15, 16, 17, 18, 19, 20, 21, 22, 23, 24, 25, 26, 27, 28, 29, 30, 31, 32] [] [0, 1, 2, 3, 4, 5, 6, 7, 8, 9, 10, 11, 12, 13, 14, 15, 16, 17, 18, 19, 20, 21, 22, 23, 24, 25, 26, 27, 28, 29, 30, 31, 32] rfl rfl (by decide) (by decide) (fun _ => rfl) (by decide) (fun ak8 H locs hP hD hS => ?_)
    have hP : va_P D classes (wX cx aX aH aI aS aT ak8 aC aD (aC 0) (aD 0) aG db dn ql qf qz qi u7.2.1 u7.2.2.1 u7.2.2.2.1 u7.2.2.2.2.1 u7.2.2.2.2.2.1 u7.2.2.2.2.2.2.1 u7.2.2.2.2.2.2.2.1 u7.2.2.2.2.2.2.2.2.1 u7.2.2.2.2.2.2.2.2.2.1 u7.2.2.2.2.2.2.2.2.2.2.1 u7.2.2.2.2.2.2.2.2.2.2.2.1 u7.2.2.2.2.2.2.2.2.2.2.2.2 cv cc cm ch dv dc dm dh gw gh gk gq gr gj gR gT gC) H := hP
    have hD : va_D A (wX cx aX aH aI aS aT ak8 aC aD (aC 0) (aD 0) aG db dn ql qf qz qi u7.2.1 u7.2.2.1 u7.2.2.2.1 u7.2.2.2.2.1 u7.2.2.2.2.2.1 u7.2.2.2.2.2.2.1 u7.2.2.2.2.2.2.2.1 u7.2.2.2.2.2.2.2.2.1 u7.2.2.2.2.2.2.2.2.2.1 u7.2.2.2.2.2.2.2.2.2.2.1 u7.2.2.2.2.2.2.2.2.2.2.2.1 u7.2.2.2.2.2.2.2.2.2.2.2.2 cv cc cm ch dv dc dm dh gw gh gk gq gr gj gR gT gC) := hD
    refine W.widen (k := ka) (n := sa) (by omega) (by omega) ?_
    obtain rfl := Option.some.inj hf
    exact kc_iret (ak8) hx hb hr hk hP hD hS rfl dX4_best_20
  · replace hf := it_f c6 hf
    refine lv_sipush (v := (-201 : Int32)) hx hb dX4_best_10 (by decide) ?_
    refine lv_goto (tgt := 20) hx hb dX4_best_13 (by decide) ?_
    obtain rfl := Option.some.inj hf
    refine W.widen (k := ka) (n := sa) (Nat.zero_le _) (Nat.zero_le _) ?_
    exact kc_iret (ak) hx hb hr hk hP hD hS rfl dX4_best_20
abbrev rmX4_as (ka sa : Nat) : Room := { frames := 53, cells := ka, slots := sa, locals := 2154 }
set_option maxHeartbeats 4000000 in
set_option maxRecDepth 100000 in
theorem metX4_as (l : Launch) (D : va_G) (cx : Nat → ClassId) (aX : Nat → Nat) (aH : Nat → Nat) (aI : Nat → Nat) (aS : Nat → Nat) (aT : Nat → Nat) (ak : Nat) (aC : Nat → Nat) (aD : Nat → Nat) (aG : Nat → Nat) (db : Int32) (dn : Int32) (ql : Nat → Int32) (qf : Nat → Int32) (qz : Nat → Int32) (qi : Nat → Nat → Int32) (sp : Int32) (s1 : Int32) (s2 : Int32) (s3 : Int32) (s4 : Int32) (s5 : Int32) (sP : Nat → Int32) (sC : Nat → Int32) (sH : Nat → Int32) (tl : Nat → Nat → Int32) (kl : Nat) (kf : Nat → Int64) (cv : Int32) (cc : Nat → Int32) (cm : Nat → Int32) (ch : Nat → Int32) (dv : Int32) (dc : Nat → Int32) (dm : Nat → Int32) (dh : Nat → Int32) (gw : Int32) (gh : Int32) (gk : Int32) (gq : Int32) (gr : Int32) (gj : Int32) (gR : Nat → Int32) (gT : Nat → Int32) (gC : Nat → Int32)  (N : Nat) (sz : Nat) (v : Int32 × Int32 × Int32 × Int32 × Int32 × Int32 × Int32 × (Nat → Int32) × (Nat → Int32) × (Nat → Int32) × (Nat → Nat → Int32) × Nat × (Nat → Int64)) (hf : fX4_as N sp s1 s2 s3 s4 s5 sP sC sH tl kl kf cv cc cm ch gw gh gq gr gR gT gC = some v) (ka sa : Nat) (hk9 : ∀ (u11 : Int32), fX0_isOver N cv cm gq gr gR = some u11 → (u11 = 0) → (az sp ≤ ka ∧ azs sp ≤ sa)) : Met l yX4_as (.code yX4_as cX4_as 4 (some .int) :: kc_TB) (rmX4_as ka sa) (kc_Pre D cx (wX cx aX aH aI aS aT ak aC aD (aC 0) (aD 0) aG db dn ql qf qz qi sp s1 s2 s3 s4 s5 sP sC sH tl kl kf cv cc cm ch dv dc dm dh gw gh gk gq gr gj gR gT gC) [.ref (aX 0)] sz) (kc_Pi D (fun ak : Nat => (wX cx aX aH aI aS aT ak aC aD (aC 0) (aD 0) aG db dn ql qf qz qi v.2.1 v.2.2.1 v.2.2.2.1 v.2.2.2.2.1 v.2.2.2.2.2.1 v.2.2.2.2.2.2.1 v.2.2.2.2.2.2.2.1 v.2.2.2.2.2.2.2.2.1 v.2.2.2.2.2.2.2.2.2.1 v.2.2.2.2.2.2.2.2.2.2.1 v.2.2.2.2.2.2.2.2.2.2.2.1 v.2.2.2.2.2.2.2.2.2.2.2.2 cv cc cm ch dv dc dm dh gw gh gk gq gr gj gR gT gC)) v.1 (va_A (wX cx aX aH aI aS aT ak aC aD (aC 0) (aD 0) aG db dn ql qf qz qi sp s1 s2 s3 s4 s5 sP sC sH tl kl kf cv cc cm ch dv dc dm dh gw gh gk gq gr gj gR gT gC) sz)) ka sa (va_A (wX cx aX aH aI aS aT ak aC aD (aC 0) (aD 0) aG db dn ql qf qz qi sp s1 s2 s3 s4 s5 sP sC sH tl kl kf cv cc cm ch dv dc dm dh gw gh gk gq gr gj gR gT gC) sz) := by
  refine kc_entry (Qc := fun A => (kc_Pi D (fun ak : Nat => (wX cx aX aH aI aS aT ak aC aD (aC 0) (aD 0) aG db dn ql qf qz qi v.2.1 v.2.2.1 v.2.2.2.1 v.2.2.2.2.1 v.2.2.2.2.2.1 v.2.2.2.2.2.2.1 v.2.2.2.2.2.2.2.1 v.2.2.2.2.2.2.2.2.1 v.2.2.2.2.2.2.2.2.2.1 v.2.2.2.2.2.2.2.2.2.2.1 v.2.2.2.2.2.2.2.2.2.2.2.1 v.2.2.2.2.2.2.2.2.2.2.2.2 cv cc cm ch dv dc dm dh gw gh gk gq gr gj gR gT gC)) v.1 A)) (by decide) (Nat.le_of_ble_eq_true rfl) ?_
  intro p e s m below meth c A hx hb hr hk hml hown hin hts hN hK hP hD hS hA ls hl
  have hown : s.vm.findClass RX4 = some m.cls := hown
  have hl : lv_has ls 4 [(0, .ref (aX 0))] := hl
  unfold fX4_as at hf
  have hP : va_P D classes (wX cx aX aH aI aS aT ak aC aD (aC 0) (aD 0) aG db dn ql qf qz qi sp s1 s2 s3 s4 s5 sP sC sH tl kl kf cv cc cm ch dv dc dm dh gw gh gk gq gr gj gR gT gC) s.heap := hP
  obtain ⟨H, hH⟩ : ∃ H, H = s.heap := ⟨_, rfl⟩
  obtain ⟨locs, hL⟩ : ∃ locs : List Loc, locs = [] := ⟨_, rfl⟩
  have hS : va_S A s.heap H locs := by rw [hH, hL]; exact hS
  have hP : va_P D classes (wX cx aX aH aI aS aT ak aC aD (aC 0) (aD 0) aG db dn ql qf qz qi sp s1 s2 s3 s4 s5 sP sC sH tl kl kf cv cc cm ch dv dc dm dh gw gh gk gq gr gj gR gT gC) H := by rw [hH]; exact hP
  suffices hW : W p l e (rmX4_as ka sa) s m ([.ref (aX 0)] : List Value).toArray below meth c H locs 0 0 (MQ below (kc_Pi D (fun ak : Nat => (wX cx aX aH aI aS aT ak aC aD (aC 0) (aD 0) aG db dn ql qf qz qi v.2.1 v.2.2.1 v.2.2.2.1 v.2.2.2.2.1 v.2.2.2.2.2.1 v.2.2.2.2.2.2.1 v.2.2.2.2.2.2.2.1 v.2.2.2.2.2.2.2.2.1 v.2.2.2.2.2.2.2.2.2.1 v.2.2.2.2.2.2.2.2.2.2.1 v.2.2.2.2.2.2.2.2.2.2.2.1 v.2.2.2.2.2.2.2.2.2.2.2.2 cv cc cm ch dv dc dm dh gw gh gk gq gr gj gR gT gC)) v.1 A) ([.ref (aX 0)] : List Value).toArray s ka sa A) (F0 m 0 ls []) by rw [hH, hL] at hW; exact hW
  clear hH hL
  refine lv_aload_n hx hb dX4_as_0 rfl (lv_at hl 0 rfl) ?_
  refine va_get (D := D) (ci := 4) (v := .ref (aC 0)) (C := RX4) (T := TX4) (N := 7) hx hb hts iX4 hown hK hP 0 rfl rfl 3 (by decide) (hts _ wd_229) (fun _ h9 => h9) rfl dX4_as_1 ?_
  obtain ⟨u11, hu11, hf⟩ := ob_s hf
  refine kc_calli (wn := fun _ => (wX cx aX aH aI aS aT ak aC aD (aC 0) (aD 0) aG db dn ql qf qz qi sp s1 s2 s3 s4 s5 sP sC sH tl kl kf cv cc cm ch dv dc dm dh gw gh gk gq gr gj gR gT gC)) (va_runV (As := []) (rest := []) ⟨hx, hb, hml, hown, hts⟩ (metX0_isOver l D cx aC aG cv cc cm ch gw gh gk gq gr gj gR gT gC  N H.size u11 hu11) ⟨callB_of 0 hts (kc_gI wd_276) rfl rfl rfl (hts _ wd_44) (hts _ wd_273) (by decide +kernel) ⟨Nat.le_of_ble_eq_true rfl, Nat.le_of_ble_eq_true rfl⟩, hts _ wd_274, hts _ wd_275⟩ ⟨kc_blind _ _ _ _ _, va_recv hK hP (ci := 0) (q0 := 21) rfl rfl, kc_pre _ hK hN (hP.sub [21, 22, 23, 24, 29, 30, 31, 32] rfl) (hD.sub [21, 22, 23, 24, 29, 30, 31, 32] (by decide) rfl)⟩ rfl rfl hl.1 rfl (lv_room (Nat.le_of_ble_eq_true rfl)) dX4_as_4 ⟨Nat.zero_le _, Nat.zero_le _⟩) hP hD hS hA [21, 22, 23, 24, 29, 30, 31, 32] [0, 1, 2, 3, 4, 5, 6, 7, 8, 9, 10, 11, 12, 13, 14, 15, 16, 17, 18, 19, 20, 25, 26, 27, 28] [0, 1, 2, 3, 4, 5, 6, 7, 8, 9, 10, 11, 12, 13, 14, 15, 16, 17, 18, 19, 20, 25, 26, 27, 28, 21, 22, 23, 24, 29, 30, 31, 32] rfl rfl (by decide) (by decide) (fun _ => rfl) (by decide) (fun _ H locs hP hD hS => ?_)
  have hP : va_P D classes (wX cx aX aH aI aS aT ak aC aD (aC 0) (aD 0) aG db dn ql qf qz qi sp s1 s2 s3 s4 s5 sP sC sH tl kl kf cv cc cm ch dv dc dm dh gw gh gk gq gr gj gR gT gC) H := hP
  have hD : va_D A (wX cx aX aH aI aS aT ak aC aD (aC 0) (aD 0) aG db dn ql qf qz qi sp s1 s2 s3 s4 s5 sP sC sH tl kl kf cv cc cm ch dv dc dm dh gw gh gk gq gr gj gR gT gC) := hD
  refine lv_if_eq (tgt := 14) hx hb dX4_as_7 (by decide) (fun c12 => ?_) (fun c12 => ?_)
  · replace hf := it_t c12 hf
    refine lv_aload_n hx hb dX4_as_14 rfl (lv_at hl 0 rfl) ?_
    refine va_get (D := D) (ci := 4) (v := .ref (aS 0)) (C := RX4) (T := TX4) (N := 7) hx hb hts iX4 hown hK hP 0 rfl rfl 1 (by decide) (hts _ wd_227) (fun _ h9 => h9) rfl dX4_as_15 ?_
    refine lv_aload_n hx hb dX4_as_18 rfl (lv_at hl 0 rfl) ?_
    refine va_get (D := D) (ci := 4) (v := .ref (aC 0)) (C := RX4) (T := TX4) (N := 7) hx hb hts iX4 hown hK hP 0 rfl rfl 3 (by decide) (hts _ wd_229) (fun _ h9 => h9) rfl dX4_as_19 ?_
    have hka := hk9 u11 hu11 c12
    obtain ⟨u13, hu13, hf⟩ := ob_s hf
    refine kc_callv (wn := fun ak14 => (wX cx aX aH aI aS aT ak14 aC aD (aC 0) (aD 0) aG db dn ql qf qz qi u13.1 u13.2.1 u13.2.2.1 u13.2.2.2.1 u13.2.2.2.2.1 u13.2.2.2.2.2.1 u13.2.2.2.2.2.2.1 u13.2.2.2.2.2.2.2.1 u13.2.2.2.2.2.2.2.2.1 u13.2.2.2.2.2.2.2.2.2.1 u13.2.2.2.2.2.2.2.2.2.2.1 u13.2.2.2.2.2.2.2.2.2.2.2 cv cc cm ch dv dc dm dh gw gh gk gq gr gj gR gT gC)) (va_runV (As := [.ref (aC 0)]) (rest := []) ⟨hx, hb, hml, hown, hts⟩ (metX3_start l D cx aS aT ak aC aG sp s1 s2 s3 s4 s5 sP sC sH tl kl kf cv cc cm ch gw gh gk gq gr gj gR gT gC  N H.size u13 hu13) ⟨callB_of 1 hts (kc_gI wd_359) rfl rfl rfl (hts _ wd_43) (hts _ wd_356) (by decide +kernel) ⟨Nat.le_of_ble_eq_true rfl, Nat.le_of_ble_eq_true rfl⟩, hts _ wd_357, hts _ wd_358⟩ ⟨kc_blind _ _ _ _ _, va_recv hK hP (ci := 3) (q0 := 10) rfl rfl, kc_pre _ hK hN (hP.sub [10, 11, 12, 13, 14, 15, 16, 17, 18, 19, 20, 21, 22, 23, 24, 29, 30, 31, 32] rfl) (hD.sub [10, 11, 12, 13, 14, 15, 16, 17, 18, 19, 20, 21, 22, 23, 24, 29, 30, 31, 32] (by decide) rfl)⟩ rfl rfl hl.1 rfl (lv_room (Nat.le_of_ble_eq_true rfl)) dX4_as_22 ⟨(by show 0 + az sp ≤ ka; omega), (by show 0 + azs sp ≤ sa; omega)⟩) hP hD hS hA [10, 11, 12, 13, 14, 15, 16, 17, 18, 19, 20, 21, 22, 23, 24, 29, 30, 31, 32] [0, 1, 2, 3, 4, 5, 6, 7, 8, 9, 25, 26, 27, 28] [0, 1, 2, 3, 4, 5, 6, 7, 8, 9, 14, 15, 16, 17, 18, 19, 20, 21, 22, 23, 24, 25, 26, 27, 28, 10, 11, 12, 13, 29, 30, 31, 32] rfl rfl (by decide) (by decide) (fun _ => rfl) (by decide) (fun ak14 H locs hP hD hS => ?_)
    have hP : va_P D classes (wX cx aX aH aI aS aT ak14 aC aD (aC 0) (aD 0) aG db dn ql qf qz qi u13.1 u13.2.1 u13.2.2.1 u13.2.2.2.1 u13.2.2.2.2.1 u13.2.2.2.2.2.1 u13.2.2.2.2.2.2.1 u13.2.2.2.2.2.2.2.1 u13.2.2.2.2.2.2.2.2.1 u13.2.2.2.2.2.2.2.2.2.1 u13.2.2.2.2.2.2.2.2.2.2.1 u13.2.2.2.2.2.2.2.2.2.2.2 cv cc cm ch dv dc dm dh gw gh gk gq gr gj gR gT gC) H := hP
    have hD : va_D A (wX cx aX aH aI aS aT ak14 aC aD (aC 0) (aD 0) aG db dn ql qf qz qi u13.1 u13.2.1 u13.2.2.1 u13.2.2.2.1 u13.2.2.2.2.1 u13.2.2.2.2.2.1 u13.2.2.2.2.2.2.1 u13.2.2.2.2.2.2.2.1 u13.2.2.2.2.2.2.2.2.1 u13.2.2.2.2.2.2.2.2.2.1 u13.2.2.2.2.2.2.2.2.2.2.1 u13.2.2.2.2.2.2.2.2.2.2.2 cv cc cm ch dv dc dm dh gw gh gk gq gr gj gR gT gC) := hD
    refine W.widen (k := ka) (n := sa) (by omega) (by omega) ?_
    refine lv_aload_n hx hb dX4_as_25 rfl (lv_at hl 0 rfl) ?_
    refine va_get (D := D) (ci := 4) (v := .ref (aS 0)) (C := RX4) (T := TX4) (N := 7) hx hb hts iX4 hown hK hP 0 rfl rfl 1 (by decide) (hts _ wd_227) (fun _ h9 => h9) rfl dX4_as_26 ?_
    obtain ⟨u15, hu15, hf⟩ := ob_s hf
    refine kc_calli (wn := fun _ => (wX cx aX aH aI aS aT ak14 aC aD (aC 0) (aD 0) aG db dn ql qf qz qi u13.1 u13.2.1 u13.2.2.1 u13.2.2.2.1 u13.2.2.2.2.1 u13.2.2.2.2.2.1 u13.2.2.2.2.2.2.1 u15.2.1 u15.2.2.1 u15.2.2.2.1 u13.2.2.2.2.2.2.2.2.2.2.1 u15.2.2.2.2 cv cc cm ch dv dc dm dh gw gh gk gq gr gj gR gT gC)) (va_runV (As := []) (rest := []) ⟨hx, hb, hml, hown, hts⟩ (metX3_worthOfStart l D cx aS aT ak14 aG u13.1 u13.2.1 u13.2.2.1 u13.2.2.2.1 u13.2.2.2.2.1 u13.2.2.2.2.2.1 u13.2.2.2.2.2.2.1 u13.2.2.2.2.2.2.2.1 u13.2.2.2.2.2.2.2.2.1 u13.2.2.2.2.2.2.2.2.2.1 u13.2.2.2.2.2.2.2.2.2.2.1 u13.2.2.2.2.2.2.2.2.2.2.2 gw gh gk gq gr gj gR gT gC  N H.size u15 hu15) ⟨callB_of 0 hts (kc_gI wd_379) rfl rfl rfl (hts _ wd_43) (hts _ wd_376) (by decide +kernel) ⟨Nat.le_of_ble_eq_true rfl, Nat.le_of_ble_eq_true rfl⟩, hts _ wd_377, hts _ wd_378⟩ ⟨kc_blind _ _ _ _ _, va_recv hK hP (ci := 3) (q0 := 10) rfl rfl, kc_pre _ hK hN (hP.sub [10, 11, 12, 13, 14, 15, 16, 17, 18, 19, 20, 29, 30, 31, 32] rfl) (hD.sub [10, 11, 12, 13, 14, 15, 16, 17, 18, 19, 20, 29, 30, 31, 32] (by decide) rfl)⟩ rfl rfl hl.1 rfl (lv_room (Nat.le_of_ble_eq_true rfl)) dX4_as_29 ⟨(by show ka + 0 ≤ ka; omega), (by show sa + 0 ≤ sa; omega)⟩) hP hD hS hA [10, 11, 12, 13, 14, 15, 16, 17, 18, 19, 20, 29, 30, 31, 32] [0, 1, 2, 3, 4, 5, 6, 7, 8, 9, 21, 22, 23, 24, 25, 26, 27, 28] [0, 1, 2, 3, 4, 5, 6, 7, 8, 9, 18, 19, 20, 21, 22, 23, 24, 25, 26, 27, 28, 10, 11, 12, 13, 14, 15, 16, 17, 29, 30, 31, 32] rfl rfl (by decide) (by decide) (fun _ => rfl) (by decide) (fun _ H locs hP hD hS => ?_)
    have hP : va_P D classes (wX cx aX aH aI aS aT ak14 aC aD (aC 0) (aD 0) aG db dn ql qf qz qi u13.1 u13.2.1 u13.2.2.1 u13.2.2.2.1 u13.2.2.2.2.1 u13.2.2.2.2.2.1 u13.2.2.2.2.2.2.1 u15.2.1 u15.2.2.1 u15.2.2.2.1 u13.2.2.2.2.2.2.2.2.2.2.1 u15.2.2.2.2 cv cc cm ch dv dc dm dh gw gh gk gq gr gj gR gT gC) H := hP
    have hD : va_D A (wX cx aX aH aI aS aT ak14 aC aD (aC 0) (aD 0) aG db dn ql qf qz qi u13.1 u13.2.1 u13.2.2.1 u13.2.2.2.1 u13.2.2.2.2.1 u13.2.2.2.2.2.1 u13.2.2.2.2.2.2.1 u15.2.1 u15.2.2.1 u15.2.2.2.1 u13.2.2.2.2.2.2.2.2.2.2.1 u15.2.2.2.2 cv cc cm ch dv dc dm dh gw gh gk gq gr gj gR gT gC) := hD
    refine W.widen (k := ka) (n := sa) (by omega) (by omega) ?_
    refine lv_istore_n (lv' := [(1, .int u15.1), (0, .ref (aX 0))]) hx hb dX4_as_32 rfl hl (by decide) rfl (fun ls hl => ?_)
    refine lv_iconst (v := (0 : Int32)) hx hb dX4_as_33 (by decide) ?_
    refine lv_istore_n (lv' := [(2, .int (0 : Int32)), (1, .int u15.1), (0, .ref (aX 0))]) hx hb dX4_as_34 rfl hl (by decide) rfl (fun ls hl => ?_)
    refine lv_iconst (v := (0 : Int32)) hx hb dX4_as_35 (by decide) ?_
    refine lv_istore_n (lv' := [(3, .int (0 : Int32)), (2, .int (0 : Int32)), (1, .int u15.1), (0, .ref (aX 0))]) hx hb dX4_as_36 rfl hl (by decide) rfl (fun ls hl => ?_)
    have L37 : ∀ (ct : Nat) (sC : Nat → Int32) (sH : Nat → Int32) (tl : Nat → Nat → Int32) (kf : Nat → Int64) (x2 : Int32) (x3 : Int32) (v37 : (Nat → Int32) × (Nat → Int32) × (Nat → Nat → Int32) × (Nat → Int64) × Int32), fX4_as_L37 N u13.2.1 u13.2.2.1 u13.2.2.2.1 u13.2.2.2.2.1 u13.2.2.2.2.2.1 u13.2.2.2.2.2.2.1 u13.2.2.2.2.2.2.2.2.2.2.1 ch gw gh gq gT gC u15.1 ct sC sH tl kf x2 x3 = some v37 → ∀ (H : Heap) (locs : List Loc) (ls : Array Slot), va_P D classes (wX cx aX aH aI aS aT ak14 aC aD (aC 0) (aD 0) aG db dn ql qf qz qi u13.1 u13.2.1 u13.2.2.1 u13.2.2.2.1 u13.2.2.2.2.1 u13.2.2.2.2.2.1 u13.2.2.2.2.2.2.1 sC sH tl u13.2.2.2.2.2.2.2.2.2.2.1 kf cv cc cm ch dv dc dm dh gw gh gk gq gr gj gR gT gC) H → va_D A (wX cx aX aH aI aS aT ak14 aC aD (aC 0) (aD 0) aG db dn ql qf qz qi u13.1 u13.2.1 u13.2.2.1 u13.2.2.2.1 u13.2.2.2.2.1 u13.2.2.2.2.2.1 u13.2.2.2.2.2.2.1 sC sH tl u13.2.2.2.2.2.2.2.2.2.2.1 kf cv cc cm ch dv dc dm dh gw gh gk gq gr gj gR gT gC) → va_S A s.heap H locs → lv_has ls 4 [(0, .ref (aX 0)), (1, .int u15.1), (2, .int x2), (3, .int x3)] → (∀ (H : Heap) (locs : List Loc) (ls : Array Slot), va_P D classes (wX cx aX aH aI aS aT ak14 aC aD (aC 0) (aD 0) aG db dn ql qf qz qi u13.1 u13.2.1 u13.2.2.1 u13.2.2.2.1 u13.2.2.2.2.1 u13.2.2.2.2.2.1 u13.2.2.2.2.2.2.1 v37.1 v37.2.1 v37.2.2.1 u13.2.2.2.2.2.2.2.2.2.2.1 v37.2.2.2.1 cv cc cm ch dv dc dm dh gw gh gk gq gr gj gR gT gC) H → va_D A (wX cx aX aH aI aS aT ak14 aC aD (aC 0) (aD 0) aG db dn ql qf qz qi u13.1 u13.2.1 u13.2.2.1 u13.2.2.2.1 u13.2.2.2.2.1 u13.2.2.2.2.2.1 u13.2.2.2.2.2.2.1 v37.1 v37.2.1 v37.2.2.1 u13.2.2.2.2.2.2.2.2.2.2.1 v37.2.2.2.1 cv cc cm ch dv dc dm dh gw gh gk gq gr gj gR gT gC) → va_S A s.heap H locs → lv_has ls 4 [(2, .int v37.2.2.2.2)] → W p l e (rmX4_as ka sa) s m ([.ref (aX 0)] : List Value).toArray below meth c H locs ka sa (MQ below (kc_Pi D (fun ak : Nat => (wX cx aX aH aI aS aT ak aC aD (aC 0) (aD 0) aG db dn ql qf qz qi v.2.1 v.2.2.1 v.2.2.2.1 v.2.2.2.2.1 v.2.2.2.2.2.1 v.2.2.2.2.2.2.1 v.2.2.2.2.2.2.2.1 v.2.2.2.2.2.2.2.2.1 v.2.2.2.2.2.2.2.2.2.1 v.2.2.2.2.2.2.2.2.2.2.1 v.2.2.2.2.2.2.2.2.2.2.2.1 v.2.2.2.2.2.2.2.2.2.2.2.2 cv cc cm ch dv dc dm dh gw gh gk gq gr gj gR gT gC)) v.1 A) ([.ref (aX 0)] : List Value).toArray s ka sa A) (F0 m 80 ls [])) → W p l e (rmX4_as ka sa) s m ([.ref (aX 0)] : List Value).toArray below meth c H locs ka sa (MQ below (kc_Pi D (fun ak : Nat => (wX cx aX aH aI aS aT ak aC aD (aC 0) (aD 0) aG db dn ql qf qz qi v.2.1 v.2.2.1 v.2.2.2.1 v.2.2.2.2.1 v.2.2.2.2.2.1 v.2.2.2.2.2.2.1 v.2.2.2.2.2.2.2.1 v.2.2.2.2.2.2.2.2.1 v.2.2.2.2.2.2.2.2.2.1 v.2.2.2.2.2.2.2.2.2.2.1 v.2.2.2.2.2.2.2.2.2.2.2.1 v.2.2.2.2.2.2.2.2.2.2.2.2 cv cc cm ch dv dc dm dh gw gh gk gq gr gj gR gT gC)) v.1 A) ([.ref (aX 0)] : List Value).toArray s ka sa A) (F0 m 37 ls []) := by
      intro ct
      induction ct with
      | zero =>
        intro sC sH tl kf x2 x3 v37 hf
        exact absurd (show (none : Option ((Nat → Int32) × (Nat → Int32) × (Nat → Nat → Int32) × (Nat → Int64) × Int32)) = some v37 from hf) (fun q => by cases q)
      | succ ct ih =>
        intro sC sH tl kf x2 x3 v37 hf H locs ls hP hD hS hl hE
        rw [fX4_as_L37] at hf
        refine lv_iload_n hx hb dX4_as_37 rfl (lv_at hl 3 rfl) ?_
        refine lv_aload_n hx hb dX4_as_38 rfl (lv_at hl 0 rfl) ?_
        refine va_get (D := D) (ci := 4) (v := .ref (aG 0)) (C := RX4) (T := TX4) (N := 7) hx hb hts iX4 hown hK hP 0 rfl rfl 0 (by decide) (hts _ wd_226) (fun _ h9 => h9) rfl dX4_as_39 ?_
        refine va_get (D := D) (ci := 1) (v := .int gw) (C := RX1) (T := TX1) (N := 9) hx hb hts iX1 hown hK hP 29 rfl rfl 0 (by decide) (hts _ wd_67) (fun _ h9 => h9) rfl dX4_as_42 ?_
        refine lv_icmp_ge (tgt := 80) hx hb dX4_as_45 (by decide) (fun c21 => ?_) (fun c21 => ?_)
        · replace hf := it_t c21 hf
          obtain rfl := Option.some.inj hf
          exact hE H locs ls hP hD hS (lv_sub hl [2] rfl)
        · replace hf := it_f c21 hf
          refine lv_aload_n hx hb dX4_as_48 rfl (lv_at hl 0 rfl) ?_
          refine va_get (D := D) (ci := 4) (v := .ref (aC 0)) (C := RX4) (T := TX4) (N := 7) hx hb hts iX4 hown hK hP 0 rfl rfl 3 (by decide) (hts _ wd_229) (fun _ h9 => h9) rfl dX4_as_49 ?_
          refine lv_iload_n hx hb dX4_as_52 rfl (lv_at hl 3 rfl) ?_
          obtain ⟨u22, hu22, hf⟩ := ob_s hf
          refine kc_calli (wn := fun _ => (wX cx aX aH aI aS aT ak14 aC aD (aC 0) (aD 0) aG db dn ql qf qz qi u13.1 u13.2.1 u13.2.2.1 u13.2.2.2.1 u13.2.2.2.2.1 u13.2.2.2.2.2.1 u13.2.2.2.2.2.2.1 sC sH tl u13.2.2.2.2.2.2.2.2.2.2.1 kf cv cc cm ch dv dc dm dh gw gh gk gq gr gj gR gT gC)) (va_runV (As := [.int x3]) (rest := []) ⟨hx, hb, hml, hown, hts⟩ (metX0_isOpen l D cx aC aG cv cc cm ch gw gh gk gq gr gj gR gT gC x3 N H.size u22 hu22) ⟨callB_of 1 hts (kc_gI wd_271) rfl rfl rfl (hts _ wd_44) (hts _ wd_268) (by decide +kernel) ⟨Nat.le_of_ble_eq_true rfl, Nat.le_of_ble_eq_true rfl⟩, hts _ wd_269, hts _ wd_270⟩ ⟨kc_blind _ _ _ _ _, va_recv hK hP (ci := 0) (q0 := 21) rfl rfl, kc_pre _ hK hN (hP.sub [21, 22, 23, 24, 29, 30, 31, 32] rfl) (hD.sub [21, 22, 23, 24, 29, 30, 31, 32] (by decide) rfl)⟩ rfl rfl hl.1 rfl (lv_room (Nat.le_of_ble_eq_true rfl)) dX4_as_53 ⟨(by show ka + 0 ≤ ka; omega), (by show sa + 0 ≤ sa; omega)⟩) hP hD hS hA [21, 22, 23, 24, 29, 30, 31, 32] [0, 1, 2, 3, 4, 5, 6, 7, 8, 9, 10, 11, 12, 13, 14, 15, 16, 17, 18, 19, 20, 25, 26, 27, 28] [0, 1, 2, 3, 4, 5, 6, 7, 8, 9, 10, 11, 12, 13, 14, 15, 16, 17, 18, 19, 20, 25, 26, 27, 28, 21, 22, 23, 24, 29, 30, 31, 32] rfl rfl (by decide) (by decide) (fun _ => rfl) (by decide) (fun _ H locs hP hD hS => ?_)
          have hP : va_P D classes (wX cx aX aH aI aS aT ak14 aC aD (aC 0) (aD 0) aG db dn ql qf qz qi u13.1 u13.2.1 u13.2.2.1 u13.2.2.2.1 u13.2.2.2.2.1 u13.2.2.2.2.2.1 u13.2.2.2.2.2.2.1 sC sH tl u13.2.2.2.2.2.2.2.2.2.2.1 kf cv cc cm ch dv dc dm dh gw gh gk gq gr gj gR gT gC) H := hP
          have hD : va_D A (wX cx aX aH aI aS aT ak14 aC aD (aC 0) (aD 0) aG db dn ql qf qz qi u13.1 u13.2.1 u13.2.2.1 u13.2.2.2.1 u13.2.2.2.2.1 u13.2.2.2.2.2.1 u13.2.2.2.2.2.2.1 sC sH tl u13.2.2.2.2.2.2.2.2.2.2.1 kf cv cc cm ch dv dc dm dh gw gh gk gq gr gj gR gT gC) := hD
          refine W.widen (k := ka) (n := sa) (by omega) (by omega) ?_
          refine lv_if_eq (tgt := 74) hx hb dX4_as_56 (by decide) (fun c23 => ?_) (fun c23 => ?_)
          · replace hf := it_t c23 hf
            refine lv_iinc (v := (x3 + (1 : Int32))) (lv' := [(3, .int (x3 + (1 : Int32))), (0, .ref (aX 0)), (1, .int u15.1), (2, .int x2)]) hx hb dX4_as_74 hl (k := 3) rfl rfl (by decide) rfl (fun ls hl => ?_)
            refine lv_goto (tgt := 37) hx hb dX4_as_77 (by decide) ?_
            exact ih sC sH tl kf x2 (x3 + (1 : Int32)) _ hf H locs ls hP hD hS (lv_sub hl [1, 2, 3, 0] rfl) hE
          · replace hf := it_f c23 hf
            refine lv_aload_n hx hb dX4_as_59 rfl (lv_at hl 0 rfl) ?_
            refine va_get (D := D) (ci := 4) (v := .ref (aS 0)) (C := RX4) (T := TX4) (N := 7) hx hb hts iX4 hown hK hP 0 rfl rfl 1 (by decide) (hts _ wd_227) (fun _ h9 => h9) rfl dX4_as_60 ?_
            refine lv_iload_n hx hb dX4_as_63 rfl (lv_at hl 3 rfl) ?_
            obtain ⟨u24, hu24, hf⟩ := ob_s hf
            refine kc_calli (wn := fun _ => (wX cx aX aH aI aS aT ak14 aC aD (aC 0) (aD 0) aG db dn ql qf qz qi u13.1 u13.2.1 u13.2.2.1 u13.2.2.2.1 u13.2.2.2.2.1 u13.2.2.2.2.2.1 u13.2.2.2.2.2.2.1 u24.2.1 u24.2.2.1 u24.2.2.2.1 u13.2.2.2.2.2.2.2.2.2.2.1 u24.2.2.2.2 cv cc cm ch dv dc dm dh gw gh gk gq gr gj gR gT gC)) (va_runV (As := [.int x3]) (rest := []) ⟨hx, hb, hml, hown, hts⟩ (metX3_worthOfMove l D cx aS aT ak14 aG u13.1 u13.2.1 u13.2.2.1 u13.2.2.2.1 u13.2.2.2.2.1 u13.2.2.2.2.2.1 u13.2.2.2.2.2.2.1 sC sH tl u13.2.2.2.2.2.2.2.2.2.2.1 kf gw gh gk gq gr gj gR gT gC x3 N H.size u24 hu24) ⟨callB_of 1 hts (kc_gI wd_416) rfl rfl rfl (hts _ wd_43) (hts _ wd_413) (by decide +kernel) ⟨Nat.le_of_ble_eq_true rfl, Nat.le_of_ble_eq_true rfl⟩, hts _ wd_414, hts _ wd_415⟩ ⟨kc_blind _ _ _ _ _, va_recv hK hP (ci := 3) (q0 := 10) rfl rfl, kc_pre _ hK hN (hP.sub [10, 11, 12, 13, 14, 15, 16, 17, 18, 19, 20, 29, 30, 31, 32] rfl) (hD.sub [10, 11, 12, 13, 14, 15, 16, 17, 18, 19, 20, 29, 30, 31, 32] (by decide) rfl)⟩ rfl rfl hl.1 rfl (lv_room (Nat.le_of_ble_eq_true rfl)) dX4_as_64 ⟨(by show ka + 0 ≤ ka; omega), (by show sa + 0 ≤ sa; omega)⟩) hP hD hS hA [10, 11, 12, 13, 14, 15, 16, 17, 18, 19, 20, 29, 30, 31, 32] [0, 1, 2, 3, 4, 5, 6, 7, 8, 9, 21, 22, 23, 24, 25, 26, 27, 28] [0, 1, 2, 3, 4, 5, 6, 7, 8, 9, 18, 19, 20, 21, 22, 23, 24, 25, 26, 27, 28, 10, 11, 12, 13, 14, 15, 16, 17, 29, 30, 31, 32] rfl rfl (by decide) (by decide) (fun _ => rfl) (by decide) (fun _ H locs hP hD hS => ?_)
            have hP : va_P D classes (wX cx aX aH aI aS aT ak14 aC aD (aC 0) (aD 0) aG db dn ql qf qz qi u13.1 u13.2.1 u13.2.2.1 u13.2.2.2.1 u13.2.2.2.2.1 u13.2.2.2.2.2.1 u13.2.2.2.2.2.2.1 u24.2.1 u24.2.2.1 u24.2.2.2.1 u13.2.2.2.2.2.2.2.2.2.2.1 u24.2.2.2.2 cv cc cm ch dv dc dm dh gw gh gk gq gr gj gR gT gC) H := hP
            have hD : va_D A (wX cx aX aH aI aS aT ak14 aC aD (aC 0) (aD 0) aG db dn ql qf qz qi u13.1 u13.2.1 u13.2.2.1 u13.2.2.2.1 u13.2.2.2.2.1 u13.2.2.2.2.2.1 u13.2.2.2.2.2.2.1 u24.2.1 u24.2.2.1 u24.2.2.2.1 u13.2.2.2.2.2.2.2.2.2.2.1 u24.2.2.2.2 cv cc cm ch dv dc dm dh gw gh gk gq gr gj gR gT gC) := hD
            refine W.widen (k := ka) (n := sa) (by omega) (by omega) ?_
            refine lv_iload_n hx hb dX4_as_67 rfl (lv_at hl 1 rfl) ?_
            refine lv_icmp_ne (tgt := 74) hx hb dX4_as_68 (by decide) (fun c25 => ?_) (fun c25 => ?_)
            · replace hf := it_f c25 hf
              refine lv_iinc (v := (x3 + (1 : Int32))) (lv' := [(3, .int (x3 + (1 : Int32))), (0, .ref (aX 0)), (1, .int u15.1), (2, .int x2)]) hx hb dX4_as_74 hl (k := 3) rfl rfl (by decide) rfl (fun ls hl => ?_)
              refine lv_goto (tgt := 37) hx hb dX4_as_77 (by decide) ?_
              exact ih u24.2.1 u24.2.2.1 u24.2.2.2.1 u24.2.2.2.2 x2 (x3 + (1 : Int32)) _ hf H locs ls hP hD hS (lv_sub hl [1, 2, 3, 0] rfl) hE
            · replace hf := it_t c25 hf
              refine lv_iinc (v := (x2 + (1 : Int32))) (lv' := [(2, .int (x2 + (1 : Int32))), (0, .ref (aX 0)), (1, .int u15.1), (3, .int x3)]) hx hb dX4_as_71 hl (k := 2) rfl rfl (by decide) rfl (fun ls hl => ?_)
              refine lv_iinc (v := (x3 + (1 : Int32))) (lv' := [(3, .int (x3 + (1 : Int32))), (2, .int (x2 + (1 : Int32))), (0, .ref (aX 0)), (1, .int u15.1)]) hx hb dX4_as_74 hl (k := 3) rfl rfl (by decide) rfl (fun ls hl => ?_)
              refine lv_goto (tgt := 37) hx hb dX4_as_77 (by decide) ?_
              exact ih u24.2.1 u24.2.2.1 u24.2.2.2.1 u24.2.2.2.2 (x2 + (1 : Int32)) (x3 + (1 : Int32)) _ hf H locs ls hP hD hS (lv_sub hl [2, 3, 1, 0] rfl) hE
    obtain ⟨u26, hu26, hf⟩ := ob_s hf
    refine L37 _ u15.2.1 u15.2.2.1 u15.2.2.2.1 u15.2.2.2.2 (0 : Int32) (0 : Int32) u26 hu26 H locs ls hP hD hS (lv_sub hl [3, 2, 1, 0] rfl) (fun H locs ls hP hD hS hl => ?_)
    refine lv_iload_n hx hb dX4_as_80 rfl (lv_at hl 0 rfl) ?_
    obtain rfl := Option.some.inj hf
    exact kc_iret (ak14) hx hb hr hk hP hD hS rfl dX4_as_81
  · replace hf := it_f c12 hf
    refine lv_sipush (v := (-201 : Int32)) hx hb dX4_as_10 (by decide) ?_
    obtain rfl := Option.some.inj hf
    refine W.widen (k := ka) (n := sa) (Nat.zero_le _) (Nat.zero_le _) ?_
    exact kc_iret (ak) hx hb hr hk hP hD hS rfl dX4_as_13
