/-! walks, written by program: what a method answers and leaves, as a function; its contract -/
abbrev rmJ7_rangeCheck_23922 : Room := { frames := 0, cells := 0, slots := 0, locals := 0 }
set_option maxHeartbeats 4000000 in
set_option maxRecDepth 100000 in
theorem metJ7_rangeCheck_23922 (l : Launch) (D : va_G) (cx : Nat → ClassId)   (x0 : Int32) (x1 : Int32) (x2 : Int32) (N : Nat) (sz : Nat) (v : Unit) (hf : fJ7_rangeCheck_23922 N x0 x1 x2 = some v) : Met l yJ7_rangeCheck_23922 (.code yJ7_rangeCheck_23922 cJ7_rangeCheck_23922 3 none :: kc_TB) rmJ7_rangeCheck_23922 (kc_Pre D cx ([] : va_W) [.int x0, .int x1, .int x2] sz) (kc_Pv D (fun _ : Unit => ([] : va_W)) (va_A ([] : va_W) sz)) 0 0 (va_A ([] : va_W) sz) := by
  refine kc_entry (Qc := fun A => (kc_Pv D (fun _ : Unit => ([] : va_W)) A)) (by decide) (Nat.le_of_ble_eq_true rfl) ?_
  intro p e s m below meth c A hx hb hr hk hml hown hin hts hN hK hP hD hS hA ls hl
  have hown : s.vm.findClass RJ7 = some m.cls := hown
  have hl : lv_has ls 3 [(0, .int x0), (1, .int x1), (2, .int x2)] := hl
  unfold fJ7_rangeCheck_23922 at hf
  have hP : va_P D classes ([] : va_W) s.heap := hP
  obtain ⟨H, hH⟩ : ∃ H, H = s.heap := ⟨_, rfl⟩
  obtain ⟨locs, hL⟩ : ∃ locs : List Loc, locs = [] := ⟨_, rfl⟩
  have hS : va_S A s.heap H locs := by rw [hH, hL]; exact hS
  have hP : va_P D classes ([] : va_W) H := by rw [hH]; exact hP
  suffices hW : W p l e rmJ7_rangeCheck_23922 s m ([.int x0, .int x1, .int x2] : List Value).toArray below meth c H locs 0 0 (MQ below (kc_Pv D (fun _ : Unit => ([] : va_W)) A) ([.int x0, .int x1, .int x2] : List Value).toArray s 0 0 A) (F0 m 0 ls []) by rw [hH, hL] at hW; exact hW
  clear hH hL
  refine lv_iload_n hx hb dJ7_rangeCheck_23922_0 rfl (lv_at hl 1 rfl) ?_
  refine lv_iload_n hx hb dJ7_rangeCheck_23922_1 rfl (lv_at hl 2 rfl) ?_
  refine lv_icmp_le (tgt := 46) hx hb dJ7_rangeCheck_23922_2 (by decide) (fun c4 => ?_) (fun c4 => ?_)
  · replace hf := it_t c4 hf
    refine lv_iload_n hx hb dJ7_rangeCheck_23922_46 rfl (lv_at hl 1 rfl) ?_
    refine lv_if_ge (tgt := 59) hx hb dJ7_rangeCheck_23922_47 (by decide) (fun c5 => ?_) (fun c5 => ?_)
    · replace hf := it_t c5 hf
      refine lv_iload_n hx hb dJ7_rangeCheck_23922_59 rfl (lv_at hl 2 rfl) ?_
      refine lv_iload_n hx hb dJ7_rangeCheck_23922_60 rfl (lv_at hl 0 rfl) ?_
      refine lv_icmp_le (tgt := 73) hx hb dJ7_rangeCheck_23922_61 (by decide) (fun c6 => ?_) (fun c6 => ?_)
      · replace hf := it_t c6 hf
        obtain rfl := Option.some.inj hf
        exact kc_vret () hx hb hr hk hP hD hS dJ7_rangeCheck_23922_73
      · replace hf := it_f c6 hf
        exact absurd hf (fun q => by cases q)
    · replace hf := it_f c5 hf
      exact absurd hf (fun q => by cases q)
  · replace hf := it_f c4 hf
    exact absurd hf (fun q => by cases q)
abbrev rmJ7_fill_bad5a : Room := { frames := 1, cells := 0, slots := 0, locals := 22 }
set_option maxHeartbeats 4000000 in
set_option maxRecDepth 100000 in
theorem metJ7_fill_bad5a (l : Launch) (D : va_G) (cx : Nat → ClassId) (a1 : Nat) (fn : Nat) (ff : Nat → Int64) (x1 : Int32) (x2 : Int32) (x3 : Int64) (N : Nat) (sz : Nat) (v : (Nat → Int64)) (hf : fJ7_fill_bad5a N fn ff x1 x2 x3 = some v) : Met l yJ7_fill_bad5a (.code yJ7_fill_bad5a cJ7_fill_bad5a 6 none :: kc_TB) rmJ7_fill_bad5a (kc_Pre D cx (wJ cx a1 fn ff) [.ref a1, .int x1, .int x2, .long x3] sz) (kc_Pv D (fun _ : Unit => (wJ cx a1 fn v)) (va_A (wJ cx a1 fn ff) sz)) 0 0 (va_A (wJ cx a1 fn ff) sz) := by
  refine kc_entry (Qc := fun A => (kc_Pv D (fun _ : Unit => (wJ cx a1 fn v)) A)) (by decide) (Nat.le_of_ble_eq_true rfl) ?_
  intro p e s m below meth c A hx hb hr hk hml hown hin hts hN hK hP hD hS hA ls hl
  have hown : s.vm.findClass RJ7 = some m.cls := hown
  have hl : lv_has ls 6 [(0, .ref (a1)), (1, .int x1), (2, .int x2), (3, .long x3)] := hl
  unfold fJ7_fill_bad5a at hf
  have hP : va_P D classes (wJ cx a1 fn ff) s.heap := hP
  obtain ⟨H, hH⟩ : ∃ H, H = s.heap := ⟨_, rfl⟩
  obtain ⟨locs, hL⟩ : ∃ locs : List Loc, locs = [] := ⟨_, rfl⟩
  have hS : va_S A s.heap H locs := by rw [hH, hL]; exact hS
  have hP : va_P D classes (wJ cx a1 fn ff) H := by rw [hH]; exact hP
  suffices hW : W p l e rmJ7_fill_bad5a s m ([.ref a1, .int x1, .int x2, .long x3] : List Value).toArray below meth c H locs 0 0 (MQ below (kc_Pv D (fun _ : Unit => (wJ cx a1 fn v)) A) ([.ref a1, .int x1, .int x2, .long x3] : List Value).toArray s 0 0 A) (F0 m 0 ls []) by rw [hH, hL] at hW; exact hW
  clear hH hL
  refine lv_aload_n hx hb dJ7_fill_bad5a_0 rfl (lv_at hl 0 rfl) ?_
  refine va_alen (D := D) hx hb hK hP 0 2 rfl rfl rfl dJ7_fill_bad5a_1 ?_
  refine lv_iload_n hx hb dJ7_fill_bad5a_2 rfl (lv_at hl 1 rfl) ?_
  refine lv_iload_n hx hb dJ7_fill_bad5a_3 rfl (lv_at hl 2 rfl) ?_
  obtain ⟨u3, hg, hf⟩ := ob_s hf
  refine kc_callv (wn := fun _ => (wJ cx a1 fn ff)) (va_runS (As := [.int (Int32.ofNat fn), .int x1, .int x2]) (rest := []) ⟨hx, hb, hml, hown, hts⟩ (metJ7_rangeCheck_23922 l D cx   (Int32.ofNat fn) x1 x2 N H.size u3 hg) ⟨callB_of 3 hts (kc_gI wd_373) rfl rfl rfl (hts _ wd_42) (hts _ wd_371) (by decide +kernel) ⟨Nat.le_of_ble_eq_true rfl, Nat.le_of_ble_eq_true rfl⟩, hts _ wd_372⟩ ⟨kc_blind _ _ _ _ _, kc_pre _ hK hN (hP.sub [] rfl) (hD.sub [] (by decide) rfl)⟩ rfl rfl hl.1 rfl (lv_room (Nat.le_of_ble_eq_true rfl)) dJ7_fill_bad5a_4 ⟨Nat.zero_le _, Nat.zero_le _⟩) hP hD hS hA [] [0] [0] rfl rfl (by decide) (by decide) (fun _ => rfl) (by decide) (fun _ H locs hP hD hS => ?_)
  have hP : va_P D classes (wJ cx a1 fn ff) H := hP
  have hD : va_D A (wJ cx a1 fn ff) := hD
  refine lv_iload_n hx hb dJ7_fill_bad5a_7 rfl (lv_at hl 1 rfl) ?_
  refine lv_istore (lv' := [(5, .int x1), (0, .ref (a1)), (1, .int x1), (2, .int x2), (3, .long x3)]) hx hb dJ7_fill_bad5a_8 hl (by decide) rfl (fun ls hl => ?_)
  have L10 : ∀ (ct : Nat) (ff : Nat → Int64) (x5 : Int32) (v10 : (Nat → Int64)), fJ7_fill_bad5a_L10 N fn x2 x3 ct ff x5 = some v10 → ∀ (H : Heap) (locs : List Loc) (ls : Array Slot), va_P D classes (wJ cx a1 fn ff) H → va_D A (wJ cx a1 fn ff) → va_S A s.heap H locs → lv_has ls 6 [(0, .ref (a1)), (2, .int x2), (3, .long x3), (5, .int x5)] → (∀ (H : Heap) (locs : List Loc) (ls : Array Slot), va_P D classes (wJ cx a1 fn v10) H → va_D A (wJ cx a1 fn v10) → va_S A s.heap H locs → lv_has ls 6 [] → W p l e rmJ7_fill_bad5a s m ([.ref a1, .int x1, .int x2, .long x3] : List Value).toArray below meth c H locs 0 0 (MQ below (kc_Pv D (fun _ : Unit => (wJ cx a1 fn v)) A) ([.ref a1, .int x1, .int x2, .long x3] : List Value).toArray s 0 0 A) (F0 m 27 ls [])) → W p l e rmJ7_fill_bad5a s m ([.ref a1, .int x1, .int x2, .long x3] : List Value).toArray below meth c H locs 0 0 (MQ below (kc_Pv D (fun _ : Unit => (wJ cx a1 fn v)) A) ([.ref a1, .int x1, .int x2, .long x3] : List Value).toArray s 0 0 A) (F0 m 10 ls []) := by
    intro ct
    induction ct with
    | zero =>
      intro ff x5 v10 hf
      exact absurd (show (none : Option ((Nat → Int64))) = some v10 from hf) (fun q => by cases q)
    | succ ct ih =>
      intro ff x5 v10 hf H locs ls hP hD hS hl hE
      rw [fJ7_fill_bad5a_L10] at hf
      refine lv_iload hx hb dJ7_fill_bad5a_10 (lv_at hl 3 rfl) ?_
      refine lv_iload_n hx hb dJ7_fill_bad5a_12 rfl (lv_at hl 1 rfl) ?_
      refine lv_icmp_ge (tgt := 27) hx hb dJ7_fill_bad5a_13 (by decide) (fun c5 => ?_) (fun c5 => ?_)
      · replace hf := it_t c5 hf
        obtain rfl := Option.some.inj hf
        exact hE H locs ls hP hD hS (lv_sub hl [] rfl)
      · replace hf := it_f c5 hf
        refine lv_aload_n hx hb dJ7_fill_bad5a_16 rfl (lv_at hl 0 rfl) ?_
        refine lv_iload hx hb dJ7_fill_bad5a_17 (lv_at hl 3 rfl) ?_
        refine lv_lload_n hx hb dJ7_fill_bad5a_19 rfl (lv_at hl 2 rfl) ?_
        obtain ⟨hz, hf⟩ := okb_s hf
        refine va_last (D := D) hx hb hK hP hD hS 0 2 rfl rfl (inb_s hz) dJ7_fill_bad5a_20 (fun H locs hP hD hS => ?_)
        have hP : va_P D classes (wJ cx a1 fn (vp_updL ff x5.toNatClampNeg x3)) H := hP
        have hD : va_D A (wJ cx a1 fn (vp_updL ff x5.toNatClampNeg x3)) := hD
        refine lv_iinc (v := (x5 + (1 : Int32))) (lv' := [(5, .int (x5 + (1 : Int32))), (0, .ref (a1)), (2, .int x2), (3, .long x3)]) hx hb dJ7_fill_bad5a_21 hl (k := 3) rfl rfl (by decide) rfl (fun ls hl => ?_)
        refine lv_goto (tgt := 10) hx hb dJ7_fill_bad5a_24 (by decide) ?_
        exact ih (vp_updL ff x5.toNatClampNeg x3) (x5 + (1 : Int32)) _ hf H locs ls hP hD hS (lv_sub hl [1, 2, 3, 0] rfl) hE
  obtain ⟨u6, hg, hf⟩ := ob_s hf
  refine L10 _ ff x1 u6 hg H locs ls hP hD hS (lv_sub hl [1, 3, 4, 0] rfl) (fun H locs ls hP hD hS hl => ?_)
  obtain rfl := Option.some.inj hf
  exact kc_vret () hx hb hr hk hP hD hS dJ7_fill_bad5a_27
abbrev rmX3_forget : Room := { frames := 0, cells := 0, slots := 0, locals := 0 }
set_option maxHeartbeats 4000000 in
set_option maxRecDepth 100000 in
theorem metX3_forget (l : Launch) (D : va_G) (cx : Nat → ClassId) (aS : Nat → Nat) (aT : Nat → Nat) (ak : Nat) (aG : Nat → Nat) (sp : Int32) (s1 : Int32) (s2 : Int32) (s3 : Int32) (s4 : Int32) (s5 : Int32) (sP : Nat → Int32) (sC : Nat → Int32) (sH : Nat → Int32) (tl : Nat → Nat → Int32) (kl : Nat) (kf : Nat → Int64) (gw : Int32) (gh : Int32) (gk : Int32) (gq : Int32) (gr : Int32) (gj : Int32) (gR : Nat → Int32) (gT : Nat → Int32) (gC : Nat → Int32)  (N : Nat) (sz : Nat) (v : Int32) (hf : fX3_forget N  = some v) : Met l yX3_forget (.code yX3_forget cX3_forget 1 none :: kc_TB) rmX3_forget (kc_Pre D cx (wS cx aS aT ak aG sp s1 s2 s3 s4 s5 sP sC sH tl kl kf gw gh gk gq gr gj gR gT gC) [.ref (aS 0)] sz) (kc_Pv D (fun _ : Unit => (wS cx aS aT ak aG v s1 s2 s3 s4 s5 sP sC sH tl kl kf gw gh gk gq gr gj gR gT gC)) (va_A (wS cx aS aT ak aG sp s1 s2 s3 s4 s5 sP sC sH tl kl kf gw gh gk gq gr gj gR gT gC) sz)) 0 0 (va_A (wS cx aS aT ak aG sp s1 s2 s3 s4 s5 sP sC sH tl kl kf gw gh gk gq gr gj gR gT gC) sz) := by
  refine kc_entry (Qc := fun A => (kc_Pv D (fun _ : Unit => (wS cx aS aT ak aG v s1 s2 s3 s4 s5 sP sC sH tl kl kf gw gh gk gq gr gj gR gT gC)) A)) (by decide) (Nat.le_of_ble_eq_true rfl) ?_
  intro p e s m below meth c A hx hb hr hk hml hown hin hts hN hK hP hD hS hA ls hl
  have hown : s.vm.findClass RX3 = some m.cls := hown
  have hl : lv_has ls 1 [(0, .ref (aS 0))] := hl
  unfold fX3_forget at hf
  have hP : va_P D classes (wS cx aS aT ak aG sp s1 s2 s3 s4 s5 sP sC sH tl kl kf gw gh gk gq gr gj gR gT gC) s.heap := hP
  obtain ⟨H, hH⟩ : ∃ H, H = s.heap := ⟨_, rfl⟩
  obtain ⟨locs, hL⟩ : ∃ locs : List Loc, locs = [] := ⟨_, rfl⟩
  have hS : va_S A s.heap H locs := by rw [hH, hL]; exact hS
  have hP : va_P D classes (wS cx aS aT ak aG sp s1 s2 s3 s4 s5 sP sC sH tl kl kf gw gh gk gq gr gj gR gT gC) H := by rw [hH]; exact hP
  suffices hW : W p l e rmX3_forget s m ([.ref (aS 0)] : List Value).toArray below meth c H locs 0 0 (MQ below (kc_Pv D (fun _ : Unit => (wS cx aS aT ak aG v s1 s2 s3 s4 s5 sP sC sH tl kl kf gw gh gk gq gr gj gR gT gC)) A) ([.ref (aS 0)] : List Value).toArray s 0 0 A) (F0 m 0 ls []) by rw [hH, hL] at hW; exact hW
  clear hH hL
  refine lv_aload_n hx hb dX3_forget_0 rfl (lv_at hl 0 rfl) ?_
  refine lv_iconst (v := (0 : Int32)) hx hb dX3_forget_1 (by decide) ?_
  refine va_put (D := D) (ci := 3) (v := .int (0 : Int32)) (ty := .boolean) (C := RX3) (T := TX3) (N := 12) hx hb hts iX3 tyX3 tyX3_ok nmX3 hown hK hP hD hS 0 rfl rfl 6 (by decide) (hts _ wd_142) (fun _ h9 => h9) rfl (by decide +kernel) rfl rfl (Nat.le_of_ble_eq_true rfl) dX3_forget_2 (fun H locs hP hD hS => ?_)
  have hP : va_P D classes (wS cx aS aT ak aG (0 : Int32) s1 s2 s3 s4 s5 sP sC sH tl kl kf gw gh gk gq gr gj gR gT gC) H := hP
  have hD : va_D A (wS cx aS aT ak aG (0 : Int32) s1 s2 s3 s4 s5 sP sC sH tl kl kf gw gh gk gq gr gj gR gT gC) := hD
  obtain rfl := Option.some.inj hf
  exact kc_vret () hx hb hr hk hP hD hS dX3_forget_5
abbrev rmX3_prepare (sp : Int32) : Room := { frames := 2, cells := az sp, slots := azs sp, locals := 47 }
set_option maxHeartbeats 4000000 in
set_option maxRecDepth 100000 in
theorem metX3_prepare (l : Launch) (D : va_G) (cx : Nat → ClassId) (aS : Nat → Nat) (aT : Nat → Nat) (ak : Nat) (aG : Nat → Nat) (sp : Int32) (s1 : Int32) (s2 : Int32) (s3 : Int32) (s4 : Int32) (s5 : Int32) (sP : Nat → Int32) (sC : Nat → Int32) (sH : Nat → Int32) (tl : Nat → Nat → Int32) (kl : Nat) (kf : Nat → Int64) (gw : Int32) (gh : Int32) (gk : Int32) (gq : Int32) (gr : Int32) (gj : Int32) (gR : Nat → Int32) (gT : Nat → Int32) (gC : Nat → Int32)  (N : Nat) (sz : Nat) (v : Int32 × (Nat → Int32) × (Nat → Nat → Int32) × Nat × (Nat → Int64)) (hf : fX3_prepare N sp sP tl kl kf gw gh = some v) : Met l yX3_prepare (.code yX3_prepare cX3_prepare 5 none :: kc_TB) (rmX3_prepare sp) (kc_Pre D cx (wS cx aS aT ak aG sp s1 s2 s3 s4 s5 sP sC sH tl kl kf gw gh gk gq gr gj gR gT gC) [.ref (aS 0)] sz) (kc_Pv D (fun ak : Nat => (wS cx aS aT ak aG v.1 s1 s2 s3 s4 s5 v.2.1 sC sH v.2.2.1 v.2.2.2.1 v.2.2.2.2 gw gh gk gq gr gj gR gT gC)) (va_A (wS cx aS aT ak aG sp s1 s2 s3 s4 s5 sP sC sH tl kl kf gw gh gk gq gr gj gR gT gC) sz)) (az sp) (azs sp) (va_A (wS cx aS aT ak aG sp s1 s2 s3 s4 s5 sP sC sH tl kl kf gw gh gk gq gr gj gR gT gC) sz) := by
  refine kc_entry (Qc := fun A => (kc_Pv D (fun ak : Nat => (wS cx aS aT ak aG v.1 s1 s2 s3 s4 s5 v.2.1 sC sH v.2.2.1 v.2.2.2.1 v.2.2.2.2 gw gh gk gq gr gj gR gT gC)) A)) (by decide) (Nat.le_of_ble_eq_true rfl) ?_
  intro p e s m below meth c A hx hb hr hk hml hown hin hts hN hK hP hD hS hA ls hl
  have hown : s.vm.findClass RX3 = some m.cls := hown
  have hl : lv_has ls 5 [(0, .ref (aS 0))] := hl
  unfold fX3_prepare at hf
  have hP : va_P D classes (wS cx aS aT ak aG sp s1 s2 s3 s4 s5 sP sC sH tl kl kf gw gh gk gq gr gj gR gT gC) s.heap := hP
  obtain ⟨H, hH⟩ : ∃ H, H = s.heap := ⟨_, rfl⟩
  obtain ⟨locs, hL⟩ : ∃ locs : List Loc, locs = [] := ⟨_, rfl⟩
  have hS : va_S A s.heap H locs := by rw [hH, hL]; exact hS
  have hP : va_P D classes (wS cx aS aT ak aG sp s1 s2 s3 s4 s5 sP sC sH tl kl kf gw gh gk gq gr gj gR gT gC) H := by rw [hH]; exact hP
  suffices hW : W p l e (rmX3_prepare sp) s m ([.ref (aS 0)] : List Value).toArray below meth c H locs 0 0 (MQ below (kc_Pv D (fun ak : Nat => (wS cx aS aT ak aG v.1 s1 s2 s3 s4 s5 v.2.1 sC sH v.2.2.1 v.2.2.2.1 v.2.2.2.2 gw gh gk gq gr gj gR gT gC)) A) ([.ref (aS 0)] : List Value).toArray s (az sp) (azs sp) A) (F0 m 0 ls []) by rw [hH, hL] at hW; exact hW
  clear hH hL
  refine lv_aload_n hx hb dX3_prepare_0 rfl (lv_at hl 0 rfl) ?_
  refine va_get (D := D) (ci := 3) (v := .int sp) (C := RX3) (T := TX3) (N := 12) hx hb hts iX3 hown hK hP 0 rfl rfl 6 (by decide) (hts _ wd_142) (fun _ h9 => h9) rfl dX3_prepare_1 ?_
  refine lv_if_eq (tgt := 8) hx hb dX3_prepare_4 (by decide) (fun c9 => ?_) (fun c9 => ?_)
  · replace hf := it_t c9 hf
    refine lv_iconst (v := (2 : Int32)) hx hb dX3_prepare_8 (by decide) ?_
    refine lv_aload_n hx hb dX3_prepare_9 rfl (lv_at hl 0 rfl) ?_
    refine va_get (D := D) (ci := 3) (v := .ref (aG 0)) (C := RX3) (T := TX3) (N := 12) hx hb hts iX3 hown hK hP 0 rfl rfl 0 (by decide) (hts _ wd_136) (fun _ h9 => h9) rfl dX3_prepare_10 ?_
    refine va_get (D := D) (ci := 1) (v := .int gh) (C := RX1) (T := TX1) (N := 9) hx hb hts iX1 hown hK hP 11 rfl rfl 1 (by decide) (hts _ wd_69) (fun _ h9 => h9) rfl dX3_prepare_13 ?_
    refine lv_ishl hx hb dX3_prepare_16 ?_
    refine lv_iconst (v := (1 : Int32)) hx hb dX3_prepare_17 (by decide) ?_
    refine lv_isub hx hb dX3_prepare_18 ?_
    refine lv_istore_n (lv' := [(1, .int (((2 : Int32) <<< (gh &&& 31)) - (1 : Int32))), (0, .ref (aS 0))]) hx hb dX3_prepare_19 rfl hl (by decide) rfl (fun ls hl => ?_)
    refine lv_iconst (v := (1 : Int32)) hx hb dX3_prepare_20 (by decide) ?_
    refine lv_istore_n (lv' := [(2, .int (1 : Int32)), (1, .int (((2 : Int32) <<< (gh &&& 31)) - (1 : Int32))), (0, .ref (aS 0))]) hx hb dX3_prepare_21 rfl hl (by decide) rfl (fun ls hl => ?_)
    refine lv_iconst (v := (0 : Int32)) hx hb dX3_prepare_22 (by decide) ?_
    refine lv_istore_n (lv' := [(3, .int (0 : Int32)), (2, .int (1 : Int32)), (1, .int (((2 : Int32) <<< (gh &&& 31)) - (1 : Int32))), (0, .ref (aS 0))]) hx hb dX3_prepare_23 rfl hl (by decide) rfl (fun ls hl => ?_)
    have L24 : ∀ (ct : Nat) (sP : Nat → Int32) (x2 : Int32) (x3 : Int32) (v24 : (Nat → Int32) × Int32), fX3_prepare_L24 N gw (((2 : Int32) <<< (gh &&& 31)) - (1 : Int32)) ct sP x2 x3 = some v24 → ∀ (H : Heap) (locs : List Loc) (ls : Array Slot), va_P D classes (wS cx aS aT ak aG sp s1 s2 s3 s4 s5 sP sC sH tl kl kf gw gh gk gq gr gj gR gT gC) H → va_D A (wS cx aS aT ak aG sp s1 s2 s3 s4 s5 sP sC sH tl kl kf gw gh gk gq gr gj gR gT gC) → va_S A s.heap H locs → lv_has ls 5 [(0, .ref (aS 0)), (1, .int (((2 : Int32) <<< (gh &&& 31)) - (1 : Int32))), (2, .int x2), (3, .int x3)] → (∀ (H : Heap) (locs : List Loc) (ls : Array Slot), va_P D classes (wS cx aS aT ak aG sp s1 s2 s3 s4 s5 v24.1 sC sH tl kl kf gw gh gk gq gr gj gR gT gC) H → va_D A (wS cx aS aT ak aG sp s1 s2 s3 s4 s5 v24.1 sC sH tl kl kf gw gh gk gq gr gj gR gT gC) → va_S A s.heap H locs → lv_has ls 5 [(0, .ref (aS 0)), (2, .int v24.2)] → W p l e (rmX3_prepare sp) s m ([.ref (aS 0)] : List Value).toArray below meth c H locs 0 0 (MQ below (kc_Pv D (fun ak : Nat => (wS cx aS aT ak aG v.1 s1 s2 s3 s4 s5 v.2.1 sC sH v.2.2.1 v.2.2.2.1 v.2.2.2.2 gw gh gk gq gr gj gR gT gC)) A) ([.ref (aS 0)] : List Value).toArray s (az sp) (azs sp) A) (F0 m 52 ls [])) → W p l e (rmX3_prepare sp) s m ([.ref (aS 0)] : List Value).toArray below meth c H locs 0 0 (MQ below (kc_Pv D (fun ak : Nat => (wS cx aS aT ak aG v.1 s1 s2 s3 s4 s5 v.2.1 sC sH v.2.2.1 v.2.2.2.1 v.2.2.2.2 gw gh gk gq gr gj gR gT gC)) A) ([.ref (aS 0)] : List Value).toArray s (az sp) (azs sp) A) (F0 m 24 ls []) := by
      intro ct
      induction ct with
      | zero =>
        intro sP x2 x3 v24 hf
        exact absurd (show (none : Option ((Nat → Int32) × Int32)) = some v24 from hf) (fun q => by cases q)
      | succ ct ih =>
        intro sP x2 x3 v24 hf H locs ls hP hD hS hl hE
        rw [fX3_prepare_L24] at hf
        refine lv_iload_n hx hb dX3_prepare_24 rfl (lv_at hl 3 rfl) ?_
        refine lv_aload_n hx hb dX3_prepare_25 rfl (lv_at hl 0 rfl) ?_
        refine va_get (D := D) (ci := 3) (v := .ref (aG 0)) (C := RX3) (T := TX3) (N := 12) hx hb hts iX3 hown hK hP 0 rfl rfl 0 (by decide) (hts _ wd_136) (fun _ h9 => h9) rfl dX3_prepare_26 ?_
        refine va_get (D := D) (ci := 1) (v := .int gw) (C := RX1) (T := TX1) (N := 9) hx hb hts iX1 hown hK hP 11 rfl rfl 0 (by decide) (hts _ wd_65) (fun _ h9 => h9) rfl dX3_prepare_29 ?_
        refine lv_icmp_ge (tgt := 52) hx hb dX3_prepare_32 (by decide) (fun c11 => ?_) (fun c11 => ?_)
        · replace hf := it_t c11 hf
          obtain rfl := Option.some.inj hf
          exact hE H locs ls hP hD hS (lv_sub hl [0, 2] rfl)
        · replace hf := it_f c11 hf
          refine lv_aload_n hx hb dX3_prepare_35 rfl (lv_at hl 0 rfl) ?_
          refine va_get (D := D) (ci := 3) (v := .ref (aS 1)) (C := RX3) (T := TX3) (N := 12) hx hb hts iX3 hown hK hP 0 rfl rfl 1 (by decide) (hts _ wd_137) (fun _ h9 => h9) rfl dX3_prepare_36 ?_
          refine lv_iload_n hx hb dX3_prepare_39 rfl (lv_at hl 3 rfl) ?_
          refine lv_iload_n hx hb dX3_prepare_40 rfl (lv_at hl 2 rfl) ?_
          obtain ⟨hz, hf⟩ := okb_s hf
          refine va_iast (D := D) hx hb hK hP hD hS 1 0 rfl rfl (inb_s hz) dX3_prepare_41 (fun H locs hP hD hS => ?_)
          have hP : va_P D classes (wS cx aS aT ak aG sp s1 s2 s3 s4 s5 (upd sP x3.toNatClampNeg x2) sC sH tl kl kf gw gh gk gq gr gj gR gT gC) H := hP
          have hD : va_D A (wS cx aS aT ak aG sp s1 s2 s3 s4 s5 (upd sP x3.toNatClampNeg x2) sC sH tl kl kf gw gh gk gq gr gj gR gT gC) := hD
          refine lv_iload_n hx hb dX3_prepare_42 rfl (lv_at hl 2 rfl) ?_
          refine lv_iload_n hx hb dX3_prepare_43 rfl (lv_at hl 1 rfl) ?_
          refine lv_imul hx hb dX3_prepare_44 ?_
          refine lv_istore_n (lv' := [(2, .int (x2 * (((2 : Int32) <<< (gh &&& 31)) - (1 : Int32)))), (0, .ref (aS 0)), (1, .int (((2 : Int32) <<< (gh &&& 31)) - (1 : Int32))), (3, .int x3)]) hx hb dX3_prepare_45 rfl hl (by decide) rfl (fun ls hl => ?_)
          refine lv_iinc (v := (x3 + (1 : Int32))) (lv' := [(3, .int (x3 + (1 : Int32))), (2, .int (x2 * (((2 : Int32) <<< (gh &&& 31)) - (1 : Int32)))), (0, .ref (aS 0)), (1, .int (((2 : Int32) <<< (gh &&& 31)) - (1 : Int32)))]) hx hb dX3_prepare_46 hl (k := 3) rfl rfl (by decide) rfl (fun ls hl => ?_)
          refine lv_goto (tgt := 24) hx hb dX3_prepare_49 (by decide) ?_
          exact ih (upd sP x3.toNatClampNeg x2) (x2 * (((2 : Int32) <<< (gh &&& 31)) - (1 : Int32))) (x3 + (1 : Int32)) _ hf H locs ls hP hD hS (lv_sub hl [2, 3, 1, 0] rfl) hE
    obtain ⟨u12, hg, hf⟩ := ob_s hf
    refine L24 _ sP (1 : Int32) (0 : Int32) u12 hg H locs ls hP hD hS (lv_sub hl [3, 2, 1, 0] rfl) (fun H locs ls hP hD hS hl => ?_)
    refine lv_iload_n hx hb dX3_prepare_52 rfl (lv_at hl 1 rfl) ?_
    refine lv_bipush (v := (7 : Int32)) hx hb dX3_prepare_53 (by decide) ?_
    refine lv_iadd hx hb dX3_prepare_55 ?_
    refine lv_iconst (v := (3 : Int32)) hx hb dX3_prepare_56 (by decide) ?_
    refine lv_ishr hx hb dX3_prepare_57 ?_
    refine lv_istore_n (lv' := [(3, .int ((u12.2 + (7 : Int32)) >>> ((3 : Int32) &&& 31))), (0, .ref (aS 0)), (2, .int u12.2)]) hx hb dX3_prepare_58 rfl hl (by decide) rfl (fun ls hl => ?_)
    refine lv_iload_n hx hb dX3_prepare_59 rfl (lv_at hl 0 rfl) ?_
    refine lv_aload_n hx hb dX3_prepare_60 rfl (lv_at hl 1 rfl) ?_
    refine va_get (D := D) (ci := 3) (v := .ref (ak)) (C := RX3) (T := TX3) (N := 12) hx hb hts iX3 hown hK hP 0 rfl rfl 5 (by decide) (hts _ wd_141) (fun _ h9 => h9) rfl dX3_prepare_61 ?_
    refine va_alen (D := D) hx hb hK hP 10 2 rfl rfl rfl dX3_prepare_64 ?_
    refine lv_icmp_le (tgt := 78) hx hb dX3_prepare_65 (by decide) (fun c13 => ?_) (fun c13 => ?_)
    · replace hf := it_t c13 hf
      refine lv_aload_n hx hb dX3_prepare_78 rfl (lv_at hl 1 rfl) ?_
      refine va_get (D := D) (ci := 3) (v := .ref (ak)) (C := RX3) (T := TX3) (N := 12) hx hb hts iX3 hown hK hP 0 rfl rfl 5 (by decide) (hts _ wd_141) (fun _ h9 => h9) rfl dX3_prepare_79 ?_
      refine lv_iconst (v := (0 : Int32)) hx hb dX3_prepare_82 (by decide) ?_
      refine lv_iload_n hx hb dX3_prepare_83 rfl (lv_at hl 0 rfl) ?_
      refine lv_lconst (v := (0 : Int64)) hx hb dX3_prepare_84 (by decide) ?_
      obtain ⟨u14, hg, hf⟩ := ob_s hf
      refine kc_callv (wn := fun _ => (wS cx aS aT ak aG sp s1 s2 s3 s4 s5 u12.1 sC sH tl kl u14 gw gh gk gq gr gj gR gT gC)) (va_runS (As := [.ref (ak), .int (0 : Int32), .int ((u12.2 + (7 : Int32)) >>> ((3 : Int32) &&& 31)), .long (0 : Int64)]) (rest := []) ⟨hx, hb, hml, hown, hts⟩ (metJ7_fill_bad5a l D cx (ak) kl kf (0 : Int32) ((u12.2 + (7 : Int32)) >>> ((3 : Int32) &&& 31)) (0 : Int64) N H.size u14 hg) ⟨callB_of 4 hts (kc_gI wd_370) rfl rfl rfl (hts _ wd_42) (hts _ wd_368) (by decide +kernel) ⟨Nat.le_of_ble_eq_true rfl, Nat.le_of_ble_eq_true rfl⟩, hts _ wd_369⟩ ⟨kc_blind _ _ _ _ _, kc_pre _ hK hN (hP.sub [10] rfl) (hD.sub [10] (by decide) rfl)⟩ rfl rfl hl.1 rfl (lv_room (Nat.le_of_ble_eq_true rfl)) dX3_prepare_85 ⟨Nat.zero_le _, Nat.zero_le _⟩) hP hD hS hA [10] [0, 1, 2, 3, 4, 5, 6, 7, 8, 9, 11, 12, 13, 14] [0, 1, 2, 3, 4, 5, 6, 7, 8, 9, 14, 10, 11, 12, 13] rfl rfl (by decide) (by decide) (fun _ => rfl) (by decide) (fun _ H locs hP hD hS => ?_)
      have hP : va_P D classes (wS cx aS aT ak aG sp s1 s2 s3 s4 s5 u12.1 sC sH tl kl u14 gw gh gk gq gr gj gR gT gC) H := hP
      have hD : va_D A (wS cx aS aT ak aG sp s1 s2 s3 s4 s5 u12.1 sC sH tl kl u14 gw gh gk gq gr gj gR gT gC) := hD
      refine lv_iconst (v := (0 : Int32)) hx hb dX3_prepare_88 (by decide) ?_
      refine lv_istore (lv' := [(4, .int (0 : Int32)), (3, .int ((u12.2 + (7 : Int32)) >>> ((3 : Int32) &&& 31))), (0, .ref (aS 0)), (2, .int u12.2)]) hx hb dX3_prepare_89 hl (by decide) rfl (fun ls hl => ?_)
      have L91 : ∀ (ct : Nat) (tl : Nat → Nat → Int32) (x4 : Int32) (v91 : (Nat → Nat → Int32)), fX3_prepare_L91 N  ct tl x4 = some v91 → ∀ (H : Heap) (locs : List Loc) (ls : Array Slot), va_P D classes (wS cx aS aT ak aG sp s1 s2 s3 s4 s5 u12.1 sC sH tl kl u14 gw gh gk gq gr gj gR gT gC) H → va_D A (wS cx aS aT ak aG sp s1 s2 s3 s4 s5 u12.1 sC sH tl kl u14 gw gh gk gq gr gj gR gT gC) → va_S A s.heap H locs → lv_has ls 5 [(0, .ref (aS 0)), (4, .int x4)] → (∀ (H : Heap) (locs : List Loc) (ls : Array Slot), va_P D classes (wS cx aS aT ak aG sp s1 s2 s3 s4 s5 u12.1 sC sH v91 kl u14 gw gh gk gq gr gj gR gT gC) H → va_D A (wS cx aS aT ak aG sp s1 s2 s3 s4 s5 u12.1 sC sH v91 kl u14 gw gh gk gq gr gj gR gT gC) → va_S A s.heap H locs → lv_has ls 5 [(0, .ref (aS 0))] → W p l e (rmX3_prepare sp) s m ([.ref (aS 0)] : List Value).toArray below meth c H locs 0 0 (MQ below (kc_Pv D (fun ak : Nat => (wS cx aS aT ak aG v.1 s1 s2 s3 s4 s5 v.2.1 sC sH v.2.2.1 v.2.2.2.1 v.2.2.2.2 gw gh gk gq gr gj gR gT gC)) A) ([.ref (aS 0)] : List Value).toArray s (az sp) (azs sp) A) (F0 m 114 ls [])) → W p l e (rmX3_prepare sp) s m ([.ref (aS 0)] : List Value).toArray below meth c H locs 0 0 (MQ below (kc_Pv D (fun ak : Nat => (wS cx aS aT ak aG v.1 s1 s2 s3 s4 s5 v.2.1 sC sH v.2.2.1 v.2.2.2.1 v.2.2.2.2 gw gh gk gq gr gj gR gT gC)) A) ([.ref (aS 0)] : List Value).toArray s (az sp) (azs sp) A) (F0 m 91 ls []) := by
        intro ct
        induction ct with
        | zero =>
          intro tl x4 v91 hf
          exact absurd (show (none : Option ((Nat → Nat → Int32))) = some v91 from hf) (fun q => by cases q)
        | succ ct ih =>
          intro tl x4 v91 hf H locs ls hP hD hS hl hE
          rw [fX3_prepare_L91] at hf
          refine lv_iload hx hb dX3_prepare_91 (lv_at hl 1 rfl) ?_
          refine lv_iconst (v := (5 : Int32)) hx hb dX3_prepare_93 (by decide) ?_
          refine lv_icmp_ge (tgt := 114) hx hb dX3_prepare_94 (by decide) (fun c18 => ?_) (fun c18 => ?_)
          · replace hf := it_t c18 hf
            obtain rfl := Option.some.inj hf
            exact hE H locs ls hP hD hS (lv_sub hl [0] rfl)
          · replace hf := it_f c18 hf
            refine lv_aload_n hx hb dX3_prepare_97 rfl (lv_at hl 0 rfl) ?_
            refine va_get (D := D) (ci := 3) (v := .ref (aS 4)) (C := RX3) (T := TX3) (N := 12) hx hb hts iX3 hown hK hP 0 rfl rfl 4 (by decide) (hts _ wd_140) (fun _ h9 => h9) rfl dX3_prepare_98 ?_
            refine lv_iload hx hb dX3_prepare_101 (lv_at hl 1 rfl) ?_
            obtain ⟨hz, hf⟩ := okb_s hf
            have hj19 : x4.toNatClampNeg < 5 := inb_lt hz
            refine va_aldA (D := D) hx hb hK hP 4 4 rfl rfl (inb_s hz) dX3_prepare_103 ?_
            rw [if_pos hj19]
            show W _ _ _ _ _ _ _ _ _ _ _ _ _ _ _ (F0 m 104 ls (.ref (aT (x4.toNatClampNeg)) :: _))
            refine lv_iconst (v := (0 : Int32)) hx hb dX3_prepare_104 (by decide) ?_
            obtain ⟨u20, hg, hf⟩ := ob_s hf
            refine kc_callv1 (e1 := fun _ => .inl (cx 0, 17, .inl u20)) (va_runS (As := [.ref (aT (x4.toNatClampNeg)), .int (0 : Int32)]) (rest := []) ⟨hx, hb, hml, hown, hts⟩ (metJ7_fill_53178 l D cx (aT (x4.toNatClampNeg)) 17 (tl (x4.toNatClampNeg)) (0 : Int32) N H.size u20 hg) ⟨callB_of 2 hts (kc_gI wd_111) rfl rfl rfl (hts _ wd_42) (hts _ wd_374) (by decide +kernel) ⟨Nat.le_of_ble_eq_true rfl, Nat.le_of_ble_eq_true rfl⟩, hts _ wd_110⟩ ⟨kc_blind _ _ _ _ _, kc_pre _ hK hN (kc_P1 hP (wS_get_row hj19)) (kc_D1 hD (wS_get_row hj19))⟩ rfl rfl hl.1 rfl (lv_room (Nat.le_of_ble_eq_true rfl)) dX3_prepare_105 ⟨Nat.zero_le _, Nat.zero_le _⟩) hP hD hS hA (5 + (x4.toNatClampNeg)) (wS_get_row hj19) (fun _ H locs hP hD hS => ?_)
            rw [wS_set_row hj19] at hP hD
            have hP : va_P D classes (wS cx aS aT ak aG sp s1 s2 s3 s4 s5 u12.1 sC sH (upT tl (x4.toNatClampNeg) u20) kl u14 gw gh gk gq gr gj gR gT gC) H := hP
            have hD : va_D A (wS cx aS aT ak aG sp s1 s2 s3 s4 s5 u12.1 sC sH (upT tl (x4.toNatClampNeg) u20) kl u14 gw gh gk gq gr gj gR gT gC) := hD
            refine lv_iinc (v := (x4 + (1 : Int32))) (lv' := [(4, .int (x4 + (1 : Int32))), (0, .ref (aS 0))]) hx hb dX3_prepare_108 hl (k := 1) rfl rfl (by decide) rfl (fun ls hl => ?_)
            refine lv_goto (tgt := 91) hx hb dX3_prepare_111 (by decide) ?_
            exact ih (upT tl (x4.toNatClampNeg) u20) (x4 + (1 : Int32)) _ hf H locs ls hP hD hS (lv_sub hl [1, 0] rfl) hE
      obtain ⟨u21, hg, hf⟩ := ob_s hf
      refine L91 _ tl (0 : Int32) u21 hg H locs ls hP hD hS (lv_sub hl [2, 0] rfl) (fun H locs ls hP hD hS hl => ?_)
      refine lv_aload_n hx hb dX3_prepare_114 rfl (lv_at hl 0 rfl) ?_
      refine lv_iconst (v := (1 : Int32)) hx hb dX3_prepare_115 (by decide) ?_
      refine va_put (D := D) (ci := 3) (v := .int (1 : Int32)) (ty := .boolean) (C := RX3) (T := TX3) (N := 12) hx hb hts iX3 tyX3 tyX3_ok nmX3 hown hK hP hD hS 0 rfl rfl 6 (by decide) (hts _ wd_142) (fun _ h9 => h9) rfl (by decide +kernel) rfl rfl (Nat.le_of_ble_eq_true rfl) dX3_prepare_116 (fun H locs hP hD hS => ?_)
      have hP : va_P D classes (wS cx aS aT ak aG (1 : Int32) s1 s2 s3 s4 s5 u12.1 sC sH u21 kl u14 gw gh gk gq gr gj gR gT gC) H := hP
      have hD : va_D A (wS cx aS aT ak aG (1 : Int32) s1 s2 s3 s4 s5 u12.1 sC sH u21 kl u14 gw gh gk gq gr gj gR gT gC) := hD
      obtain rfl := Option.some.inj hf
      refine W.widen (k := az sp) (n := azs sp) (Nat.zero_le _) (Nat.zero_le _) ?_
      exact kc_vret (ak) hx hb hr hk hP hD hS dX3_prepare_119
    · replace hf := it_f c13 hf
      refine lv_aload_n hx hb dX3_prepare_68 rfl (lv_at hl 1 rfl) ?_
      refine lv_iload_n hx hb dX3_prepare_69 rfl (lv_at hl 0 rfl) ?_
      obtain ⟨hz, hf⟩ := okb_s hf
      obtain ⟨hz2, hf⟩ := okb_s hf
      have hz2 := of_decide_eq_true hz2
      refine kc_newl cx hx hb (hts _ wd_173) hK hP hD hS hA (by simpa using hz) (by omega) (by show 0 + 1 ≤ az sp; rw [az_0 c9]; omega) (by show 0 + ((u12.2 + (7 : Int32)) >>> ((3 : Int32) &&& 31)).toNatClampNeg ≤ azs sp; rw [azs_0 c9]; omega) dX3_prepare_70 (fun ak22 H hP hD hS => ?_)
      refine va_put (D := D) (ci := 3) (v := .ref ak22) (ty := .array .long) (C := RX3) (T := TX3) (N := 12) hx hb hts iX3 tyX3 tyX3_ok nmX3 hown hK hP hD hS 0 rfl rfl 5 (by decide) (hts _ wd_141) (fun _ h9 => h9) rfl (by decide +kernel) rfl rfl (Nat.le_of_ble_eq_true rfl) dX3_prepare_72 (fun H locs hP hD hS => ?_)
      have hP : va_P D classes (wS cx aS aT ak22 aG sp s1 s2 s3 s4 s5 u12.1 sC sH tl ((u12.2 + (7 : Int32)) >>> ((3 : Int32) &&& 31)).toNatClampNeg (fun _ => (0 : Int64)) gw gh gk gq gr gj gR gT gC) H := hP.sub [0, 1, 2, 3, 4, 5, 6, 7, 8, 9, 15, 11, 12, 13, 14] rfl
      have hD : va_D A (wS cx aS aT ak22 aG sp s1 s2 s3 s4 s5 u12.1 sC sH tl ((u12.2 + (7 : Int32)) >>> ((3 : Int32) &&& 31)).toNatClampNeg (fun _ => (0 : Int64)) gw gh gk gq gr gj gR gT gC) := hD.sub [0, 1, 2, 3, 4, 5, 6, 7, 8, 9, 15, 11, 12, 13, 14] (by decide) rfl
      refine W.widen (k := az sp) (n := azs sp) (by rw [az_0 c9]; omega) (by rw [azs_0 c9]; omega) ?_
      refine lv_goto (tgt := 88) hx hb dX3_prepare_75 (by decide) ?_
      refine lv_iconst (v := (0 : Int32)) hx hb dX3_prepare_88 (by decide) ?_
      refine lv_istore (lv' := [(4, .int (0 : Int32)), (3, .int ((u12.2 + (7 : Int32)) >>> ((3 : Int32) &&& 31))), (0, .ref (aS 0)), (2, .int u12.2)]) hx hb dX3_prepare_89 hl (by decide) rfl (fun ls hl => ?_)
      have L91 : ∀ (ct : Nat) (tl : Nat → Nat → Int32) (x4 : Int32) (v91 : (Nat → Nat → Int32)), fX3_prepare_L91 N  ct tl x4 = some v91 → ∀ (H : Heap) (locs : List Loc) (ls : Array Slot), va_P D classes (wS cx aS aT ak22 aG sp s1 s2 s3 s4 s5 u12.1 sC sH tl ((u12.2 + (7 : Int32)) >>> ((3 : Int32) &&& 31)).toNatClampNeg (fun _ => (0 : Int64)) gw gh gk gq gr gj gR gT gC) H → va_D A (wS cx aS aT ak22 aG sp s1 s2 s3 s4 s5 u12.1 sC sH tl ((u12.2 + (7 : Int32)) >>> ((3 : Int32) &&& 31)).toNatClampNeg (fun _ => (0 : Int64)) gw gh gk gq gr gj gR gT gC) → va_S A s.heap H locs → lv_has ls 5 [(0, .ref (aS 0)), (4, .int x4)] → (∀ (H : Heap) (locs : List Loc) (ls : Array Slot), va_P D classes (wS cx aS aT ak22 aG sp s1 s2 s3 s4 s5 u12.1 sC sH v91 ((u12.2 + (7 : Int32)) >>> ((3 : Int32) &&& 31)).toNatClampNeg (fun _ => (0 : Int64)) gw gh gk gq gr gj gR gT gC) H → va_D A (wS cx aS aT ak22 aG sp s1 s2 s3 s4 s5 u12.1 sC sH v91 ((u12.2 + (7 : Int32)) >>> ((3 : Int32) &&& 31)).toNatClampNeg (fun _ => (0 : Int64)) gw gh gk gq gr gj gR gT gC) → va_S A s.heap H locs → lv_has ls 5 [(0, .ref (aS 0))] → W p l e (rmX3_prepare sp) s m ([.ref (aS 0)] : List Value).toArray below meth c H locs (az sp) (azs sp) (MQ below (kc_Pv D (fun ak : Nat => (wS cx aS aT ak aG v.1 s1 s2 s3 s4 s5 v.2.1 sC sH v.2.2.1 v.2.2.2.1 v.2.2.2.2 gw gh gk gq gr gj gR gT gC)) A) ([.ref (aS 0)] : List Value).toArray s (az sp) (azs sp) A) (F0 m 114 ls [])) → W p l e (rmX3_prepare sp) s m ([.ref (aS 0)] : List Value).toArray below meth c H locs (az sp) (azs sp) (MQ below (kc_Pv D (fun ak : Nat => (wS cx aS aT ak aG v.1 s1 s2 s3 s4 s5 v.2.1 sC sH v.2.2.1 v.2.2.2.1 v.2.2.2.2 gw gh gk gq gr gj gR gT gC)) A) ([.ref (aS 0)] : List Value).toArray s (az sp) (azs sp) A) (F0 m 91 ls []) := by
        intro ct
        induction ct with
        | zero =>
          intro tl x4 v91 hf
          exact absurd (show (none : Option ((Nat → Nat → Int32))) = some v91 from hf) (fun q => by cases q)
        | succ ct ih =>
          intro tl x4 v91 hf H locs ls hP hD hS hl hE
          rw [fX3_prepare_L91] at hf
          refine lv_iload hx hb dX3_prepare_91 (lv_at hl 1 rfl) ?_
          refine lv_iconst (v := (5 : Int32)) hx hb dX3_prepare_93 (by decide) ?_
          refine lv_icmp_ge (tgt := 114) hx hb dX3_prepare_94 (by decide) (fun c23 => ?_) (fun c23 => ?_)
          · replace hf := it_t c23 hf
            obtain rfl := Option.some.inj hf
            exact hE H locs ls hP hD hS (lv_sub hl [0] rfl)
          · replace hf := it_f c23 hf
            refine lv_aload_n hx hb dX3_prepare_97 rfl (lv_at hl 0 rfl) ?_
            refine va_get (D := D) (ci := 3) (v := .ref (aS 4)) (C := RX3) (T := TX3) (N := 12) hx hb hts iX3 hown hK hP 0 rfl rfl 4 (by decide) (hts _ wd_140) (fun _ h9 => h9) rfl dX3_prepare_98 ?_
            refine lv_iload hx hb dX3_prepare_101 (lv_at hl 1 rfl) ?_
            obtain ⟨hz, hf⟩ := okb_s hf
            have hj24 : x4.toNatClampNeg < 5 := inb_lt hz
            refine va_aldA (D := D) hx hb hK hP 4 4 rfl rfl (inb_s hz) dX3_prepare_103 ?_
            rw [if_pos hj24]
            show W _ _ _ _ _ _ _ _ _ _ _ _ _ _ _ (F0 m 104 ls (.ref (aT (x4.toNatClampNeg)) :: _))
            refine lv_iconst (v := (0 : Int32)) hx hb dX3_prepare_104 (by decide) ?_
            obtain ⟨u25, hg, hf⟩ := ob_s hf
            refine kc_callv1 (e1 := fun _ => .inl (cx 0, 17, .inl u25)) (va_runS (As := [.ref (aT (x4.toNatClampNeg)), .int (0 : Int32)]) (rest := []) ⟨hx, hb, hml, hown, hts⟩ (metJ7_fill_53178 l D cx (aT (x4.toNatClampNeg)) 17 (tl (x4.toNatClampNeg)) (0 : Int32) N H.size u25 hg) ⟨callB_of 2 hts (kc_gI wd_111) rfl rfl rfl (hts _ wd_42) (hts _ wd_374) (by decide +kernel) ⟨Nat.le_of_ble_eq_true rfl, Nat.le_of_ble_eq_true rfl⟩, hts _ wd_110⟩ ⟨kc_blind _ _ _ _ _, kc_pre _ hK hN (kc_P1 hP (wS_get_row hj24)) (kc_D1 hD (wS_get_row hj24))⟩ rfl rfl hl.1 rfl (lv_room (Nat.le_of_ble_eq_true rfl)) dX3_prepare_105 ⟨(by show az sp + 0 ≤ az sp; omega), (by show azs sp + 0 ≤ azs sp; omega)⟩) hP hD hS hA (5 + (x4.toNatClampNeg)) (wS_get_row hj24) (fun _ H locs hP hD hS => ?_)
            rw [wS_set_row hj24] at hP hD
            have hP : va_P D classes (wS cx aS aT ak22 aG sp s1 s2 s3 s4 s5 u12.1 sC sH (upT tl (x4.toNatClampNeg) u25) ((u12.2 + (7 : Int32)) >>> ((3 : Int32) &&& 31)).toNatClampNeg (fun _ => (0 : Int64)) gw gh gk gq gr gj gR gT gC) H := hP
            have hD : va_D A (wS cx aS aT ak22 aG sp s1 s2 s3 s4 s5 u12.1 sC sH (upT tl (x4.toNatClampNeg) u25) ((u12.2 + (7 : Int32)) >>> ((3 : Int32) &&& 31)).toNatClampNeg (fun _ => (0 : Int64)) gw gh gk gq gr gj gR gT gC) := hD
            refine W.widen (k := az sp) (n := azs sp) (by omega) (by omega) ?_
            refine lv_iinc (v := (x4 + (1 : Int32))) (lv' := [(4, .int (x4 + (1 : Int32))), (0, .ref (aS 0))]) hx hb dX3_prepare_108 hl (k := 1) rfl rfl (by decide) rfl (fun ls hl => ?_)
            refine lv_goto (tgt := 91) hx hb dX3_prepare_111 (by decide) ?_
            exact ih (upT tl (x4.toNatClampNeg) u25) (x4 + (1 : Int32)) _ hf H locs ls hP hD hS (lv_sub hl [1, 0] rfl) hE
      obtain ⟨u26, hg, hf⟩ := ob_s hf
      refine L91 _ tl (0 : Int32) u26 hg H locs ls hP hD hS (lv_sub hl [2, 0] rfl) (fun H locs ls hP hD hS hl => ?_)
      refine lv_aload_n hx hb dX3_prepare_114 rfl (lv_at hl 0 rfl) ?_
      refine lv_iconst (v := (1 : Int32)) hx hb dX3_prepare_115 (by decide) ?_
      refine va_put (D := D) (ci := 3) (v := .int (1 : Int32)) (ty := .boolean) (C := RX3) (T := TX3) (N := 12) hx hb hts iX3 tyX3 tyX3_ok nmX3 hown hK hP hD hS 0 rfl rfl 6 (by decide) (hts _ wd_142) (fun _ h9 => h9) rfl (by decide +kernel) rfl rfl (Nat.le_of_ble_eq_true rfl) dX3_prepare_116 (fun H locs hP hD hS => ?_)
      have hP : va_P D classes (wS cx aS aT ak22 aG (1 : Int32) s1 s2 s3 s4 s5 u12.1 sC sH u26 ((u12.2 + (7 : Int32)) >>> ((3 : Int32) &&& 31)).toNatClampNeg (fun _ => (0 : Int64)) gw gh gk gq gr gj gR gT gC) H := hP
      have hD : va_D A (wS cx aS aT ak22 aG (1 : Int32) s1 s2 s3 s4 s5 u12.1 sC sH u26 ((u12.2 + (7 : Int32)) >>> ((3 : Int32) &&& 31)).toNatClampNeg (fun _ => (0 : Int64)) gw gh gk gq gr gj gR gT gC) := hD
      obtain rfl := Option.some.inj hf
      exact kc_vret (ak22) hx hb hr hk hP hD hS dX3_prepare_119
  · replace hf := it_f c9 hf
    obtain rfl := Option.some.inj hf
    refine W.widen (k := az sp) (n := azs sp) (Nat.zero_le _) (Nat.zero_le _) ?_
    exact kc_vret (ak) hx hb hr hk hP hD hS dX3_prepare_7
abbrev rmX3_startEmpty (sp : Int32) : Room := { frames := 3, cells := az sp, slots := azs sp, locals := 71 }
set_option maxHeartbeats 4000000 in
set_option maxRecDepth 100000 in
theorem metX3_startEmpty (l : Launch) (D : va_G) (cx : Nat → ClassId) (aS : Nat → Nat) (aT : Nat → Nat) (ak : Nat) (aG : Nat → Nat) (sp : Int32) (s1 : Int32) (s2 : Int32) (s3 : Int32) (s4 : Int32) (s5 : Int32) (sP : Nat → Int32) (sC : Nat → Int32) (sH : Nat → Int32) (tl : Nat → Nat → Int32) (kl : Nat) (kf : Nat → Int64) (gw : Int32) (gh : Int32) (gk : Int32) (gq : Int32) (gr : Int32) (gj : Int32) (gR : Nat → Int32) (gT : Nat → Int32) (gC : Nat → Int32)  (N : Nat) (sz : Nat) (v : Int32 × Int32 × Int32 × Int32 × Int32 × Int32 × (Nat → Int32) × (Nat → Int32) × (Nat → Int32) × (Nat → Nat → Int32) × Nat × (Nat → Int64)) (hf : fX3_startEmpty N sp sP sC sH tl kl kf gw gh = some v) : Met l yX3_startEmpty (.code yX3_startEmpty cX3_startEmpty 1 none :: kc_TB) (rmX3_startEmpty sp) (kc_Pre D cx (wS cx aS aT ak aG sp s1 s2 s3 s4 s5 sP sC sH tl kl kf gw gh gk gq gr gj gR gT gC) [.ref (aS 0)] sz) (kc_Pv D (fun ak : Nat => (wS cx aS aT ak aG v.1 v.2.1 v.2.2.1 v.2.2.2.1 v.2.2.2.2.1 v.2.2.2.2.2.1 v.2.2.2.2.2.2.1 v.2.2.2.2.2.2.2.1 v.2.2.2.2.2.2.2.2.1 v.2.2.2.2.2.2.2.2.2.1 v.2.2.2.2.2.2.2.2.2.2.1 v.2.2.2.2.2.2.2.2.2.2.2 gw gh gk gq gr gj gR gT gC)) (va_A (wS cx aS aT ak aG sp s1 s2 s3 s4 s5 sP sC sH tl kl kf gw gh gk gq gr gj gR gT gC) sz)) (az sp) (azs sp) (va_A (wS cx aS aT ak aG sp s1 s2 s3 s4 s5 sP sC sH tl kl kf gw gh gk gq gr gj gR gT gC) sz) := by
  refine kc_entry (Qc := fun A => (kc_Pv D (fun ak : Nat => (wS cx aS aT ak aG v.1 v.2.1 v.2.2.1 v.2.2.2.1 v.2.2.2.2.1 v.2.2.2.2.2.1 v.2.2.2.2.2.2.1 v.2.2.2.2.2.2.2.1 v.2.2.2.2.2.2.2.2.1 v.2.2.2.2.2.2.2.2.2.1 v.2.2.2.2.2.2.2.2.2.2.1 v.2.2.2.2.2.2.2.2.2.2.2 gw gh gk gq gr gj gR gT gC)) A)) (by decide) (Nat.le_of_ble_eq_true rfl) ?_
  intro p e s m below meth c A hx hb hr hk hml hown hin hts hN hK hP hD hS hA ls hl
  have hown : s.vm.findClass RX3 = some m.cls := hown
  have hl : lv_has ls 1 [(0, .ref (aS 0))] := hl
  unfold fX3_startEmpty at hf
  have hP : va_P D classes (wS cx aS aT ak aG sp s1 s2 s3 s4 s5 sP sC sH tl kl kf gw gh gk gq gr gj gR gT gC) s.heap := hP
  obtain ⟨H, hH⟩ : ∃ H, H = s.heap := ⟨_, rfl⟩
  obtain ⟨locs, hL⟩ : ∃ locs : List Loc, locs = [] := ⟨_, rfl⟩
  have hS : va_S A s.heap H locs := by rw [hH, hL]; exact hS
  have hP : va_P D classes (wS cx aS aT ak aG sp s1 s2 s3 s4 s5 sP sC sH tl kl kf gw gh gk gq gr gj gR gT gC) H := by rw [hH]; exact hP
  suffices hW : W p l e (rmX3_startEmpty sp) s m ([.ref (aS 0)] : List Value).toArray below meth c H locs 0 0 (MQ below (kc_Pv D (fun ak : Nat => (wS cx aS aT ak aG v.1 v.2.1 v.2.2.1 v.2.2.2.1 v.2.2.2.2.1 v.2.2.2.2.2.1 v.2.2.2.2.2.2.1 v.2.2.2.2.2.2.2.1 v.2.2.2.2.2.2.2.2.1 v.2.2.2.2.2.2.2.2.2.1 v.2.2.2.2.2.2.2.2.2.2.1 v.2.2.2.2.2.2.2.2.2.2.2 gw gh gk gq gr gj gR gT gC)) A) ([.ref (aS 0)] : List Value).toArray s (az sp) (azs sp) A) (F0 m 0 ls []) by rw [hH, hL] at hW; exact hW
  clear hH hL
  refine lv_aload_n hx hb dX3_startEmpty_0 rfl (lv_at hl 0 rfl) ?_
  obtain ⟨u5, hg, hf⟩ := ob_s hf
  refine kc_callv (wn := fun ak6 => (wS cx aS aT ak6 aG u5.1 s1 s2 s3 s4 s5 u5.2.1 sC sH u5.2.2.1 u5.2.2.2.1 u5.2.2.2.2 gw gh gk gq gr gj gR gT gC)) (va_runV (As := []) (rest := []) ⟨hx, hb, hml, hown, hts⟩ (metX3_prepare l D cx aS aT ak aG sp s1 s2 s3 s4 s5 sP sC sH tl kl kf gw gh gk gq gr gj gR gT gC  N H.size u5 hg) ⟨callB_of 0 hts (kc_gI wd_367) rfl rfl rfl (hts _ wd_43) (hts _ wd_364) (by decide +kernel) ⟨Nat.le_of_ble_eq_true rfl, Nat.le_of_ble_eq_true rfl⟩, hts _ wd_366, hts _ wd_6⟩ ⟨kc_blind _ _ _ _ _, va_recv hK hP (ci := 3) (q0 := 0) rfl rfl, kc_pre _ hK hN (hP.sub [0, 1, 2, 3, 4, 5, 6, 7, 8, 9, 10, 11, 12, 13, 14] rfl) (hD.sub [0, 1, 2, 3, 4, 5, 6, 7, 8, 9, 10, 11, 12, 13, 14] (by decide) rfl)⟩ rfl rfl hl.1 rfl (lv_room (Nat.le_of_ble_eq_true rfl)) dX3_startEmpty_1 ⟨(by show 0 + az sp ≤ az sp; omega), (by show 0 + azs sp ≤ azs sp; omega)⟩) hP hD hS hA [0, 1, 2, 3, 4, 5, 6, 7, 8, 9, 10, 11, 12, 13, 14] [] [0, 1, 2, 3, 4, 5, 6, 7, 8, 9, 10, 11, 12, 13, 14] rfl rfl (by decide) (by decide) (fun _ => rfl) (by decide) (fun ak6 H locs hP hD hS => ?_)
  have hP : va_P D classes (wS cx aS aT ak6 aG u5.1 s1 s2 s3 s4 s5 u5.2.1 sC sH u5.2.2.1 u5.2.2.2.1 u5.2.2.2.2 gw gh gk gq gr gj gR gT gC) H := hP
  have hD : va_D A (wS cx aS aT ak6 aG u5.1 s1 s2 s3 s4 s5 u5.2.1 sC sH u5.2.2.1 u5.2.2.2.1 u5.2.2.2.2 gw gh gk gq gr gj gR gT gC) := hD
  refine W.widen (k := az sp) (n := azs sp) (by omega) (by omega) ?_
  refine lv_aload_n hx hb dX3_startEmpty_4 rfl (lv_at hl 0 rfl) ?_
  refine va_get (D := D) (ci := 3) (v := .ref (aS 2)) (C := RX3) (T := TX3) (N := 12) hx hb hts iX3 hown hK hP 0 rfl rfl 2 (by decide) (hts _ wd_138) (fun _ h9 => h9) rfl dX3_startEmpty_5 ?_
  refine lv_iconst (v := (1 : Int32)) hx hb dX3_startEmpty_8 (by decide) ?_
  obtain ⟨u7, hg, hf⟩ := ob_s hf
  refine kc_callv (wn := fun _ => (wS cx aS aT ak6 aG u5.1 s1 s2 s3 s4 s5 u5.2.1 u7 sH u5.2.2.1 u5.2.2.2.1 u5.2.2.2.2 gw gh gk gq gr gj gR gT gC)) (va_runS (As := [.ref (aS 2), .int (1 : Int32)]) (rest := []) ⟨hx, hb, hml, hown, hts⟩ (metJ7_fill_53178 l D cx (aS 2) 7 sC (1 : Int32) N H.size u7 hg) ⟨callB_of 2 hts (kc_gI wd_111) rfl rfl rfl (hts _ wd_42) (hts _ wd_374) (by decide +kernel) ⟨Nat.le_of_ble_eq_true rfl, Nat.le_of_ble_eq_true rfl⟩, hts _ wd_110⟩ ⟨kc_blind _ _ _ _ _, kc_pre _ hK hN (hP.sub [2] rfl) (hD.sub [2] (by decide) rfl)⟩ rfl rfl hl.1 rfl (lv_room (Nat.le_of_ble_eq_true rfl)) dX3_startEmpty_9 ⟨(by show az sp + 0 ≤ az sp; omega), (by show azs sp + 0 ≤ azs sp; omega)⟩) hP hD hS hA [2] [0, 1, 3, 4, 5, 6, 7, 8, 9, 10, 11, 12, 13, 14] [0, 1, 14, 2, 3, 4, 5, 6, 7, 8, 9, 10, 11, 12, 13] rfl rfl (by decide) (by decide) (fun _ => rfl) (by decide) (fun _ H locs hP hD hS => ?_)
  have hP : va_P D classes (wS cx aS aT ak6 aG u5.1 s1 s2 s3 s4 s5 u5.2.1 u7 sH u5.2.2.1 u5.2.2.2.1 u5.2.2.2.2 gw gh gk gq gr gj gR gT gC) H := hP
  have hD : va_D A (wS cx aS aT ak6 aG u5.1 s1 s2 s3 s4 s5 u5.2.1 u7 sH u5.2.2.1 u5.2.2.2.1 u5.2.2.2.2 gw gh gk gq gr gj gR gT gC) := hD
  refine W.widen (k := az sp) (n := azs sp) (by omega) (by omega) ?_
  refine lv_aload_n hx hb dX3_startEmpty_12 rfl (lv_at hl 0 rfl) ?_
  refine va_get (D := D) (ci := 3) (v := .ref (aS 3)) (C := RX3) (T := TX3) (N := 12) hx hb hts iX3 hown hK hP 0 rfl rfl 3 (by decide) (hts _ wd_139) (fun _ h9 => h9) rfl dX3_startEmpty_13 ?_
  refine lv_iconst (v := (0 : Int32)) hx hb dX3_startEmpty_16 (by decide) ?_
  obtain ⟨u8, hg, hf⟩ := ob_s hf
  refine kc_callv (wn := fun _ => (wS cx aS aT ak6 aG u5.1 s1 s2 s3 s4 s5 u5.2.1 u7 u8 u5.2.2.1 u5.2.2.2.1 u5.2.2.2.2 gw gh gk gq gr gj gR gT gC)) (va_runS (As := [.ref (aS 3), .int (0 : Int32)]) (rest := []) ⟨hx, hb, hml, hown, hts⟩ (metJ7_fill_53178 l D cx (aS 3) 7 sH (0 : Int32) N H.size u8 hg) ⟨callB_of 2 hts (kc_gI wd_111) rfl rfl rfl (hts _ wd_42) (hts _ wd_374) (by decide +kernel) ⟨Nat.le_of_ble_eq_true rfl, Nat.le_of_ble_eq_true rfl⟩, hts _ wd_110⟩ ⟨kc_blind _ _ _ _ _, kc_pre _ hK hN (hP.sub [3] rfl) (hD.sub [3] (by decide) rfl)⟩ rfl rfl hl.1 rfl (lv_room (Nat.le_of_ble_eq_true rfl)) dX3_startEmpty_17 ⟨(by show az sp + 0 ≤ az sp; omega), (by show azs sp + 0 ≤ azs sp; omega)⟩) hP hD hS hA [3] [0, 1, 2, 4, 5, 6, 7, 8, 9, 10, 11, 12, 13, 14] [0, 1, 2, 14, 3, 4, 5, 6, 7, 8, 9, 10, 11, 12, 13] rfl rfl (by decide) (by decide) (fun _ => rfl) (by decide) (fun _ H locs hP hD hS => ?_)
  have hP : va_P D classes (wS cx aS aT ak6 aG u5.1 s1 s2 s3 s4 s5 u5.2.1 u7 u8 u5.2.2.1 u5.2.2.2.1 u5.2.2.2.2 gw gh gk gq gr gj gR gT gC) H := hP
  have hD : va_D A (wS cx aS aT ak6 aG u5.1 s1 s2 s3 s4 s5 u5.2.1 u7 u8 u5.2.2.1 u5.2.2.2.1 u5.2.2.2.2 gw gh gk gq gr gj gR gT gC) := hD
  refine W.widen (k := az sp) (n := azs sp) (by omega) (by omega) ?_
  refine lv_aload_n hx hb dX3_startEmpty_20 rfl (lv_at hl 0 rfl) ?_
  refine lv_iconst (v := (0 : Int32)) hx hb dX3_startEmpty_21 (by decide) ?_
  refine va_put (D := D) (ci := 3) (v := .int (0 : Int32)) (ty := .int) (C := RX3) (T := TX3) (N := 12) hx hb hts iX3 tyX3 tyX3_ok nmX3 hown hK hP hD hS 0 rfl rfl 7 (by decide) (hts _ wd_143) (fun _ h9 => h9) rfl (by decide +kernel) rfl rfl (Nat.le_of_ble_eq_true rfl) dX3_startEmpty_22 (fun H locs hP hD hS => ?_)
  have hP : va_P D classes (wS cx aS aT ak6 aG u5.1 (0 : Int32) s2 s3 s4 s5 u5.2.1 u7 u8 u5.2.2.1 u5.2.2.2.1 u5.2.2.2.2 gw gh gk gq gr gj gR gT gC) H := hP
  have hD : va_D A (wS cx aS aT ak6 aG u5.1 (0 : Int32) s2 s3 s4 s5 u5.2.1 u7 u8 u5.2.2.1 u5.2.2.2.1 u5.2.2.2.2 gw gh gk gq gr gj gR gT gC) := hD
  refine lv_aload_n hx hb dX3_startEmpty_25 rfl (lv_at hl 0 rfl) ?_
  refine lv_iconst (v := (0 : Int32)) hx hb dX3_startEmpty_26 (by decide) ?_
  refine va_put (D := D) (ci := 3) (v := .int (0 : Int32)) (ty := .int) (C := RX3) (T := TX3) (N := 12) hx hb hts iX3 tyX3 tyX3_ok nmX3 hown hK hP hD hS 0 rfl rfl 8 (by decide) (hts _ wd_144) (fun _ h9 => h9) rfl (by decide +kernel) rfl rfl (Nat.le_of_ble_eq_true rfl) dX3_startEmpty_27 (fun H locs hP hD hS => ?_)
  have hP : va_P D classes (wS cx aS aT ak6 aG u5.1 (0 : Int32) (0 : Int32) s3 s4 s5 u5.2.1 u7 u8 u5.2.2.1 u5.2.2.2.1 u5.2.2.2.2 gw gh gk gq gr gj gR gT gC) H := hP
  have hD : va_D A (wS cx aS aT ak6 aG u5.1 (0 : Int32) (0 : Int32) s3 s4 s5 u5.2.1 u7 u8 u5.2.2.1 u5.2.2.2.1 u5.2.2.2.2 gw gh gk gq gr gj gR gT gC) := hD
  refine lv_aload_n hx hb dX3_startEmpty_30 rfl (lv_at hl 0 rfl) ?_
  refine lv_iconst (v := (0 : Int32)) hx hb dX3_startEmpty_31 (by decide) ?_
  refine va_put (D := D) (ci := 3) (v := .int (0 : Int32)) (ty := .int) (C := RX3) (T := TX3) (N := 12) hx hb hts iX3 tyX3 tyX3_ok nmX3 hown hK hP hD hS 0 rfl rfl 9 (by decide) (hts _ wd_145) (fun _ h9 => h9) rfl (by decide +kernel) rfl rfl (Nat.le_of_ble_eq_true rfl) dX3_startEmpty_32 (fun H locs hP hD hS => ?_)
  have hP : va_P D classes (wS cx aS aT ak6 aG u5.1 (0 : Int32) (0 : Int32) (0 : Int32) s4 s5 u5.2.1 u7 u8 u5.2.2.1 u5.2.2.2.1 u5.2.2.2.2 gw gh gk gq gr gj gR gT gC) H := hP
  have hD : va_D A (wS cx aS aT ak6 aG u5.1 (0 : Int32) (0 : Int32) (0 : Int32) s4 s5 u5.2.1 u7 u8 u5.2.2.1 u5.2.2.2.1 u5.2.2.2.2 gw gh gk gq gr gj gR gT gC) := hD
  refine lv_aload_n hx hb dX3_startEmpty_35 rfl (lv_at hl 0 rfl) ?_
  refine lv_iconst (v := (0 : Int32)) hx hb dX3_startEmpty_36 (by decide) ?_
  refine va_put (D := D) (ci := 3) (v := .int (0 : Int32)) (ty := .int) (C := RX3) (T := TX3) (N := 12) hx hb hts iX3 tyX3 tyX3_ok nmX3 hown hK hP hD hS 0 rfl rfl 10 (by decide) (hts _ wd_146) (fun _ h9 => h9) rfl (by decide +kernel) rfl rfl (Nat.le_of_ble_eq_true rfl) dX3_startEmpty_37 (fun H locs hP hD hS => ?_)
  have hP : va_P D classes (wS cx aS aT ak6 aG u5.1 (0 : Int32) (0 : Int32) (0 : Int32) (0 : Int32) s5 u5.2.1 u7 u8 u5.2.2.1 u5.2.2.2.1 u5.2.2.2.2 gw gh gk gq gr gj gR gT gC) H := hP
  have hD : va_D A (wS cx aS aT ak6 aG u5.1 (0 : Int32) (0 : Int32) (0 : Int32) (0 : Int32) s5 u5.2.1 u7 u8 u5.2.2.1 u5.2.2.2.1 u5.2.2.2.2 gw gh gk gq gr gj gR gT gC) := hD
  refine lv_aload_n hx hb dX3_startEmpty_40 rfl (lv_at hl 0 rfl) ?_
  refine lv_iconst (v := (0 : Int32)) hx hb dX3_startEmpty_41 (by decide) ?_
  refine va_put (D := D) (ci := 3) (v := .int (0 : Int32)) (ty := .int) (C := RX3) (T := TX3) (N := 12) hx hb hts iX3 tyX3 tyX3_ok nmX3 hown hK hP hD hS 0 rfl rfl 11 (by decide) (hts _ wd_147) (fun _ h9 => h9) rfl (by decide +kernel) rfl rfl (Nat.le_of_ble_eq_true rfl) dX3_startEmpty_42 (fun H locs hP hD hS => ?_)
  have hP : va_P D classes (wS cx aS aT ak6 aG u5.1 (0 : Int32) (0 : Int32) (0 : Int32) (0 : Int32) (0 : Int32) u5.2.1 u7 u8 u5.2.2.1 u5.2.2.2.1 u5.2.2.2.2 gw gh gk gq gr gj gR gT gC) H := hP
  have hD : va_D A (wS cx aS aT ak6 aG u5.1 (0 : Int32) (0 : Int32) (0 : Int32) (0 : Int32) (0 : Int32) u5.2.1 u7 u8 u5.2.2.1 u5.2.2.2.1 u5.2.2.2.2 gw gh gk gq gr gj gR gT gC) := hD
  obtain rfl := Option.some.inj hf
  exact kc_vret (ak6) hx hb hr hk hP hD hS dX3_startEmpty_45
abbrev rmX3_start (sp : Int32) : Room := { frames := 4, cells := az sp, slots := azs sp, locals := 91 }
set_option maxHeartbeats 4000000 in
set_option maxRecDepth 100000 in
theorem metX3_start (l : Launch) (D : va_G) (cx : Nat → ClassId) (aS : Nat → Nat) (aT : Nat → Nat) (ak : Nat) (aA : Nat → Nat) (aG : Nat → Nat) (sp : Int32) (s1 : Int32) (s2 : Int32) (s3 : Int32) (s4 : Int32) (s5 : Int32) (sP : Nat → Int32) (sC : Nat → Int32) (sH : Nat → Int32) (tl : Nat → Nat → Int32) (kl : Nat) (kf : Nat → Int64) (mv : Int32) (mc : Nat → Int32) (mm : Nat → Int32) (mh : Nat → Int32) (gw : Int32) (gh : Int32) (gk : Int32) (gq : Int32) (gr : Int32) (gj : Int32) (gR : Nat → Int32) (gT : Nat → Int32) (gC : Nat → Int32)  (N : Nat) (sz : Nat) (v : Int32 × Int32 × Int32 × Int32 × Int32 × Int32 × (Nat → Int32) × (Nat → Int32) × (Nat → Int32) × (Nat → Nat → Int32) × Nat × (Nat → Int64)) (hf : fX3_start N sp sP sC sH tl kl kf mv mc mm gw gh = some v) : Met l yX3_start (.code yX3_start cX3_start 5 none :: kc_TB) (rmX3_start sp) (kc_Pre D cx (wSA cx aS aT ak aA aG sp s1 s2 s3 s4 s5 sP sC sH tl kl kf mv mc mm mh gw gh gk gq gr gj gR gT gC) [.ref (aS 0), .ref (aA 0)] sz) (kc_Pv D (fun ak : Nat => (wSA cx aS aT ak aA aG v.1 v.2.1 v.2.2.1 v.2.2.2.1 v.2.2.2.2.1 v.2.2.2.2.2.1 v.2.2.2.2.2.2.1 v.2.2.2.2.2.2.2.1 v.2.2.2.2.2.2.2.2.1 v.2.2.2.2.2.2.2.2.2.1 v.2.2.2.2.2.2.2.2.2.2.1 v.2.2.2.2.2.2.2.2.2.2.2 mv mc mm mh gw gh gk gq gr gj gR gT gC)) (va_A (wSA cx aS aT ak aA aG sp s1 s2 s3 s4 s5 sP sC sH tl kl kf mv mc mm mh gw gh gk gq gr gj gR gT gC) sz)) (az sp) (azs sp) (va_A (wSA cx aS aT ak aA aG sp s1 s2 s3 s4 s5 sP sC sH tl kl kf mv mc mm mh gw gh gk gq gr gj gR gT gC) sz) := by
  refine kc_entry (Qc := fun A => (kc_Pv D (fun ak : Nat => (wSA cx aS aT ak aA aG v.1 v.2.1 v.2.2.1 v.2.2.2.1 v.2.2.2.2.1 v.2.2.2.2.2.1 v.2.2.2.2.2.2.1 v.2.2.2.2.2.2.2.1 v.2.2.2.2.2.2.2.2.1 v.2.2.2.2.2.2.2.2.2.1 v.2.2.2.2.2.2.2.2.2.2.1 v.2.2.2.2.2.2.2.2.2.2.2 mv mc mm mh gw gh gk gq gr gj gR gT gC)) A)) (by decide) (Nat.le_of_ble_eq_true rfl) ?_
  intro p e s m below meth c A hx hb hr hk hml hown hin hts hN hK hP hD hS hA ls hl
  have hown : s.vm.findClass RX3 = some m.cls := hown
  have hl : lv_has ls 5 [(0, .ref (aS 0)), (1, .ref (aA 0))] := hl
  unfold fX3_start at hf
  have hP : va_P D classes (wSA cx aS aT ak aA aG sp s1 s2 s3 s4 s5 sP sC sH tl kl kf mv mc mm mh gw gh gk gq gr gj gR gT gC) s.heap := hP
  obtain ⟨H, hH⟩ : ∃ H, H = s.heap := ⟨_, rfl⟩
  obtain ⟨locs, hL⟩ : ∃ locs : List Loc, locs = [] := ⟨_, rfl⟩
  have hS : va_S A s.heap H locs := by rw [hH, hL]; exact hS
  have hP : va_P D classes (wSA cx aS aT ak aA aG sp s1 s2 s3 s4 s5 sP sC sH tl kl kf mv mc mm mh gw gh gk gq gr gj gR gT gC) H := by rw [hH]; exact hP
  suffices hW : W p l e (rmX3_start sp) s m ([.ref (aS 0), .ref (aA 0)] : List Value).toArray below meth c H locs 0 0 (MQ below (kc_Pv D (fun ak : Nat => (wSA cx aS aT ak aA aG v.1 v.2.1 v.2.2.1 v.2.2.2.1 v.2.2.2.2.1 v.2.2.2.2.2.1 v.2.2.2.2.2.2.1 v.2.2.2.2.2.2.2.1 v.2.2.2.2.2.2.2.2.1 v.2.2.2.2.2.2.2.2.2.1 v.2.2.2.2.2.2.2.2.2.2.1 v.2.2.2.2.2.2.2.2.2.2.2 mv mc mm mh gw gh gk gq gr gj gR gT gC)) A) ([.ref (aS 0), .ref (aA 0)] : List Value).toArray s (az sp) (azs sp) A) (F0 m 0 ls []) by rw [hH, hL] at hW; exact hW
  clear hH hL
  refine lv_aload_n hx hb dX3_start_0 rfl (lv_at hl 0 rfl) ?_
  obtain ⟨u6, hg, hf⟩ := ob_s hf
  refine kc_callv (wn := fun ak7 => (wSA cx aS aT ak7 aA aG u6.1 u6.2.1 u6.2.2.1 u6.2.2.2.1 u6.2.2.2.2.1 u6.2.2.2.2.2.1 u6.2.2.2.2.2.2.1 u6.2.2.2.2.2.2.2.1 u6.2.2.2.2.2.2.2.2.1 u6.2.2.2.2.2.2.2.2.2.1 u6.2.2.2.2.2.2.2.2.2.2.1 u6.2.2.2.2.2.2.2.2.2.2.2 mv mc mm mh gw gh gk gq gr gj gR gT gC)) (va_runV (As := []) (rest := []) ⟨hx, hb, hml, hown, hts⟩ (metX3_startEmpty l D cx aS aT ak aG sp s1 s2 s3 s4 s5 sP sC sH tl kl kf gw gh gk gq gr gj gR gT gC  N H.size u6 hg) ⟨callB_of 0 hts (kc_gI wd_363) rfl rfl rfl (hts _ wd_43) (hts _ wd_360) (by decide +kernel) ⟨Nat.le_of_ble_eq_true rfl, Nat.le_of_ble_eq_true rfl⟩, hts _ wd_362, hts _ wd_5⟩ ⟨kc_blind _ _ _ _ _, va_recv hK hP (ci := 3) (q0 := 0) rfl rfl, kc_pre _ hK hN (hP.sub [0, 1, 2, 3, 4, 5, 6, 7, 8, 9, 10, 15, 16, 17, 18] rfl) (hD.sub [0, 1, 2, 3, 4, 5, 6, 7, 8, 9, 10, 15, 16, 17, 18] (by decide) rfl)⟩ rfl rfl hl.1 rfl (lv_room (Nat.le_of_ble_eq_true rfl)) dX3_start_1 ⟨(by show 0 + az sp ≤ az sp; omega), (by show 0 + azs sp ≤ azs sp; omega)⟩) hP hD hS hA [0, 1, 2, 3, 4, 5, 6, 7, 8, 9, 10, 15, 16, 17, 18] [11, 12, 13, 14] [4, 5, 6, 7, 8, 9, 10, 11, 12, 13, 14, 0, 1, 2, 3, 15, 16, 17, 18] rfl rfl (by decide) (by decide) (fun _ => rfl) (by decide) (fun ak7 H locs hP hD hS => ?_)
  have hP : va_P D classes (wSA cx aS aT ak7 aA aG u6.1 u6.2.1 u6.2.2.1 u6.2.2.2.1 u6.2.2.2.2.1 u6.2.2.2.2.2.1 u6.2.2.2.2.2.2.1 u6.2.2.2.2.2.2.2.1 u6.2.2.2.2.2.2.2.2.1 u6.2.2.2.2.2.2.2.2.2.1 u6.2.2.2.2.2.2.2.2.2.2.1 u6.2.2.2.2.2.2.2.2.2.2.2 mv mc mm mh gw gh gk gq gr gj gR gT gC) H := hP
  have hD : va_D A (wSA cx aS aT ak7 aA aG u6.1 u6.2.1 u6.2.2.1 u6.2.2.2.1 u6.2.2.2.2.1 u6.2.2.2.2.2.1 u6.2.2.2.2.2.2.1 u6.2.2.2.2.2.2.2.1 u6.2.2.2.2.2.2.2.2.1 u6.2.2.2.2.2.2.2.2.2.1 u6.2.2.2.2.2.2.2.2.2.2.1 u6.2.2.2.2.2.2.2.2.2.2.2 mv mc mm mh gw gh gk gq gr gj gR gT gC) := hD
  refine W.widen (k := az sp) (n := azs sp) (by omega) (by omega) ?_
  refine lv_iconst (v := (0 : Int32)) hx hb dX3_start_4 (by decide) ?_
  refine lv_istore_n (lv' := [(2, .int (0 : Int32)), (0, .ref (aS 0)), (1, .ref (aA 0))]) hx hb dX3_start_5 rfl hl (by decide) rfl (fun ls hl => ?_)
  have L6 : ∀ (ct : Nat) (s3 : Int32) (s4 : Int32) (sC : Nat → Int32) (sH : Nat → Int32) (x2 : Int32) (v6 : Int32 × Int32 × (Nat → Int32) × (Nat → Int32)), fX3_start_L6 N u6.2.2.2.2.2.2.1 mv mc gw ct s3 s4 sC sH x2 = some v6 → ∀ (H : Heap) (locs : List Loc) (ls : Array Slot), va_P D classes (wSA cx aS aT ak7 aA aG u6.1 u6.2.1 u6.2.2.1 s3 s4 u6.2.2.2.2.2.1 u6.2.2.2.2.2.2.1 sC sH u6.2.2.2.2.2.2.2.2.2.1 u6.2.2.2.2.2.2.2.2.2.2.1 u6.2.2.2.2.2.2.2.2.2.2.2 mv mc mm mh gw gh gk gq gr gj gR gT gC) H → va_D A (wSA cx aS aT ak7 aA aG u6.1 u6.2.1 u6.2.2.1 s3 s4 u6.2.2.2.2.2.1 u6.2.2.2.2.2.2.1 sC sH u6.2.2.2.2.2.2.2.2.2.1 u6.2.2.2.2.2.2.2.2.2.2.1 u6.2.2.2.2.2.2.2.2.2.2.2 mv mc mm mh gw gh gk gq gr gj gR gT gC) → va_S A s.heap H locs → lv_has ls 5 [(0, .ref (aS 0)), (1, .ref (aA 0)), (2, .int x2)] → (∀ (H : Heap) (locs : List Loc) (ls : Array Slot), va_P D classes (wSA cx aS aT ak7 aA aG u6.1 u6.2.1 u6.2.2.1 v6.1 v6.2.1 u6.2.2.2.2.2.1 u6.2.2.2.2.2.2.1 v6.2.2.1 v6.2.2.2 u6.2.2.2.2.2.2.2.2.2.1 u6.2.2.2.2.2.2.2.2.2.2.1 u6.2.2.2.2.2.2.2.2.2.2.2 mv mc mm mh gw gh gk gq gr gj gR gT gC) H → va_D A (wSA cx aS aT ak7 aA aG u6.1 u6.2.1 u6.2.2.1 v6.1 v6.2.1 u6.2.2.2.2.2.1 u6.2.2.2.2.2.2.1 v6.2.2.1 v6.2.2.2 u6.2.2.2.2.2.2.2.2.2.1 u6.2.2.2.2.2.2.2.2.2.2.1 u6.2.2.2.2.2.2.2.2.2.2.2 mv mc mm mh gw gh gk gq gr gj gR gT gC) → va_S A s.heap H locs → lv_has ls 5 [(0, .ref (aS 0)), (1, .ref (aA 0))] → W p l e (rmX3_start sp) s m ([.ref (aS 0), .ref (aA 0)] : List Value).toArray below meth c H locs (az sp) (azs sp) (MQ below (kc_Pv D (fun ak : Nat => (wSA cx aS aT ak aA aG v.1 v.2.1 v.2.2.1 v.2.2.2.1 v.2.2.2.2.1 v.2.2.2.2.2.1 v.2.2.2.2.2.2.1 v.2.2.2.2.2.2.2.1 v.2.2.2.2.2.2.2.2.1 v.2.2.2.2.2.2.2.2.2.1 v.2.2.2.2.2.2.2.2.2.2.1 v.2.2.2.2.2.2.2.2.2.2.2 mv mc mm mh gw gh gk gq gr gj gR gT gC)) A) ([.ref (aS 0), .ref (aA 0)] : List Value).toArray s (az sp) (azs sp) A) (F0 m 106 ls [])) → W p l e (rmX3_start sp) s m ([.ref (aS 0), .ref (aA 0)] : List Value).toArray below meth c H locs (az sp) (azs sp) (MQ below (kc_Pv D (fun ak : Nat => (wSA cx aS aT ak aA aG v.1 v.2.1 v.2.2.1 v.2.2.2.1 v.2.2.2.2.1 v.2.2.2.2.2.1 v.2.2.2.2.2.2.1 v.2.2.2.2.2.2.2.1 v.2.2.2.2.2.2.2.2.1 v.2.2.2.2.2.2.2.2.2.1 v.2.2.2.2.2.2.2.2.2.2.1 v.2.2.2.2.2.2.2.2.2.2.2 mv mc mm mh gw gh gk gq gr gj gR gT gC)) A) ([.ref (aS 0), .ref (aA 0)] : List Value).toArray s (az sp) (azs sp) A) (F0 m 6 ls []) := by
    intro ct
    induction ct with
    | zero =>
      intro s3 s4 sC sH x2 v6 hf
      exact absurd (show (none : Option (Int32 × Int32 × (Nat → Int32) × (Nat → Int32))) = some v6 from hf) (fun q => by cases q)
    | succ ct ih =>
      intro s3 s4 sC sH x2 v6 hf H locs ls hP hD hS hl hE
      rw [fX3_start_L6] at hf
      refine lv_iload_n hx hb dX3_start_6 rfl (lv_at hl 2 rfl) ?_
      refine lv_aload_n hx hb dX3_start_7 rfl (lv_at hl 1 rfl) ?_
      refine va_get (D := D) (ci := 0) (v := .int mv) (C := RX0) (T := TX0) (N := 5) hx hb hts iX0 hown hK hP 11 rfl rfl 4 (by decide) (hts _ wd_190) (fun _ h9 => h9) rfl dX3_start_8 ?_
      refine lv_icmp_ge (tgt := 106) hx hb dX3_start_11 (by decide) (fun c9 => ?_) (fun c9 => ?_)
      · replace hf := it_t c9 hf
        obtain rfl := Option.some.inj hf
        exact hE H locs ls hP hD hS (lv_sub hl [0, 1] rfl)
      · replace hf := it_f c9 hf
        refine lv_aload_n hx hb dX3_start_14 rfl (lv_at hl 1 rfl) ?_
        refine va_get (D := D) (ci := 0) (v := .ref (aA 1)) (C := RX0) (T := TX0) (N := 5) hx hb hts iX0 hown hK hP 11 rfl rfl 1 (by decide) (hts _ wd_182) (fun _ h9 => h9) rfl dX3_start_15 ?_
        refine lv_iload_n hx hb dX3_start_18 rfl (lv_at hl 2 rfl) ?_
        obtain ⟨hz, hf⟩ := okb_s hf
        refine va_iald (D := D) hx hb hK hP 12 0 rfl rfl (inb_s hz) dX3_start_19 ?_
        refine lv_istore_n (lv' := [(3, .int (mc x2.toNatClampNeg)), (0, .ref (aS 0)), (1, .ref (aA 0)), (2, .int x2)]) hx hb dX3_start_20 rfl hl (by decide) rfl (fun ls hl => ?_)
        refine lv_aload_n hx hb dX3_start_21 rfl (lv_at hl 1 rfl) ?_
        refine va_get (D := D) (ci := 3) (v := .ref (aS 2)) (C := RX3) (T := TX3) (N := 12) hx hb hts iX3 hown hK hP 0 rfl rfl 2 (by decide) (hts _ wd_138) (fun _ h9 => h9) rfl dX3_start_22 ?_
        refine lv_iload_n hx hb dX3_start_25 rfl (lv_at hl 0 rfl) ?_
        obtain ⟨hz, hf⟩ := okb_s hf
        refine va_iald (D := D) hx hb hK hP 2 0 rfl rfl (inb_s hz) dX3_start_26 ?_
        refine lv_iload_n hx hb dX3_start_27 rfl (lv_at hl 3 rfl) ?_
        refine lv_iconst (v := (1 : Int32)) hx hb dX3_start_28 (by decide) ?_
        refine lv_iand hx hb dX3_start_29 ?_
        refine lv_iadd hx hb dX3_start_30 ?_
        refine lv_istore (lv' := [(4, .int ((sC (mc x2.toNatClampNeg).toNatClampNeg) + (x2 &&& (1 : Int32)))), (3, .int (mc x2.toNatClampNeg)), (0, .ref (aS 0)), (1, .ref (aA 0)), (2, .int x2)]) hx hb dX3_start_31 hl (by decide) rfl (fun ls hl => ?_)
        refine lv_aload_n hx hb dX3_start_33 rfl (lv_at hl 2 rfl) ?_
        refine lv_dup hx hb dX3_start_34 rfl ?_
        refine va_get (D := D) (ci := 3) (v := .int s3) (C := RX3) (T := TX3) (N := 12) hx hb hts iX3 hown hK hP 0 rfl rfl 9 (by decide) (hts _ wd_145) (fun _ h9 => h9) rfl dX3_start_35 ?_
        refine lv_iload hx hb dX3_start_38 (lv_at hl 0 rfl) ?_
        refine lv_aload_n hx hb dX3_start_40 rfl (lv_at hl 2 rfl) ?_
        refine va_get (D := D) (ci := 3) (v := .ref (aS 1)) (C := RX3) (T := TX3) (N := 12) hx hb hts iX3 hown hK hP 0 rfl rfl 1 (by decide) (hts _ wd_137) (fun _ h9 => h9) rfl dX3_start_41 ?_
        refine lv_iload_n hx hb dX3_start_44 rfl (lv_at hl 1 rfl) ?_
        obtain ⟨hz, hf⟩ := okb_s hf
        refine va_iald (D := D) hx hb hK hP 1 0 rfl rfl (inb_s hz) dX3_start_45 ?_
        refine lv_imul hx hb dX3_start_46 ?_
        refine lv_iadd hx hb dX3_start_47 ?_
        refine va_put (D := D) (ci := 3) (v := .int (s3 + (((sC (mc x2.toNatClampNeg).toNatClampNeg) + (x2 &&& (1 : Int32))) * (u6.2.2.2.2.2.2.1 (mc x2.toNatClampNeg).toNatClampNeg)))) (ty := .int) (C := RX3) (T := TX3) (N := 12) hx hb hts iX3 tyX3 tyX3_ok nmX3 hown hK hP hD hS 0 rfl rfl 9 (by decide) (hts _ wd_145) (fun _ h9 => h9) rfl (by decide +kernel) rfl rfl (Nat.le_of_ble_eq_true rfl) dX3_start_48 (fun H locs hP hD hS => ?_)
        have hP : va_P D classes (wSA cx aS aT ak7 aA aG u6.1 u6.2.1 u6.2.2.1 (s3 + (((sC (mc x2.toNatClampNeg).toNatClampNeg) + (x2 &&& (1 : Int32))) * (u6.2.2.2.2.2.2.1 (mc x2.toNatClampNeg).toNatClampNeg))) s4 u6.2.2.2.2.2.1 u6.2.2.2.2.2.2.1 sC sH u6.2.2.2.2.2.2.2.2.2.1 u6.2.2.2.2.2.2.2.2.2.2.1 u6.2.2.2.2.2.2.2.2.2.2.2 mv mc mm mh gw gh gk gq gr gj gR gT gC) H := hP
        have hD : va_D A (wSA cx aS aT ak7 aA aG u6.1 u6.2.1 u6.2.2.1 (s3 + (((sC (mc x2.toNatClampNeg).toNatClampNeg) + (x2 &&& (1 : Int32))) * (u6.2.2.2.2.2.2.1 (mc x2.toNatClampNeg).toNatClampNeg))) s4 u6.2.2.2.2.2.1 u6.2.2.2.2.2.2.1 sC sH u6.2.2.2.2.2.2.2.2.2.1 u6.2.2.2.2.2.2.2.2.2.2.1 u6.2.2.2.2.2.2.2.2.2.2.2 mv mc mm mh gw gh gk gq gr gj gR gT gC) := hD
        refine lv_aload_n hx hb dX3_start_51 rfl (lv_at hl 2 rfl) ?_
        refine lv_dup hx hb dX3_start_52 rfl ?_
        refine va_get (D := D) (ci := 3) (v := .int s4) (C := RX3) (T := TX3) (N := 12) hx hb hts iX3 hown hK hP 0 rfl rfl 10 (by decide) (hts _ wd_146) (fun _ h9 => h9) rfl dX3_start_53 ?_
        refine lv_iload hx hb dX3_start_56 (lv_at hl 0 rfl) ?_
        refine lv_aload_n hx hb dX3_start_58 rfl (lv_at hl 2 rfl) ?_
        refine va_get (D := D) (ci := 3) (v := .ref (aS 1)) (C := RX3) (T := TX3) (N := 12) hx hb hts iX3 hown hK hP 0 rfl rfl 1 (by decide) (hts _ wd_137) (fun _ h9 => h9) rfl dX3_start_59 ?_
        refine lv_aload_n hx hb dX3_start_62 rfl (lv_at hl 2 rfl) ?_
        refine va_get (D := D) (ci := 3) (v := .ref (aG 0)) (C := RX3) (T := TX3) (N := 12) hx hb hts iX3 hown hK hP 0 rfl rfl 0 (by decide) (hts _ wd_136) (fun _ h9 => h9) rfl dX3_start_63 ?_
        refine va_get (D := D) (ci := 1) (v := .int gw) (C := RX1) (T := TX1) (N := 9) hx hb hts iX1 hown hK hP 15 rfl rfl 0 (by decide) (hts _ wd_65) (fun _ h9 => h9) rfl dX3_start_66 ?_
        refine lv_iconst (v := (1 : Int32)) hx hb dX3_start_69 (by decide) ?_
        refine lv_isub hx hb dX3_start_70 ?_
        refine lv_iload_n hx hb dX3_start_71 rfl (lv_at hl 1 rfl) ?_
        refine lv_isub hx hb dX3_start_72 ?_
        obtain ⟨hz, hf⟩ := okb_s hf
        refine va_iald (D := D) hx hb hK hP 1 0 rfl rfl (inb_s hz) dX3_start_73 ?_
        refine lv_imul hx hb dX3_start_74 ?_
        refine lv_iadd hx hb dX3_start_75 ?_
        refine va_put (D := D) (ci := 3) (v := .int (s4 + (((sC (mc x2.toNatClampNeg).toNatClampNeg) + (x2 &&& (1 : Int32))) * (u6.2.2.2.2.2.2.1 ((gw - (1 : Int32)) - (mc x2.toNatClampNeg)).toNatClampNeg)))) (ty := .int) (C := RX3) (T := TX3) (N := 12) hx hb hts iX3 tyX3 tyX3_ok nmX3 hown hK hP hD hS 0 rfl rfl 10 (by decide) (hts _ wd_146) (fun _ h9 => h9) rfl (by decide +kernel) rfl rfl (Nat.le_of_ble_eq_true rfl) dX3_start_76 (fun H locs hP hD hS => ?_)
        have hP : va_P D classes (wSA cx aS aT ak7 aA aG u6.1 u6.2.1 u6.2.2.1 (s3 + (((sC (mc x2.toNatClampNeg).toNatClampNeg) + (x2 &&& (1 : Int32))) * (u6.2.2.2.2.2.2.1 (mc x2.toNatClampNeg).toNatClampNeg))) (s4 + (((sC (mc x2.toNatClampNeg).toNatClampNeg) + (x2 &&& (1 : Int32))) * (u6.2.2.2.2.2.2.1 ((gw - (1 : Int32)) - (mc x2.toNatClampNeg)).toNatClampNeg))) u6.2.2.2.2.2.1 u6.2.2.2.2.2.2.1 sC sH u6.2.2.2.2.2.2.2.2.2.1 u6.2.2.2.2.2.2.2.2.2.2.1 u6.2.2.2.2.2.2.2.2.2.2.2 mv mc mm mh gw gh gk gq gr gj gR gT gC) H := hP
        have hD : va_D A (wSA cx aS aT ak7 aA aG u6.1 u6.2.1 u6.2.2.1 (s3 + (((sC (mc x2.toNatClampNeg).toNatClampNeg) + (x2 &&& (1 : Int32))) * (u6.2.2.2.2.2.2.1 (mc x2.toNatClampNeg).toNatClampNeg))) (s4 + (((sC (mc x2.toNatClampNeg).toNatClampNeg) + (x2 &&& (1 : Int32))) * (u6.2.2.2.2.2.2.1 ((gw - (1 : Int32)) - (mc x2.toNatClampNeg)).toNatClampNeg))) u6.2.2.2.2.2.1 u6.2.2.2.2.2.2.1 sC sH u6.2.2.2.2.2.2.2.2.2.1 u6.2.2.2.2.2.2.2.2.2.2.1 u6.2.2.2.2.2.2.2.2.2.2.2 mv mc mm mh gw gh gk gq gr gj gR gT gC) := hD
        refine lv_aload_n hx hb dX3_start_79 rfl (lv_at hl 2 rfl) ?_
        refine va_get (D := D) (ci := 3) (v := .ref (aS 2)) (C := RX3) (T := TX3) (N := 12) hx hb hts iX3 hown hK hP 0 rfl rfl 2 (by decide) (hts _ wd_138) (fun _ h9 => h9) rfl dX3_start_80 ?_
        refine lv_iload_n hx hb dX3_start_83 rfl (lv_at hl 1 rfl) ?_
        refine lv_dup2_11 hx hb dX3_start_84 rfl rfl ?_
        obtain ⟨hz, hf⟩ := okb_s hf
        refine va_iald (D := D) hx hb hK hP 2 0 rfl rfl (inb_s hz) dX3_start_85 ?_
        refine lv_iload hx hb dX3_start_86 (lv_at hl 0 rfl) ?_
        refine lv_iadd hx hb dX3_start_88 ?_
        obtain ⟨hz, hf⟩ := okb_s hf
        refine va_iast (D := D) hx hb hK hP hD hS 2 0 rfl rfl (inb_s hz) dX3_start_89 (fun H locs hP hD hS => ?_)
        have hP : va_P D classes (wSA cx aS aT ak7 aA aG u6.1 u6.2.1 u6.2.2.1 (s3 + (((sC (mc x2.toNatClampNeg).toNatClampNeg) + (x2 &&& (1 : Int32))) * (u6.2.2.2.2.2.2.1 (mc x2.toNatClampNeg).toNatClampNeg))) (s4 + (((sC (mc x2.toNatClampNeg).toNatClampNeg) + (x2 &&& (1 : Int32))) * (u6.2.2.2.2.2.2.1 ((gw - (1 : Int32)) - (mc x2.toNatClampNeg)).toNatClampNeg))) u6.2.2.2.2.2.1 u6.2.2.2.2.2.2.1 (upd sC (mc x2.toNatClampNeg).toNatClampNeg ((sC (mc x2.toNatClampNeg).toNatClampNeg) + ((sC (mc x2.toNatClampNeg).toNatClampNeg) + (x2 &&& (1 : Int32))))) sH u6.2.2.2.2.2.2.2.2.2.1 u6.2.2.2.2.2.2.2.2.2.2.1 u6.2.2.2.2.2.2.2.2.2.2.2 mv mc mm mh gw gh gk gq gr gj gR gT gC) H := hP
        have hD : va_D A (wSA cx aS aT ak7 aA aG u6.1 u6.2.1 u6.2.2.1 (s3 + (((sC (mc x2.toNatClampNeg).toNatClampNeg) + (x2 &&& (1 : Int32))) * (u6.2.2.2.2.2.2.1 (mc x2.toNatClampNeg).toNatClampNeg))) (s4 + (((sC (mc x2.toNatClampNeg).toNatClampNeg) + (x2 &&& (1 : Int32))) * (u6.2.2.2.2.2.2.1 ((gw - (1 : Int32)) - (mc x2.toNatClampNeg)).toNatClampNeg))) u6.2.2.2.2.2.1 u6.2.2.2.2.2.2.1 (upd sC (mc x2.toNatClampNeg).toNatClampNeg ((sC (mc x2.toNatClampNeg).toNatClampNeg) + ((sC (mc x2.toNatClampNeg).toNatClampNeg) + (x2 &&& (1 : Int32))))) sH u6.2.2.2.2.2.2.2.2.2.1 u6.2.2.2.2.2.2.2.2.2.2.1 u6.2.2.2.2.2.2.2.2.2.2.2 mv mc mm mh gw gh gk gq gr gj gR gT gC) := hD
        refine lv_aload_n hx hb dX3_start_90 rfl (lv_at hl 2 rfl) ?_
        refine va_get (D := D) (ci := 3) (v := .ref (aS 3)) (C := RX3) (T := TX3) (N := 12) hx hb hts iX3 hown hK hP 0 rfl rfl 3 (by decide) (hts _ wd_139) (fun _ h9 => h9) rfl dX3_start_91 ?_
        refine lv_iload_n hx hb dX3_start_94 rfl (lv_at hl 1 rfl) ?_
        refine lv_dup2_11 hx hb dX3_start_95 rfl rfl ?_
        obtain ⟨hz, hf⟩ := okb_s hf
        refine va_iald (D := D) hx hb hK hP 3 0 rfl rfl (inb_s hz) dX3_start_96 ?_
        refine lv_iconst (v := (1 : Int32)) hx hb dX3_start_97 (by decide) ?_
        refine lv_iadd hx hb dX3_start_98 ?_
        obtain ⟨hz, hf⟩ := okb_s hf
        refine va_iast (D := D) hx hb hK hP hD hS 3 0 rfl rfl (inb_s hz) dX3_start_99 (fun H locs hP hD hS => ?_)
        have hP : va_P D classes (wSA cx aS aT ak7 aA aG u6.1 u6.2.1 u6.2.2.1 (s3 + (((sC (mc x2.toNatClampNeg).toNatClampNeg) + (x2 &&& (1 : Int32))) * (u6.2.2.2.2.2.2.1 (mc x2.toNatClampNeg).toNatClampNeg))) (s4 + (((sC (mc x2.toNatClampNeg).toNatClampNeg) + (x2 &&& (1 : Int32))) * (u6.2.2.2.2.2.2.1 ((gw - (1 : Int32)) - (mc x2.toNatClampNeg)).toNatClampNeg))) u6.2.2.2.2.2.1 u6.2.2.2.2.2.2.1 (upd sC (mc x2.toNatClampNeg).toNatClampNeg ((sC (mc x2.toNatClampNeg).toNatClampNeg) + ((sC (mc x2.toNatClampNeg).toNatClampNeg) + (x2 &&& (1 : Int32))))) (upd sH (mc x2.toNatClampNeg).toNatClampNeg ((sH (mc x2.toNatClampNeg).toNatClampNeg) + (1 : Int32))) u6.2.2.2.2.2.2.2.2.2.1 u6.2.2.2.2.2.2.2.2.2.2.1 u6.2.2.2.2.2.2.2.2.2.2.2 mv mc mm mh gw gh gk gq gr gj gR gT gC) H := hP
        have hD : va_D A (wSA cx aS aT ak7 aA aG u6.1 u6.2.1 u6.2.2.1 (s3 + (((sC (mc x2.toNatClampNeg).toNatClampNeg) + (x2 &&& (1 : Int32))) * (u6.2.2.2.2.2.2.1 (mc x2.toNatClampNeg).toNatClampNeg))) (s4 + (((sC (mc x2.toNatClampNeg).toNatClampNeg) + (x2 &&& (1 : Int32))) * (u6.2.2.2.2.2.2.1 ((gw - (1 : Int32)) - (mc x2.toNatClampNeg)).toNatClampNeg))) u6.2.2.2.2.2.1 u6.2.2.2.2.2.2.1 (upd sC (mc x2.toNatClampNeg).toNatClampNeg ((sC (mc x2.toNatClampNeg).toNatClampNeg) + ((sC (mc x2.toNatClampNeg).toNatClampNeg) + (x2 &&& (1 : Int32))))) (upd sH (mc x2.toNatClampNeg).toNatClampNeg ((sH (mc x2.toNatClampNeg).toNatClampNeg) + (1 : Int32))) u6.2.2.2.2.2.2.2.2.2.1 u6.2.2.2.2.2.2.2.2.2.2.1 u6.2.2.2.2.2.2.2.2.2.2.2 mv mc mm mh gw gh gk gq gr gj gR gT gC) := hD
        refine lv_iinc (v := (x2 + (1 : Int32))) (lv' := [(2, .int (x2 + (1 : Int32))), (4, .int ((sC (mc x2.toNatClampNeg).toNatClampNeg) + (x2 &&& (1 : Int32)))), (3, .int (mc x2.toNatClampNeg)), (0, .ref (aS 0)), (1, .ref (aA 0))]) hx hb dX3_start_100 hl (k := 4) rfl rfl (by decide) rfl (fun ls hl => ?_)
        refine lv_goto (tgt := 6) hx hb dX3_start_103 (by decide) ?_
        exact ih (s3 + (((sC (mc x2.toNatClampNeg).toNatClampNeg) + (x2 &&& (1 : Int32))) * (u6.2.2.2.2.2.2.1 (mc x2.toNatClampNeg).toNatClampNeg))) (s4 + (((sC (mc x2.toNatClampNeg).toNatClampNeg) + (x2 &&& (1 : Int32))) * (u6.2.2.2.2.2.2.1 ((gw - (1 : Int32)) - (mc x2.toNatClampNeg)).toNatClampNeg))) (upd sC (mc x2.toNatClampNeg).toNatClampNeg ((sC (mc x2.toNatClampNeg).toNatClampNeg) + ((sC (mc x2.toNatClampNeg).toNatClampNeg) + (x2 &&& (1 : Int32))))) (upd sH (mc x2.toNatClampNeg).toNatClampNeg ((sH (mc x2.toNatClampNeg).toNatClampNeg) + (1 : Int32))) (x2 + (1 : Int32)) _ hf H locs ls hP hD hS (lv_sub hl [3, 4, 0] rfl) hE
  obtain ⟨u10, hg, hf⟩ := ob_s hf
  refine L6 _ u6.2.2.2.1 u6.2.2.2.2.1 u6.2.2.2.2.2.2.2.1 u6.2.2.2.2.2.2.2.2.1 (0 : Int32) u10 hg H locs ls hP hD hS (lv_sub hl [1, 2, 0] rfl) (fun H locs ls hP hD hS hl => ?_)
  refine lv_aload_n hx hb dX3_start_106 rfl (lv_at hl 0 rfl) ?_
  refine lv_aload_n hx hb dX3_start_107 rfl (lv_at hl 1 rfl) ?_
  refine va_get (D := D) (ci := 0) (v := .ref (aA 2)) (C := RX0) (T := TX0) (N := 5) hx hb hts iX0 hown hK hP 11 rfl rfl 2 (by decide) (hts _ wd_185) (fun _ h9 => h9) rfl dX3_start_108 ?_
  refine lv_aload_n hx hb dX3_start_111 rfl (lv_at hl 1 rfl) ?_
  obtain ⟨u11, hg, hf⟩ := ob_s hf
  refine kc_calli (wn := fun _ => (wSA cx aS aT ak7 aA aG u6.1 u6.2.1 u6.2.2.1 u10.1 u10.2.1 u6.2.2.2.2.2.1 u6.2.2.2.2.2.2.1 u10.2.2.1 u10.2.2.2 u6.2.2.2.2.2.2.2.2.2.1 u6.2.2.2.2.2.2.2.2.2.2.1 u6.2.2.2.2.2.2.2.2.2.2.2 mv mc mm mh gw gh gk gq gr gj gR gT gC)) (va_runV (As := []) (rest := [.ref (aA 2), .ref (aS 0)]) ⟨hx, hb, hml, hown, hts⟩ (metX0_side l D cx aA aG mv mc mm mh gw gh gk gq gr gj gR gT gC  N H.size u11 hg) ⟨callB_of 0 hts (kc_gI wd_284) rfl rfl rfl (hts _ wd_44) (hts _ wd_375) (by decide +kernel) ⟨Nat.le_of_ble_eq_true rfl, Nat.le_of_ble_eq_true rfl⟩, hts _ wd_282, hts _ wd_283⟩ ⟨kc_blind _ _ _ _ _, va_recv hK hP (ci := 0) (q0 := 11) rfl rfl, kc_pre _ hK hN (hP.sub [11, 12, 13, 14, 15, 16, 17, 18] rfl) (hD.sub [11, 12, 13, 14, 15, 16, 17, 18] (by decide) rfl)⟩ rfl rfl hl.1 rfl (lv_room (Nat.le_of_ble_eq_true rfl)) dX3_start_112 ⟨(by show az sp + 0 ≤ az sp; omega), (by show azs sp + 0 ≤ azs sp; omega)⟩) hP hD hS hA [11, 12, 13, 14, 15, 16, 17, 18] [0, 1, 2, 3, 4, 5, 6, 7, 8, 9, 10] [0, 1, 2, 3, 4, 5, 6, 7, 8, 9, 10, 11, 12, 13, 14, 15, 16, 17, 18] rfl rfl (by decide) (by decide) (fun _ => rfl) (by decide) (fun _ H locs hP hD hS => ?_)
  have hP : va_P D classes (wSA cx aS aT ak7 aA aG u6.1 u6.2.1 u6.2.2.1 u10.1 u10.2.1 u6.2.2.2.2.2.1 u6.2.2.2.2.2.2.1 u10.2.2.1 u10.2.2.2 u6.2.2.2.2.2.2.2.2.2.1 u6.2.2.2.2.2.2.2.2.2.2.1 u6.2.2.2.2.2.2.2.2.2.2.2 mv mc mm mh gw gh gk gq gr gj gR gT gC) H := hP
  have hD : va_D A (wSA cx aS aT ak7 aA aG u6.1 u6.2.1 u6.2.2.1 u10.1 u10.2.1 u6.2.2.2.2.2.1 u6.2.2.2.2.2.2.1 u10.2.2.1 u10.2.2.2 u6.2.2.2.2.2.2.2.2.2.1 u6.2.2.2.2.2.2.2.2.2.2.1 u6.2.2.2.2.2.2.2.2.2.2.2 mv mc mm mh gw gh gk gq gr gj gR gT gC) := hD
  refine W.widen (k := az sp) (n := azs sp) (by omega) (by omega) ?_
  obtain ⟨hz, hf⟩ := okb_s hf
  refine va_iald (D := D) hx hb hK hP 13 0 rfl rfl (inb_s hz) dX3_start_115 ?_
  refine va_put (D := D) (ci := 3) (v := .int (mm u11.toNatClampNeg)) (ty := .int) (C := RX3) (T := TX3) (N := 12) hx hb hts iX3 tyX3 tyX3_ok nmX3 hown hK hP hD hS 0 rfl rfl 7 (by decide) (hts _ wd_143) (fun _ h9 => h9) rfl (by decide +kernel) rfl rfl (Nat.le_of_ble_eq_true rfl) dX3_start_116 (fun H locs hP hD hS => ?_)
  have hP : va_P D classes (wSA cx aS aT ak7 aA aG u6.1 (mm u11.toNatClampNeg) u6.2.2.1 u10.1 u10.2.1 u6.2.2.2.2.2.1 u6.2.2.2.2.2.2.1 u10.2.2.1 u10.2.2.2 u6.2.2.2.2.2.2.2.2.2.1 u6.2.2.2.2.2.2.2.2.2.2.1 u6.2.2.2.2.2.2.2.2.2.2.2 mv mc mm mh gw gh gk gq gr gj gR gT gC) H := hP
  have hD : va_D A (wSA cx aS aT ak7 aA aG u6.1 (mm u11.toNatClampNeg) u6.2.2.1 u10.1 u10.2.1 u6.2.2.2.2.2.1 u6.2.2.2.2.2.2.1 u10.2.2.1 u10.2.2.2 u6.2.2.2.2.2.2.2.2.2.1 u6.2.2.2.2.2.2.2.2.2.2.1 u6.2.2.2.2.2.2.2.2.2.2.2 mv mc mm mh gw gh gk gq gr gj gR gT gC) := hD
  refine lv_aload_n hx hb dX3_start_119 rfl (lv_at hl 0 rfl) ?_
  refine lv_aload_n hx hb dX3_start_120 rfl (lv_at hl 1 rfl) ?_
  refine va_get (D := D) (ci := 0) (v := .ref (aA 2)) (C := RX0) (T := TX0) (N := 5) hx hb hts iX0 hown hK hP 11 rfl rfl 2 (by decide) (hts _ wd_185) (fun _ h9 => h9) rfl dX3_start_121 ?_
  refine lv_iconst (v := (1 : Int32)) hx hb dX3_start_124 (by decide) ?_
  refine lv_aload_n hx hb dX3_start_125 rfl (lv_at hl 1 rfl) ?_
  obtain ⟨u12, hg, hf⟩ := ob_s hf
  refine kc_calli (wn := fun _ => (wSA cx aS aT ak7 aA aG u6.1 (mm u11.toNatClampNeg) u6.2.2.1 u10.1 u10.2.1 u6.2.2.2.2.2.1 u6.2.2.2.2.2.2.1 u10.2.2.1 u10.2.2.2 u6.2.2.2.2.2.2.2.2.2.1 u6.2.2.2.2.2.2.2.2.2.2.1 u6.2.2.2.2.2.2.2.2.2.2.2 mv mc mm mh gw gh gk gq gr gj gR gT gC)) (va_runV (As := []) (rest := [.int (1 : Int32), .ref (aA 2), .ref (aS 0)]) ⟨hx, hb, hml, hown, hts⟩ (metX0_side l D cx aA aG mv mc mm mh gw gh gk gq gr gj gR gT gC  N H.size u12 hg) ⟨callB_of 0 hts (kc_gI wd_284) rfl rfl rfl (hts _ wd_44) (hts _ wd_375) (by decide +kernel) ⟨Nat.le_of_ble_eq_true rfl, Nat.le_of_ble_eq_true rfl⟩, hts _ wd_282, hts _ wd_283⟩ ⟨kc_blind _ _ _ _ _, va_recv hK hP (ci := 0) (q0 := 11) rfl rfl, kc_pre _ hK hN (hP.sub [11, 12, 13, 14, 15, 16, 17, 18] rfl) (hD.sub [11, 12, 13, 14, 15, 16, 17, 18] (by decide) rfl)⟩ rfl rfl hl.1 rfl (lv_room (Nat.le_of_ble_eq_true rfl)) dX3_start_126 ⟨(by show az sp + 0 ≤ az sp; omega), (by show azs sp + 0 ≤ azs sp; omega)⟩) hP hD hS hA [11, 12, 13, 14, 15, 16, 17, 18] [0, 1, 2, 3, 4, 5, 6, 7, 8, 9, 10] [0, 1, 2, 3, 4, 5, 6, 7, 8, 9, 10, 11, 12, 13, 14, 15, 16, 17, 18] rfl rfl (by decide) (by decide) (fun _ => rfl) (by decide) (fun _ H locs hP hD hS => ?_)
  have hP : va_P D classes (wSA cx aS aT ak7 aA aG u6.1 (mm u11.toNatClampNeg) u6.2.2.1 u10.1 u10.2.1 u6.2.2.2.2.2.1 u6.2.2.2.2.2.2.1 u10.2.2.1 u10.2.2.2 u6.2.2.2.2.2.2.2.2.2.1 u6.2.2.2.2.2.2.2.2.2.2.1 u6.2.2.2.2.2.2.2.2.2.2.2 mv mc mm mh gw gh gk gq gr gj gR gT gC) H := hP
  have hD : va_D A (wSA cx aS aT ak7 aA aG u6.1 (mm u11.toNatClampNeg) u6.2.2.1 u10.1 u10.2.1 u6.2.2.2.2.2.1 u6.2.2.2.2.2.2.1 u10.2.2.1 u10.2.2.2 u6.2.2.2.2.2.2.2.2.2.1 u6.2.2.2.2.2.2.2.2.2.2.1 u6.2.2.2.2.2.2.2.2.2.2.2 mv mc mm mh gw gh gk gq gr gj gR gT gC) := hD
  refine W.widen (k := az sp) (n := azs sp) (by omega) (by omega) ?_
  refine lv_isub hx hb dX3_start_129 ?_
  obtain ⟨hz, hf⟩ := okb_s hf
  refine va_iald (D := D) hx hb hK hP 13 0 rfl rfl (inb_s hz) dX3_start_130 ?_
  refine va_put (D := D) (ci := 3) (v := .int (mm ((1 : Int32) - u12).toNatClampNeg)) (ty := .int) (C := RX3) (T := TX3) (N := 12) hx hb hts iX3 tyX3 tyX3_ok nmX3 hown hK hP hD hS 0 rfl rfl 8 (by decide) (hts _ wd_144) (fun _ h9 => h9) rfl (by decide +kernel) rfl rfl (Nat.le_of_ble_eq_true rfl) dX3_start_131 (fun H locs hP hD hS => ?_)
  have hP : va_P D classes (wSA cx aS aT ak7 aA aG u6.1 (mm u11.toNatClampNeg) (mm ((1 : Int32) - u12).toNatClampNeg) u10.1 u10.2.1 u6.2.2.2.2.2.1 u6.2.2.2.2.2.2.1 u10.2.2.1 u10.2.2.2 u6.2.2.2.2.2.2.2.2.2.1 u6.2.2.2.2.2.2.2.2.2.2.1 u6.2.2.2.2.2.2.2.2.2.2.2 mv mc mm mh gw gh gk gq gr gj gR gT gC) H := hP
  have hD : va_D A (wSA cx aS aT ak7 aA aG u6.1 (mm u11.toNatClampNeg) (mm ((1 : Int32) - u12).toNatClampNeg) u10.1 u10.2.1 u6.2.2.2.2.2.1 u6.2.2.2.2.2.2.1 u10.2.2.1 u10.2.2.2 u6.2.2.2.2.2.2.2.2.2.1 u6.2.2.2.2.2.2.2.2.2.2.1 u6.2.2.2.2.2.2.2.2.2.2.2 mv mc mm mh gw gh gk gq gr gj gR gT gC) := hD
  refine lv_aload_n hx hb dX3_start_134 rfl (lv_at hl 0 rfl) ?_
  refine lv_aload_n hx hb dX3_start_135 rfl (lv_at hl 1 rfl) ?_
  refine va_get (D := D) (ci := 0) (v := .int mv) (C := RX0) (T := TX0) (N := 5) hx hb hts iX0 hown hK hP 11 rfl rfl 4 (by decide) (hts _ wd_190) (fun _ h9 => h9) rfl dX3_start_136 ?_
  refine va_put (D := D) (ci := 3) (v := .int mv) (ty := .int) (C := RX3) (T := TX3) (N := 12) hx hb hts iX3 tyX3 tyX3_ok nmX3 hown hK hP hD hS 0 rfl rfl 11 (by decide) (hts _ wd_147) (fun _ h9 => h9) rfl (by decide +kernel) rfl rfl (Nat.le_of_ble_eq_true rfl) dX3_start_139 (fun H locs hP hD hS => ?_)
  have hP : va_P D classes (wSA cx aS aT ak7 aA aG u6.1 (mm u11.toNatClampNeg) (mm ((1 : Int32) - u12).toNatClampNeg) u10.1 u10.2.1 mv u6.2.2.2.2.2.2.1 u10.2.2.1 u10.2.2.2 u6.2.2.2.2.2.2.2.2.2.1 u6.2.2.2.2.2.2.2.2.2.2.1 u6.2.2.2.2.2.2.2.2.2.2.2 mv mc mm mh gw gh gk gq gr gj gR gT gC) H := hP
  have hD : va_D A (wSA cx aS aT ak7 aA aG u6.1 (mm u11.toNatClampNeg) (mm ((1 : Int32) - u12).toNatClampNeg) u10.1 u10.2.1 mv u6.2.2.2.2.2.2.1 u10.2.2.1 u10.2.2.2 u6.2.2.2.2.2.2.2.2.2.1 u6.2.2.2.2.2.2.2.2.2.2.1 u6.2.2.2.2.2.2.2.2.2.2.2 mv mc mm mh gw gh gk gq gr gj gR gT gC) := hD
  obtain rfl := Option.some.inj hf
  exact kc_vret (ak7) hx hb hr hk hP hD hS dX3_start_142
abbrev rmX3_seenFromAhead : Room := { frames := 0, cells := 0, slots := 0, locals := 0 }
set_option maxHeartbeats 4000000 in
set_option maxRecDepth 100000 in
theorem metX3_seenFromAhead (l : Launch) (D : va_G) (cx : Nat → ClassId)   (x0 : Int32) (N : Nat) (sz : Nat) (v : Int32) (hf : fX3_seenFromAhead N x0 = some v) : Met l yX3_seenFromAhead (.code yX3_seenFromAhead cX3_seenFromAhead 1 (some .int) :: kc_TB) rmX3_seenFromAhead (kc_Pre D cx ([] : va_W) [.int x0] sz) (kc_Pi D (fun _ : Unit => ([] : va_W)) v (va_A ([] : va_W) sz)) 0 0 (va_A ([] : va_W) sz) := by
  refine kc_entry (Qc := fun A => (kc_Pi D (fun _ : Unit => ([] : va_W)) v A)) (by decide) (Nat.le_of_ble_eq_true rfl) ?_
  intro p e s m below meth c A hx hb hr hk hml hown hin hts hN hK hP hD hS hA ls hl
  have hown : s.vm.findClass RX3 = some m.cls := hown
  have hl : lv_has ls 1 [(0, .int x0)] := hl
  unfold fX3_seenFromAhead at hf
  have hP : va_P D classes ([] : va_W) s.heap := hP
  obtain ⟨H, hH⟩ : ∃ H, H = s.heap := ⟨_, rfl⟩
  obtain ⟨locs, hL⟩ : ∃ locs : List Loc, locs = [] := ⟨_, rfl⟩
  have hS : va_S A s.heap H locs := by rw [hH, hL]; exact hS
  have hP : va_P D classes ([] : va_W) H := by rw [hH]; exact hP
  suffices hW : W p l e rmX3_seenFromAhead s m ([.int x0] : List Value).toArray below meth c H locs 0 0 (MQ below (kc_Pi D (fun _ : Unit => ([] : va_W)) v A) ([.int x0] : List Value).toArray s 0 0 A) (F0 m 0 ls []) by rw [hH, hL] at hW; exact hW
  clear hH hL
  refine lv_iload_n hx hb dX3_seenFromAhead_0 rfl (lv_at hl 0 rfl) ?_
  refine lv_if_ne (tgt := 6) hx hb dX3_seenFromAhead_1 (by decide) (fun c3 => ?_) (fun c3 => ?_)
  · replace hf := it_f c3 hf
    refine lv_iload_n hx hb dX3_seenFromAhead_6 rfl (lv_at hl 0 rfl) ?_
    refine lv_if_le (tgt := 16) hx hb dX3_seenFromAhead_7 (by decide) (fun c4 => ?_) (fun c4 => ?_)
    · replace hf := it_t c4 hf
      refine lv_iconst (v := (-1 : Int32)) hx hb dX3_seenFromAhead_16 (by decide) ?_
      refine lv_iload_n hx hb dX3_seenFromAhead_17 rfl (lv_at hl 0 rfl) ?_
      refine lv_isub hx hb dX3_seenFromAhead_18 ?_
      obtain rfl := Option.some.inj hf
      exact kc_iret () hx hb hr hk hP hD hS rfl dX3_seenFromAhead_19
    · replace hf := it_f c4 hf
      refine lv_iconst (v := (1 : Int32)) hx hb dX3_seenFromAhead_10 (by decide) ?_
      refine lv_iload_n hx hb dX3_seenFromAhead_11 rfl (lv_at hl 0 rfl) ?_
      refine lv_isub hx hb dX3_seenFromAhead_12 ?_
      refine lv_goto (tgt := 19) hx hb dX3_seenFromAhead_13 (by decide) ?_
      obtain rfl := Option.some.inj hf
      exact kc_iret () hx hb hr hk hP hD hS rfl dX3_seenFromAhead_19
  · replace hf := it_t c3 hf
    refine lv_iconst (v := (0 : Int32)) hx hb dX3_seenFromAhead_4 (by decide) ?_
    obtain rfl := Option.some.inj hf
    exact kc_iret () hx hb hr hk hP hD hS rfl dX3_seenFromAhead_5
abbrev rmX3_keptAt : Room := { frames := 0, cells := 0, slots := 0, locals := 0 }
set_option maxHeartbeats 4000000 in
set_option maxRecDepth 100000 in
theorem metX3_keptAt (l : Launch) (D : va_G) (cx : Nat → ClassId) (aS : Nat → Nat) (aT : Nat → Nat) (ak : Nat) (aG : Nat → Nat) (sp : Int32) (s1 : Int32) (s2 : Int32) (s3 : Int32) (s4 : Int32) (s5 : Int32) (sP : Nat → Int32) (sC : Nat → Int32) (sH : Nat → Int32) (tl : Nat → Nat → Int32) (kl : Nat) (kf : Nat → Int64) (gw : Int32) (gh : Int32) (gk : Int32) (gq : Int32) (gr : Int32) (gj : Int32) (gR : Nat → Int32) (gT : Nat → Int32) (gC : Nat → Int32) (x1 : Int32) (N : Nat) (sz : Nat) (v : Int32) (hf : fX3_keptAt N kl kf x1 = some v) : Met l yX3_keptAt (.code yX3_keptAt cX3_keptAt 3 (some .int) :: kc_TB) rmX3_keptAt (kc_Pre D cx (wS cx aS aT ak aG sp s1 s2 s3 s4 s5 sP sC sH tl kl kf gw gh gk gq gr gj gR gT gC) [.ref (aS 0), .int x1] sz) (kc_Pi D (fun _ : Unit => (wS cx aS aT ak aG sp s1 s2 s3 s4 s5 sP sC sH tl kl kf gw gh gk gq gr gj gR gT gC)) v (va_A (wS cx aS aT ak aG sp s1 s2 s3 s4 s5 sP sC sH tl kl kf gw gh gk gq gr gj gR gT gC) sz)) 0 0 (va_A (wS cx aS aT ak aG sp s1 s2 s3 s4 s5 sP sC sH tl kl kf gw gh gk gq gr gj gR gT gC) sz) := by
  refine kc_entry (Qc := fun A => (kc_Pi D (fun _ : Unit => (wS cx aS aT ak aG sp s1 s2 s3 s4 s5 sP sC sH tl kl kf gw gh gk gq gr gj gR gT gC)) v A)) (by decide) (Nat.le_of_ble_eq_true rfl) ?_
  intro p e s m below meth c A hx hb hr hk hml hown hin hts hN hK hP hD hS hA ls hl
  have hown : s.vm.findClass RX3 = some m.cls := hown
  have hl : lv_has ls 3 [(0, .ref (aS 0)), (1, .int x1)] := hl
  unfold fX3_keptAt at hf
  have hP : va_P D classes (wS cx aS aT ak aG sp s1 s2 s3 s4 s5 sP sC sH tl kl kf gw gh gk gq gr gj gR gT gC) s.heap := hP
  obtain ⟨H, hH⟩ : ∃ H, H = s.heap := ⟨_, rfl⟩
  obtain ⟨locs, hL⟩ : ∃ locs : List Loc, locs = [] := ⟨_, rfl⟩
  have hS : va_S A s.heap H locs := by rw [hH, hL]; exact hS
  have hP : va_P D classes (wS cx aS aT ak aG sp s1 s2 s3 s4 s5 sP sC sH tl kl kf gw gh gk gq gr gj gR gT gC) H := by rw [hH]; exact hP
  suffices hW : W p l e rmX3_keptAt s m ([.ref (aS 0), .int x1] : List Value).toArray below meth c H locs 0 0 (MQ below (kc_Pi D (fun _ : Unit => (wS cx aS aT ak aG sp s1 s2 s3 s4 s5 sP sC sH tl kl kf gw gh gk gq gr gj gR gT gC)) v A) ([.ref (aS 0), .int x1] : List Value).toArray s 0 0 A) (F0 m 0 ls []) by rw [hH, hL] at hW; exact hW
  clear hH hL
  refine lv_iload_n hx hb dX3_keptAt_0 rfl (lv_at hl 1 rfl) ?_
  refine lv_iconst (v := (3 : Int32)) hx hb dX3_keptAt_1 (by decide) ?_
  refine lv_ishr hx hb dX3_keptAt_2 ?_
  refine lv_istore_n (lv' := [(2, .int (x1 >>> ((3 : Int32) &&& 31))), (0, .ref (aS 0)), (1, .int x1)]) hx hb dX3_keptAt_3 rfl hl (by decide) rfl (fun ls hl => ?_)
  refine lv_iload_n hx hb dX3_keptAt_4 rfl (lv_at hl 0 rfl) ?_
  refine lv_if_lt (tgt := 17) hx hb dX3_keptAt_5 (by decide) (fun c3 => ?_) (fun c3 => ?_)
  · replace hf := it_t c3 hf
    refine lv_iconst (v := (0 : Int32)) hx hb dX3_keptAt_17 (by decide) ?_
    obtain rfl := Option.some.inj hf
    exact kc_iret () hx hb hr hk hP hD hS rfl dX3_keptAt_18
  · replace hf := it_f c3 hf
    refine lv_iload_n hx hb dX3_keptAt_8 rfl (lv_at hl 0 rfl) ?_
    refine lv_aload_n hx hb dX3_keptAt_9 rfl (lv_at hl 1 rfl) ?_
    refine va_get (D := D) (ci := 3) (v := .ref (ak)) (C := RX3) (T := TX3) (N := 12) hx hb hts iX3 hown hK hP 0 rfl rfl 5 (by decide) (hts _ wd_141) (fun _ h9 => h9) rfl dX3_keptAt_10 ?_
    refine va_alen (D := D) hx hb hK hP 10 2 rfl rfl rfl dX3_keptAt_13 ?_
    refine lv_icmp_lt (tgt := 19) hx hb dX3_keptAt_14 (by decide) (fun c4 => ?_) (fun c4 => ?_)
    · replace hf := it_t c4 hf
      refine lv_aload_n hx hb dX3_keptAt_19 rfl (lv_at hl 1 rfl) ?_
      refine va_get (D := D) (ci := 3) (v := .ref (ak)) (C := RX3) (T := TX3) (N := 12) hx hb hts iX3 hown hK hP 0 rfl rfl 5 (by decide) (hts _ wd_141) (fun _ h9 => h9) rfl dX3_keptAt_20 ?_
      refine lv_iload_n hx hb dX3_keptAt_23 rfl (lv_at hl 0 rfl) ?_
      obtain ⟨hz, hf⟩ := okb_s hf
      refine va_lald (D := D) hx hb hK hP 10 2 rfl rfl (inb_s hz) dX3_keptAt_24 ?_
      refine lv_iload_n hx hb dX3_keptAt_25 rfl (lv_at hl 2 rfl) ?_
      refine lv_bipush (v := (7 : Int32)) hx hb dX3_keptAt_26 (by decide) ?_
      refine lv_iand hx hb dX3_keptAt_28 ?_
      refine lv_iconst (v := (3 : Int32)) hx hb dX3_keptAt_29 (by decide) ?_
      refine lv_ishl hx hb dX3_keptAt_30 ?_
      refine lv_lushr hx hb dX3_keptAt_31 rfl ?_
      refine lv_l2i hx hb dX3_keptAt_32 rfl ?_
      refine lv_sipush (v := (255 : Int32)) hx hb dX3_keptAt_33 (by decide) ?_
      refine lv_iand hx hb dX3_keptAt_36 ?_
      obtain rfl := Option.some.inj hf
      exact kc_iret () hx hb hr hk hP hD hS rfl dX3_keptAt_37
    · replace hf := it_f c4 hf
      refine lv_iconst (v := (0 : Int32)) hx hb dX3_keptAt_17 (by decide) ?_
      obtain rfl := Option.some.inj hf
      exact kc_iret () hx hb hr hk hP hD hS rfl dX3_keptAt_18
abbrev rmX3_shareOf : Room := { frames := 0, cells := 0, slots := 0, locals := 0 }
set_option maxHeartbeats 4000000 in
set_option maxRecDepth 100000 in
theorem metX3_shareOf (l : Launch) (D : va_G) (cx : Nat → ClassId)   (x0 : Int32) (N : Nat) (sz : Nat) (v : Int32) (hf : fX3_shareOf N x0 = some v) : Met l yX3_shareOf (.code yX3_shareOf cX3_shareOf 1 (some .int) :: kc_TB) rmX3_shareOf (kc_Pre D cx ([] : va_W) [.int x0] sz) (kc_Pi D (fun _ : Unit => ([] : va_W)) v (va_A ([] : va_W) sz)) 0 0 (va_A ([] : va_W) sz) := by
  refine kc_entry (Qc := fun A => (kc_Pi D (fun _ : Unit => ([] : va_W)) v A)) (by decide) (Nat.le_of_ble_eq_true rfl) ?_
  intro p e s m below meth c A hx hb hr hk hml hown hin hts hN hK hP hD hS hA ls hl
  have hown : s.vm.findClass RX3 = some m.cls := hown
  have hl : lv_has ls 1 [(0, .int x0)] := hl
  unfold fX3_shareOf at hf
  have hP : va_P D classes ([] : va_W) s.heap := hP
  obtain ⟨H, hH⟩ : ∃ H, H = s.heap := ⟨_, rfl⟩
  obtain ⟨locs, hL⟩ : ∃ locs : List Loc, locs = [] := ⟨_, rfl⟩
  have hS : va_S A s.heap H locs := by rw [hH, hL]; exact hS
  have hP : va_P D classes ([] : va_W) H := by rw [hH]; exact hP
  suffices hW : W p l e rmX3_shareOf s m ([.int x0] : List Value).toArray below meth c H locs 0 0 (MQ below (kc_Pi D (fun _ : Unit => ([] : va_W)) v A) ([.int x0] : List Value).toArray s 0 0 A) (F0 m 0 ls []) by rw [hH, hL] at hW; exact hW
  clear hH hL
  refine lv_iload_n hx hb dX3_shareOf_0 rfl (lv_at hl 0 rfl) ?_
  refine lv_bipush (v := (101 : Int32)) hx hb dX3_shareOf_1 (by decide) ?_
  refine lv_icmp_ne (tgt := 8) hx hb dX3_shareOf_3 (by decide) (fun c3 => ?_) (fun c3 => ?_)
  · replace hf := it_f c3 hf
    refine lv_iload_n hx hb dX3_shareOf_8 rfl (lv_at hl 0 rfl) ?_
    refine lv_bipush (v := (101 : Int32)) hx hb dX3_shareOf_9 (by decide) ?_
    refine lv_icmp_le (tgt := 18) hx hb dX3_shareOf_11 (by decide) (fun c4 => ?_) (fun c4 => ?_)
    · replace hf := it_t c4 hf
      refine lv_iconst (v := (2 : Int32)) hx hb dX3_shareOf_18 (by decide) ?_
      obtain rfl := Option.some.inj hf
      exact kc_iret () hx hb hr hk hP hD hS rfl dX3_shareOf_19
    · replace hf := it_f c4 hf
      refine lv_iconst (v := (4 : Int32)) hx hb dX3_shareOf_14 (by decide) ?_
      refine lv_goto (tgt := 19) hx hb dX3_shareOf_15 (by decide) ?_
      obtain rfl := Option.some.inj hf
      exact kc_iret () hx hb hr hk hP hD hS rfl dX3_shareOf_19
  · replace hf := it_t c3 hf
    refine lv_iconst (v := (3 : Int32)) hx hb dX3_shareOf_6 (by decide) ?_
    obtain rfl := Option.some.inj hf
    exact kc_iret () hx hb hr hk hP hD hS rfl dX3_shareOf_7
abbrev rmX3_keep : Room := { frames := 1, cells := 0, slots := 0, locals := 24 }
set_option maxHeartbeats 4000000 in
set_option maxRecDepth 100000 in
theorem metX3_keep (l : Launch) (D : va_G) (cx : Nat → ClassId) (aS : Nat → Nat) (aT : Nat → Nat) (ak : Nat) (aG : Nat → Nat) (sp : Int32) (s1 : Int32) (s2 : Int32) (s3 : Int32) (s4 : Int32) (s5 : Int32) (sP : Nat → Int32) (sC : Nat → Int32) (sH : Nat → Int32) (tl : Nat → Nat → Int32) (kl : Nat) (kf : Nat → Int64) (gw : Int32) (gh : Int32) (gk : Int32) (gq : Int32) (gr : Int32) (gj : Int32) (gR : Nat → Int32) (gT : Nat → Int32) (gC : Nat → Int32) (x1 : Int32) (x2 : Int32) (x3 : Int32) (x4 : Int32) (N : Nat) (sz : Nat) (v : (Nat → Nat → Int32) × (Nat → Int64)) (hf : fX3_keep N tl kl kf x1 x2 x3 x4 = some v) : Met l yX3_keep (.code yX3_keep cX3_keep 8 none :: kc_TB) rmX3_keep (kc_Pre D cx (wS cx aS aT ak aG sp s1 s2 s3 s4 s5 sP sC sH tl kl kf gw gh gk gq gr gj gR gT gC) [.ref (aS 0), .int x1, .int x2, .int x3, .int x4] sz) (kc_Pv D (fun _ : Unit => (wS cx aS aT ak aG sp s1 s2 s3 s4 s5 sP sC sH v.1 kl v.2 gw gh gk gq gr gj gR gT gC)) (va_A (wS cx aS aT ak aG sp s1 s2 s3 s4 s5 sP sC sH tl kl kf gw gh gk gq gr gj gR gT gC) sz)) 0 0 (va_A (wS cx aS aT ak aG sp s1 s2 s3 s4 s5 sP sC sH tl kl kf gw gh gk gq gr gj gR gT gC) sz) := by
  refine kc_entry (Qc := fun A => (kc_Pv D (fun _ : Unit => (wS cx aS aT ak aG sp s1 s2 s3 s4 s5 sP sC sH v.1 kl v.2 gw gh gk gq gr gj gR gT gC)) A)) (by decide) (Nat.le_of_ble_eq_true rfl) ?_
  intro p e s m below meth c A hx hb hr hk hml hown hin hts hN hK hP hD hS hA ls hl
  have hown : s.vm.findClass RX3 = some m.cls := hown
  have hl : lv_has ls 8 [(0, .ref (aS 0)), (1, .int x1), (2, .int x2), (3, .int x3), (4, .int x4)] := hl
  unfold fX3_keep at hf
  have hP : va_P D classes (wS cx aS aT ak aG sp s1 s2 s3 s4 s5 sP sC sH tl kl kf gw gh gk gq gr gj gR gT gC) s.heap := hP
  obtain ⟨H, hH⟩ : ∃ H, H = s.heap := ⟨_, rfl⟩
  obtain ⟨locs, hL⟩ : ∃ locs : List Loc, locs = [] := ⟨_, rfl⟩
  have hS : va_S A s.heap H locs := by rw [hH, hL]; exact hS
  have hP : va_P D classes (wS cx aS aT ak aG sp s1 s2 s3 s4 s5 sP sC sH tl kl kf gw gh gk gq gr gj gR gT gC) H := by rw [hH]; exact hP
  suffices hW : W p l e rmX3_keep s m ([.ref (aS 0), .int x1, .int x2, .int x3, .int x4] : List Value).toArray below meth c H locs 0 0 (MQ below (kc_Pv D (fun _ : Unit => (wS cx aS aT ak aG sp s1 s2 s3 s4 s5 sP sC sH v.1 kl v.2 gw gh gk gq gr gj gR gT gC)) A) ([.ref (aS 0), .int x1, .int x2, .int x3, .int x4] : List Value).toArray s 0 0 A) (F0 m 0 ls []) by rw [hH, hL] at hW; exact hW
  clear hH hL
  refine lv_iload_n hx hb dX3_keep_0 rfl (lv_at hl 1 rfl) ?_
  refine lv_iload_n hx hb dX3_keep_1 rfl (lv_at hl 2 rfl) ?_
  refine va_mmin hx hb (hml.trans hl.1.symm) hown (hts _ wd_384) (hts _ wd_385) (hts _ wd_48) (hts _ wd_386) (Nat.le_of_ble_eq_true rfl) (Nat.le_of_ble_eq_true rfl) (Nat.zero_le _) (Nat.zero_le _) dX3_keep_2 ?_
  refine lv_istore (lv' := [(5, .int (if x2 < x1 then x2 else x1)), (0, .ref (aS 0)), (1, .int x1), (2, .int x2), (3, .int x3), (4, .int x4)]) hx hb dX3_keep_5 hl (by decide) rfl (fun ls hl => ?_)
  refine lv_iload hx hb dX3_keep_7 (lv_at hl 0 rfl) ?_
  refine lv_iconst (v := (3 : Int32)) hx hb dX3_keep_9 (by decide) ?_
  refine lv_ishr hx hb dX3_keep_10 ?_
  refine lv_istore (lv' := [(6, .int ((if x2 < x1 then x2 else x1) >>> ((3 : Int32) &&& 31))), (5, .int (if x2 < x1 then x2 else x1)), (0, .ref (aS 0)), (1, .int x1), (2, .int x2), (3, .int x3), (4, .int x4)]) hx hb dX3_keep_11 hl (by decide) rfl (fun ls hl => ?_)
  refine lv_iload hx hb dX3_keep_13 (lv_at hl 0 rfl) ?_
  refine lv_if_lt (tgt := 37) hx hb dX3_keep_15 (by decide) (fun c18 => ?_) (fun c18 => ?_)
  · replace hf := it_t c18 hf
    obtain rfl := Option.some.inj hf
    exact kc_vret () hx hb hr hk hP hD hS dX3_keep_37
  · replace hf := it_f c18 hf
    refine lv_iload hx hb dX3_keep_18 (lv_at hl 0 rfl) ?_
    refine lv_aload_n hx hb dX3_keep_20 rfl (lv_at hl 2 rfl) ?_
    refine va_get (D := D) (ci := 3) (v := .ref (ak)) (C := RX3) (T := TX3) (N := 12) hx hb hts iX3 hown hK hP 0 rfl rfl 5 (by decide) (hts _ wd_141) (fun _ h9 => h9) rfl dX3_keep_21 ?_
    refine va_alen (D := D) hx hb hK hP 10 2 rfl rfl rfl dX3_keep_24 ?_
    refine lv_icmp_ge (tgt := 37) hx hb dX3_keep_25 (by decide) (fun c19 => ?_) (fun c19 => ?_)
    · replace hf := it_t c19 hf
      obtain rfl := Option.some.inj hf
      exact kc_vret () hx hb hr hk hP hD hS dX3_keep_37
    · replace hf := it_f c19 hf
      refine lv_aload_n hx hb dX3_keep_28 rfl (lv_at hl 2 rfl) ?_
      refine lv_iload hx hb dX3_keep_29 (lv_at hl 1 rfl) ?_
      obtain ⟨u20, hg, hf⟩ := ob_s hf
      refine kc_calli (wn := fun _ => (wS cx aS aT ak aG sp s1 s2 s3 s4 s5 sP sC sH tl kl kf gw gh gk gq gr gj gR gT gC)) (va_runV (As := [.int (if x2 < x1 then x2 else x1)]) (rest := []) ⟨hx, hb, hml, hown, hts⟩ (metX3_keptAt l D cx aS aT ak aG sp s1 s2 s3 s4 s5 sP sC sH tl kl kf gw gh gk gq gr gj gR gT gC (if x2 < x1 then x2 else x1) N H.size u20 hg) ⟨callB_of 1 hts (kc_gI wd_390) rfl rfl rfl (hts _ wd_43) (hts _ wd_387) (by decide +kernel) ⟨Nat.le_of_ble_eq_true rfl, Nat.le_of_ble_eq_true rfl⟩, hts _ wd_389, hts _ wd_8⟩ ⟨kc_blind _ _ _ _ _, va_recv hK hP (ci := 3) (q0 := 0) rfl rfl, kc_pre _ hK hN (hP.sub [0, 1, 2, 3, 4, 5, 6, 7, 8, 9, 10, 11, 12, 13, 14] rfl) (hD.sub [0, 1, 2, 3, 4, 5, 6, 7, 8, 9, 10, 11, 12, 13, 14] (by decide) rfl)⟩ rfl rfl hl.1 rfl (lv_room (Nat.le_of_ble_eq_true rfl)) dX3_keep_31 ⟨Nat.zero_le _, Nat.zero_le _⟩) hP hD hS hA [0, 1, 2, 3, 4, 5, 6, 7, 8, 9, 10, 11, 12, 13, 14] [] [0, 1, 2, 3, 4, 5, 6, 7, 8, 9, 10, 11, 12, 13, 14] rfl rfl (by decide) (by decide) (fun _ => rfl) (by decide) (fun _ H locs hP hD hS => ?_)
      have hP : va_P D classes (wS cx aS aT ak aG sp s1 s2 s3 s4 s5 sP sC sH tl kl kf gw gh gk gq gr gj gR gT gC) H := hP
      have hD : va_D A (wS cx aS aT ak aG sp s1 s2 s3 s4 s5 sP sC sH tl kl kf gw gh gk gq gr gj gR gT gC) := hD
      refine lv_if_eq (tgt := 38) hx hb dX3_keep_34 (by decide) (fun c21 => ?_) (fun c21 => ?_)
      · replace hf := it_t c21 hf
        refine lv_aload_n hx hb dX3_keep_38 rfl (lv_at hl 2 rfl) ?_
        refine va_get (D := D) (ci := 3) (v := .ref (ak)) (C := RX3) (T := TX3) (N := 12) hx hb hts iX3 hown hK hP 0 rfl rfl 5 (by decide) (hts _ wd_141) (fun _ h9 => h9) rfl dX3_keep_39 ?_
        refine lv_iload hx hb dX3_keep_42 (lv_at hl 0 rfl) ?_
        refine lv_dup2_11 hx hb dX3_keep_44 rfl rfl ?_
        obtain ⟨hz, hf⟩ := okb_s hf
        refine va_lald (D := D) hx hb hK hP 10 2 rfl rfl (inb_s hz) dX3_keep_45 ?_
        refine lv_iload hx hb dX3_keep_46 (lv_at hl 6 rfl) ?_
        refine lv_i2l hx hb dX3_keep_48 rfl ?_
        refine lv_iload hx hb dX3_keep_49 (lv_at hl 1 rfl) ?_
        refine lv_bipush (v := (7 : Int32)) hx hb dX3_keep_51 (by decide) ?_
        refine lv_iand hx hb dX3_keep_53 ?_
        refine lv_iconst (v := (3 : Int32)) hx hb dX3_keep_54 (by decide) ?_
        refine lv_ishl hx hb dX3_keep_55 ?_
        refine lv_lshl hx hb dX3_keep_56 rfl ?_
        refine lv_lor hx hb dX3_keep_57 ?_
        obtain ⟨hz, hf⟩ := okb_s hf
        refine va_last (D := D) hx hb hK hP hD hS 10 2 rfl rfl (inb_s hz) dX3_keep_58 (fun H locs hP hD hS => ?_)
        have hP : va_P D classes (wS cx aS aT ak aG sp s1 s2 s3 s4 s5 sP sC sH tl kl (vp_updL kf ((if x2 < x1 then x2 else x1) >>> ((3 : Int32) &&& 31)).toNatClampNeg ((kf ((if x2 < x1 then x2 else x1) >>> ((3 : Int32) &&& 31)).toNatClampNeg) ||| (x4.toInt64 <<< ((((if x2 < x1 then x2 else x1) &&& (7 : Int32)) <<< ((3 : Int32) &&& 31)).toInt64 &&& 63)))) gw gh gk gq gr gj gR gT gC) H := hP
        have hD : va_D A (wS cx aS aT ak aG sp s1 s2 s3 s4 s5 sP sC sH tl kl (vp_updL kf ((if x2 < x1 then x2 else x1) >>> ((3 : Int32) &&& 31)).toNatClampNeg ((kf ((if x2 < x1 then x2 else x1) >>> ((3 : Int32) &&& 31)).toNatClampNeg) ||| (x4.toInt64 <<< ((((if x2 < x1 then x2 else x1) &&& (7 : Int32)) <<< ((3 : Int32) &&& 31)).toInt64 &&& 63)))) gw gh gk gq gr gj gR gT gC) := hD
        refine lv_iload_n hx hb dX3_keep_59 rfl (lv_at hl 3 rfl) ?_
        refine lv_iload_n hx hb dX3_keep_60 rfl (lv_at hl 4 rfl) ?_
        refine lv_icmp_ne (tgt := 68) hx hb dX3_keep_61 (by decide) (fun c22 => ?_) (fun c22 => ?_)
        · replace hf := it_f c22 hf
          refine lv_iconst (v := (2 : Int32)) hx hb dX3_keep_68 (by decide) ?_
          refine lv_istore (lv' := [(7, .int (2 : Int32)), (6, .int ((if x2 < x1 then x2 else x1) >>> ((3 : Int32) &&& 31))), (5, .int (if x2 < x1 then x2 else x1)), (0, .ref (aS 0)), (1, .int x1), (2, .int x2), (3, .int x3), (4, .int x4)]) hx hb dX3_keep_69 hl (by decide) rfl (fun ls hl => ?_)
          refine lv_aload_n hx hb dX3_keep_71 rfl (lv_at hl 3 rfl) ?_
          refine va_get (D := D) (ci := 3) (v := .ref (aS 4)) (C := RX3) (T := TX3) (N := 12) hx hb hts iX3 hown hK hP 0 rfl rfl 4 (by decide) (hts _ wd_140) (fun _ h9 => h9) rfl dX3_keep_72 ?_
          refine lv_iconst (v := (0 : Int32)) hx hb dX3_keep_75 (by decide) ?_
          obtain ⟨hz, hf⟩ := okb_s hf
          have hj23 : (0 : Int32).toNatClampNeg < 5 := inb_lt hz
          refine va_aldA (D := D) hx hb hK hP 4 4 rfl rfl (inb_s hz) dX3_keep_76 ?_
          rw [if_pos hj23]
          show W _ _ _ _ _ _ _ _ _ _ _ _ _ _ _ (F0 m 77 ls (.ref (aT ((0 : Int32).toNatClampNeg)) :: _))
          refine lv_iload_n hx hb dX3_keep_77 rfl (lv_at hl 6 rfl) ?_
          refine lv_dup2_11 hx hb dX3_keep_78 rfl rfl ?_
          obtain ⟨hz, hf⟩ := okb_s hf
          refine va_iald (D := D) hx hb hK hP (5 + ((0 : Int32).toNatClampNeg)) 0 (wS_get_row hj23) rfl (inb_s hz) dX3_keep_79 ?_
          refine lv_iload hx hb dX3_keep_80 (lv_at hl 0 rfl) ?_
          refine lv_iadd hx hb dX3_keep_82 ?_
          obtain ⟨hz, hf⟩ := okb_s hf
          refine va_iast (D := D) hx hb hK hP hD hS (5 + ((0 : Int32).toNatClampNeg)) 0 (wS_get_row hj23) rfl (inb_s hz) dX3_keep_83 (fun H locs hP hD hS => ?_)
          rw [wS_set_row hj23] at hP hD
          have hP : va_P D classes (wS cx aS aT ak aG sp s1 s2 s3 s4 s5 sP sC sH (upT tl ((0 : Int32).toNatClampNeg) (upd (tl ((0 : Int32).toNatClampNeg)) x3.toNatClampNeg ((tl ((0 : Int32).toNatClampNeg) x3.toNatClampNeg) + (2 : Int32)))) kl (vp_updL kf ((if x2 < x1 then x2 else x1) >>> ((3 : Int32) &&& 31)).toNatClampNeg ((kf ((if x2 < x1 then x2 else x1) >>> ((3 : Int32) &&& 31)).toNatClampNeg) ||| (x4.toInt64 <<< ((((if x2 < x1 then x2 else x1) &&& (7 : Int32)) <<< ((3 : Int32) &&& 31)).toInt64 &&& 63)))) gw gh gk gq gr gj gR gT gC) H := hP
          have hD : va_D A (wS cx aS aT ak aG sp s1 s2 s3 s4 s5 sP sC sH (upT tl ((0 : Int32).toNatClampNeg) (upd (tl ((0 : Int32).toNatClampNeg)) x3.toNatClampNeg ((tl ((0 : Int32).toNatClampNeg) x3.toNatClampNeg) + (2 : Int32)))) kl (vp_updL kf ((if x2 < x1 then x2 else x1) >>> ((3 : Int32) &&& 31)).toNatClampNeg ((kf ((if x2 < x1 then x2 else x1) >>> ((3 : Int32) &&& 31)).toNatClampNeg) ||| (x4.toInt64 <<< ((((if x2 < x1 then x2 else x1) &&& (7 : Int32)) <<< ((3 : Int32) &&& 31)).toInt64 &&& 63)))) gw gh gk gq gr gj gR gT gC) := hD
          refine lv_iload hx hb dX3_keep_84 (lv_at hl 7 rfl) ?_
          refine lv_sipush (v := (254 : Int32)) hx hb dX3_keep_86 (by decide) ?_
          refine lv_icmp_ne (tgt := 108) hx hb dX3_keep_89 (by decide) (fun c24 => ?_) (fun c24 => ?_)
          · replace hf := it_f c24 hf
            refine lv_iload hx hb dX3_keep_108 (lv_at hl 7 rfl) ?_
            refine lv_sipush (v := (255 : Int32)) hx hb dX3_keep_110 (by decide) ?_
            refine lv_icmp_eq (tgt := 133) hx hb dX3_keep_113 (by decide) (fun c25 => ?_) (fun c25 => ?_)
            · replace hf := it_t c25 hf
              obtain rfl := Option.some.inj hf
              exact kc_vret () hx hb hr hk hP hD hS dX3_keep_133
            · replace hf := it_f c25 hf
              refine lv_aload_n hx hb dX3_keep_116 rfl (lv_at hl 3 rfl) ?_
              refine va_get (D := D) (ci := 3) (v := .ref (aS 4)) (C := RX3) (T := TX3) (N := 12) hx hb hts iX3 hown hK hP 0 rfl rfl 4 (by decide) (hts _ wd_140) (fun _ h9 => h9) rfl dX3_keep_117 ?_
              refine lv_iload hx hb dX3_keep_120 (lv_at hl 7 rfl) ?_
              obtain ⟨u26, hg, hf⟩ := ob_s hf
              refine kc_calli (wn := fun _ => (wS cx aS aT ak aG sp s1 s2 s3 s4 s5 sP sC sH (upT tl ((0 : Int32).toNatClampNeg) (upd (tl ((0 : Int32).toNatClampNeg)) x3.toNatClampNeg ((tl ((0 : Int32).toNatClampNeg) x3.toNatClampNeg) + (2 : Int32)))) kl (vp_updL kf ((if x2 < x1 then x2 else x1) >>> ((3 : Int32) &&& 31)).toNatClampNeg ((kf ((if x2 < x1 then x2 else x1) >>> ((3 : Int32) &&& 31)).toNatClampNeg) ||| (x4.toInt64 <<< ((((if x2 < x1 then x2 else x1) &&& (7 : Int32)) <<< ((3 : Int32) &&& 31)).toInt64 &&& 63)))) gw gh gk gq gr gj gR gT gC)) (va_runS (As := [.int x4]) (rest := [.ref (aS 4)]) ⟨hx, hb, hml, hown, hts⟩ (metX3_shareOf l D cx   x4 N H.size u26 hg) ⟨callB_of 1 hts (kc_gI wd_405) rfl rfl rfl (hts _ wd_43) (hts _ wd_403) (by decide +kernel) ⟨Nat.le_of_ble_eq_true rfl, Nat.le_of_ble_eq_true rfl⟩, hts _ wd_404⟩ ⟨kc_blind _ _ _ _ _, kc_pre _ hK hN (hP.sub [] rfl) (hD.sub [] (by decide) rfl)⟩ rfl rfl hl.1 rfl (lv_room (Nat.le_of_ble_eq_true rfl)) dX3_keep_122 ⟨Nat.zero_le _, Nat.zero_le _⟩) hP hD hS hA [] [0, 1, 2, 3, 4, 5, 6, 7, 8, 9, 10, 11, 12, 13, 14] [0, 1, 2, 3, 4, 5, 6, 7, 8, 9, 10, 11, 12, 13, 14] rfl rfl (by decide) (by decide) (fun _ => rfl) (by decide) (fun _ H locs hP hD hS => ?_)
              have hP : va_P D classes (wS cx aS aT ak aG sp s1 s2 s3 s4 s5 sP sC sH (upT tl ((0 : Int32).toNatClampNeg) (upd (tl ((0 : Int32).toNatClampNeg)) x3.toNatClampNeg ((tl ((0 : Int32).toNatClampNeg) x3.toNatClampNeg) + (2 : Int32)))) kl (vp_updL kf ((if x2 < x1 then x2 else x1) >>> ((3 : Int32) &&& 31)).toNatClampNeg ((kf ((if x2 < x1 then x2 else x1) >>> ((3 : Int32) &&& 31)).toNatClampNeg) ||| (x4.toInt64 <<< ((((if x2 < x1 then x2 else x1) &&& (7 : Int32)) <<< ((3 : Int32) &&& 31)).toInt64 &&& 63)))) gw gh gk gq gr gj gR gT gC) H := hP
              have hD : va_D A (wS cx aS aT ak aG sp s1 s2 s3 s4 s5 sP sC sH (upT tl ((0 : Int32).toNatClampNeg) (upd (tl ((0 : Int32).toNatClampNeg)) x3.toNatClampNeg ((tl ((0 : Int32).toNatClampNeg) x3.toNatClampNeg) + (2 : Int32)))) kl (vp_updL kf ((if x2 < x1 then x2 else x1) >>> ((3 : Int32) &&& 31)).toNatClampNeg ((kf ((if x2 < x1 then x2 else x1) >>> ((3 : Int32) &&& 31)).toNatClampNeg) ||| (x4.toInt64 <<< ((((if x2 < x1 then x2 else x1) &&& (7 : Int32)) <<< ((3 : Int32) &&& 31)).toInt64 &&& 63)))) gw gh gk gq gr gj gR gT gC) := hD
              obtain ⟨hz, hf⟩ := okb_s hf
              have hj27 : u26.toNatClampNeg < 5 := inb_lt hz
              refine va_aldA (D := D) hx hb hK hP 4 4 rfl rfl (inb_s hz) dX3_keep_125 ?_
              rw [if_pos hj27]
              show W _ _ _ _ _ _ _ _ _ _ _ _ _ _ _ (F0 m 126 ls (.ref (aT (u26.toNatClampNeg)) :: _))
              refine lv_iload_n hx hb dX3_keep_126 rfl (lv_at hl 6 rfl) ?_
              refine lv_dup2_11 hx hb dX3_keep_127 rfl rfl ?_
              obtain ⟨hz, hf⟩ := okb_s hf
              refine va_iald (D := D) hx hb hK hP (5 + (u26.toNatClampNeg)) 0 (wS_get_row hj27) rfl (inb_s hz) dX3_keep_128 ?_
              refine lv_iload hx hb dX3_keep_129 (lv_at hl 0 rfl) ?_
              refine lv_iadd hx hb dX3_keep_131 ?_
              obtain ⟨hz, hf⟩ := okb_s hf
              refine va_iast (D := D) hx hb hK hP hD hS (5 + (u26.toNatClampNeg)) 0 (wS_get_row hj27) rfl (inb_s hz) dX3_keep_132 (fun H locs hP hD hS => ?_)
              rw [wS_set_row hj27] at hP hD
              have hP : va_P D classes (wS cx aS aT ak aG sp s1 s2 s3 s4 s5 sP sC sH (upT (upT tl ((0 : Int32).toNatClampNeg) (upd (tl ((0 : Int32).toNatClampNeg)) x3.toNatClampNeg ((tl ((0 : Int32).toNatClampNeg) x3.toNatClampNeg) + (2 : Int32)))) (u26.toNatClampNeg) (upd ((upT tl ((0 : Int32).toNatClampNeg) (upd (tl ((0 : Int32).toNatClampNeg)) x3.toNatClampNeg ((tl ((0 : Int32).toNatClampNeg) x3.toNatClampNeg) + (2 : Int32)))) (u26.toNatClampNeg)) x3.toNatClampNeg (((upT tl ((0 : Int32).toNatClampNeg) (upd (tl ((0 : Int32).toNatClampNeg)) x3.toNatClampNeg ((tl ((0 : Int32).toNatClampNeg) x3.toNatClampNeg) + (2 : Int32)))) (u26.toNatClampNeg) x3.toNatClampNeg) + (2 : Int32)))) kl (vp_updL kf ((if x2 < x1 then x2 else x1) >>> ((3 : Int32) &&& 31)).toNatClampNeg ((kf ((if x2 < x1 then x2 else x1) >>> ((3 : Int32) &&& 31)).toNatClampNeg) ||| (x4.toInt64 <<< ((((if x2 < x1 then x2 else x1) &&& (7 : Int32)) <<< ((3 : Int32) &&& 31)).toInt64 &&& 63)))) gw gh gk gq gr gj gR gT gC) H := hP
              have hD : va_D A (wS cx aS aT ak aG sp s1 s2 s3 s4 s5 sP sC sH (upT (upT tl ((0 : Int32).toNatClampNeg) (upd (tl ((0 : Int32).toNatClampNeg)) x3.toNatClampNeg ((tl ((0 : Int32).toNatClampNeg) x3.toNatClampNeg) + (2 : Int32)))) (u26.toNatClampNeg) (upd ((upT tl ((0 : Int32).toNatClampNeg) (upd (tl ((0 : Int32).toNatClampNeg)) x3.toNatClampNeg ((tl ((0 : Int32).toNatClampNeg) x3.toNatClampNeg) + (2 : Int32)))) (u26.toNatClampNeg)) x3.toNatClampNeg (((upT tl ((0 : Int32).toNatClampNeg) (upd (tl ((0 : Int32).toNatClampNeg)) x3.toNatClampNeg ((tl ((0 : Int32).toNatClampNeg) x3.toNatClampNeg) + (2 : Int32)))) (u26.toNatClampNeg) x3.toNatClampNeg) + (2 : Int32)))) kl (vp_updL kf ((if x2 < x1 then x2 else x1) >>> ((3 : Int32) &&& 31)).toNatClampNeg ((kf ((if x2 < x1 then x2 else x1) >>> ((3 : Int32) &&& 31)).toNatClampNeg) ||| (x4.toInt64 <<< ((((if x2 < x1 then x2 else x1) &&& (7 : Int32)) <<< ((3 : Int32) &&& 31)).toInt64 &&& 63)))) gw gh gk gq gr gj gR gT gC) := hD
              obtain rfl := Option.some.inj hf
              exact kc_vret () hx hb hr hk hP hD hS dX3_keep_133
          · replace hf := it_t c24 hf
            refine lv_aload_n hx hb dX3_keep_92 rfl (lv_at hl 3 rfl) ?_
            refine va_get (D := D) (ci := 3) (v := .ref (aS 4)) (C := RX3) (T := TX3) (N := 12) hx hb hts iX3 hown hK hP 0 rfl rfl 4 (by decide) (hts _ wd_140) (fun _ h9 => h9) rfl dX3_keep_93 ?_
            refine lv_iconst (v := (1 : Int32)) hx hb dX3_keep_96 (by decide) ?_
            obtain ⟨hz, hf⟩ := okb_s hf
            have hj28 : (1 : Int32).toNatClampNeg < 5 := inb_lt hz
            refine va_aldA (D := D) hx hb hK hP 4 4 rfl rfl (inb_s hz) dX3_keep_97 ?_
            rw [if_pos hj28]
            show W _ _ _ _ _ _ _ _ _ _ _ _ _ _ _ (F0 m 98 ls (.ref (aT ((1 : Int32).toNatClampNeg)) :: _))
            refine lv_iload_n hx hb dX3_keep_98 rfl (lv_at hl 6 rfl) ?_
            refine lv_dup2_11 hx hb dX3_keep_99 rfl rfl ?_
            obtain ⟨hz, hf⟩ := okb_s hf
            refine va_iald (D := D) hx hb hK hP (5 + ((1 : Int32).toNatClampNeg)) 0 (wS_get_row hj28) rfl (inb_s hz) dX3_keep_100 ?_
            refine lv_iload hx hb dX3_keep_101 (lv_at hl 0 rfl) ?_
            refine lv_iadd hx hb dX3_keep_103 ?_
            obtain ⟨hz, hf⟩ := okb_s hf
            refine va_iast (D := D) hx hb hK hP hD hS (5 + ((1 : Int32).toNatClampNeg)) 0 (wS_get_row hj28) rfl (inb_s hz) dX3_keep_104 (fun H locs hP hD hS => ?_)
            rw [wS_set_row hj28] at hP hD
            have hP : va_P D classes (wS cx aS aT ak aG sp s1 s2 s3 s4 s5 sP sC sH (upT (upT tl ((0 : Int32).toNatClampNeg) (upd (tl ((0 : Int32).toNatClampNeg)) x3.toNatClampNeg ((tl ((0 : Int32).toNatClampNeg) x3.toNatClampNeg) + (2 : Int32)))) ((1 : Int32).toNatClampNeg) (upd ((upT tl ((0 : Int32).toNatClampNeg) (upd (tl ((0 : Int32).toNatClampNeg)) x3.toNatClampNeg ((tl ((0 : Int32).toNatClampNeg) x3.toNatClampNeg) + (2 : Int32)))) ((1 : Int32).toNatClampNeg)) x3.toNatClampNeg (((upT tl ((0 : Int32).toNatClampNeg) (upd (tl ((0 : Int32).toNatClampNeg)) x3.toNatClampNeg ((tl ((0 : Int32).toNatClampNeg) x3.toNatClampNeg) + (2 : Int32)))) ((1 : Int32).toNatClampNeg) x3.toNatClampNeg) + (2 : Int32)))) kl (vp_updL kf ((if x2 < x1 then x2 else x1) >>> ((3 : Int32) &&& 31)).toNatClampNeg ((kf ((if x2 < x1 then x2 else x1) >>> ((3 : Int32) &&& 31)).toNatClampNeg) ||| (x4.toInt64 <<< ((((if x2 < x1 then x2 else x1) &&& (7 : Int32)) <<< ((3 : Int32) &&& 31)).toInt64 &&& 63)))) gw gh gk gq gr gj gR gT gC) H := hP
            have hD : va_D A (wS cx aS aT ak aG sp s1 s2 s3 s4 s5 sP sC sH (upT (upT tl ((0 : Int32).toNatClampNeg) (upd (tl ((0 : Int32).toNatClampNeg)) x3.toNatClampNeg ((tl ((0 : Int32).toNatClampNeg) x3.toNatClampNeg) + (2 : Int32)))) ((1 : Int32).toNatClampNeg) (upd ((upT tl ((0 : Int32).toNatClampNeg) (upd (tl ((0 : Int32).toNatClampNeg)) x3.toNatClampNeg ((tl ((0 : Int32).toNatClampNeg) x3.toNatClampNeg) + (2 : Int32)))) ((1 : Int32).toNatClampNeg)) x3.toNatClampNeg (((upT tl ((0 : Int32).toNatClampNeg) (upd (tl ((0 : Int32).toNatClampNeg)) x3.toNatClampNeg ((tl ((0 : Int32).toNatClampNeg) x3.toNatClampNeg) + (2 : Int32)))) ((1 : Int32).toNatClampNeg) x3.toNatClampNeg) + (2 : Int32)))) kl (vp_updL kf ((if x2 < x1 then x2 else x1) >>> ((3 : Int32) &&& 31)).toNatClampNeg ((kf ((if x2 < x1 then x2 else x1) >>> ((3 : Int32) &&& 31)).toNatClampNeg) ||| (x4.toInt64 <<< ((((if x2 < x1 then x2 else x1) &&& (7 : Int32)) <<< ((3 : Int32) &&& 31)).toInt64 &&& 63)))) gw gh gk gq gr gj gR gT gC) := hD
            refine lv_goto (tgt := 133) hx hb dX3_keep_105 (by decide) ?_
            obtain rfl := Option.some.inj hf
            exact kc_vret () hx hb hr hk hP hD hS dX3_keep_133
        · replace hf := it_t c22 hf
          refine lv_iconst (v := (1 : Int32)) hx hb dX3_keep_64 (by decide) ?_
          refine lv_goto (tgt := 69) hx hb dX3_keep_65 (by decide) ?_
          refine lv_istore (lv' := [(7, .int (1 : Int32)), (6, .int ((if x2 < x1 then x2 else x1) >>> ((3 : Int32) &&& 31))), (5, .int (if x2 < x1 then x2 else x1)), (0, .ref (aS 0)), (1, .int x1), (2, .int x2), (3, .int x3), (4, .int x4)]) hx hb dX3_keep_69 hl (by decide) rfl (fun ls hl => ?_)
          refine lv_aload_n hx hb dX3_keep_71 rfl (lv_at hl 3 rfl) ?_
          refine va_get (D := D) (ci := 3) (v := .ref (aS 4)) (C := RX3) (T := TX3) (N := 12) hx hb hts iX3 hown hK hP 0 rfl rfl 4 (by decide) (hts _ wd_140) (fun _ h9 => h9) rfl dX3_keep_72 ?_
          refine lv_iconst (v := (0 : Int32)) hx hb dX3_keep_75 (by decide) ?_
          obtain ⟨hz, hf⟩ := okb_s hf
          have hj29 : (0 : Int32).toNatClampNeg < 5 := inb_lt hz
          refine va_aldA (D := D) hx hb hK hP 4 4 rfl rfl (inb_s hz) dX3_keep_76 ?_
          rw [if_pos hj29]
          show W _ _ _ _ _ _ _ _ _ _ _ _ _ _ _ (F0 m 77 ls (.ref (aT ((0 : Int32).toNatClampNeg)) :: _))
          refine lv_iload_n hx hb dX3_keep_77 rfl (lv_at hl 6 rfl) ?_
          refine lv_dup2_11 hx hb dX3_keep_78 rfl rfl ?_
          obtain ⟨hz, hf⟩ := okb_s hf
          refine va_iald (D := D) hx hb hK hP (5 + ((0 : Int32).toNatClampNeg)) 0 (wS_get_row hj29) rfl (inb_s hz) dX3_keep_79 ?_
          refine lv_iload hx hb dX3_keep_80 (lv_at hl 0 rfl) ?_
          refine lv_iadd hx hb dX3_keep_82 ?_
          obtain ⟨hz, hf⟩ := okb_s hf
          refine va_iast (D := D) hx hb hK hP hD hS (5 + ((0 : Int32).toNatClampNeg)) 0 (wS_get_row hj29) rfl (inb_s hz) dX3_keep_83 (fun H locs hP hD hS => ?_)
          rw [wS_set_row hj29] at hP hD
          have hP : va_P D classes (wS cx aS aT ak aG sp s1 s2 s3 s4 s5 sP sC sH (upT tl ((0 : Int32).toNatClampNeg) (upd (tl ((0 : Int32).toNatClampNeg)) x3.toNatClampNeg ((tl ((0 : Int32).toNatClampNeg) x3.toNatClampNeg) + (1 : Int32)))) kl (vp_updL kf ((if x2 < x1 then x2 else x1) >>> ((3 : Int32) &&& 31)).toNatClampNeg ((kf ((if x2 < x1 then x2 else x1) >>> ((3 : Int32) &&& 31)).toNatClampNeg) ||| (x4.toInt64 <<< ((((if x2 < x1 then x2 else x1) &&& (7 : Int32)) <<< ((3 : Int32) &&& 31)).toInt64 &&& 63)))) gw gh gk gq gr gj gR gT gC) H := hP
          have hD : va_D A (wS cx aS aT ak aG sp s1 s2 s3 s4 s5 sP sC sH (upT tl ((0 : Int32).toNatClampNeg) (upd (tl ((0 : Int32).toNatClampNeg)) x3.toNatClampNeg ((tl ((0 : Int32).toNatClampNeg) x3.toNatClampNeg) + (1 : Int32)))) kl (vp_updL kf ((if x2 < x1 then x2 else x1) >>> ((3 : Int32) &&& 31)).toNatClampNeg ((kf ((if x2 < x1 then x2 else x1) >>> ((3 : Int32) &&& 31)).toNatClampNeg) ||| (x4.toInt64 <<< ((((if x2 < x1 then x2 else x1) &&& (7 : Int32)) <<< ((3 : Int32) &&& 31)).toInt64 &&& 63)))) gw gh gk gq gr gj gR gT gC) := hD
          refine lv_iload hx hb dX3_keep_84 (lv_at hl 7 rfl) ?_
          refine lv_sipush (v := (254 : Int32)) hx hb dX3_keep_86 (by decide) ?_
          refine lv_icmp_ne (tgt := 108) hx hb dX3_keep_89 (by decide) (fun c30 => ?_) (fun c30 => ?_)
          · replace hf := it_f c30 hf
            refine lv_iload hx hb dX3_keep_108 (lv_at hl 7 rfl) ?_
            refine lv_sipush (v := (255 : Int32)) hx hb dX3_keep_110 (by decide) ?_
            refine lv_icmp_eq (tgt := 133) hx hb dX3_keep_113 (by decide) (fun c31 => ?_) (fun c31 => ?_)
            · replace hf := it_t c31 hf
              obtain rfl := Option.some.inj hf
              exact kc_vret () hx hb hr hk hP hD hS dX3_keep_133
            · replace hf := it_f c31 hf
              refine lv_aload_n hx hb dX3_keep_116 rfl (lv_at hl 3 rfl) ?_
              refine va_get (D := D) (ci := 3) (v := .ref (aS 4)) (C := RX3) (T := TX3) (N := 12) hx hb hts iX3 hown hK hP 0 rfl rfl 4 (by decide) (hts _ wd_140) (fun _ h9 => h9) rfl dX3_keep_117 ?_
              refine lv_iload hx hb dX3_keep_120 (lv_at hl 7 rfl) ?_
              obtain ⟨u32, hg, hf⟩ := ob_s hf
              refine kc_calli (wn := fun _ => (wS cx aS aT ak aG sp s1 s2 s3 s4 s5 sP sC sH (upT tl ((0 : Int32).toNatClampNeg) (upd (tl ((0 : Int32).toNatClampNeg)) x3.toNatClampNeg ((tl ((0 : Int32).toNatClampNeg) x3.toNatClampNeg) + (1 : Int32)))) kl (vp_updL kf ((if x2 < x1 then x2 else x1) >>> ((3 : Int32) &&& 31)).toNatClampNeg ((kf ((if x2 < x1 then x2 else x1) >>> ((3 : Int32) &&& 31)).toNatClampNeg) ||| (x4.toInt64 <<< ((((if x2 < x1 then x2 else x1) &&& (7 : Int32)) <<< ((3 : Int32) &&& 31)).toInt64 &&& 63)))) gw gh gk gq gr gj gR gT gC)) (va_runS (As := [.int x4]) (rest := [.ref (aS 4)]) ⟨hx, hb, hml, hown, hts⟩ (metX3_shareOf l D cx   x4 N H.size u32 hg) ⟨callB_of 1 hts (kc_gI wd_405) rfl rfl rfl (hts _ wd_43) (hts _ wd_403) (by decide +kernel) ⟨Nat.le_of_ble_eq_true rfl, Nat.le_of_ble_eq_true rfl⟩, hts _ wd_404⟩ ⟨kc_blind _ _ _ _ _, kc_pre _ hK hN (hP.sub [] rfl) (hD.sub [] (by decide) rfl)⟩ rfl rfl hl.1 rfl (lv_room (Nat.le_of_ble_eq_true rfl)) dX3_keep_122 ⟨Nat.zero_le _, Nat.zero_le _⟩) hP hD hS hA [] [0, 1, 2, 3, 4, 5, 6, 7, 8, 9, 10, 11, 12, 13, 14] [0, 1, 2, 3, 4, 5, 6, 7, 8, 9, 10, 11, 12, 13, 14] rfl rfl (by decide) (by decide) (fun _ => rfl) (by decide) (fun _ H locs hP hD hS => ?_)
              have hP : va_P D classes (wS cx aS aT ak aG sp s1 s2 s3 s4 s5 sP sC sH (upT tl ((0 : Int32).toNatClampNeg) (upd (tl ((0 : Int32).toNatClampNeg)) x3.toNatClampNeg ((tl ((0 : Int32).toNatClampNeg) x3.toNatClampNeg) + (1 : Int32)))) kl (vp_updL kf ((if x2 < x1 then x2 else x1) >>> ((3 : Int32) &&& 31)).toNatClampNeg ((kf ((if x2 < x1 then x2 else x1) >>> ((3 : Int32) &&& 31)).toNatClampNeg) ||| (x4.toInt64 <<< ((((if x2 < x1 then x2 else x1) &&& (7 : Int32)) <<< ((3 : Int32) &&& 31)).toInt64 &&& 63)))) gw gh gk gq gr gj gR gT gC) H := hP
              have hD : va_D A (wS cx aS aT ak aG sp s1 s2 s3 s4 s5 sP sC sH (upT tl ((0 : Int32).toNatClampNeg) (upd (tl ((0 : Int32).toNatClampNeg)) x3.toNatClampNeg ((tl ((0 : Int32).toNatClampNeg) x3.toNatClampNeg) + (1 : Int32)))) kl (vp_updL kf ((if x2 < x1 then x2 else x1) >>> ((3 : Int32) &&& 31)).toNatClampNeg ((kf ((if x2 < x1 then x2 else x1) >>> ((3 : Int32) &&& 31)).toNatClampNeg) ||| (x4.toInt64 <<< ((((if x2 < x1 then x2 else x1) &&& (7 : Int32)) <<< ((3 : Int32) &&& 31)).toInt64 &&& 63)))) gw gh gk gq gr gj gR gT gC) := hD
              obtain ⟨hz, hf⟩ := okb_s hf
              have hj33 : u32.toNatClampNeg < 5 := inb_lt hz
              refine va_aldA (D := D) hx hb hK hP 4 4 rfl rfl (inb_s hz) dX3_keep_125 ?_
              rw [if_pos hj33]
              show W _ _ _ _ _ _ _ _ _ _ _ _ _ _ _ (F0 m 126 ls (.ref (aT (u32.toNatClampNeg)) :: _))
              refine lv_iload_n hx hb dX3_keep_126 rfl (lv_at hl 6 rfl) ?_
              refine lv_dup2_11 hx hb dX3_keep_127 rfl rfl ?_
              obtain ⟨hz, hf⟩ := okb_s hf
              refine va_iald (D := D) hx hb hK hP (5 + (u32.toNatClampNeg)) 0 (wS_get_row hj33) rfl (inb_s hz) dX3_keep_128 ?_
              refine lv_iload hx hb dX3_keep_129 (lv_at hl 0 rfl) ?_
              refine lv_iadd hx hb dX3_keep_131 ?_
              obtain ⟨hz, hf⟩ := okb_s hf
              refine va_iast (D := D) hx hb hK hP hD hS (5 + (u32.toNatClampNeg)) 0 (wS_get_row hj33) rfl (inb_s hz) dX3_keep_132 (fun H locs hP hD hS => ?_)
              rw [wS_set_row hj33] at hP hD
              have hP : va_P D classes (wS cx aS aT ak aG sp s1 s2 s3 s4 s5 sP sC sH (upT (upT tl ((0 : Int32).toNatClampNeg) (upd (tl ((0 : Int32).toNatClampNeg)) x3.toNatClampNeg ((tl ((0 : Int32).toNatClampNeg) x3.toNatClampNeg) + (1 : Int32)))) (u32.toNatClampNeg) (upd ((upT tl ((0 : Int32).toNatClampNeg) (upd (tl ((0 : Int32).toNatClampNeg)) x3.toNatClampNeg ((tl ((0 : Int32).toNatClampNeg) x3.toNatClampNeg) + (1 : Int32)))) (u32.toNatClampNeg)) x3.toNatClampNeg (((upT tl ((0 : Int32).toNatClampNeg) (upd (tl ((0 : Int32).toNatClampNeg)) x3.toNatClampNeg ((tl ((0 : Int32).toNatClampNeg) x3.toNatClampNeg) + (1 : Int32)))) (u32.toNatClampNeg) x3.toNatClampNeg) + (1 : Int32)))) kl (vp_updL kf ((if x2 < x1 then x2 else x1) >>> ((3 : Int32) &&& 31)).toNatClampNeg ((kf ((if x2 < x1 then x2 else x1) >>> ((3 : Int32) &&& 31)).toNatClampNeg) ||| (x4.toInt64 <<< ((((if x2 < x1 then x2 else x1) &&& (7 : Int32)) <<< ((3 : Int32) &&& 31)).toInt64 &&& 63)))) gw gh gk gq gr gj gR gT gC) H := hP
              have hD : va_D A (wS cx aS aT ak aG sp s1 s2 s3 s4 s5 sP sC sH (upT (upT tl ((0 : Int32).toNatClampNeg) (upd (tl ((0 : Int32).toNatClampNeg)) x3.toNatClampNeg ((tl ((0 : Int32).toNatClampNeg) x3.toNatClampNeg) + (1 : Int32)))) (u32.toNatClampNeg) (upd ((upT tl ((0 : Int32).toNatClampNeg) (upd (tl ((0 : Int32).toNatClampNeg)) x3.toNatClampNeg ((tl ((0 : Int32).toNatClampNeg) x3.toNatClampNeg) + (1 : Int32)))) (u32.toNatClampNeg)) x3.toNatClampNeg (((upT tl ((0 : Int32).toNatClampNeg) (upd (tl ((0 : Int32).toNatClampNeg)) x3.toNatClampNeg ((tl ((0 : Int32).toNatClampNeg) x3.toNatClampNeg) + (1 : Int32)))) (u32.toNatClampNeg) x3.toNatClampNeg) + (1 : Int32)))) kl (vp_updL kf ((if x2 < x1 then x2 else x1) >>> ((3 : Int32) &&& 31)).toNatClampNeg ((kf ((if x2 < x1 then x2 else x1) >>> ((3 : Int32) &&& 31)).toNatClampNeg) ||| (x4.toInt64 <<< ((((if x2 < x1 then x2 else x1) &&& (7 : Int32)) <<< ((3 : Int32) &&& 31)).toInt64 &&& 63)))) gw gh gk gq gr gj gR gT gC) := hD
              obtain rfl := Option.some.inj hf
              exact kc_vret () hx hb hr hk hP hD hS dX3_keep_133
          · replace hf := it_t c30 hf
            refine lv_aload_n hx hb dX3_keep_92 rfl (lv_at hl 3 rfl) ?_
            refine va_get (D := D) (ci := 3) (v := .ref (aS 4)) (C := RX3) (T := TX3) (N := 12) hx hb hts iX3 hown hK hP 0 rfl rfl 4 (by decide) (hts _ wd_140) (fun _ h9 => h9) rfl dX3_keep_93 ?_
            refine lv_iconst (v := (1 : Int32)) hx hb dX3_keep_96 (by decide) ?_
            obtain ⟨hz, hf⟩ := okb_s hf
            have hj34 : (1 : Int32).toNatClampNeg < 5 := inb_lt hz
            refine va_aldA (D := D) hx hb hK hP 4 4 rfl rfl (inb_s hz) dX3_keep_97 ?_
            rw [if_pos hj34]
            show W _ _ _ _ _ _ _ _ _ _ _ _ _ _ _ (F0 m 98 ls (.ref (aT ((1 : Int32).toNatClampNeg)) :: _))
            refine lv_iload_n hx hb dX3_keep_98 rfl (lv_at hl 6 rfl) ?_
            refine lv_dup2_11 hx hb dX3_keep_99 rfl rfl ?_
            obtain ⟨hz, hf⟩ := okb_s hf
            refine va_iald (D := D) hx hb hK hP (5 + ((1 : Int32).toNatClampNeg)) 0 (wS_get_row hj34) rfl (inb_s hz) dX3_keep_100 ?_
            refine lv_iload hx hb dX3_keep_101 (lv_at hl 0 rfl) ?_
            refine lv_iadd hx hb dX3_keep_103 ?_
            obtain ⟨hz, hf⟩ := okb_s hf
            refine va_iast (D := D) hx hb hK hP hD hS (5 + ((1 : Int32).toNatClampNeg)) 0 (wS_get_row hj34) rfl (inb_s hz) dX3_keep_104 (fun H locs hP hD hS => ?_)
            rw [wS_set_row hj34] at hP hD
            have hP : va_P D classes (wS cx aS aT ak aG sp s1 s2 s3 s4 s5 sP sC sH (upT (upT tl ((0 : Int32).toNatClampNeg) (upd (tl ((0 : Int32).toNatClampNeg)) x3.toNatClampNeg ((tl ((0 : Int32).toNatClampNeg) x3.toNatClampNeg) + (1 : Int32)))) ((1 : Int32).toNatClampNeg) (upd ((upT tl ((0 : Int32).toNatClampNeg) (upd (tl ((0 : Int32).toNatClampNeg)) x3.toNatClampNeg ((tl ((0 : Int32).toNatClampNeg) x3.toNatClampNeg) + (1 : Int32)))) ((1 : Int32).toNatClampNeg)) x3.toNatClampNeg (((upT tl ((0 : Int32).toNatClampNeg) (upd (tl ((0 : Int32).toNatClampNeg)) x3.toNatClampNeg ((tl ((0 : Int32).toNatClampNeg) x3.toNatClampNeg) + (1 : Int32)))) ((1 : Int32).toNatClampNeg) x3.toNatClampNeg) + (1 : Int32)))) kl (vp_updL kf ((if x2 < x1 then x2 else x1) >>> ((3 : Int32) &&& 31)).toNatClampNeg ((kf ((if x2 < x1 then x2 else x1) >>> ((3 : Int32) &&& 31)).toNatClampNeg) ||| (x4.toInt64 <<< ((((if x2 < x1 then x2 else x1) &&& (7 : Int32)) <<< ((3 : Int32) &&& 31)).toInt64 &&& 63)))) gw gh gk gq gr gj gR gT gC) H := hP
            have hD : va_D A (wS cx aS aT ak aG sp s1 s2 s3 s4 s5 sP sC sH (upT (upT tl ((0 : Int32).toNatClampNeg) (upd (tl ((0 : Int32).toNatClampNeg)) x3.toNatClampNeg ((tl ((0 : Int32).toNatClampNeg) x3.toNatClampNeg) + (1 : Int32)))) ((1 : Int32).toNatClampNeg) (upd ((upT tl ((0 : Int32).toNatClampNeg) (upd (tl ((0 : Int32).toNatClampNeg)) x3.toNatClampNeg ((tl ((0 : Int32).toNatClampNeg) x3.toNatClampNeg) + (1 : Int32)))) ((1 : Int32).toNatClampNeg)) x3.toNatClampNeg (((upT tl ((0 : Int32).toNatClampNeg) (upd (tl ((0 : Int32).toNatClampNeg)) x3.toNatClampNeg ((tl ((0 : Int32).toNatClampNeg) x3.toNatClampNeg) + (1 : Int32)))) ((1 : Int32).toNatClampNeg) x3.toNatClampNeg) + (1 : Int32)))) kl (vp_updL kf ((if x2 < x1 then x2 else x1) >>> ((3 : Int32) &&& 31)).toNatClampNeg ((kf ((if x2 < x1 then x2 else x1) >>> ((3 : Int32) &&& 31)).toNatClampNeg) ||| (x4.toInt64 <<< ((((if x2 < x1 then x2 else x1) &&& (7 : Int32)) <<< ((3 : Int32) &&& 31)).toInt64 &&& 63)))) gw gh gk gq gr gj gR gT gC) := hD
            refine lv_goto (tgt := 133) hx hb dX3_keep_105 (by decide) ?_
            obtain rfl := Option.some.inj hf
            exact kc_vret () hx hb hr hk hP hD hS dX3_keep_133
      · replace hf := it_f c21 hf
        obtain rfl := Option.some.inj hf
        exact kc_vret () hx hb hr hk hP hD hS dX3_keep_37
abbrev rmX3_search (d : Nat) : Room := { frames := 2 * d + 10, cells := 0, slots := 0, locals := 90 * d + 200 }
abbrev rmX3_tryColumn (d : Nat) : Room := { frames := 2 * d + 11, cells := 0, slots := 0, locals := 90 * d + 240 }
set_option maxHeartbeats 4000000 in
set_option maxRecDepth 100000 in
theorem metX3_tryColumn (l : Launch) (D : va_G) (cx : Nat → ClassId) (aS : Nat → Nat) (aT : Nat → Nat) (ak : Nat) (aG : Nat → Nat) (sp : Int32) (s1 : Int32) (s2 : Int32) (s3 : Int32) (s4 : Int32) (s5 : Int32) (sP : Nat → Int32) (sC : Nat → Int32) (sH : Nat → Int32) (tl : Nat → Nat → Int32) (kl : Nat) (kf : Nat → Int64) (gw : Int32) (gh : Int32) (gk : Int32) (gq : Int32) (gr : Int32) (gj : Int32) (gR : Nat → Int32) (gT : Nat → Int32) (gC : Nat → Int32) (x1 : Int32) (x2 : Int32) (x3 : Int32) (x4 : Int32) (x5 : Int32) (x6 : Int32) (N : Nat) (srch : (Nat → Int32) → (Nat → Int32) → (Nat → Int32) → (Nat → Nat → Int32) → Nat → (Nat → Int64) → Int32 → Int32 → Int32 → (Nat → Int32) → (Nat → Int32) → Int32 → Int32 → Int32 → Int32 → Int32 → Option (Int32 × (Nat → Int32) × (Nat → Int32) × (Nat → Nat → Int32) × (Nat → Int64))) (d : Nat) (hsr : ∀ (sp : Int32) (s1 : Int32) (s2 : Int32) (s3 : Int32) (s4 : Int32) (s5 : Int32) (sP : Nat → Int32) (sC : Nat → Int32) (sH : Nat → Int32) (tl : Nat → Nat → Int32) (kl : Nat) (kf : Nat → Int64) (gw : Int32) (gh : Int32) (gk : Int32) (gq : Int32) (gr : Int32) (gj : Int32) (gR : Nat → Int32) (gT : Nat → Int32) (gC : Nat → Int32) (x1 x2 x3 x4 x5 : Int32) (sz : Nat) (v : Int32 × (Nat → Int32) × (Nat → Int32) × (Nat → Nat → Int32) × (Nat → Int64)), srch sP sC sH tl kl kf gw gh gq gT gC x1 x2 x3 x4 x5 = some v → Met l yX3_search (.code yX3_search cX3_search 10 (some .int) :: kc_TB) (rmX3_search d) (kc_Pre D cx (wS cx aS aT ak aG sp s1 s2 s3 s4 s5 sP sC sH tl kl kf gw gh gk gq gr gj gR gT gC) [.ref (aS 0), .int x1, .int x2, .int x3, .int x4, .int x5] sz) (kc_Pi D (fun _ : Unit => (wS cx aS aT ak aG sp s1 s2 s3 s4 s5 sP v.2.1 v.2.2.1 v.2.2.2.1 kl v.2.2.2.2 gw gh gk gq gr gj gR gT gC)) v.1 (va_A (wS cx aS aT ak aG sp s1 s2 s3 s4 s5 sP sC sH tl kl kf gw gh gk gq gr gj gR gT gC) sz)) 0 0 (va_A (wS cx aS aT ak aG sp s1 s2 s3 s4 s5 sP sC sH tl kl kf gw gh gk gq gr gj gR gT gC) sz)) (sz : Nat) (v : Int32 × (Nat → Int32) × (Nat → Int32) × (Nat → Nat → Int32) × (Nat → Int64)) (hf : fX3_tryColumn N srch sP sC sH tl kl kf gw gh gq gT gC x1 x2 x3 x4 x5 x6 = some v) : Met l yX3_tryColumn (.code yX3_tryColumn cX3_tryColumn 14 (some .int) :: kc_TB) (rmX3_tryColumn d) (kc_Pre D cx (wS cx aS aT ak aG sp s1 s2 s3 s4 s5 sP sC sH tl kl kf gw gh gk gq gr gj gR gT gC) [.ref (aS 0), .int x1, .int x2, .int x3, .int x4, .int x5, .int x6] sz) (kc_Pi D (fun _ : Unit => (wS cx aS aT ak aG sp s1 s2 s3 s4 s5 sP v.2.1 v.2.2.1 v.2.2.2.1 kl v.2.2.2.2 gw gh gk gq gr gj gR gT gC)) v.1 (va_A (wS cx aS aT ak aG sp s1 s2 s3 s4 s5 sP sC sH tl kl kf gw gh gk gq gr gj gR gT gC) sz)) 0 0 (va_A (wS cx aS aT ak aG sp s1 s2 s3 s4 s5 sP sC sH tl kl kf gw gh gk gq gr gj gR gT gC) sz) := by
  refine kc_entry (Qc := fun A => (kc_Pi D (fun _ : Unit => (wS cx aS aT ak aG sp s1 s2 s3 s4 s5 sP v.2.1 v.2.2.1 v.2.2.2.1 kl v.2.2.2.2 gw gh gk gq gr gj gR gT gC)) v.1 A)) (by decide) (Nat.le_of_ble_eq_true rfl) ?_
  intro p e s m below meth c A hx hb hr hk hml hown hin hts hN hK hP hD hS hA ls hl
  have hown : s.vm.findClass RX3 = some m.cls := hown
  have hl : lv_has ls 14 [(0, .ref (aS 0)), (1, .int x1), (2, .int x2), (3, .int x3), (4, .int x4), (5, .int x5), (6, .int x6)] := hl
  unfold fX3_tryColumn at hf
  have hP : va_P D classes (wS cx aS aT ak aG sp s1 s2 s3 s4 s5 sP sC sH tl kl kf gw gh gk gq gr gj gR gT gC) s.heap := hP
  obtain ⟨H, hH⟩ : ∃ H, H = s.heap := ⟨_, rfl⟩
  obtain ⟨locs, hL⟩ : ∃ locs : List Loc, locs = [] := ⟨_, rfl⟩
  have hS : va_S A s.heap H locs := by rw [hH, hL]; exact hS
  have hP : va_P D classes (wS cx aS aT ak aG sp s1 s2 s3 s4 s5 sP sC sH tl kl kf gw gh gk gq gr gj gR gT gC) H := by rw [hH]; exact hP
  suffices hW : W p l e (rmX3_tryColumn d) s m ([.ref (aS 0), .int x1, .int x2, .int x3, .int x4, .int x5, .int x6] : List Value).toArray below meth c H locs 0 0 (MQ below (kc_Pi D (fun _ : Unit => (wS cx aS aT ak aG sp s1 s2 s3 s4 s5 sP v.2.1 v.2.2.1 v.2.2.2.1 kl v.2.2.2.2 gw gh gk gq gr gj gR gT gC)) v.1 A) ([.ref (aS 0), .int x1, .int x2, .int x3, .int x4, .int x5, .int x6] : List Value).toArray s 0 0 A) (F0 m 0 ls []) by rw [hH, hL] at hW; exact hW
  clear hH hL
  refine lv_aload_n hx hb dX3_tryColumn_0 rfl (lv_at hl 0 rfl) ?_
  refine va_get (D := D) (ci := 3) (v := .ref (aS 2)) (C := RX3) (T := TX3) (N := 12) hx hb hts iX3 hown hK hP 0 rfl rfl 2 (by decide) (hts _ wd_138) (fun _ h9 => h9) rfl dX3_tryColumn_1 ?_
  refine lv_iload_n hx hb dX3_tryColumn_4 rfl (lv_at hl 1 rfl) ?_
  obtain ⟨hz, hf⟩ := okb_s hf
  refine va_iald (D := D) hx hb hK hP 2 0 rfl rfl (inb_s hz) dX3_tryColumn_5 ?_
  refine lv_istore (lv' := [(7, .int (sC x1.toNatClampNeg)), (0, .ref (aS 0)), (1, .int x1), (2, .int x2), (3, .int x3), (4, .int x4), (5, .int x5), (6, .int x6)]) hx hb dX3_tryColumn_6 hl (by decide) rfl (fun ls hl => ?_)
  refine lv_iload hx hb dX3_tryColumn_8 (lv_at hl 0 rfl) ?_
  refine lv_iload hx hb dX3_tryColumn_10 (lv_at hl 7 rfl) ?_
  refine lv_iconst (v := (1 : Int32)) hx hb dX3_tryColumn_12 (by decide) ?_
  refine lv_iand hx hb dX3_tryColumn_13 ?_
  refine lv_iadd hx hb dX3_tryColumn_14 ?_
  refine lv_istore (lv' := [(8, .int ((sC x1.toNatClampNeg) + (x6 &&& (1 : Int32)))), (7, .int (sC x1.toNatClampNeg)), (0, .ref (aS 0)), (1, .int x1), (2, .int x2), (3, .int x3), (4, .int x4), (5, .int x5), (6, .int x6)]) hx hb dX3_tryColumn_15 hl (by decide) rfl (fun ls hl => ?_)
  refine lv_iload hx hb dX3_tryColumn_17 (lv_at hl 6 rfl) ?_
  refine lv_iload hx hb dX3_tryColumn_19 (lv_at hl 0 rfl) ?_
  refine lv_aload_n hx hb dX3_tryColumn_21 rfl (lv_at hl 2 rfl) ?_
  refine va_get (D := D) (ci := 3) (v := .ref (aS 1)) (C := RX3) (T := TX3) (N := 12) hx hb hts iX3 hown hK hP 0 rfl rfl 1 (by decide) (hts _ wd_137) (fun _ h9 => h9) rfl dX3_tryColumn_22 ?_
  refine lv_iload_n hx hb dX3_tryColumn_25 rfl (lv_at hl 3 rfl) ?_
  obtain ⟨hz, hf⟩ := okb_s hf
  refine va_iald (D := D) hx hb hK hP 1 0 rfl rfl (inb_s hz) dX3_tryColumn_26 ?_
  refine lv_imul hx hb dX3_tryColumn_27 ?_
  refine lv_iadd hx hb dX3_tryColumn_28 ?_
  refine lv_istore (lv' := [(9, .int (x4 + (((sC x1.toNatClampNeg) + (x6 &&& (1 : Int32))) * (sP x1.toNatClampNeg)))), (8, .int ((sC x1.toNatClampNeg) + (x6 &&& (1 : Int32)))), (7, .int (sC x1.toNatClampNeg)), (0, .ref (aS 0)), (1, .int x1), (2, .int x2), (3, .int x3), (4, .int x4), (5, .int x5), (6, .int x6)]) hx hb dX3_tryColumn_29 hl (by decide) rfl (fun ls hl => ?_)
  refine lv_iload hx hb dX3_tryColumn_31 (lv_at hl 8 rfl) ?_
  refine lv_iload hx hb dX3_tryColumn_33 (lv_at hl 1 rfl) ?_
  refine lv_aload_n hx hb dX3_tryColumn_35 rfl (lv_at hl 3 rfl) ?_
  refine va_get (D := D) (ci := 3) (v := .ref (aS 1)) (C := RX3) (T := TX3) (N := 12) hx hb hts iX3 hown hK hP 0 rfl rfl 1 (by decide) (hts _ wd_137) (fun _ h9 => h9) rfl dX3_tryColumn_36 ?_
  refine lv_aload_n hx hb dX3_tryColumn_39 rfl (lv_at hl 3 rfl) ?_
  refine va_get (D := D) (ci := 3) (v := .ref (aG 0)) (C := RX3) (T := TX3) (N := 12) hx hb hts iX3 hown hK hP 0 rfl rfl 0 (by decide) (hts _ wd_136) (fun _ h9 => h9) rfl dX3_tryColumn_40 ?_
  refine va_get (D := D) (ci := 1) (v := .int gw) (C := RX1) (T := TX1) (N := 9) hx hb hts iX1 hown hK hP 11 rfl rfl 0 (by decide) (hts _ wd_65) (fun _ h9 => h9) rfl dX3_tryColumn_43 ?_
  refine lv_iconst (v := (1 : Int32)) hx hb dX3_tryColumn_46 (by decide) ?_
  refine lv_isub hx hb dX3_tryColumn_47 ?_
  refine lv_iload_n hx hb dX3_tryColumn_48 rfl (lv_at hl 4 rfl) ?_
  refine lv_isub hx hb dX3_tryColumn_49 ?_
  obtain ⟨hz, hf⟩ := okb_s hf
  refine va_iald (D := D) hx hb hK hP 1 0 rfl rfl (inb_s hz) dX3_tryColumn_50 ?_
  refine lv_imul hx hb dX3_tryColumn_51 ?_
  refine lv_iadd hx hb dX3_tryColumn_52 ?_
  refine lv_istore (lv' := [(10, .int (x5 + (((sC x1.toNatClampNeg) + (x6 &&& (1 : Int32))) * (sP ((gw - (1 : Int32)) - x1).toNatClampNeg)))), (9, .int (x4 + (((sC x1.toNatClampNeg) + (x6 &&& (1 : Int32))) * (sP x1.toNatClampNeg)))), (8, .int ((sC x1.toNatClampNeg) + (x6 &&& (1 : Int32)))), (7, .int (sC x1.toNatClampNeg)), (0, .ref (aS 0)), (1, .int x1), (2, .int x2), (3, .int x3), (4, .int x4), (5, .int x5), (6, .int x6)]) hx hb dX3_tryColumn_53 hl (by decide) rfl (fun ls hl => ?_)
  refine lv_aload_n hx hb dX3_tryColumn_55 rfl (lv_at hl 4 rfl) ?_
  refine va_get (D := D) (ci := 3) (v := .ref (aG 0)) (C := RX3) (T := TX3) (N := 12) hx hb hts iX3 hown hK hP 0 rfl rfl 0 (by decide) (hts _ wd_136) (fun _ h9 => h9) rfl dX3_tryColumn_56 ?_
  refine va_get (D := D) (ci := 1) (v := .int gw) (C := RX1) (T := TX1) (N := 9) hx hb hts iX1 hown hK hP 11 rfl rfl 0 (by decide) (hts _ wd_65) (fun _ h9 => h9) rfl dX3_tryColumn_59 ?_
  refine lv_aload_n hx hb dX3_tryColumn_62 rfl (lv_at hl 4 rfl) ?_
  refine va_get (D := D) (ci := 3) (v := .ref (aS 3)) (C := RX3) (T := TX3) (N := 12) hx hb hts iX3 hown hK hP 0 rfl rfl 3 (by decide) (hts _ wd_139) (fun _ h9 => h9) rfl dX3_tryColumn_63 ?_
  refine lv_iload_n hx hb dX3_tryColumn_66 rfl (lv_at hl 5 rfl) ?_
  obtain ⟨hz, hf⟩ := okb_s hf
  refine va_iald (D := D) hx hb hK hP 3 0 rfl rfl (inb_s hz) dX3_tryColumn_67 ?_
  refine lv_imul hx hb dX3_tryColumn_68 ?_
  refine lv_iload_n hx hb dX3_tryColumn_69 rfl (lv_at hl 5 rfl) ?_
  refine lv_iadd hx hb dX3_tryColumn_70 ?_
  refine lv_istore (lv' := [(11, .int ((gw * (sH x1.toNatClampNeg)) + x1)), (10, .int (x5 + (((sC x1.toNatClampNeg) + (x6 &&& (1 : Int32))) * (sP ((gw - (1 : Int32)) - x1).toNatClampNeg)))), (9, .int (x4 + (((sC x1.toNatClampNeg) + (x6 &&& (1 : Int32))) * (sP x1.toNatClampNeg)))), (8, .int ((sC x1.toNatClampNeg) + (x6 &&& (1 : Int32)))), (7, .int (sC x1.toNatClampNeg)), (0, .ref (aS 0)), (1, .int x1), (2, .int x2), (3, .int x3), (4, .int x4), (5, .int x5), (6, .int x6)]) hx hb dX3_tryColumn_71 hl (by decide) rfl (fun ls hl => ?_)
  refine lv_iload_n hx hb dX3_tryColumn_73 rfl (lv_at hl 7 rfl) ?_
  refine lv_iconst (v := (1 : Int32)) hx hb dX3_tryColumn_74 (by decide) ?_
  refine lv_iload hx hb dX3_tryColumn_75 (lv_at hl 0 rfl) ?_
  refine lv_ishl hx hb dX3_tryColumn_77 ?_
  refine lv_ior hx hb dX3_tryColumn_78 ?_
  refine lv_istore (lv' := [(12, .int (x2 ||| ((1 : Int32) <<< (((gw * (sH x1.toNatClampNeg)) + x1) &&& 31)))), (11, .int ((gw * (sH x1.toNatClampNeg)) + x1)), (10, .int (x5 + (((sC x1.toNatClampNeg) + (x6 &&& (1 : Int32))) * (sP ((gw - (1 : Int32)) - x1).toNatClampNeg)))), (9, .int (x4 + (((sC x1.toNatClampNeg) + (x6 &&& (1 : Int32))) * (sP x1.toNatClampNeg)))), (8, .int ((sC x1.toNatClampNeg) + (x6 &&& (1 : Int32)))), (7, .int (sC x1.toNatClampNeg)), (0, .ref (aS 0)), (1, .int x1), (2, .int x2), (3, .int x3), (4, .int x4), (5, .int x5), (6, .int x6)]) hx hb dX3_tryColumn_79 hl (by decide) rfl (fun ls hl => ?_)
  refine lv_aload_n hx hb dX3_tryColumn_81 rfl (lv_at hl 6 rfl) ?_
  refine va_get (D := D) (ci := 3) (v := .ref (aG 0)) (C := RX3) (T := TX3) (N := 12) hx hb hts iX3 hown hK hP 0 rfl rfl 0 (by decide) (hts _ wd_136) (fun _ h9 => h9) rfl dX3_tryColumn_82 ?_
  refine lv_iload hx hb dX3_tryColumn_85 (lv_at hl 1 rfl) ?_
  refine lv_iload hx hb dX3_tryColumn_87 (lv_at hl 0 rfl) ?_
  obtain ⟨u8, hg, hf⟩ := ob_s hf
  refine kc_calli (wn := fun _ => (wS cx aS aT ak aG sp s1 s2 s3 s4 s5 sP sC sH tl kl kf gw gh gk gq gr gj gR gT gC)) (va_runV (As := [.int ((gw * (sH x1.toNatClampNeg)) + x1), .int (x2 ||| ((1 : Int32) <<< (((gw * (sH x1.toNatClampNeg)) + x1) &&& 31)))]) (rest := []) ⟨hx, hb, hml, hown, hts⟩ (metX1_hasRowThrough l D cx aG gw gh gk gq gr gj gR gT gC ((gw * (sH x1.toNatClampNeg)) + x1) (x2 ||| ((1 : Int32) <<< (((gw * (sH x1.toNatClampNeg)) + x1) &&& 31))) N H.size u8 hg) ⟨callB_of 2 hts (kc_gI wd_398) rfl rfl rfl (hts _ wd_41) (hts _ wd_395) (by decide +kernel) ⟨by simp only [rmX3_search, rmX3_tryColumn, rmX1_hasRowThrough]; omega, by simp only [rmX3_search, rmX3_tryColumn, rmX1_hasRowThrough]; omega⟩, hts _ wd_396, hts _ wd_397⟩ ⟨kc_blind _ _ _ _ _, va_recv hK hP (ci := 1) (q0 := 11) rfl rfl, kc_pre _ hK hN (hP.sub [11, 12, 13, 14] rfl) (hD.sub [11, 12, 13, 14] (by decide) rfl)⟩ rfl rfl hl.1 rfl (lv_room (Nat.le_of_ble_eq_true rfl)) dX3_tryColumn_89 ⟨Nat.zero_le _, Nat.zero_le _⟩) hP hD hS hA [11, 12, 13, 14] [0, 1, 2, 3, 4, 5, 6, 7, 8, 9, 10] [0, 1, 2, 3, 4, 5, 6, 7, 8, 9, 10, 11, 12, 13, 14] rfl rfl (by decide) (by decide) (fun _ => rfl) (by decide) (fun _ H locs hP hD hS => ?_)
  have hP : va_P D classes (wS cx aS aT ak aG sp s1 s2 s3 s4 s5 sP sC sH tl kl kf gw gh gk gq gr gj gR gT gC) H := hP
  have hD : va_D A (wS cx aS aT ak aG sp s1 s2 s3 s4 s5 sP sC sH tl kl kf gw gh gk gq gr gj gR gT gC) := hD
  refine lv_if_eq (tgt := 113) hx hb dX3_tryColumn_92 (by decide) (fun c9 => ?_) (fun c9 => ?_)
  · replace hf := it_t c9 hf
    refine lv_iload hx hb dX3_tryColumn_113 (lv_at hl 12 rfl) ?_
    refine lv_iconst (v := (1 : Int32)) hx hb dX3_tryColumn_115 (by decide) ?_
    refine lv_iadd hx hb dX3_tryColumn_116 ?_
    refine lv_aload_n hx hb dX3_tryColumn_117 rfl (lv_at hl 6 rfl) ?_
    refine va_get (D := D) (ci := 3) (v := .ref (aG 0)) (C := RX3) (T := TX3) (N := 12) hx hb hts iX3 hown hK hP 0 rfl rfl 0 (by decide) (hts _ wd_136) (fun _ h9 => h9) rfl dX3_tryColumn_118 ?_
    refine va_get (D := D) (ci := 1) (v := .int gq) (C := RX1) (T := TX1) (N := 9) hx hb hts iX1 hown hK hP 11 rfl rfl 3 (by decide) (hts _ wd_77) (fun _ h9 => h9) rfl dX3_tryColumn_121 ?_
    refine lv_icmp_lt (tgt := 144) hx hb dX3_tryColumn_124 (by decide) (fun c10 => ?_) (fun c10 => ?_)
    · replace hf := it_t c10 hf
      refine lv_aload_n hx hb dX3_tryColumn_144 rfl (lv_at hl 6 rfl) ?_
      refine va_get (D := D) (ci := 3) (v := .ref (aS 2)) (C := RX3) (T := TX3) (N := 12) hx hb hts iX3 hown hK hP 0 rfl rfl 2 (by decide) (hts _ wd_138) (fun _ h9 => h9) rfl dX3_tryColumn_145 ?_
      refine lv_iload_n hx hb dX3_tryColumn_148 rfl (lv_at hl 7 rfl) ?_
      refine lv_iload hx hb dX3_tryColumn_149 (lv_at hl 5 rfl) ?_
      refine lv_iload hx hb dX3_tryColumn_151 (lv_at hl 4 rfl) ?_
      refine lv_iadd hx hb dX3_tryColumn_153 ?_
      obtain ⟨hz, hf⟩ := okb_s hf
      refine va_iast (D := D) hx hb hK hP hD hS 2 0 rfl rfl (inb_s hz) dX3_tryColumn_154 (fun H locs hP hD hS => ?_)
      have hP : va_P D classes (wS cx aS aT ak aG sp s1 s2 s3 s4 s5 sP (upd sC x1.toNatClampNeg ((sC x1.toNatClampNeg) + ((sC x1.toNatClampNeg) + (x6 &&& (1 : Int32))))) sH tl kl kf gw gh gk gq gr gj gR gT gC) H := hP
      have hD : va_D A (wS cx aS aT ak aG sp s1 s2 s3 s4 s5 sP (upd sC x1.toNatClampNeg ((sC x1.toNatClampNeg) + ((sC x1.toNatClampNeg) + (x6 &&& (1 : Int32))))) sH tl kl kf gw gh gk gq gr gj gR gT gC) := hD
      refine lv_aload_n hx hb dX3_tryColumn_155 rfl (lv_at hl 6 rfl) ?_
      refine va_get (D := D) (ci := 3) (v := .ref (aS 3)) (C := RX3) (T := TX3) (N := 12) hx hb hts iX3 hown hK hP 0 rfl rfl 3 (by decide) (hts _ wd_139) (fun _ h9 => h9) rfl dX3_tryColumn_156 ?_
      refine lv_iload_n hx hb dX3_tryColumn_159 rfl (lv_at hl 7 rfl) ?_
      refine lv_dup2_11 hx hb dX3_tryColumn_160 rfl rfl ?_
      obtain ⟨hz, hf⟩ := okb_s hf
      refine va_iald (D := D) hx hb hK hP 3 0 rfl rfl (inb_s hz) dX3_tryColumn_161 ?_
      refine lv_iconst (v := (1 : Int32)) hx hb dX3_tryColumn_162 (by decide) ?_
      refine lv_iadd hx hb dX3_tryColumn_163 ?_
      obtain ⟨hz, hf⟩ := okb_s hf
      refine va_iast (D := D) hx hb hK hP hD hS 3 0 rfl rfl (inb_s hz) dX3_tryColumn_164 (fun H locs hP hD hS => ?_)
      have hP : va_P D classes (wS cx aS aT ak aG sp s1 s2 s3 s4 s5 sP (upd sC x1.toNatClampNeg ((sC x1.toNatClampNeg) + ((sC x1.toNatClampNeg) + (x6 &&& (1 : Int32))))) (upd sH x1.toNatClampNeg ((sH x1.toNatClampNeg) + (1 : Int32))) tl kl kf gw gh gk gq gr gj gR gT gC) H := hP
      have hD : va_D A (wS cx aS aT ak aG sp s1 s2 s3 s4 s5 sP (upd sC x1.toNatClampNeg ((sC x1.toNatClampNeg) + ((sC x1.toNatClampNeg) + (x6 &&& (1 : Int32))))) (upd sH x1.toNatClampNeg ((sH x1.toNatClampNeg) + (1 : Int32))) tl kl kf gw gh gk gq gr gj gR gT gC) := hD
      refine lv_aload_n hx hb dX3_tryColumn_165 rfl (lv_at hl 6 rfl) ?_
      refine lv_iload_n hx hb dX3_tryColumn_166 rfl (lv_at hl 9 rfl) ?_
      refine lv_iload hx hb dX3_tryColumn_167 (lv_at hl 0 rfl) ?_
      refine lv_iload hx hb dX3_tryColumn_169 (lv_at hl 3 rfl) ?_
      refine lv_iload hx hb dX3_tryColumn_171 (lv_at hl 2 rfl) ?_
      refine lv_iload hx hb dX3_tryColumn_173 (lv_at hl 12 rfl) ?_
      refine lv_iconst (v := (1 : Int32)) hx hb dX3_tryColumn_175 (by decide) ?_
      refine lv_iadd hx hb dX3_tryColumn_176 ?_
      obtain ⟨u11, hg, hf⟩ := ob_s hf
      refine kc_calli (wn := fun _ => (wS cx aS aT ak aG sp s1 s2 s3 s4 s5 sP u11.2.1 u11.2.2.1 u11.2.2.2.1 kl u11.2.2.2.2 gw gh gk gq gr gj gR gT gC)) (va_runV (As := [.int x3, .int (x2 ||| ((1 : Int32) <<< (((gw * (sH x1.toNatClampNeg)) + x1) &&& 31))), .int (x4 + (((sC x1.toNatClampNeg) + (x6 &&& (1 : Int32))) * (sP x1.toNatClampNeg))), .int (x5 + (((sC x1.toNatClampNeg) + (x6 &&& (1 : Int32))) * (sP ((gw - (1 : Int32)) - x1).toNatClampNeg))), .int (x6 + (1 : Int32))]) (rest := []) ⟨hx, hb, hml, hown, hts⟩ (hsr sp s1 s2 s3 s4 s5 sP (upd sC x1.toNatClampNeg ((sC x1.toNatClampNeg) + ((sC x1.toNatClampNeg) + (x6 &&& (1 : Int32))))) (upd sH x1.toNatClampNeg ((sH x1.toNatClampNeg) + (1 : Int32))) tl kl kf gw gh gk gq gr gj gR gT gC x3 (x2 ||| ((1 : Int32) <<< (((gw * (sH x1.toNatClampNeg)) + x1) &&& 31))) (x4 + (((sC x1.toNatClampNeg) + (x6 &&& (1 : Int32))) * (sP x1.toNatClampNeg))) (x5 + (((sC x1.toNatClampNeg) + (x6 &&& (1 : Int32))) * (sP ((gw - (1 : Int32)) - x1).toNatClampNeg))) (x6 + (1 : Int32)) H.size u11 hg) ⟨callB_of 5 hts (kc_gI wd_383) rfl rfl rfl (hts _ wd_43) (hts _ wd_380) (by decide +kernel) ⟨by simp only [rmX3_search, rmX3_tryColumn]; omega, by simp only [rmX3_search, rmX3_tryColumn]; omega⟩, hts _ wd_382, hts _ wd_7⟩ ⟨kc_blind _ _ _ _ _, va_recv hK hP (ci := 3) (q0 := 0) rfl rfl, kc_pre _ hK hN (hP.sub [0, 1, 2, 3, 4, 5, 6, 7, 8, 9, 10, 11, 12, 13, 14] rfl) (hD.sub [0, 1, 2, 3, 4, 5, 6, 7, 8, 9, 10, 11, 12, 13, 14] (by decide) rfl)⟩ rfl rfl hl.1 rfl (lv_room (Nat.le_of_ble_eq_true rfl)) dX3_tryColumn_177 ⟨Nat.zero_le _, Nat.zero_le _⟩) hP hD hS hA [0, 1, 2, 3, 4, 5, 6, 7, 8, 9, 10, 11, 12, 13, 14] [] [0, 1, 2, 3, 4, 5, 6, 7, 8, 9, 10, 11, 12, 13, 14] rfl rfl (by decide) (by decide) (fun _ => rfl) (by decide) (fun _ H locs hP hD hS => ?_)
      have hP : va_P D classes (wS cx aS aT ak aG sp s1 s2 s3 s4 s5 sP u11.2.1 u11.2.2.1 u11.2.2.2.1 kl u11.2.2.2.2 gw gh gk gq gr gj gR gT gC) H := hP
      have hD : va_D A (wS cx aS aT ak aG sp s1 s2 s3 s4 s5 sP u11.2.1 u11.2.2.1 u11.2.2.2.1 kl u11.2.2.2.2 gw gh gk gq gr gj gR gT gC) := hD
      refine lv_istore (lv' := [(13, .int u11.1), (12, .int (x2 ||| ((1 : Int32) <<< (((gw * (sH x1.toNatClampNeg)) + x1) &&& 31)))), (11, .int ((gw * (sH x1.toNatClampNeg)) + x1)), (10, .int (x5 + (((sC x1.toNatClampNeg) + (x6 &&& (1 : Int32))) * (sP ((gw - (1 : Int32)) - x1).toNatClampNeg)))), (9, .int (x4 + (((sC x1.toNatClampNeg) + (x6 &&& (1 : Int32))) * (sP x1.toNatClampNeg)))), (8, .int ((sC x1.toNatClampNeg) + (x6 &&& (1 : Int32)))), (7, .int (sC x1.toNatClampNeg)), (0, .ref (aS 0)), (1, .int x1), (2, .int x2), (3, .int x3), (4, .int x4), (5, .int x5), (6, .int x6)]) hx hb dX3_tryColumn_180 hl (by decide) rfl (fun ls hl => ?_)
      refine lv_aload_n hx hb dX3_tryColumn_182 rfl (lv_at hl 7 rfl) ?_
      refine va_get (D := D) (ci := 3) (v := .ref (aS 3)) (C := RX3) (T := TX3) (N := 12) hx hb hts iX3 hown hK hP 0 rfl rfl 3 (by decide) (hts _ wd_139) (fun _ h9 => h9) rfl dX3_tryColumn_183 ?_
      refine lv_iload_n hx hb dX3_tryColumn_186 rfl (lv_at hl 8 rfl) ?_
      refine lv_dup2_11 hx hb dX3_tryColumn_187 rfl rfl ?_
      obtain ⟨hz, hf⟩ := okb_s hf
      refine va_iald (D := D) hx hb hK hP 3 0 rfl rfl (inb_s hz) dX3_tryColumn_188 ?_
      refine lv_iconst (v := (1 : Int32)) hx hb dX3_tryColumn_189 (by decide) ?_
      refine lv_isub hx hb dX3_tryColumn_190 ?_
      obtain ⟨hz, hf⟩ := okb_s hf
      refine va_iast (D := D) hx hb hK hP hD hS 3 0 rfl rfl (inb_s hz) dX3_tryColumn_191 (fun H locs hP hD hS => ?_)
      have hP : va_P D classes (wS cx aS aT ak aG sp s1 s2 s3 s4 s5 sP u11.2.1 (upd u11.2.2.1 x1.toNatClampNeg ((u11.2.2.1 x1.toNatClampNeg) - (1 : Int32))) u11.2.2.2.1 kl u11.2.2.2.2 gw gh gk gq gr gj gR gT gC) H := hP
      have hD : va_D A (wS cx aS aT ak aG sp s1 s2 s3 s4 s5 sP u11.2.1 (upd u11.2.2.1 x1.toNatClampNeg ((u11.2.2.1 x1.toNatClampNeg) - (1 : Int32))) u11.2.2.2.1 kl u11.2.2.2.2 gw gh gk gq gr gj gR gT gC) := hD
      refine lv_aload_n hx hb dX3_tryColumn_192 rfl (lv_at hl 7 rfl) ?_
      refine va_get (D := D) (ci := 3) (v := .ref (aS 2)) (C := RX3) (T := TX3) (N := 12) hx hb hts iX3 hown hK hP 0 rfl rfl 2 (by decide) (hts _ wd_138) (fun _ h9 => h9) rfl dX3_tryColumn_193 ?_
      refine lv_iload_n hx hb dX3_tryColumn_196 rfl (lv_at hl 8 rfl) ?_
      refine lv_iload hx hb dX3_tryColumn_197 (lv_at hl 6 rfl) ?_
      obtain ⟨hz, hf⟩ := okb_s hf
      refine va_iast (D := D) hx hb hK hP hD hS 2 0 rfl rfl (inb_s hz) dX3_tryColumn_199 (fun H locs hP hD hS => ?_)
      have hP : va_P D classes (wS cx aS aT ak aG sp s1 s2 s3 s4 s5 sP (upd u11.2.1 x1.toNatClampNeg (sC x1.toNatClampNeg)) (upd u11.2.2.1 x1.toNatClampNeg ((u11.2.2.1 x1.toNatClampNeg) - (1 : Int32))) u11.2.2.2.1 kl u11.2.2.2.2 gw gh gk gq gr gj gR gT gC) H := hP
      have hD : va_D A (wS cx aS aT ak aG sp s1 s2 s3 s4 s5 sP (upd u11.2.1 x1.toNatClampNeg (sC x1.toNatClampNeg)) (upd u11.2.2.1 x1.toNatClampNeg ((u11.2.2.1 x1.toNatClampNeg) - (1 : Int32))) u11.2.2.2.1 kl u11.2.2.2.2 gw gh gk gq gr gj gR gT gC) := hD
      refine lv_iload hx hb dX3_tryColumn_200 (lv_at hl 0 rfl) ?_
      obtain ⟨u12, hg, hf⟩ := ob_s hf
      refine kc_calli (wn := fun _ => (wS cx aS aT ak aG sp s1 s2 s3 s4 s5 sP (upd u11.2.1 x1.toNatClampNeg (sC x1.toNatClampNeg)) (upd u11.2.2.1 x1.toNatClampNeg ((u11.2.2.1 x1.toNatClampNeg) - (1 : Int32))) u11.2.2.2.1 kl u11.2.2.2.2 gw gh gk gq gr gj gR gT gC)) (va_runS (As := [.int u11.1]) (rest := []) ⟨hx, hb, hml, hown, hts⟩ (metX3_seenFromAhead l D cx   u11.1 N H.size u12 hg) ⟨callB_of 1 hts (kc_gI wd_408) rfl rfl rfl (hts _ wd_43) (hts _ wd_406) (by decide +kernel) ⟨by simp only [rmX3_search, rmX3_tryColumn, rmX3_seenFromAhead]; omega, by simp only [rmX3_search, rmX3_tryColumn, rmX3_seenFromAhead]; omega⟩, hts _ wd_407⟩ ⟨kc_blind _ _ _ _ _, kc_pre _ hK hN (hP.sub [] rfl) (hD.sub [] (by decide) rfl)⟩ rfl rfl hl.1 rfl (lv_room (Nat.le_of_ble_eq_true rfl)) dX3_tryColumn_202 ⟨Nat.zero_le _, Nat.zero_le _⟩) hP hD hS hA [] [0, 1, 2, 3, 4, 5, 6, 7, 8, 9, 10, 11, 12, 13, 14] [0, 1, 2, 3, 4, 5, 6, 7, 8, 9, 10, 11, 12, 13, 14] rfl rfl (by decide) (by decide) (fun _ => rfl) (by decide) (fun _ H locs hP hD hS => ?_)
      have hP : va_P D classes (wS cx aS aT ak aG sp s1 s2 s3 s4 s5 sP (upd u11.2.1 x1.toNatClampNeg (sC x1.toNatClampNeg)) (upd u11.2.2.1 x1.toNatClampNeg ((u11.2.2.1 x1.toNatClampNeg) - (1 : Int32))) u11.2.2.2.1 kl u11.2.2.2.2 gw gh gk gq gr gj gR gT gC) H := hP
      have hD : va_D A (wS cx aS aT ak aG sp s1 s2 s3 s4 s5 sP (upd u11.2.1 x1.toNatClampNeg (sC x1.toNatClampNeg)) (upd u11.2.2.1 x1.toNatClampNeg ((u11.2.2.1 x1.toNatClampNeg) - (1 : Int32))) u11.2.2.2.1 kl u11.2.2.2.2 gw gh gk gq gr gj gR gT gC) := hD
      obtain rfl := Option.some.inj hf
      exact kc_iret () hx hb hr hk hP hD hS rfl dX3_tryColumn_205
    · replace hf := it_f c10 hf
      refine lv_aload_n hx hb dX3_tryColumn_127 rfl (lv_at hl 6 rfl) ?_
      refine lv_iload hx hb dX3_tryColumn_128 (lv_at hl 3 rfl) ?_
      refine lv_iload hx hb dX3_tryColumn_130 (lv_at hl 2 rfl) ?_
      refine lv_iload hx hb dX3_tryColumn_132 (lv_at hl 12 rfl) ?_
      refine lv_iconst (v := (1 : Int32)) hx hb dX3_tryColumn_134 (by decide) ?_
      refine lv_iadd hx hb dX3_tryColumn_135 ?_
      refine lv_sipush (v := (255 : Int32)) hx hb dX3_tryColumn_136 (by decide) ?_
      obtain ⟨u13, hg, hf⟩ := ob_s hf
      refine kc_callv (wn := fun _ => (wS cx aS aT ak aG sp s1 s2 s3 s4 s5 sP sC sH u13.1 kl u13.2 gw gh gk gq gr gj gR gT gC)) (va_runV (As := [.int (x4 + (((sC x1.toNatClampNeg) + (x6 &&& (1 : Int32))) * (sP x1.toNatClampNeg))), .int (x5 + (((sC x1.toNatClampNeg) + (x6 &&& (1 : Int32))) * (sP ((gw - (1 : Int32)) - x1).toNatClampNeg))), .int (x6 + (1 : Int32)), .int (255 : Int32)]) (rest := []) ⟨hx, hb, hml, hown, hts⟩ (metX3_keep l D cx aS aT ak aG sp s1 s2 s3 s4 s5 sP sC sH tl kl kf gw gh gk gq gr gj gR gT gC (x4 + (((sC x1.toNatClampNeg) + (x6 &&& (1 : Int32))) * (sP x1.toNatClampNeg))) (x5 + (((sC x1.toNatClampNeg) + (x6 &&& (1 : Int32))) * (sP ((gw - (1 : Int32)) - x1).toNatClampNeg))) (x6 + (1 : Int32)) (255 : Int32) N H.size u13 hg) ⟨callB_of 4 hts (kc_gI wd_402) rfl rfl rfl (hts _ wd_43) (hts _ wd_399) (by decide +kernel) ⟨by simp only [rmX3_search, rmX3_tryColumn, rmX3_keep]; omega, by simp only [rmX3_search, rmX3_tryColumn, rmX3_keep]; omega⟩, hts _ wd_401, hts _ wd_10⟩ ⟨kc_blind _ _ _ _ _, va_recv hK hP (ci := 3) (q0 := 0) rfl rfl, kc_pre _ hK hN (hP.sub [0, 1, 2, 3, 4, 5, 6, 7, 8, 9, 10, 11, 12, 13, 14] rfl) (hD.sub [0, 1, 2, 3, 4, 5, 6, 7, 8, 9, 10, 11, 12, 13, 14] (by decide) rfl)⟩ rfl rfl hl.1 rfl (lv_room (Nat.le_of_ble_eq_true rfl)) dX3_tryColumn_139 ⟨Nat.zero_le _, Nat.zero_le _⟩) hP hD hS hA [0, 1, 2, 3, 4, 5, 6, 7, 8, 9, 10, 11, 12, 13, 14] [] [0, 1, 2, 3, 4, 5, 6, 7, 8, 9, 10, 11, 12, 13, 14] rfl rfl (by decide) (by decide) (fun _ => rfl) (by decide) (fun _ H locs hP hD hS => ?_)
      have hP : va_P D classes (wS cx aS aT ak aG sp s1 s2 s3 s4 s5 sP sC sH u13.1 kl u13.2 gw gh gk gq gr gj gR gT gC) H := hP
      have hD : va_D A (wS cx aS aT ak aG sp s1 s2 s3 s4 s5 sP sC sH u13.1 kl u13.2 gw gh gk gq gr gj gR gT gC) := hD
      refine lv_iconst (v := (0 : Int32)) hx hb dX3_tryColumn_142 (by decide) ?_
      obtain rfl := Option.some.inj hf
      exact kc_iret () hx hb hr hk hP hD hS rfl dX3_tryColumn_143
  · replace hf := it_f c9 hf
    refine lv_aload_n hx hb dX3_tryColumn_95 rfl (lv_at hl 6 rfl) ?_
    refine lv_iload hx hb dX3_tryColumn_96 (lv_at hl 3 rfl) ?_
    refine lv_iload hx hb dX3_tryColumn_98 (lv_at hl 2 rfl) ?_
    refine lv_iload hx hb dX3_tryColumn_100 (lv_at hl 12 rfl) ?_
    refine lv_iconst (v := (1 : Int32)) hx hb dX3_tryColumn_102 (by decide) ?_
    refine lv_iadd hx hb dX3_tryColumn_103 ?_
    refine lv_sipush (v := (254 : Int32)) hx hb dX3_tryColumn_104 (by decide) ?_
    obtain ⟨u14, hg, hf⟩ := ob_s hf
    refine kc_callv (wn := fun _ => (wS cx aS aT ak aG sp s1 s2 s3 s4 s5 sP sC sH u14.1 kl u14.2 gw gh gk gq gr gj gR gT gC)) (va_runV (As := [.int (x4 + (((sC x1.toNatClampNeg) + (x6 &&& (1 : Int32))) * (sP x1.toNatClampNeg))), .int (x5 + (((sC x1.toNatClampNeg) + (x6 &&& (1 : Int32))) * (sP ((gw - (1 : Int32)) - x1).toNatClampNeg))), .int (x6 + (1 : Int32)), .int (254 : Int32)]) (rest := []) ⟨hx, hb, hml, hown, hts⟩ (metX3_keep l D cx aS aT ak aG sp s1 s2 s3 s4 s5 sP sC sH tl kl kf gw gh gk gq gr gj gR gT gC (x4 + (((sC x1.toNatClampNeg) + (x6 &&& (1 : Int32))) * (sP x1.toNatClampNeg))) (x5 + (((sC x1.toNatClampNeg) + (x6 &&& (1 : Int32))) * (sP ((gw - (1 : Int32)) - x1).toNatClampNeg))) (x6 + (1 : Int32)) (254 : Int32) N H.size u14 hg) ⟨callB_of 4 hts (kc_gI wd_402) rfl rfl rfl (hts _ wd_43) (hts _ wd_399) (by decide +kernel) ⟨by simp only [rmX3_search, rmX3_tryColumn, rmX3_keep]; omega, by simp only [rmX3_search, rmX3_tryColumn, rmX3_keep]; omega⟩, hts _ wd_401, hts _ wd_10⟩ ⟨kc_blind _ _ _ _ _, va_recv hK hP (ci := 3) (q0 := 0) rfl rfl, kc_pre _ hK hN (hP.sub [0, 1, 2, 3, 4, 5, 6, 7, 8, 9, 10, 11, 12, 13, 14] rfl) (hD.sub [0, 1, 2, 3, 4, 5, 6, 7, 8, 9, 10, 11, 12, 13, 14] (by decide) rfl)⟩ rfl rfl hl.1 rfl (lv_room (Nat.le_of_ble_eq_true rfl)) dX3_tryColumn_107 ⟨Nat.zero_le _, Nat.zero_le _⟩) hP hD hS hA [0, 1, 2, 3, 4, 5, 6, 7, 8, 9, 10, 11, 12, 13, 14] [] [0, 1, 2, 3, 4, 5, 6, 7, 8, 9, 10, 11, 12, 13, 14] rfl rfl (by decide) (by decide) (fun _ => rfl) (by decide) (fun _ H locs hP hD hS => ?_)
    have hP : va_P D classes (wS cx aS aT ak aG sp s1 s2 s3 s4 s5 sP sC sH u14.1 kl u14.2 gw gh gk gq gr gj gR gT gC) H := hP
    have hD : va_D A (wS cx aS aT ak aG sp s1 s2 s3 s4 s5 sP sC sH u14.1 kl u14.2 gw gh gk gq gr gj gR gT gC) := hD
    refine lv_bipush (v := (99 : Int32)) hx hb dX3_tryColumn_110 (by decide) ?_
    obtain rfl := Option.some.inj hf
    exact kc_iret () hx hb hr hk hP hD hS rfl dX3_tryColumn_112
set_option maxHeartbeats 4000000 in
set_option maxRecDepth 100000 in
theorem metX3_search_all (l : Launch) (D : va_G) (cx : Nat → ClassId) (aS : Nat → Nat) (aT : Nat → Nat) (ak : Nat) (aG : Nat → Nat) (N : Nat) : ∀ (d : Nat) (sp : Int32) (s1 : Int32) (s2 : Int32) (s3 : Int32) (s4 : Int32) (s5 : Int32) (sP : Nat → Int32) (sC : Nat → Int32) (sH : Nat → Int32) (tl : Nat → Nat → Int32) (kl : Nat) (kf : Nat → Int64) (gw : Int32) (gh : Int32) (gk : Int32) (gq : Int32) (gr : Int32) (gj : Int32) (gR : Nat → Int32) (gT : Nat → Int32) (gC : Nat → Int32) (x1 : Int32) (x2 : Int32) (x3 : Int32) (x4 : Int32) (x5 : Int32) (sz : Nat) (v : Int32 × (Nat → Int32) × (Nat → Int32) × (Nat → Nat → Int32) × (Nat → Int64)), fX3_search N d sP sC sH tl kl kf gw gh gq gT gC x1 x2 x3 x4 x5 = some v → Met l yX3_search (.code yX3_search cX3_search 10 (some .int) :: kc_TB) (rmX3_search d) (kc_Pre D cx (wS cx aS aT ak aG sp s1 s2 s3 s4 s5 sP sC sH tl kl kf gw gh gk gq gr gj gR gT gC) [.ref (aS 0), .int x1, .int x2, .int x3, .int x4, .int x5] sz) (kc_Pi D (fun _ : Unit => (wS cx aS aT ak aG sp s1 s2 s3 s4 s5 sP v.2.1 v.2.2.1 v.2.2.2.1 kl v.2.2.2.2 gw gh gk gq gr gj gR gT gC)) v.1 (va_A (wS cx aS aT ak aG sp s1 s2 s3 s4 s5 sP sC sH tl kl kf gw gh gk gq gr gj gR gT gC) sz)) 0 0 (va_A (wS cx aS aT ak aG sp s1 s2 s3 s4 s5 sP sC sH tl kl kf gw gh gk gq gr gj gR gT gC) sz) := by
  intro d
  induction d with
  | zero =>
    intro sp s1 s2 s3 s4 s5 sP sC sH tl kl kf gw gh gk gq gr gj gR gT gC x1 x2 x3 x4 x5 sz v hf
    exact absurd (show (none : Option (Int32 × (Nat → Int32) × (Nat → Int32) × (Nat → Nat → Int32) × (Nat → Int64))) = some v from hf) (fun q => by cases q)
  | succ d hsr =>
    intro sp s1 s2 s3 s4 s5 sP sC sH tl kl kf gw gh gk gq gr gj gR gT gC x1 x2 x3 x4 x5 sz v hf
    refine kc_entry (Qc := fun A => (kc_Pi D (fun _ : Unit => (wS cx aS aT ak aG sp s1 s2 s3 s4 s5 sP v.2.1 v.2.2.1 v.2.2.2.1 kl v.2.2.2.2 gw gh gk gq gr gj gR gT gC)) v.1 A)) (by decide) (Nat.le_of_ble_eq_true rfl) ?_
    intro p e s m below meth c A hx hb hr hk hml hown hin hts hN hK hP hD hS hA ls hl
    have hown : s.vm.findClass RX3 = some m.cls := hown
    have hl : lv_has ls 10 [(0, .ref (aS 0)), (1, .int x1), (2, .int x2), (3, .int x3), (4, .int x4), (5, .int x5)] := hl
    rw [fX3_search] at hf
    have hP : va_P D classes (wS cx aS aT ak aG sp s1 s2 s3 s4 s5 sP sC sH tl kl kf gw gh gk gq gr gj gR gT gC) s.heap := hP
    obtain ⟨H, hH⟩ : ∃ H, H = s.heap := ⟨_, rfl⟩
    obtain ⟨locs, hL⟩ : ∃ locs : List Loc, locs = [] := ⟨_, rfl⟩
    have hS : va_S A s.heap H locs := by rw [hH, hL]; exact hS
    have hP : va_P D classes (wS cx aS aT ak aG sp s1 s2 s3 s4 s5 sP sC sH tl kl kf gw gh gk gq gr gj gR gT gC) H := by rw [hH]; exact hP
    suffices hW : W p l e (rmX3_search (d + 1)) s m ([.ref (aS 0), .int x1, .int x2, .int x3, .int x4, .int x5] : List Value).toArray below meth c H locs 0 0 (MQ below (kc_Pi D (fun _ : Unit => (wS cx aS aT ak aG sp s1 s2 s3 s4 s5 sP v.2.1 v.2.2.1 v.2.2.2.1 kl v.2.2.2.2 gw gh gk gq gr gj gR gT gC)) v.1 A) ([.ref (aS 0), .int x1, .int x2, .int x3, .int x4, .int x5] : List Value).toArray s 0 0 A) (F0 m 0 ls []) by rw [hH, hL] at hW; exact hW
    clear hH hL
    refine lv_aload_n hx hb dX3_search_0 rfl (lv_at hl 0 rfl) ?_
    refine lv_iload_n hx hb dX3_search_1 rfl (lv_at hl 3 rfl) ?_
    refine lv_iload hx hb dX3_search_2 (lv_at hl 4 rfl) ?_
    refine va_mmin hx hb (hml.trans hl.1.symm) hown (hts _ wd_384) (hts _ wd_385) (hts _ wd_48) (hts _ wd_386) (Nat.le_of_ble_eq_true rfl) (Nat.le_of_ble_eq_true rfl) (Nat.zero_le _) (Nat.zero_le _) dX3_search_4 ?_
    obtain ⟨u8, hg, hf⟩ := ob_s hf
    refine kc_calli (wn := fun _ => (wS cx aS aT ak aG sp s1 s2 s3 s4 s5 sP sC sH tl kl kf gw gh gk gq gr gj gR gT gC)) (va_runV (As := [.int (if x4 < x3 then x4 else x3)]) (rest := []) ⟨hx, hb, hml, hown, hts⟩ (metX3_keptAt l D cx aS aT ak aG sp s1 s2 s3 s4 s5 sP sC sH tl kl kf gw gh gk gq gr gj gR gT gC (if x4 < x3 then x4 else x3) N H.size u8 hg) ⟨callB_of 1 hts (kc_gI wd_390) rfl rfl rfl (hts _ wd_43) (hts _ wd_387) (by decide +kernel) ⟨by simp only [rmX3_search, rmX3_tryColumn, rmX3_keptAt]; omega, by simp only [rmX3_search, rmX3_tryColumn, rmX3_keptAt]; omega⟩, hts _ wd_389, hts _ wd_8⟩ ⟨kc_blind _ _ _ _ _, va_recv hK hP (ci := 3) (q0 := 0) rfl rfl, kc_pre _ hK hN (hP.sub [0, 1, 2, 3, 4, 5, 6, 7, 8, 9, 10, 11, 12, 13, 14] rfl) (hD.sub [0, 1, 2, 3, 4, 5, 6, 7, 8, 9, 10, 11, 12, 13, 14] (by decide) rfl)⟩ rfl rfl hl.1 rfl (lv_room (Nat.le_of_ble_eq_true rfl)) dX3_search_7 ⟨Nat.zero_le _, Nat.zero_le _⟩) hP hD hS hA [0, 1, 2, 3, 4, 5, 6, 7, 8, 9, 10, 11, 12, 13, 14] [] [0, 1, 2, 3, 4, 5, 6, 7, 8, 9, 10, 11, 12, 13, 14] rfl rfl (by decide) (by decide) (fun _ => rfl) (by decide) (fun _ H locs hP hD hS => ?_)
    have hP : va_P D classes (wS cx aS aT ak aG sp s1 s2 s3 s4 s5 sP sC sH tl kl kf gw gh gk gq gr gj gR gT gC) H := hP
    have hD : va_D A (wS cx aS aT ak aG sp s1 s2 s3 s4 s5 sP sC sH tl kl kf gw gh gk gq gr gj gR gT gC) := hD
    refine lv_istore (lv' := [(6, .int u8), (0, .ref (aS 0)), (1, .int x1), (2, .int x2), (3, .int x3), (4, .int x4), (5, .int x5)]) hx hb dX3_search_10 hl (by decide) rfl (fun ls hl => ?_)
    refine lv_iload hx hb dX3_search_12 (lv_at hl 0 rfl) ?_
    refine lv_if_eq (tgt := 23) hx hb dX3_search_14 (by decide) (fun c9 => ?_) (fun c9 => ?_)
    · replace hf := it_t c9 hf
      refine lv_bipush (v := (-100 : Int32)) hx hb dX3_search_23 (by decide) ?_
      refine lv_istore (lv' := [(7, .int (-100 : Int32)), (6, .int u8), (0, .ref (aS 0)), (1, .int x1), (2, .int x2), (3, .int x3), (4, .int x4), (5, .int x5)]) hx hb dX3_search_25 hl (by decide) rfl (fun ls hl => ?_)
      refine lv_iconst (v := (0 : Int32)) hx hb dX3_search_27 (by decide) ?_
      refine lv_istore (lv' := [(8, .int (0 : Int32)), (7, .int (-100 : Int32)), (6, .int u8), (0, .ref (aS 0)), (1, .int x1), (2, .int x2), (3, .int x3), (4, .int x4), (5, .int x5)]) hx hb dX3_search_28 hl (by decide) rfl (fun ls hl => ?_)
      have L30 : ∀ (ct : Nat) (sC : Nat → Int32) (sH : Nat → Int32) (tl : Nat → Nat → Int32) (kf : Nat → Int64) (x7 : Int32) (x8 : Int32) (v30 : (Nat → Int32) × (Nat → Int32) × (Nat → Nat → Int32) × (Nat → Int64) × Int32), fX3_search_L30 N (fX3_search N d) sP kl gw gh gq gT gC x1 x2 x3 x4 x5 ct sC sH tl kf x7 x8 = some v30 → ∀ (H : Heap) (locs : List Loc) (ls : Array Slot), va_P D classes (wS cx aS aT ak aG sp s1 s2 s3 s4 s5 sP sC sH tl kl kf gw gh gk gq gr gj gR gT gC) H → va_D A (wS cx aS aT ak aG sp s1 s2 s3 s4 s5 sP sC sH tl kl kf gw gh gk gq gr gj gR gT gC) → va_S A s.heap H locs → lv_has ls 10 [(0, .ref (aS 0)), (1, .int x1), (2, .int x2), (3, .int x3), (4, .int x4), (5, .int x5), (7, .int x7), (8, .int x8)] → (∀ (H : Heap) (locs : List Loc) (ls : Array Slot), va_P D classes (wS cx aS aT ak aG sp s1 s2 s3 s4 s5 sP v30.1 v30.2.1 v30.2.2.1 kl v30.2.2.2.1 gw gh gk gq gr gj gR gT gC) H → va_D A (wS cx aS aT ak aG sp s1 s2 s3 s4 s5 sP v30.1 v30.2.1 v30.2.2.1 kl v30.2.2.2.1 gw gh gk gq gr gj gR gT gC) → va_S A s.heap H locs → lv_has ls 10 [(0, .ref (aS 0)), (3, .int x3), (4, .int x4), (5, .int x5), (7, .int v30.2.2.2.2)] → W p l e (rmX3_search (d + 1)) s m ([.ref (aS 0), .int x1, .int x2, .int x3, .int x4, .int x5] : List Value).toArray below meth c H locs 0 0 (MQ below (kc_Pi D (fun _ : Unit => (wS cx aS aT ak aG sp s1 s2 s3 s4 s5 sP v.2.1 v.2.2.1 v.2.2.2.1 kl v.2.2.2.2 gw gh gk gq gr gj gR gT gC)) v.1 A) ([.ref (aS 0), .int x1, .int x2, .int x3, .int x4, .int x5] : List Value).toArray s 0 0 A) (F0 m 91 ls [])) → W p l e (rmX3_search (d + 1)) s m ([.ref (aS 0), .int x1, .int x2, .int x3, .int x4, .int x5] : List Value).toArray below meth c H locs 0 0 (MQ below (kc_Pi D (fun _ : Unit => (wS cx aS aT ak aG sp s1 s2 s3 s4 s5 sP v.2.1 v.2.2.1 v.2.2.2.1 kl v.2.2.2.2 gw gh gk gq gr gj gR gT gC)) v.1 A) ([.ref (aS 0), .int x1, .int x2, .int x3, .int x4, .int x5] : List Value).toArray s 0 0 A) (F0 m 30 ls []) := by
        intro ct
        induction ct with
        | zero =>
          intro sC sH tl kf x7 x8 v30 hf
          exact absurd (show (none : Option ((Nat → Int32) × (Nat → Int32) × (Nat → Nat → Int32) × (Nat → Int64) × Int32)) = some v30 from hf) (fun q => by cases q)
        | succ ct ih =>
          intro sC sH tl kf x7 x8 v30 hf H locs ls hP hD hS hl hE
          rw [fX3_search_L30] at hf
          refine lv_iload hx hb dX3_search_30 (lv_at hl 7 rfl) ?_
          refine lv_aload_n hx hb dX3_search_32 rfl (lv_at hl 0 rfl) ?_
          refine va_get (D := D) (ci := 3) (v := .ref (aG 0)) (C := RX3) (T := TX3) (N := 12) hx hb hts iX3 hown hK hP 0 rfl rfl 0 (by decide) (hts _ wd_136) (fun _ h9 => h9) rfl dX3_search_33 ?_
          refine va_get (D := D) (ci := 1) (v := .int gw) (C := RX1) (T := TX1) (N := 9) hx hb hts iX1 hown hK hP 11 rfl rfl 0 (by decide) (hts _ wd_65) (fun _ h9 => h9) rfl dX3_search_36 ?_
          refine lv_icmp_ge (tgt := 91) hx hb dX3_search_39 (by decide) (fun c14 => ?_) (fun c14 => ?_)
          · replace hf := it_t c14 hf
            obtain rfl := Option.some.inj hf
            exact hE H locs ls hP hD hS (lv_sub hl [0, 3, 4, 5, 6] rfl)
          · replace hf := it_f c14 hf
            refine lv_aload_n hx hb dX3_search_42 rfl (lv_at hl 0 rfl) ?_
            refine va_get (D := D) (ci := 3) (v := .ref (aS 3)) (C := RX3) (T := TX3) (N := 12) hx hb hts iX3 hown hK hP 0 rfl rfl 3 (by decide) (hts _ wd_139) (fun _ h9 => h9) rfl dX3_search_43 ?_
            refine lv_iload hx hb dX3_search_46 (lv_at hl 7 rfl) ?_
            obtain ⟨hz, hf⟩ := okb_s hf
            refine va_iald (D := D) hx hb hK hP 3 0 rfl rfl (inb_s hz) dX3_search_48 ?_
            refine lv_aload_n hx hb dX3_search_49 rfl (lv_at hl 0 rfl) ?_
            refine va_get (D := D) (ci := 3) (v := .ref (aG 0)) (C := RX3) (T := TX3) (N := 12) hx hb hts iX3 hown hK hP 0 rfl rfl 0 (by decide) (hts _ wd_136) (fun _ h9 => h9) rfl dX3_search_50 ?_
            refine va_get (D := D) (ci := 1) (v := .int gh) (C := RX1) (T := TX1) (N := 9) hx hb hts iX1 hown hK hP 11 rfl rfl 1 (by decide) (hts _ wd_69) (fun _ h9 => h9) rfl dX3_search_53 ?_
            refine lv_icmp_ge (tgt := 85) hx hb dX3_search_56 (by decide) (fun c15 => ?_) (fun c15 => ?_)
            · replace hf := it_t c15 hf
              refine lv_iinc (v := (x8 + (1 : Int32))) (lv' := [(8, .int (x8 + (1 : Int32))), (0, .ref (aS 0)), (1, .int x1), (2, .int x2), (3, .int x3), (4, .int x4), (5, .int x5), (7, .int x7)]) hx hb dX3_search_85 hl (k := 7) rfl rfl (by decide) rfl (fun ls hl => ?_)
              refine lv_goto (tgt := 30) hx hb dX3_search_88 (by decide) ?_
              exact ih sC sH tl kf x7 (x8 + (1 : Int32)) _ hf H locs ls hP hD hS (lv_sub hl [1, 2, 3, 4, 5, 6, 7, 0] rfl) hE
            · replace hf := it_f c15 hf
              refine lv_aload_n hx hb dX3_search_59 rfl (lv_at hl 0 rfl) ?_
              refine lv_iload hx hb dX3_search_60 (lv_at hl 7 rfl) ?_
              refine lv_iload_n hx hb dX3_search_62 rfl (lv_at hl 1 rfl) ?_
              refine lv_iload_n hx hb dX3_search_63 rfl (lv_at hl 2 rfl) ?_
              refine lv_iload_n hx hb dX3_search_64 rfl (lv_at hl 3 rfl) ?_
              refine lv_iload hx hb dX3_search_65 (lv_at hl 4 rfl) ?_
              refine lv_iload hx hb dX3_search_67 (lv_at hl 5 rfl) ?_
              obtain ⟨u16, hg, hf⟩ := ob_s hf
              refine kc_calli (wn := fun _ => (wS cx aS aT ak aG sp s1 s2 s3 s4 s5 sP u16.2.1 u16.2.2.1 u16.2.2.2.1 kl u16.2.2.2.2 gw gh gk gq gr gj gR gT gC)) (va_runV (As := [.int x8, .int x1, .int x2, .int x3, .int x4, .int x5]) (rest := []) ⟨hx, hb, hml, hown, hts⟩ (metX3_tryColumn l D cx aS aT ak aG sp s1 s2 s3 s4 s5 sP sC sH tl kl kf gw gh gk gq gr gj gR gT gC x8 x1 x2 x3 x4 x5 N (fX3_search N d) d hsr H.size u16 hg) ⟨callB_of 6 hts (kc_gI wd_394) rfl rfl rfl (hts _ wd_43) (hts _ wd_391) (by decide +kernel) ⟨by simp only [rmX3_search, rmX3_tryColumn]; omega, by simp only [rmX3_search, rmX3_tryColumn]; omega⟩, hts _ wd_393, hts _ wd_9⟩ ⟨kc_blind _ _ _ _ _, va_recv hK hP (ci := 3) (q0 := 0) rfl rfl, kc_pre _ hK hN (hP.sub [0, 1, 2, 3, 4, 5, 6, 7, 8, 9, 10, 11, 12, 13, 14] rfl) (hD.sub [0, 1, 2, 3, 4, 5, 6, 7, 8, 9, 10, 11, 12, 13, 14] (by decide) rfl)⟩ rfl rfl hl.1 rfl (lv_room (Nat.le_of_ble_eq_true rfl)) dX3_search_69 ⟨Nat.zero_le _, Nat.zero_le _⟩) hP hD hS hA [0, 1, 2, 3, 4, 5, 6, 7, 8, 9, 10, 11, 12, 13, 14] [] [0, 1, 2, 3, 4, 5, 6, 7, 8, 9, 10, 11, 12, 13, 14] rfl rfl (by decide) (by decide) (fun _ => rfl) (by decide) (fun _ H locs hP hD hS => ?_)
              have hP : va_P D classes (wS cx aS aT ak aG sp s1 s2 s3 s4 s5 sP u16.2.1 u16.2.2.1 u16.2.2.2.1 kl u16.2.2.2.2 gw gh gk gq gr gj gR gT gC) H := hP
              have hD : va_D A (wS cx aS aT ak aG sp s1 s2 s3 s4 s5 sP u16.2.1 u16.2.2.1 u16.2.2.2.1 kl u16.2.2.2.2 gw gh gk gq gr gj gR gT gC) := hD
              refine lv_istore (lv' := [(9, .int u16.1), (0, .ref (aS 0)), (1, .int x1), (2, .int x2), (3, .int x3), (4, .int x4), (5, .int x5), (7, .int x7), (8, .int x8)]) hx hb dX3_search_72 hl (by decide) rfl (fun ls hl => ?_)
              refine lv_iload hx hb dX3_search_74 (lv_at hl 0 rfl) ?_
              refine lv_iload hx hb dX3_search_76 (lv_at hl 7 rfl) ?_
              refine lv_icmp_le (tgt := 85) hx hb dX3_search_78 (by decide) (fun c17 => ?_) (fun c17 => ?_)
              · replace hf := it_t c17 hf
                refine lv_iinc (v := (x8 + (1 : Int32))) (lv' := [(8, .int (x8 + (1 : Int32))), (9, .int u16.1), (0, .ref (aS 0)), (1, .int x1), (2, .int x2), (3, .int x3), (4, .int x4), (5, .int x5), (7, .int x7)]) hx hb dX3_search_85 hl (k := 8) rfl rfl (by decide) rfl (fun ls hl => ?_)
                refine lv_goto (tgt := 30) hx hb dX3_search_88 (by decide) ?_
                exact ih u16.2.1 u16.2.2.1 u16.2.2.2.1 u16.2.2.2.2 x7 (x8 + (1 : Int32)) _ hf H locs ls hP hD hS (lv_sub hl [2, 3, 4, 5, 6, 7, 8, 0] rfl) hE
              · replace hf := it_f c17 hf
                refine lv_iload hx hb dX3_search_81 (lv_at hl 0 rfl) ?_
                refine lv_istore (lv' := [(7, .int u16.1), (9, .int u16.1), (0, .ref (aS 0)), (1, .int x1), (2, .int x2), (3, .int x3), (4, .int x4), (5, .int x5), (8, .int x8)]) hx hb dX3_search_83 hl (by decide) rfl (fun ls hl => ?_)
                refine lv_iinc (v := (x8 + (1 : Int32))) (lv' := [(8, .int (x8 + (1 : Int32))), (7, .int u16.1), (9, .int u16.1), (0, .ref (aS 0)), (1, .int x1), (2, .int x2), (3, .int x3), (4, .int x4), (5, .int x5)]) hx hb dX3_search_85 hl (k := 8) rfl rfl (by decide) rfl (fun ls hl => ?_)
                refine lv_goto (tgt := 30) hx hb dX3_search_88 (by decide) ?_
                exact ih u16.2.1 u16.2.2.1 u16.2.2.2.1 u16.2.2.2.2 u16.1 (x8 + (1 : Int32)) _ hf H locs ls hP hD hS (lv_sub hl [3, 4, 5, 6, 7, 8, 1, 0] rfl) hE
      obtain ⟨u18, hg, hf⟩ := ob_s hf
      refine L30 _ sC sH tl kf (-100 : Int32) (0 : Int32) u18 hg H locs ls hP hD hS (lv_sub hl [3, 4, 5, 6, 7, 8, 1, 0] rfl) (fun H locs ls hP hD hS hl => ?_)
      refine lv_aload_n hx hb dX3_search_91 rfl (lv_at hl 0 rfl) ?_
      refine lv_iload_n hx hb dX3_search_92 rfl (lv_at hl 1 rfl) ?_
      refine lv_iload hx hb dX3_search_93 (lv_at hl 2 rfl) ?_
      refine lv_iload hx hb dX3_search_95 (lv_at hl 3 rfl) ?_
      refine lv_iload hx hb dX3_search_97 (lv_at hl 4 rfl) ?_
      refine lv_bipush (v := (101 : Int32)) hx hb dX3_search_99 (by decide) ?_
      refine lv_iadd hx hb dX3_search_101 ?_
      obtain ⟨u19, hg, hf⟩ := ob_s hf
      refine kc_callv (wn := fun _ => (wS cx aS aT ak aG sp s1 s2 s3 s4 s5 sP u18.1 u18.2.1 u19.1 kl u19.2 gw gh gk gq gr gj gR gT gC)) (va_runV (As := [.int x3, .int x4, .int x5, .int (u18.2.2.2.2 + (101 : Int32))]) (rest := []) ⟨hx, hb, hml, hown, hts⟩ (metX3_keep l D cx aS aT ak aG sp s1 s2 s3 s4 s5 sP u18.1 u18.2.1 u18.2.2.1 kl u18.2.2.2.1 gw gh gk gq gr gj gR gT gC x3 x4 x5 (u18.2.2.2.2 + (101 : Int32)) N H.size u19 hg) ⟨callB_of 4 hts (kc_gI wd_402) rfl rfl rfl (hts _ wd_43) (hts _ wd_399) (by decide +kernel) ⟨by simp only [rmX3_search, rmX3_tryColumn, rmX3_keep]; omega, by simp only [rmX3_search, rmX3_tryColumn, rmX3_keep]; omega⟩, hts _ wd_401, hts _ wd_10⟩ ⟨kc_blind _ _ _ _ _, va_recv hK hP (ci := 3) (q0 := 0) rfl rfl, kc_pre _ hK hN (hP.sub [0, 1, 2, 3, 4, 5, 6, 7, 8, 9, 10, 11, 12, 13, 14] rfl) (hD.sub [0, 1, 2, 3, 4, 5, 6, 7, 8, 9, 10, 11, 12, 13, 14] (by decide) rfl)⟩ rfl rfl hl.1 rfl (lv_room (Nat.le_of_ble_eq_true rfl)) dX3_search_102 ⟨Nat.zero_le _, Nat.zero_le _⟩) hP hD hS hA [0, 1, 2, 3, 4, 5, 6, 7, 8, 9, 10, 11, 12, 13, 14] [] [0, 1, 2, 3, 4, 5, 6, 7, 8, 9, 10, 11, 12, 13, 14] rfl rfl (by decide) (by decide) (fun _ => rfl) (by decide) (fun _ H locs hP hD hS => ?_)
      have hP : va_P D classes (wS cx aS aT ak aG sp s1 s2 s3 s4 s5 sP u18.1 u18.2.1 u19.1 kl u19.2 gw gh gk gq gr gj gR gT gC) H := hP
      have hD : va_D A (wS cx aS aT ak aG sp s1 s2 s3 s4 s5 sP u18.1 u18.2.1 u19.1 kl u19.2 gw gh gk gq gr gj gR gT gC) := hD
      refine lv_iload hx hb dX3_search_105 (lv_at hl 4 rfl) ?_
      obtain rfl := Option.some.inj hf
      exact kc_iret () hx hb hr hk hP hD hS rfl dX3_search_107
    · replace hf := it_f c9 hf
      refine lv_iload hx hb dX3_search_17 (lv_at hl 0 rfl) ?_
      refine lv_bipush (v := (101 : Int32)) hx hb dX3_search_19 (by decide) ?_
      refine lv_isub hx hb dX3_search_21 ?_
      obtain rfl := Option.some.inj hf
      exact kc_iret () hx hb hr hk hP hD hS rfl dX3_search_22
theorem metX3_search (l : Launch) (D : va_G) (cx : Nat → ClassId) (aS : Nat → Nat) (aT : Nat → Nat) (ak : Nat) (aG : Nat → Nat) (sp : Int32) (s1 : Int32) (s2 : Int32) (s3 : Int32) (s4 : Int32) (s5 : Int32) (sP : Nat → Int32) (sC : Nat → Int32) (sH : Nat → Int32) (tl : Nat → Nat → Int32) (kl : Nat) (kf : Nat → Int64) (gw : Int32) (gh : Int32) (gk : Int32) (gq : Int32) (gr : Int32) (gj : Int32) (gR : Nat → Int32) (gT : Nat → Int32) (gC : Nat → Int32) (x1 : Int32) (x2 : Int32) (x3 : Int32) (x4 : Int32) (x5 : Int32) (N d sz : Nat) (v : Int32 × (Nat → Int32) × (Nat → Int32) × (Nat → Nat → Int32) × (Nat → Int64)) (hf : fX3_search N d sP sC sH tl kl kf gw gh gq gT gC x1 x2 x3 x4 x5 = some v) : Met l yX3_search (.code yX3_search cX3_search 10 (some .int) :: kc_TB) (rmX3_search d) (kc_Pre D cx (wS cx aS aT ak aG sp s1 s2 s3 s4 s5 sP sC sH tl kl kf gw gh gk gq gr gj gR gT gC) [.ref (aS 0), .int x1, .int x2, .int x3, .int x4, .int x5] sz) (kc_Pi D (fun _ : Unit => (wS cx aS aT ak aG sp s1 s2 s3 s4 s5 sP v.2.1 v.2.2.1 v.2.2.2.1 kl v.2.2.2.2 gw gh gk gq gr gj gR gT gC)) v.1 (va_A (wS cx aS aT ak aG sp s1 s2 s3 s4 s5 sP sC sH tl kl kf gw gh gk gq gr gj gR gT gC) sz)) 0 0 (va_A (wS cx aS aT ak aG sp s1 s2 s3 s4 s5 sP sC sH tl kl kf gw gh gk gq gr gj gR gT gC) sz) := metX3_search_all l D cx aS aT ak aG N d sp s1 s2 s3 s4 s5 sP sC sH tl kl kf gw gh gk gq gr gj gR gT gC x1 x2 x3 x4 x5 sz v hf
abbrev rmX3_worthOfStart : Room := { frames := 51, cells := 0, slots := 0, locals := 2029 }
set_option maxHeartbeats 4000000 in
set_option maxRecDepth 100000 in
theorem metX3_worthOfStart (l : Launch) (D : va_G) (cx : Nat → ClassId) (aS : Nat → Nat) (aT : Nat → Nat) (ak : Nat) (aG : Nat → Nat) (sp : Int32) (s1 : Int32) (s2 : Int32) (s3 : Int32) (s4 : Int32) (s5 : Int32) (sP : Nat → Int32) (sC : Nat → Int32) (sH : Nat → Int32) (tl : Nat → Nat → Int32) (kl : Nat) (kf : Nat → Int64) (gw : Int32) (gh : Int32) (gk : Int32) (gq : Int32) (gr : Int32) (gj : Int32) (gR : Nat → Int32) (gT : Nat → Int32) (gC : Nat → Int32)  (N : Nat) (sz : Nat) (v : Int32 × (Nat → Int32) × (Nat → Int32) × (Nat → Nat → Int32) × (Nat → Int64)) (hf : fX3_worthOfStart N s1 s2 s3 s4 s5 sP sC sH tl kl kf gw gh gq gT gC = some v) : Met l yX3_worthOfStart (.code yX3_worthOfStart cX3_worthOfStart 1 (some .int) :: kc_TB) rmX3_worthOfStart (kc_Pre D cx (wS cx aS aT ak aG sp s1 s2 s3 s4 s5 sP sC sH tl kl kf gw gh gk gq gr gj gR gT gC) [.ref (aS 0)] sz) (kc_Pi D (fun _ : Unit => (wS cx aS aT ak aG sp s1 s2 s3 s4 s5 sP v.2.1 v.2.2.1 v.2.2.2.1 kl v.2.2.2.2 gw gh gk gq gr gj gR gT gC)) v.1 (va_A (wS cx aS aT ak aG sp s1 s2 s3 s4 s5 sP sC sH tl kl kf gw gh gk gq gr gj gR gT gC) sz)) 0 0 (va_A (wS cx aS aT ak aG sp s1 s2 s3 s4 s5 sP sC sH tl kl kf gw gh gk gq gr gj gR gT gC) sz) := by
  refine kc_entry (Qc := fun A => (kc_Pi D (fun _ : Unit => (wS cx aS aT ak aG sp s1 s2 s3 s4 s5 sP v.2.1 v.2.2.1 v.2.2.2.1 kl v.2.2.2.2 gw gh gk gq gr gj gR gT gC)) v.1 A)) (by decide) (Nat.le_of_ble_eq_true rfl) ?_
  intro p e s m below meth c A hx hb hr hk hml hown hin hts hN hK hP hD hS hA ls hl
  have hown : s.vm.findClass RX3 = some m.cls := hown
  have hl : lv_has ls 1 [(0, .ref (aS 0))] := hl
  unfold fX3_worthOfStart at hf
  have hP : va_P D classes (wS cx aS aT ak aG sp s1 s2 s3 s4 s5 sP sC sH tl kl kf gw gh gk gq gr gj gR gT gC) s.heap := hP
  obtain ⟨H, hH⟩ : ∃ H, H = s.heap := ⟨_, rfl⟩
  obtain ⟨locs, hL⟩ : ∃ locs : List Loc, locs = [] := ⟨_, rfl⟩
  have hS : va_S A s.heap H locs := by rw [hH, hL]; exact hS
  have hP : va_P D classes (wS cx aS aT ak aG sp s1 s2 s3 s4 s5 sP sC sH tl kl kf gw gh gk gq gr gj gR gT gC) H := by rw [hH]; exact hP
  suffices hW : W p l e rmX3_worthOfStart s m ([.ref (aS 0)] : List Value).toArray below meth c H locs 0 0 (MQ below (kc_Pi D (fun _ : Unit => (wS cx aS aT ak aG sp s1 s2 s3 s4 s5 sP v.2.1 v.2.2.1 v.2.2.2.1 kl v.2.2.2.2 gw gh gk gq gr gj gR gT gC)) v.1 A) ([.ref (aS 0)] : List Value).toArray s 0 0 A) (F0 m 0 ls []) by rw [hH, hL] at hW; exact hW
  clear hH hL
  refine lv_aload_n hx hb dX3_worthOfStart_0 rfl (lv_at hl 0 rfl) ?_
  refine lv_aload_n hx hb dX3_worthOfStart_1 rfl (lv_at hl 0 rfl) ?_
  refine va_get (D := D) (ci := 3) (v := .int s1) (C := RX3) (T := TX3) (N := 12) hx hb hts iX3 hown hK hP 0 rfl rfl 7 (by decide) (hts _ wd_143) (fun _ h9 => h9) rfl dX3_worthOfStart_2 ?_
  refine lv_aload_n hx hb dX3_worthOfStart_5 rfl (lv_at hl 0 rfl) ?_
  refine va_get (D := D) (ci := 3) (v := .int s2) (C := RX3) (T := TX3) (N := 12) hx hb hts iX3 hown hK hP 0 rfl rfl 8 (by decide) (hts _ wd_144) (fun _ h9 => h9) rfl dX3_worthOfStart_6 ?_
  refine lv_aload_n hx hb dX3_worthOfStart_9 rfl (lv_at hl 0 rfl) ?_
  refine va_get (D := D) (ci := 3) (v := .int s3) (C := RX3) (T := TX3) (N := 12) hx hb hts iX3 hown hK hP 0 rfl rfl 9 (by decide) (hts _ wd_145) (fun _ h9 => h9) rfl dX3_worthOfStart_10 ?_
  refine lv_aload_n hx hb dX3_worthOfStart_13 rfl (lv_at hl 0 rfl) ?_
  refine va_get (D := D) (ci := 3) (v := .int s4) (C := RX3) (T := TX3) (N := 12) hx hb hts iX3 hown hK hP 0 rfl rfl 10 (by decide) (hts _ wd_146) (fun _ h9 => h9) rfl dX3_worthOfStart_14 ?_
  refine lv_aload_n hx hb dX3_worthOfStart_17 rfl (lv_at hl 0 rfl) ?_
  refine va_get (D := D) (ci := 3) (v := .int s5) (C := RX3) (T := TX3) (N := 12) hx hb hts iX3 hown hK hP 0 rfl rfl 11 (by decide) (hts _ wd_147) (fun _ h9 => h9) rfl dX3_worthOfStart_18 ?_
  obtain ⟨u2, hg, hf⟩ := ob_s hf
  refine kc_calli (wn := fun _ => (wS cx aS aT ak aG sp s1 s2 s3 s4 s5 sP u2.2.1 u2.2.2.1 u2.2.2.2.1 kl u2.2.2.2.2 gw gh gk gq gr gj gR gT gC)) (va_runV (As := [.int s1, .int s2, .int s3, .int s4, .int s5]) (rest := []) ⟨hx, hb, hml, hown, hts⟩ (metX3_search l D cx aS aT ak aG sp s1 s2 s3 s4 s5 sP sC sH tl kl kf gw gh gk gq gr gj gR gT gC s1 s2 s3 s4 s5 N 20 H.size u2 hg) ⟨callB_of 5 hts (kc_gI wd_383) rfl rfl rfl (hts _ wd_43) (hts _ wd_380) (by decide +kernel) ⟨Nat.le_of_ble_eq_true rfl, Nat.le_of_ble_eq_true rfl⟩, hts _ wd_382, hts _ wd_7⟩ ⟨kc_blind _ _ _ _ _, va_recv hK hP (ci := 3) (q0 := 0) rfl rfl, kc_pre _ hK hN (hP.sub [0, 1, 2, 3, 4, 5, 6, 7, 8, 9, 10, 11, 12, 13, 14] rfl) (hD.sub [0, 1, 2, 3, 4, 5, 6, 7, 8, 9, 10, 11, 12, 13, 14] (by decide) rfl)⟩ rfl rfl hl.1 rfl (lv_room (Nat.le_of_ble_eq_true rfl)) dX3_worthOfStart_21 ⟨Nat.zero_le _, Nat.zero_le _⟩) hP hD hS hA [0, 1, 2, 3, 4, 5, 6, 7, 8, 9, 10, 11, 12, 13, 14] [] [0, 1, 2, 3, 4, 5, 6, 7, 8, 9, 10, 11, 12, 13, 14] rfl rfl (by decide) (by decide) (fun _ => rfl) (by decide) (fun _ H locs hP hD hS => ?_)
  have hP : va_P D classes (wS cx aS aT ak aG sp s1 s2 s3 s4 s5 sP u2.2.1 u2.2.2.1 u2.2.2.2.1 kl u2.2.2.2.2 gw gh gk gq gr gj gR gT gC) H := hP
  have hD : va_D A (wS cx aS aT ak aG sp s1 s2 s3 s4 s5 sP u2.2.1 u2.2.2.1 u2.2.2.2.1 kl u2.2.2.2.2 gw gh gk gq gr gj gR gT gC) := hD
  obtain rfl := Option.some.inj hf
  exact kc_iret () hx hb hr hk hP hD hS rfl dX3_worthOfStart_24
abbrev rmX3_worthOfMove : Room := { frames := 52, cells := 0, slots := 0, locals := 2133 }
set_option maxHeartbeats 4000000 in
set_option maxRecDepth 100000 in
theorem metX3_worthOfMove (l : Launch) (D : va_G) (cx : Nat → ClassId) (aS : Nat → Nat) (aT : Nat → Nat) (ak : Nat) (aG : Nat → Nat) (sp : Int32) (s1 : Int32) (s2 : Int32) (s3 : Int32) (s4 : Int32) (s5 : Int32) (sP : Nat → Int32) (sC : Nat → Int32) (sH : Nat → Int32) (tl : Nat → Nat → Int32) (kl : Nat) (kf : Nat → Int64) (gw : Int32) (gh : Int32) (gk : Int32) (gq : Int32) (gr : Int32) (gj : Int32) (gR : Nat → Int32) (gT : Nat → Int32) (gC : Nat → Int32) (x1 : Int32) (N : Nat) (sz : Nat) (v : Int32 × (Nat → Int32) × (Nat → Int32) × (Nat → Nat → Int32) × (Nat → Int64)) (hf : fX3_worthOfMove N s1 s2 s3 s4 s5 sP sC sH tl kl kf gw gh gq gT gC x1 = some v) : Met l yX3_worthOfMove (.code yX3_worthOfMove cX3_worthOfMove 2 (some .int) :: kc_TB) rmX3_worthOfMove (kc_Pre D cx (wS cx aS aT ak aG sp s1 s2 s3 s4 s5 sP sC sH tl kl kf gw gh gk gq gr gj gR gT gC) [.ref (aS 0), .int x1] sz) (kc_Pi D (fun _ : Unit => (wS cx aS aT ak aG sp s1 s2 s3 s4 s5 sP v.2.1 v.2.2.1 v.2.2.2.1 kl v.2.2.2.2 gw gh gk gq gr gj gR gT gC)) v.1 (va_A (wS cx aS aT ak aG sp s1 s2 s3 s4 s5 sP sC sH tl kl kf gw gh gk gq gr gj gR gT gC) sz)) 0 0 (va_A (wS cx aS aT ak aG sp s1 s2 s3 s4 s5 sP sC sH tl kl kf gw gh gk gq gr gj gR gT gC) sz) := by
  refine kc_entry (Qc := fun A => (kc_Pi D (fun _ : Unit => (wS cx aS aT ak aG sp s1 s2 s3 s4 s5 sP v.2.1 v.2.2.1 v.2.2.2.1 kl v.2.2.2.2 gw gh gk gq gr gj gR gT gC)) v.1 A)) (by decide) (Nat.le_of_ble_eq_true rfl) ?_
  intro p e s m below meth c A hx hb hr hk hml hown hin hts hN hK hP hD hS hA ls hl
  have hown : s.vm.findClass RX3 = some m.cls := hown
  have hl : lv_has ls 2 [(0, .ref (aS 0)), (1, .int x1)] := hl
  unfold fX3_worthOfMove at hf
  have hP : va_P D classes (wS cx aS aT ak aG sp s1 s2 s3 s4 s5 sP sC sH tl kl kf gw gh gk gq gr gj gR gT gC) s.heap := hP
  obtain ⟨H, hH⟩ : ∃ H, H = s.heap := ⟨_, rfl⟩
  obtain ⟨locs, hL⟩ : ∃ locs : List Loc, locs = [] := ⟨_, rfl⟩
  have hS : va_S A s.heap H locs := by rw [hH, hL]; exact hS
  have hP : va_P D classes (wS cx aS aT ak aG sp s1 s2 s3 s4 s5 sP sC sH tl kl kf gw gh gk gq gr gj gR gT gC) H := by rw [hH]; exact hP
  suffices hW : W p l e rmX3_worthOfMove s m ([.ref (aS 0), .int x1] : List Value).toArray below meth c H locs 0 0 (MQ below (kc_Pi D (fun _ : Unit => (wS cx aS aT ak aG sp s1 s2 s3 s4 s5 sP v.2.1 v.2.2.1 v.2.2.2.1 kl v.2.2.2.2 gw gh gk gq gr gj gR gT gC)) v.1 A) ([.ref (aS 0), .int x1] : List Value).toArray s 0 0 A) (F0 m 0 ls []) by rw [hH, hL] at hW; exact hW
  clear hH hL
  refine lv_aload_n hx hb dX3_worthOfMove_0 rfl (lv_at hl 0 rfl) ?_
  refine lv_iload_n hx hb dX3_worthOfMove_1 rfl (lv_at hl 1 rfl) ?_
  refine lv_aload_n hx hb dX3_worthOfMove_2 rfl (lv_at hl 0 rfl) ?_
  refine va_get (D := D) (ci := 3) (v := .int s1) (C := RX3) (T := TX3) (N := 12) hx hb hts iX3 hown hK hP 0 rfl rfl 7 (by decide) (hts _ wd_143) (fun _ h9 => h9) rfl dX3_worthOfMove_3 ?_
  refine lv_aload_n hx hb dX3_worthOfMove_6 rfl (lv_at hl 0 rfl) ?_
  refine va_get (D := D) (ci := 3) (v := .int s2) (C := RX3) (T := TX3) (N := 12) hx hb hts iX3 hown hK hP 0 rfl rfl 8 (by decide) (hts _ wd_144) (fun _ h9 => h9) rfl dX3_worthOfMove_7 ?_
  refine lv_aload_n hx hb dX3_worthOfMove_10 rfl (lv_at hl 0 rfl) ?_
  refine va_get (D := D) (ci := 3) (v := .int s3) (C := RX3) (T := TX3) (N := 12) hx hb hts iX3 hown hK hP 0 rfl rfl 9 (by decide) (hts _ wd_145) (fun _ h9 => h9) rfl dX3_worthOfMove_11 ?_
  refine lv_aload_n hx hb dX3_worthOfMove_14 rfl (lv_at hl 0 rfl) ?_
  refine va_get (D := D) (ci := 3) (v := .int s4) (C := RX3) (T := TX3) (N := 12) hx hb hts iX3 hown hK hP 0 rfl rfl 10 (by decide) (hts _ wd_146) (fun _ h9 => h9) rfl dX3_worthOfMove_15 ?_
  refine lv_aload_n hx hb dX3_worthOfMove_18 rfl (lv_at hl 0 rfl) ?_
  refine va_get (D := D) (ci := 3) (v := .int s5) (C := RX3) (T := TX3) (N := 12) hx hb hts iX3 hown hK hP 0 rfl rfl 11 (by decide) (hts _ wd_147) (fun _ h9 => h9) rfl dX3_worthOfMove_19 ?_
  obtain ⟨u2, hg, hf⟩ := ob_s hf
  refine kc_calli (wn := fun _ => (wS cx aS aT ak aG sp s1 s2 s3 s4 s5 sP u2.2.1 u2.2.2.1 u2.2.2.2.1 kl u2.2.2.2.2 gw gh gk gq gr gj gR gT gC)) (va_runV (As := [.int x1, .int s1, .int s2, .int s3, .int s4, .int s5]) (rest := []) ⟨hx, hb, hml, hown, hts⟩ (metX3_tryColumn l D cx aS aT ak aG sp s1 s2 s3 s4 s5 sP sC sH tl kl kf gw gh gk gq gr gj gR gT gC x1 s1 s2 s3 s4 s5 N (fX3_search N 20) 20 (fun sp s1 s2 s3 s4 s5 sP sC sH tl kl kf gw gh gk gq gr gj gR gT gC x1 x2 x3 x4 x5 sz v hf => metX3_search l D cx aS aT ak aG sp s1 s2 s3 s4 s5 sP sC sH tl kl kf gw gh gk gq gr gj gR gT gC x1 x2 x3 x4 x5 N 20 sz v hf) H.size u2 hg) ⟨callB_of 6 hts (kc_gI wd_394) rfl rfl rfl (hts _ wd_43) (hts _ wd_391) (by decide +kernel) ⟨Nat.le_of_ble_eq_true rfl, Nat.le_of_ble_eq_true rfl⟩, hts _ wd_393, hts _ wd_9⟩ ⟨kc_blind _ _ _ _ _, va_recv hK hP (ci := 3) (q0 := 0) rfl rfl, kc_pre _ hK hN (hP.sub [0, 1, 2, 3, 4, 5, 6, 7, 8, 9, 10, 11, 12, 13, 14] rfl) (hD.sub [0, 1, 2, 3, 4, 5, 6, 7, 8, 9, 10, 11, 12, 13, 14] (by decide) rfl)⟩ rfl rfl hl.1 rfl (lv_room (Nat.le_of_ble_eq_true rfl)) dX3_worthOfMove_22 ⟨Nat.zero_le _, Nat.zero_le _⟩) hP hD hS hA [0, 1, 2, 3, 4, 5, 6, 7, 8, 9, 10, 11, 12, 13, 14] [] [0, 1, 2, 3, 4, 5, 6, 7, 8, 9, 10, 11, 12, 13, 14] rfl rfl (by decide) (by decide) (fun _ => rfl) (by decide) (fun _ H locs hP hD hS => ?_)
  have hP : va_P D classes (wS cx aS aT ak aG sp s1 s2 s3 s4 s5 sP u2.2.1 u2.2.2.1 u2.2.2.2.1 kl u2.2.2.2.2 gw gh gk gq gr gj gR gT gC) H := hP
  have hD : va_D A (wS cx aS aT ak aG sp s1 s2 s3 s4 s5 sP u2.2.1 u2.2.2.1 u2.2.2.2.1 kl u2.2.2.2.2 gw gh gk gq gr gj gR gT gC) := hD
  obtain rfl := Option.some.inj hf
  exact kc_iret () hx hb hr hk hP hD hS rfl dX3_worthOfMove_25
abbrev rmX3_tally (sp : Int32) : Room := { frames := 52, cells := az sp, slots := azs sp, locals := 2049 }
set_option maxHeartbeats 4000000 in
set_option maxRecDepth 100000 in
theorem metX3_tally (l : Launch) (D : va_G) (cx : Nat → ClassId) (aS : Nat → Nat) (aT : Nat → Nat) (ak : Nat) (aG : Nat → Nat) (sp : Int32) (s1 : Int32) (s2 : Int32) (s3 : Int32) (s4 : Int32) (s5 : Int32) (sP : Nat → Int32) (sC : Nat → Int32) (sH : Nat → Int32) (tl : Nat → Nat → Int32) (kl : Nat) (kf : Nat → Int64) (gw : Int32) (gh : Int32) (gk : Int32) (gq : Int32) (gr : Int32) (gj : Int32) (gR : Nat → Int32) (gT : Nat → Int32) (gC : Nat → Int32) (x1 : Int32) (x2 : Int32) (N : Nat) (sz : Nat) (v : Int32 × Int32 × Int32 × Int32 × Int32 × Int32 × Int32 × (Nat → Int32) × (Nat → Int32) × (Nat → Int32) × (Nat → Nat → Int32) × Nat × (Nat → Int64)) (hf : fX3_tally N sp sP sC sH tl kl kf gw gh gq gT gC x1 x2 = some v) : Met l yX3_tally (.code yX3_tally cX3_tally 3 (some .int) :: kc_TB) (rmX3_tally sp) (kc_Pre D cx (wS cx aS aT ak aG sp s1 s2 s3 s4 s5 sP sC sH tl kl kf gw gh gk gq gr gj gR gT gC) [.ref (aS 0), .int x1, .int x2] sz) (kc_Pi D (fun ak : Nat => (wS cx aS aT ak aG v.2.1 v.2.2.1 v.2.2.2.1 v.2.2.2.2.1 v.2.2.2.2.2.1 v.2.2.2.2.2.2.1 v.2.2.2.2.2.2.2.1 v.2.2.2.2.2.2.2.2.1 v.2.2.2.2.2.2.2.2.2.1 v.2.2.2.2.2.2.2.2.2.2.1 v.2.2.2.2.2.2.2.2.2.2.2.1 v.2.2.2.2.2.2.2.2.2.2.2.2 gw gh gk gq gr gj gR gT gC)) v.1 (va_A (wS cx aS aT ak aG sp s1 s2 s3 s4 s5 sP sC sH tl kl kf gw gh gk gq gr gj gR gT gC) sz)) (az sp) (azs sp) (va_A (wS cx aS aT ak aG sp s1 s2 s3 s4 s5 sP sC sH tl kl kf gw gh gk gq gr gj gR gT gC) sz) := by
  refine kc_entry (Qc := fun A => (kc_Pi D (fun ak : Nat => (wS cx aS aT ak aG v.2.1 v.2.2.1 v.2.2.2.1 v.2.2.2.2.1 v.2.2.2.2.2.1 v.2.2.2.2.2.2.1 v.2.2.2.2.2.2.2.1 v.2.2.2.2.2.2.2.2.1 v.2.2.2.2.2.2.2.2.2.1 v.2.2.2.2.2.2.2.2.2.2.1 v.2.2.2.2.2.2.2.2.2.2.2.1 v.2.2.2.2.2.2.2.2.2.2.2.2 gw gh gk gq gr gj gR gT gC)) v.1 A)) (by decide) (Nat.le_of_ble_eq_true rfl) ?_
  intro p e s m below meth c A hx hb hr hk hml hown hin hts hN hK hP hD hS hA ls hl
  have hown : s.vm.findClass RX3 = some m.cls := hown
  have hl : lv_has ls 3 [(0, .ref (aS 0)), (1, .int x1), (2, .int x2)] := hl
  unfold fX3_tally at hf
  have hP : va_P D classes (wS cx aS aT ak aG sp s1 s2 s3 s4 s5 sP sC sH tl kl kf gw gh gk gq gr gj gR gT gC) s.heap := hP
  obtain ⟨H, hH⟩ : ∃ H, H = s.heap := ⟨_, rfl⟩
  obtain ⟨locs, hL⟩ : ∃ locs : List Loc, locs = [] := ⟨_, rfl⟩
  have hS : va_S A s.heap H locs := by rw [hH, hL]; exact hS
  have hP : va_P D classes (wS cx aS aT ak aG sp s1 s2 s3 s4 s5 sP sC sH tl kl kf gw gh gk gq gr gj gR gT gC) H := by rw [hH]; exact hP
  suffices hW : W p l e (rmX3_tally sp) s m ([.ref (aS 0), .int x1, .int x2] : List Value).toArray below meth c H locs 0 0 (MQ below (kc_Pi D (fun ak : Nat => (wS cx aS aT ak aG v.2.1 v.2.2.1 v.2.2.2.1 v.2.2.2.2.1 v.2.2.2.2.2.1 v.2.2.2.2.2.2.1 v.2.2.2.2.2.2.2.1 v.2.2.2.2.2.2.2.2.1 v.2.2.2.2.2.2.2.2.2.1 v.2.2.2.2.2.2.2.2.2.2.1 v.2.2.2.2.2.2.2.2.2.2.2.1 v.2.2.2.2.2.2.2.2.2.2.2.2 gw gh gk gq gr gj gR gT gC)) v.1 A) ([.ref (aS 0), .int x1, .int x2] : List Value).toArray s (az sp) (azs sp) A) (F0 m 0 ls []) by rw [hH, hL] at hW; exact hW
  clear hH hL
  refine lv_aload_n hx hb dX3_tally_0 rfl (lv_at hl 0 rfl) ?_
  obtain ⟨u9, hg, hf⟩ := ob_s hf
  refine kc_callv (wn := fun ak10 => (wS cx aS aT ak10 aG u9.1 u9.2.1 u9.2.2.1 u9.2.2.2.1 u9.2.2.2.2.1 u9.2.2.2.2.2.1 u9.2.2.2.2.2.2.1 u9.2.2.2.2.2.2.2.1 u9.2.2.2.2.2.2.2.2.1 u9.2.2.2.2.2.2.2.2.2.1 u9.2.2.2.2.2.2.2.2.2.2.1 u9.2.2.2.2.2.2.2.2.2.2.2 gw gh gk gq gr gj gR gT gC)) (va_runV (As := []) (rest := []) ⟨hx, hb, hml, hown, hts⟩ (metX3_startEmpty l D cx aS aT ak aG sp s1 s2 s3 s4 s5 sP sC sH tl kl kf gw gh gk gq gr gj gR gT gC  N H.size u9 hg) ⟨callB_of 0 hts (kc_gI wd_363) rfl rfl rfl (hts _ wd_43) (hts _ wd_360) (by decide +kernel) ⟨Nat.le_of_ble_eq_true rfl, Nat.le_of_ble_eq_true rfl⟩, hts _ wd_362, hts _ wd_5⟩ ⟨kc_blind _ _ _ _ _, va_recv hK hP (ci := 3) (q0 := 0) rfl rfl, kc_pre _ hK hN (hP.sub [0, 1, 2, 3, 4, 5, 6, 7, 8, 9, 10, 11, 12, 13, 14] rfl) (hD.sub [0, 1, 2, 3, 4, 5, 6, 7, 8, 9, 10, 11, 12, 13, 14] (by decide) rfl)⟩ rfl rfl hl.1 rfl (lv_room (Nat.le_of_ble_eq_true rfl)) dX3_tally_1 ⟨(by show 0 + az sp ≤ az sp; omega), (by show 0 + azs sp ≤ azs sp; omega)⟩) hP hD hS hA [0, 1, 2, 3, 4, 5, 6, 7, 8, 9, 10, 11, 12, 13, 14] [] [0, 1, 2, 3, 4, 5, 6, 7, 8, 9, 10, 11, 12, 13, 14] rfl rfl (by decide) (by decide) (fun _ => rfl) (by decide) (fun ak10 H locs hP hD hS => ?_)
  have hP : va_P D classes (wS cx aS aT ak10 aG u9.1 u9.2.1 u9.2.2.1 u9.2.2.2.1 u9.2.2.2.2.1 u9.2.2.2.2.2.1 u9.2.2.2.2.2.2.1 u9.2.2.2.2.2.2.2.1 u9.2.2.2.2.2.2.2.2.1 u9.2.2.2.2.2.2.2.2.2.1 u9.2.2.2.2.2.2.2.2.2.2.1 u9.2.2.2.2.2.2.2.2.2.2.2 gw gh gk gq gr gj gR gT gC) H := hP
  have hD : va_D A (wS cx aS aT ak10 aG u9.1 u9.2.1 u9.2.2.1 u9.2.2.2.1 u9.2.2.2.2.1 u9.2.2.2.2.2.1 u9.2.2.2.2.2.2.1 u9.2.2.2.2.2.2.2.1 u9.2.2.2.2.2.2.2.2.1 u9.2.2.2.2.2.2.2.2.2.1 u9.2.2.2.2.2.2.2.2.2.2.1 u9.2.2.2.2.2.2.2.2.2.2.2 gw gh gk gq gr gj gR gT gC) := hD
  refine W.widen (k := az sp) (n := azs sp) (by omega) (by omega) ?_
  refine lv_aload_n hx hb dX3_tally_4 rfl (lv_at hl 0 rfl) ?_
  obtain ⟨u11, hg, hf⟩ := ob_s hf
  refine kc_calli (wn := fun _ => (wS cx aS aT ak10 aG u9.1 u9.2.1 u9.2.2.1 u9.2.2.2.1 u9.2.2.2.2.1 u9.2.2.2.2.2.1 u9.2.2.2.2.2.2.1 u11.2.1 u11.2.2.1 u11.2.2.2.1 u9.2.2.2.2.2.2.2.2.2.2.1 u11.2.2.2.2 gw gh gk gq gr gj gR gT gC)) (va_runV (As := []) (rest := []) ⟨hx, hb, hml, hown, hts⟩ (metX3_worthOfStart l D cx aS aT ak10 aG u9.1 u9.2.1 u9.2.2.1 u9.2.2.2.1 u9.2.2.2.2.1 u9.2.2.2.2.2.1 u9.2.2.2.2.2.2.1 u9.2.2.2.2.2.2.2.1 u9.2.2.2.2.2.2.2.2.1 u9.2.2.2.2.2.2.2.2.2.1 u9.2.2.2.2.2.2.2.2.2.2.1 u9.2.2.2.2.2.2.2.2.2.2.2 gw gh gk gq gr gj gR gT gC  N H.size u11 hg) ⟨callB_of 0 hts (kc_gI wd_379) rfl rfl rfl (hts _ wd_43) (hts _ wd_441) (by decide +kernel) ⟨Nat.le_of_ble_eq_true rfl, Nat.le_of_ble_eq_true rfl⟩, hts _ wd_377, hts _ wd_378⟩ ⟨kc_blind _ _ _ _ _, va_recv hK hP (ci := 3) (q0 := 0) rfl rfl, kc_pre _ hK hN (hP.sub [0, 1, 2, 3, 4, 5, 6, 7, 8, 9, 10, 11, 12, 13, 14] rfl) (hD.sub [0, 1, 2, 3, 4, 5, 6, 7, 8, 9, 10, 11, 12, 13, 14] (by decide) rfl)⟩ rfl rfl hl.1 rfl (lv_room (Nat.le_of_ble_eq_true rfl)) dX3_tally_5 ⟨(by show az sp + 0 ≤ az sp; omega), (by show azs sp + 0 ≤ azs sp; omega)⟩) hP hD hS hA [0, 1, 2, 3, 4, 5, 6, 7, 8, 9, 10, 11, 12, 13, 14] [] [0, 1, 2, 3, 4, 5, 6, 7, 8, 9, 10, 11, 12, 13, 14] rfl rfl (by decide) (by decide) (fun _ => rfl) (by decide) (fun _ H locs hP hD hS => ?_)
  have hP : va_P D classes (wS cx aS aT ak10 aG u9.1 u9.2.1 u9.2.2.1 u9.2.2.2.1 u9.2.2.2.2.1 u9.2.2.2.2.2.1 u9.2.2.2.2.2.2.1 u11.2.1 u11.2.2.1 u11.2.2.2.1 u9.2.2.2.2.2.2.2.2.2.2.1 u11.2.2.2.2 gw gh gk gq gr gj gR gT gC) H := hP
  have hD : va_D A (wS cx aS aT ak10 aG u9.1 u9.2.1 u9.2.2.1 u9.2.2.2.1 u9.2.2.2.2.1 u9.2.2.2.2.2.1 u9.2.2.2.2.2.2.1 u11.2.1 u11.2.2.1 u11.2.2.2.1 u9.2.2.2.2.2.2.2.2.2.2.1 u11.2.2.2.2 gw gh gk gq gr gj gR gT gC) := hD
  refine W.widen (k := az sp) (n := azs sp) (by omega) (by omega) ?_
  refine lv_pop hx hb dX3_tally_8 rfl ?_
  refine lv_iload_n hx hb dX3_tally_9 rfl (lv_at hl 1 rfl) ?_
  refine lv_iconst (v := (0 : Int32)) hx hb dX3_tally_10 (by decide) ?_
  refine lv_iconst (v := (4 : Int32)) hx hb dX3_tally_11 (by decide) ?_
  obtain ⟨u12, hg, hf⟩ := ob_s hf
  refine kc_calli (wn := fun _ => (wS cx aS aT ak10 aG u9.1 u9.2.1 u9.2.2.1 u9.2.2.2.1 u9.2.2.2.2.1 u9.2.2.2.2.2.1 u9.2.2.2.2.2.2.1 u11.2.1 u11.2.2.1 u11.2.2.2.1 u9.2.2.2.2.2.2.2.2.2.2.1 u11.2.2.2.2 gw gh gk gq gr gj gR gT gC)) (va_runSN (As := [.int x1, .int (0 : Int32), .int (4 : Int32)]) (rest := []) ⟨hx, hb, hml, hown, hts⟩ (metX4_isWithin l D cx   x1 (0 : Int32) (4 : Int32) N H.size u12 hg) ⟨va_cnB 3 hts (kc_gI wd_254) rfl rfl rfl hN.2.1 (hts _ wd_40) (by decide +kernel) ⟨Nat.le_of_ble_eq_true rfl, Nat.le_of_ble_eq_true rfl⟩, hts _ wd_253, trivial⟩ ⟨kc_blind _ _ _ _ _, kc_pre _ hK hN (hP.sub [] rfl) (hD.sub [] (by decide) rfl)⟩ rfl rfl hl.1 rfl (lv_room (Nat.le_of_ble_eq_true rfl)) dX3_tally_12 ⟨(by show az sp + 0 ≤ az sp; omega), (by show azs sp + 0 ≤ azs sp; omega)⟩) hP hD hS hA [] [0, 1, 2, 3, 4, 5, 6, 7, 8, 9, 10, 11, 12, 13, 14] [0, 1, 2, 3, 4, 5, 6, 7, 8, 9, 10, 11, 12, 13, 14] rfl rfl (by decide) (by decide) (fun _ => rfl) (by decide) (fun _ H locs hP hD hS => ?_)
  have hP : va_P D classes (wS cx aS aT ak10 aG u9.1 u9.2.1 u9.2.2.1 u9.2.2.2.1 u9.2.2.2.2.1 u9.2.2.2.2.2.1 u9.2.2.2.2.2.2.1 u11.2.1 u11.2.2.1 u11.2.2.2.1 u9.2.2.2.2.2.2.2.2.2.2.1 u11.2.2.2.2 gw gh gk gq gr gj gR gT gC) H := hP
  have hD : va_D A (wS cx aS aT ak10 aG u9.1 u9.2.1 u9.2.2.1 u9.2.2.2.1 u9.2.2.2.2.1 u9.2.2.2.2.2.1 u9.2.2.2.2.2.2.1 u11.2.1 u11.2.2.1 u11.2.2.2.1 u9.2.2.2.2.2.2.2.2.2.2.1 u11.2.2.2.2 gw gh gk gq gr gj gR gT gC) := hD
  refine W.widen (k := az sp) (n := azs sp) (by omega) (by omega) ?_
  refine lv_if_eq (tgt := 39) hx hb dX3_tally_15 (by decide) (fun c13 => ?_) (fun c13 => ?_)
  · replace hf := it_t c13 hf
    refine lv_iconst (v := (0 : Int32)) hx hb dX3_tally_39 (by decide) ?_
    obtain rfl := Option.some.inj hf
    exact kc_iret (ak10) hx hb hr hk hP hD hS rfl dX3_tally_40
  · replace hf := it_f c13 hf
    refine lv_iload_n hx hb dX3_tally_18 rfl (lv_at hl 2 rfl) ?_
    refine lv_iconst (v := (0 : Int32)) hx hb dX3_tally_19 (by decide) ?_
    refine lv_bipush (v := (16 : Int32)) hx hb dX3_tally_20 (by decide) ?_
    obtain ⟨u14, hg, hf⟩ := ob_s hf
    refine kc_calli (wn := fun _ => (wS cx aS aT ak10 aG u9.1 u9.2.1 u9.2.2.1 u9.2.2.2.1 u9.2.2.2.2.1 u9.2.2.2.2.2.1 u9.2.2.2.2.2.2.1 u11.2.1 u11.2.2.1 u11.2.2.2.1 u9.2.2.2.2.2.2.2.2.2.2.1 u11.2.2.2.2 gw gh gk gq gr gj gR gT gC)) (va_runSN (As := [.int x2, .int (0 : Int32), .int (16 : Int32)]) (rest := []) ⟨hx, hb, hml, hown, hts⟩ (metX4_isWithin l D cx   x2 (0 : Int32) (16 : Int32) N H.size u14 hg) ⟨va_cnB 3 hts (kc_gI wd_254) rfl rfl rfl hN.2.1 (hts _ wd_40) (by decide +kernel) ⟨Nat.le_of_ble_eq_true rfl, Nat.le_of_ble_eq_true rfl⟩, hts _ wd_253, trivial⟩ ⟨kc_blind _ _ _ _ _, kc_pre _ hK hN (hP.sub [] rfl) (hD.sub [] (by decide) rfl)⟩ rfl rfl hl.1 rfl (lv_room (Nat.le_of_ble_eq_true rfl)) dX3_tally_22 ⟨(by show az sp + 0 ≤ az sp; omega), (by show azs sp + 0 ≤ azs sp; omega)⟩) hP hD hS hA [] [0, 1, 2, 3, 4, 5, 6, 7, 8, 9, 10, 11, 12, 13, 14] [0, 1, 2, 3, 4, 5, 6, 7, 8, 9, 10, 11, 12, 13, 14] rfl rfl (by decide) (by decide) (fun _ => rfl) (by decide) (fun _ H locs hP hD hS => ?_)
    have hP : va_P D classes (wS cx aS aT ak10 aG u9.1 u9.2.1 u9.2.2.1 u9.2.2.2.1 u9.2.2.2.2.1 u9.2.2.2.2.2.1 u9.2.2.2.2.2.2.1 u11.2.1 u11.2.2.1 u11.2.2.2.1 u9.2.2.2.2.2.2.2.2.2.2.1 u11.2.2.2.2 gw gh gk gq gr gj gR gT gC) H := hP
    have hD : va_D A (wS cx aS aT ak10 aG u9.1 u9.2.1 u9.2.2.1 u9.2.2.2.1 u9.2.2.2.2.1 u9.2.2.2.2.2.1 u9.2.2.2.2.2.2.1 u11.2.1 u11.2.2.1 u11.2.2.2.1 u9.2.2.2.2.2.2.2.2.2.2.1 u11.2.2.2.2 gw gh gk gq gr gj gR gT gC) := hD
    refine W.widen (k := az sp) (n := azs sp) (by omega) (by omega) ?_
    refine lv_if_eq (tgt := 39) hx hb dX3_tally_25 (by decide) (fun c15 => ?_) (fun c15 => ?_)
    · replace hf := it_t c15 hf
      refine lv_iconst (v := (0 : Int32)) hx hb dX3_tally_39 (by decide) ?_
      obtain rfl := Option.some.inj hf
      exact kc_iret (ak10) hx hb hr hk hP hD hS rfl dX3_tally_40
    · replace hf := it_f c15 hf
      refine lv_aload_n hx hb dX3_tally_28 rfl (lv_at hl 0 rfl) ?_
      refine va_get (D := D) (ci := 3) (v := .ref (aS 4)) (C := RX3) (T := TX3) (N := 12) hx hb hts iX3 hown hK hP 0 rfl rfl 4 (by decide) (hts _ wd_140) (fun _ h9 => h9) rfl dX3_tally_29 ?_
      refine lv_iload_n hx hb dX3_tally_32 rfl (lv_at hl 1 rfl) ?_
      obtain ⟨hz, hf⟩ := okb_s hf
      have hj16 : x1.toNatClampNeg < 5 := inb_lt hz
      refine va_aldA (D := D) hx hb hK hP 4 4 rfl rfl (inb_s hz) dX3_tally_33 ?_
      rw [if_pos hj16]
      show W _ _ _ _ _ _ _ _ _ _ _ _ _ _ _ (F0 m 34 ls (.ref (aT (x1.toNatClampNeg)) :: _))
      refine lv_iload_n hx hb dX3_tally_34 rfl (lv_at hl 2 rfl) ?_
      obtain ⟨hz, hf⟩ := okb_s hf
      refine va_iald (D := D) hx hb hK hP (5 + (x1.toNatClampNeg)) 0 (wS_get_row hj16) rfl (inb_s hz) dX3_tally_35 ?_
      refine lv_goto (tgt := 40) hx hb dX3_tally_36 (by decide) ?_
      obtain rfl := Option.some.inj hf
      exact kc_iret (ak10) hx hb hr hk hP hD hS rfl dX3_tally_40
