/-! walks, written by program: what a method answers and leaves, as a function; its contract -/
abbrev rmX4_play (ka sa : Nat) : Room := { frames := 54, cells := ka, slots := sa, locals := 2178 }
set_option maxHeartbeats 4000000 in
set_option maxRecDepth 100000 in
theorem metX4_play (l : Launch) (D : va_G) (cx : Nat → ClassId) (aX : Nat → Nat) (aH : Nat → Nat) (aI : Nat → Nat) (aS : Nat → Nat) (aT : Nat → Nat) (ak : Nat) (aC : Nat → Nat) (aD : Nat → Nat) (aG : Nat → Nat) (db : Int32) (dn : Int32) (ql : Nat → Int32) (qf : Nat → Int32) (qz : Nat → Int32) (qi : Nat → Nat → Int32) (sp : Int32) (s1 : Int32) (s2 : Int32) (s3 : Int32) (s4 : Int32) (s5 : Int32) (sP : Nat → Int32) (sC : Nat → Int32) (sH : Nat → Int32) (tl : Nat → Nat → Int32) (kl : Nat) (kf : Nat → Int64) (cv : Int32) (cc : Nat → Int32) (cm : Nat → Int32) (ch : Nat → Int32) (dv : Int32) (dc : Nat → Int32) (dm : Nat → Int32) (dh : Nat → Int32) (gw : Int32) (gh : Int32) (gk : Int32) (gq : Int32) (gr : Int32) (gj : Int32) (gR : Nat → Int32) (gT : Nat → Int32) (gC : Nat → Int32)  (N : Nat) (sz : Nat) (v : Int32 × Int32 × Int32 × Int32 × Int32 × Int32 × Int32 × (Nat → Int32) × (Nat → Int32) × (Nat → Int32) × (Nat → Nat → Int32) × Nat × (Nat → Int64) × Int32 × (Nat → Int32) × (Nat → Int32) × (Nat → Int32)) (hf : fX4_play N sp s1 s2 s3 s4 s5 sP sC sH tl kl kf cv cc cm ch gw gh gq gr gR gT gC = some v) (ka sa : Nat) (hk9 : ∀ (u9 : Int32), fX0_isOver N cv cm gq gr gR = some u9 → (u9 = 0) → (az sp ≤ ka ∧ azs sp ≤ sa)) : Met l yX4_play (.code yX4_play cX4_play 3 (some .int) :: kc_TB) (rmX4_play ka sa) (kc_Pre D cx (wX cx aX aH aI aS aT ak aC aD (aC 0) (aD 0) aG db dn ql qf qz qi sp s1 s2 s3 s4 s5 sP sC sH tl kl kf cv cc cm ch dv dc dm dh gw gh gk gq gr gj gR gT gC) [.ref (aX 0)] sz) (kc_Pi D (fun ak : Nat => (wX cx aX aH aI aS aT ak aC aD (aC 0) (aD 0) aG db dn ql qf qz qi v.2.1 v.2.2.1 v.2.2.2.1 v.2.2.2.2.1 v.2.2.2.2.2.1 v.2.2.2.2.2.2.1 v.2.2.2.2.2.2.2.1 v.2.2.2.2.2.2.2.2.1 v.2.2.2.2.2.2.2.2.2.1 v.2.2.2.2.2.2.2.2.2.2.1 v.2.2.2.2.2.2.2.2.2.2.2.1 v.2.2.2.2.2.2.2.2.2.2.2.2.1 v.2.2.2.2.2.2.2.2.2.2.2.2.2.1 v.2.2.2.2.2.2.2.2.2.2.2.2.2.2.1 v.2.2.2.2.2.2.2.2.2.2.2.2.2.2.2.1 v.2.2.2.2.2.2.2.2.2.2.2.2.2.2.2.2 dv dc dm dh gw gh gk gq gr gj gR gT gC)) v.1 (va_A (wX cx aX aH aI aS aT ak aC aD (aC 0) (aD 0) aG db dn ql qf qz qi sp s1 s2 s3 s4 s5 sP sC sH tl kl kf cv cc cm ch dv dc dm dh gw gh gk gq gr gj gR gT gC) sz)) ka sa (va_A (wX cx aX aH aI aS aT ak aC aD (aC 0) (aD 0) aG db dn ql qf qz qi sp s1 s2 s3 s4 s5 sP sC sH tl kl kf cv cc cm ch dv dc dm dh gw gh gk gq gr gj gR gT gC) sz) := by
  refine kc_entry (Qc := fun A => (kc_Pi D (fun ak : Nat => (wX cx aX aH aI aS aT ak aC aD (aC 0) (aD 0) aG db dn ql qf qz qi v.2.1 v.2.2.1 v.2.2.2.1 v.2.2.2.2.1 v.2.2.2.2.2.1 v.2.2.2.2.2.2.1 v.2.2.2.2.2.2.2.1 v.2.2.2.2.2.2.2.2.1 v.2.2.2.2.2.2.2.2.2.1 v.2.2.2.2.2.2.2.2.2.2.1 v.2.2.2.2.2.2.2.2.2.2.2.1 v.2.2.2.2.2.2.2.2.2.2.2.2.1 v.2.2.2.2.2.2.2.2.2.2.2.2.2.1 v.2.2.2.2.2.2.2.2.2.2.2.2.2.2.1 v.2.2.2.2.2.2.2.2.2.2.2.2.2.2.2.1 v.2.2.2.2.2.2.2.2.2.2.2.2.2.2.2.2 dv dc dm dh gw gh gk gq gr gj gR gT gC)) v.1 A)) (by decide) (Nat.le_of_ble_eq_true rfl) ?_
  intro p e s m below meth c A hx hb hr hk hml hown hin hts hN hK hP hD hS hA ls hl
  have hown : s.vm.findClass RX4 = some m.cls := hown
  have hl : lv_has ls 3 [(0, .ref (aX 0))] := hl
  unfold fX4_play at hf
  have hP : va_P D classes (wX cx aX aH aI aS aT ak aC aD (aC 0) (aD 0) aG db dn ql qf qz qi sp s1 s2 s3 s4 s5 sP sC sH tl kl kf cv cc cm ch dv dc dm dh gw gh gk gq gr gj gR gT gC) s.heap := hP
  obtain ⟨H, hH⟩ : ∃ H, H = s.heap := ⟨_, rfl⟩
  obtain ⟨locs, hL⟩ : ∃ locs : List Loc, locs = [] := ⟨_, rfl⟩
  have hS : va_S A s.heap H locs := by rw [hH, hL]; exact hS
  have hP : va_P D classes (wX cx aX aH aI aS aT ak aC aD (aC 0) (aD 0) aG db dn ql qf qz qi sp s1 s2 s3 s4 s5 sP sC sH tl kl kf cv cc cm ch dv dc dm dh gw gh gk gq gr gj gR gT gC) H := by rw [hH]; exact hP
  suffices hW : W p l e (rmX4_play ka sa) s m ([.ref (aX 0)] : List Value).toArray below meth c H locs 0 0 (MQ below (kc_Pi D (fun ak : Nat => (wX cx aX aH aI aS aT ak aC aD (aC 0) (aD 0) aG db dn ql qf qz qi v.2.1 v.2.2.1 v.2.2.2.1 v.2.2.2.2.1 v.2.2.2.2.2.1 v.2.2.2.2.2.2.1 v.2.2.2.2.2.2.2.1 v.2.2.2.2.2.2.2.2.1 v.2.2.2.2.2.2.2.2.2.1 v.2.2.2.2.2.2.2.2.2.2.1 v.2.2.2.2.2.2.2.2.2.2.2.1 v.2.2.2.2.2.2.2.2.2.2.2.2.1 v.2.2.2.2.2.2.2.2.2.2.2.2.2.1 v.2.2.2.2.2.2.2.2.2.2.2.2.2.2.1 v.2.2.2.2.2.2.2.2.2.2.2.2.2.2.2.1 v.2.2.2.2.2.2.2.2.2.2.2.2.2.2.2.2 dv dc dm dh gw gh gk gq gr gj gR gT gC)) v.1 A) ([.ref (aX 0)] : List Value).toArray s ka sa A) (F0 m 0 ls []) by rw [hH, hL] at hW; exact hW
  clear hH hL
  refine lv_aload_n hx hb dX4_play_0 rfl (lv_at hl 0 rfl) ?_
  refine va_get (D := D) (ci := 4) (v := .ref (aC 0)) (C := RX4) (T := TX4) (N := 7) hx hb hts iX4 hown hK hP 0 rfl rfl 3 (by decide) (hts _ wd_229) (fun _ h9 => h9) rfl dX4_play_1 ?_
  obtain ⟨u9, hu9, hf⟩ := ob_s hf
  refine kc_calli (wn := fun _ => (wX cx aX aH aI aS aT ak aC aD (aC 0) (aD 0) aG db dn ql qf qz qi sp s1 s2 s3 s4 s5 sP sC sH tl kl kf cv cc cm ch dv dc dm dh gw gh gk gq gr gj gR gT gC)) (va_runV (As := []) (rest := []) ⟨hx, hb, hml, hown, hts⟩ (metX0_isOver l D cx aC aG cv cc cm ch gw gh gk gq gr gj gR gT gC  N H.size u9 hu9) ⟨callB_of 0 hts (kc_gI wd_276) rfl rfl rfl (hts _ wd_44) (hts _ wd_273) (by decide +kernel) ⟨Nat.le_of_ble_eq_true rfl, Nat.le_of_ble_eq_true rfl⟩, hts _ wd_274, hts _ wd_275⟩ ⟨kc_blind _ _ _ _ _, va_recv hK hP (ci := 0) (q0 := 21) rfl rfl, kc_pre _ hK hN (hP.sub [21, 22, 23, 24, 29, 30, 31, 32] rfl) (hD.sub [21, 22, 23, 24, 29, 30, 31, 32] (by decide) rfl)⟩ rfl rfl hl.1 rfl (lv_room (Nat.le_of_ble_eq_true rfl)) dX4_play_4 ⟨Nat.zero_le _, Nat.zero_le _⟩) hP hD hS hA [21, 22, 23, 24, 29, 30, 31, 32] [0, 1, 2, 3, 4, 5, 6, 7, 8, 9, 10, 11, 12, 13, 14, 15, 16, 17, 18, 19, 20, 25, 26, 27, 28] [0, 1, 2, 3, 4, 5, 6, 7, 8, 9, 10, 11, 12, 13, 14, 15, 16, 17, 18, 19, 20, 25, 26, 27, 28, 21, 22, 23, 24, 29, 30, 31, 32] rfl rfl (by decide) (by decide) (fun _ => rfl) (by decide) (fun _ H locs hP hD hS => ?_)
  have hP : va_P D classes (wX cx aX aH aI aS aT ak aC aD (aC 0) (aD 0) aG db dn ql qf qz qi sp s1 s2 s3 s4 s5 sP sC sH tl kl kf cv cc cm ch dv dc dm dh gw gh gk gq gr gj gR gT gC) H := hP
  have hD : va_D A (wX cx aX aH aI aS aT ak aC aD (aC 0) (aD 0) aG db dn ql qf qz qi sp s1 s2 s3 s4 s5 sP sC sH tl kl kf cv cc cm ch dv dc dm dh gw gh gk gq gr gj gR gT gC) := hD
  refine lv_if_eq (tgt := 14) hx hb dX4_play_7 (by decide) (fun c10 => ?_) (fun c10 => ?_)
  · replace hf := it_t c10 hf
    refine lv_aload_n hx hb dX4_play_14 rfl (lv_at hl 0 rfl) ?_
    refine va_get (D := D) (ci := 4) (v := .ref (aC 0)) (C := RX4) (T := TX4) (N := 7) hx hb hts iX4 hown hK hP 0 rfl rfl 3 (by decide) (hts _ wd_229) (fun _ h9 => h9) rfl dX4_play_15 ?_
    refine va_get (D := D) (ci := 0) (v := .int cv) (C := RX0) (T := TX0) (N := 5) hx hb hts iX0 hown hK hP 21 rfl rfl 4 (by decide) (hts _ wd_189) (fun _ h9 => h9) rfl dX4_play_18 ?_
    refine lv_istore_n (lv' := [(1, .int cv), (0, .ref (aX 0))]) hx hb dX4_play_21 rfl hl (by decide) rfl (fun ls hl => ?_)
    refine lv_iload_n hx hb dX4_play_22 rfl (lv_at hl 0 rfl) ?_
    refine lv_istore_n (lv' := [(2, .int cv), (1, .int cv), (0, .ref (aX 0))]) hx hb dX4_play_23 rfl hl (by decide) rfl (fun ls hl => ?_)
    have L24 : ∀ (ct : Nat) (spL : Int32) (s1 : Int32) (s2 : Int32) (s3 : Int32) (s4 : Int32) (s5 : Int32) (sP : Nat → Int32) (sC : Nat → Int32) (sH : Nat → Int32) (tl : Nat → Nat → Int32) (kl : Nat) (kf : Nat → Int64) (cvL : Int32) (cc : Nat → Int32) (cm : Nat → Int32) (ch : Nat → Int32) (x2 : Int32) (v24 : Int32 × Int32 × Int32 × Int32 × Int32 × Int32 × (Nat → Int32) × (Nat → Int32) × (Nat → Int32) × (Nat → Nat → Int32) × Nat × (Nat → Int64) × Int32 × (Nat → Int32) × (Nat → Int32) × (Nat → Int32)), fX4_play_L24 N gw gh gq gr gR gT gC ct spL s1 s2 s3 s4 s5 sP sC sH tl kl kf cvL cc cm ch x2 = some v24 → ∀ (ak cl sl : Nat), cl + az spL ≤ ka → sl + azs spL ≤ sa → ∀ (H : Heap) (locs : List Loc) (ls : Array Slot), va_P D classes (wX cx aX aH aI aS aT ak aC aD (aC 0) (aD 0) aG db dn ql qf qz qi spL s1 s2 s3 s4 s5 sP sC sH tl kl kf cvL cc cm ch dv dc dm dh gw gh gk gq gr gj gR gT gC) H → va_D A (wX cx aX aH aI aS aT ak aC aD (aC 0) (aD 0) aG db dn ql qf qz qi spL s1 s2 s3 s4 s5 sP sC sH tl kl kf cvL cc cm ch dv dc dm dh gw gh gk gq gr gj gR gT gC) → va_S A s.heap H locs → lv_has ls 3 [(0, .ref (aX 0)), (1, .int cv), (2, .int x2)] → (∀ (ak cl sl : Nat), cl ≤ ka → sl ≤ sa → ∀ (H : Heap) (locs : List Loc) (ls : Array Slot), va_P D classes (wX cx aX aH aI aS aT ak aC aD (aC 0) (aD 0) aG db dn ql qf qz qi v24.1 v24.2.1 v24.2.2.1 v24.2.2.2.1 v24.2.2.2.2.1 v24.2.2.2.2.2.1 v24.2.2.2.2.2.2.1 v24.2.2.2.2.2.2.2.1 v24.2.2.2.2.2.2.2.2.1 v24.2.2.2.2.2.2.2.2.2.1 v24.2.2.2.2.2.2.2.2.2.2.1 v24.2.2.2.2.2.2.2.2.2.2.2.1 v24.2.2.2.2.2.2.2.2.2.2.2.2.1 v24.2.2.2.2.2.2.2.2.2.2.2.2.2.1 v24.2.2.2.2.2.2.2.2.2.2.2.2.2.2.1 v24.2.2.2.2.2.2.2.2.2.2.2.2.2.2.2 dv dc dm dh gw gh gk gq gr gj gR gT gC) H → va_D A (wX cx aX aH aI aS aT ak aC aD (aC 0) (aD 0) aG db dn ql qf qz qi v24.1 v24.2.1 v24.2.2.1 v24.2.2.2.1 v24.2.2.2.2.1 v24.2.2.2.2.2.1 v24.2.2.2.2.2.2.1 v24.2.2.2.2.2.2.2.1 v24.2.2.2.2.2.2.2.2.1 v24.2.2.2.2.2.2.2.2.2.1 v24.2.2.2.2.2.2.2.2.2.2.1 v24.2.2.2.2.2.2.2.2.2.2.2.1 v24.2.2.2.2.2.2.2.2.2.2.2.2.1 v24.2.2.2.2.2.2.2.2.2.2.2.2.2.1 v24.2.2.2.2.2.2.2.2.2.2.2.2.2.2.1 v24.2.2.2.2.2.2.2.2.2.2.2.2.2.2.2 dv dc dm dh gw gh gk gq gr gj gR gT gC) → va_S A s.heap H locs → lv_has ls 3 [(0, .ref (aX 0)), (1, .int cv)] → W p l e (rmX4_play ka sa) s m ([.ref (aX 0)] : List Value).toArray below meth c H locs cl sl (MQ below (kc_Pi D (fun ak : Nat => (wX cx aX aH aI aS aT ak aC aD (aC 0) (aD 0) aG db dn ql qf qz qi v.2.1 v.2.2.1 v.2.2.2.1 v.2.2.2.2.1 v.2.2.2.2.2.1 v.2.2.2.2.2.2.1 v.2.2.2.2.2.2.2.1 v.2.2.2.2.2.2.2.2.1 v.2.2.2.2.2.2.2.2.2.1 v.2.2.2.2.2.2.2.2.2.2.1 v.2.2.2.2.2.2.2.2.2.2.2.1 v.2.2.2.2.2.2.2.2.2.2.2.2.1 v.2.2.2.2.2.2.2.2.2.2.2.2.2.1 v.2.2.2.2.2.2.2.2.2.2.2.2.2.2.1 v.2.2.2.2.2.2.2.2.2.2.2.2.2.2.2.1 v.2.2.2.2.2.2.2.2.2.2.2.2.2.2.2.2 dv dc dm dh gw gh gk gq gr gj gR gT gC)) v.1 A) ([.ref (aX 0)] : List Value).toArray s ka sa A) (F0 m 63 ls [])) → W p l e (rmX4_play ka sa) s m ([.ref (aX 0)] : List Value).toArray below meth c H locs cl sl (MQ below (kc_Pi D (fun ak : Nat => (wX cx aX aH aI aS aT ak aC aD (aC 0) (aD 0) aG db dn ql qf qz qi v.2.1 v.2.2.1 v.2.2.2.1 v.2.2.2.2.1 v.2.2.2.2.2.1 v.2.2.2.2.2.2.1 v.2.2.2.2.2.2.2.1 v.2.2.2.2.2.2.2.2.1 v.2.2.2.2.2.2.2.2.2.1 v.2.2.2.2.2.2.2.2.2.2.1 v.2.2.2.2.2.2.2.2.2.2.2.1 v.2.2.2.2.2.2.2.2.2.2.2.2.1 v.2.2.2.2.2.2.2.2.2.2.2.2.2.1 v.2.2.2.2.2.2.2.2.2.2.2.2.2.2.1 v.2.2.2.2.2.2.2.2.2.2.2.2.2.2.2.1 v.2.2.2.2.2.2.2.2.2.2.2.2.2.2.2.2 dv dc dm dh gw gh gk gq gr gj gR gT gC)) v.1 A) ([.ref (aX 0)] : List Value).toArray s ka sa A) (F0 m 24 ls []) := by
      intro ct
      induction ct with
      | zero =>
        intro spL s1 s2 s3 s4 s5 sP sC sH tl kl kf cvL cc cm ch x2 v24 hf
        exact absurd (show (none : Option (Int32 × Int32 × Int32 × Int32 × Int32 × Int32 × (Nat → Int32) × (Nat → Int32) × (Nat → Int32) × (Nat → Nat → Int32) × Nat × (Nat → Int64) × Int32 × (Nat → Int32) × (Nat → Int32) × (Nat → Int32))) = some v24 from hf) (fun q => by cases q)
      | succ ct ih =>
        intro spL s1 s2 s3 s4 s5 sP sC sH tl kl kf cvL cc cm ch x2 v24 hf ak cl sl hc1 hc2 H locs ls hP hD hS hl hE
        rw [fX4_play_L24] at hf
        refine lv_iload_n hx hb dX4_play_24 rfl (lv_at hl 2 rfl) ?_
        refine lv_aload_n hx hb dX4_play_25 rfl (lv_at hl 0 rfl) ?_
        refine va_get (D := D) (ci := 4) (v := .ref (aG 0)) (C := RX4) (T := TX4) (N := 7) hx hb hts iX4 hown hK hP 0 rfl rfl 0 (by decide) (hts _ wd_226) (fun _ h9 => h9) rfl dX4_play_26 ?_
        refine va_get (D := D) (ci := 1) (v := .int gq) (C := RX1) (T := TX1) (N := 9) hx hb hts iX1 hown hK hP 29 rfl rfl 3 (by decide) (hts _ wd_75) (fun _ h9 => h9) rfl dX4_play_29 ?_
        refine lv_icmp_ge (tgt := 63) hx hb dX4_play_32 (by decide) (fun c17 => ?_) (fun c17 => ?_)
        · replace hf := it_t c17 hf
          obtain rfl := Option.some.inj hf
          exact hE _ _ _ (by omega) (by omega) H locs ls hP hD hS (lv_sub hl [0, 1] rfl)
        · replace hf := it_f c17 hf
          refine lv_aload_n hx hb dX4_play_35 rfl (lv_at hl 0 rfl) ?_
          refine va_get (D := D) (ci := 4) (v := .ref (aC 0)) (C := RX4) (T := TX4) (N := 7) hx hb hts iX4 hown hK hP 0 rfl rfl 3 (by decide) (hts _ wd_229) (fun _ h9 => h9) rfl dX4_play_36 ?_
          obtain ⟨u18, hu18, hf⟩ := ob_s hf
          refine kc_calli (wn := fun _ => (wX cx aX aH aI aS aT ak aC aD (aC 0) (aD 0) aG db dn ql qf qz qi spL s1 s2 s3 s4 s5 sP sC sH tl kl kf cvL cc cm ch dv dc dm dh gw gh gk gq gr gj gR gT gC)) (va_runV (As := []) (rest := []) ⟨hx, hb, hml, hown, hts⟩ (metX0_isOver l D cx aC aG cvL cc cm ch gw gh gk gq gr gj gR gT gC  N H.size u18 hu18) ⟨callB_of 0 hts (kc_gI wd_276) rfl rfl rfl (hts _ wd_44) (hts _ wd_273) (by decide +kernel) ⟨Nat.le_of_ble_eq_true rfl, Nat.le_of_ble_eq_true rfl⟩, hts _ wd_274, hts _ wd_275⟩ ⟨kc_blind _ _ _ _ _, va_recv hK hP (ci := 0) (q0 := 21) rfl rfl, kc_pre _ hK hN (hP.sub [21, 22, 23, 24, 29, 30, 31, 32] rfl) (hD.sub [21, 22, 23, 24, 29, 30, 31, 32] (by decide) rfl)⟩ rfl rfl hl.1 rfl (lv_room (Nat.le_of_ble_eq_true rfl)) dX4_play_39 ⟨(by show _ + 0 ≤ ka; omega), (by show _ + 0 ≤ sa; omega)⟩) hP hD hS hA [21, 22, 23, 24, 29, 30, 31, 32] [0, 1, 2, 3, 4, 5, 6, 7, 8, 9, 10, 11, 12, 13, 14, 15, 16, 17, 18, 19, 20, 25, 26, 27, 28] [0, 1, 2, 3, 4, 5, 6, 7, 8, 9, 10, 11, 12, 13, 14, 15, 16, 17, 18, 19, 20, 25, 26, 27, 28, 21, 22, 23, 24, 29, 30, 31, 32] rfl rfl (by decide) (by decide) (fun _ => rfl) (by decide) (fun _ H locs hP hD hS => ?_)
          have hP : va_P D classes (wX cx aX aH aI aS aT ak aC aD (aC 0) (aD 0) aG db dn ql qf qz qi spL s1 s2 s3 s4 s5 sP sC sH tl kl kf cvL cc cm ch dv dc dm dh gw gh gk gq gr gj gR gT gC) H := hP
          have hD : va_D A (wX cx aX aH aI aS aT ak aC aD (aC 0) (aD 0) aG db dn ql qf qz qi spL s1 s2 s3 s4 s5 sP sC sH tl kl kf cvL cc cm ch dv dc dm dh gw gh gk gq gr gj gR gT gC) := hD
          refine lv_if_ne (tgt := 63) hx hb dX4_play_42 (by decide) (fun c19 => ?_) (fun c19 => ?_)
          · replace hf := it_f c19 hf
            obtain rfl := Option.some.inj hf
            exact hE _ _ _ (by omega) (by omega) H locs ls hP hD hS (lv_sub hl [0, 1] rfl)
          · replace hf := it_t c19 hf
            refine lv_aload_n hx hb dX4_play_45 rfl (lv_at hl 0 rfl) ?_
            refine va_get (D := D) (ci := 4) (v := .ref (aC 0)) (C := RX4) (T := TX4) (N := 7) hx hb hts iX4 hown hK hP 0 rfl rfl 3 (by decide) (hts _ wd_229) (fun _ h9 => h9) rfl dX4_play_46 ?_
            refine lv_aload_n hx hb dX4_play_49 rfl (lv_at hl 0 rfl) ?_
            obtain ⟨u20, hu20, hf⟩ := ob_s hf
            refine kc_calli (wn := fun ak21 => (wX cx aX aH aI aS aT ak21 aC aD (aC 0) (aD 0) aG db dn ql qf qz qi u20.2.1 u20.2.2.1 u20.2.2.2.1 u20.2.2.2.2.1 u20.2.2.2.2.2.1 u20.2.2.2.2.2.2.1 u20.2.2.2.2.2.2.2.1 u20.2.2.2.2.2.2.2.2.1 u20.2.2.2.2.2.2.2.2.2.1 u20.2.2.2.2.2.2.2.2.2.2.1 u20.2.2.2.2.2.2.2.2.2.2.2.1 u20.2.2.2.2.2.2.2.2.2.2.2.2 cvL cc cm ch dv dc dm dh gw gh gk gq gr gj gR gT gC)) (va_runV (As := []) (rest := [.ref (aC 0)]) ⟨hx, hb, hml, hown, hts⟩ (metX4_bestColumn l D cx aX aH aI aS aT ak aC aD aG db dn ql qf qz qi spL s1 s2 s3 s4 s5 sP sC sH tl kl kf cvL cc cm ch dv dc dm dh gw gh gk gq gr gj gR gT gC  N H.size u20 hu20) ⟨callB_of 0 hts (kc_gI wd_424) rfl rfl rfl (hts _ wd_40) (hts _ wd_421) (by decide +kernel) ⟨Nat.le_of_ble_eq_true rfl, Nat.le_of_ble_eq_true rfl⟩, hts _ wd_423, hts _ wd_11⟩ ⟨kc_blind _ _ _ _ _, va_recv hK hP (ci := 4) (q0 := 0) rfl rfl, kc_pre _ hK hN (hP.sub [0, 1, 2, 3, 4, 5, 6, 7, 8, 9, 10, 11, 12, 13, 14, 15, 16, 17, 18, 19, 20, 21, 22, 23, 24, 25, 26, 27, 28, 29, 30, 31, 32] rfl) (hD.sub [0, 1, 2, 3, 4, 5, 6, 7, 8, 9, 10, 11, 12, 13, 14, 15, 16, 17, 18, 19, 20, 21, 22, 23, 24, 25, 26, 27, 28, 29, 30, 31, 32] (by decide) rfl)⟩ rfl rfl hl.1 rfl (lv_room (Nat.le_of_ble_eq_true rfl)) dX4_play_50 ⟨(by show cl + az spL ≤ ka; omega), (by show sl + azs spL ≤ sa; omega)⟩) hP hD hS hA [0, 1, 2, 3, 4, 5, 6, 7, 8, 9, 10, 11, 12, 13, 14, 15, 16, 17, 18, 19, 20, 21, 22, 23, 24, 25, 26, 27, 28, 29, 30, 31, 32] [] [0, 1, 2, 3, 4, 5, 6, 7, 8, 9, 10, 11, 12, 13, 14, 15, 16, 17, 18, 19, 20, 21, 22, 23, 24, 25, 26, 27, 28, 29, 30, 31, 32] rfl rfl (by decide) (by decide) (fun _ => rfl) (by decide) (fun ak21 H locs hP hD hS => ?_)
            have hP : va_P D classes (wX cx aX aH aI aS aT ak21 aC aD (aC 0) (aD 0) aG db dn ql qf qz qi u20.2.1 u20.2.2.1 u20.2.2.2.1 u20.2.2.2.2.1 u20.2.2.2.2.2.1 u20.2.2.2.2.2.2.1 u20.2.2.2.2.2.2.2.1 u20.2.2.2.2.2.2.2.2.1 u20.2.2.2.2.2.2.2.2.2.1 u20.2.2.2.2.2.2.2.2.2.2.1 u20.2.2.2.2.2.2.2.2.2.2.2.1 u20.2.2.2.2.2.2.2.2.2.2.2.2 cvL cc cm ch dv dc dm dh gw gh gk gq gr gj gR gT gC) H := hP
            have hD : va_D A (wX cx aX aH aI aS aT ak21 aC aD (aC 0) (aD 0) aG db dn ql qf qz qi u20.2.1 u20.2.2.1 u20.2.2.2.1 u20.2.2.2.2.1 u20.2.2.2.2.2.1 u20.2.2.2.2.2.2.1 u20.2.2.2.2.2.2.2.1 u20.2.2.2.2.2.2.2.2.1 u20.2.2.2.2.2.2.2.2.2.1 u20.2.2.2.2.2.2.2.2.2.2.1 u20.2.2.2.2.2.2.2.2.2.2.2.1 u20.2.2.2.2.2.2.2.2.2.2.2.2 cvL cc cm ch dv dc dm dh gw gh gk gq gr gj gR gT gC) := hD
            obtain ⟨hzz, hf⟩ := okb_s hf
            have hzz : ¬ u20.2.1 = 0 := by simpa using hzz
            obtain ⟨u22, hu22, hf⟩ := ob_s hf
            refine kc_calli (wn := fun _ => (wX cx aX aH aI aS aT ak21 aC aD (aC 0) (aD 0) aG db dn ql qf qz qi u20.2.1 u20.2.2.1 u20.2.2.2.1 u20.2.2.2.2.1 u20.2.2.2.2.2.1 u20.2.2.2.2.2.2.1 u20.2.2.2.2.2.2.2.1 u20.2.2.2.2.2.2.2.2.1 u20.2.2.2.2.2.2.2.2.2.1 u20.2.2.2.2.2.2.2.2.2.2.1 u20.2.2.2.2.2.2.2.2.2.2.2.1 u20.2.2.2.2.2.2.2.2.2.2.2.2 u22.2.1 u22.2.2.1 u22.2.2.2.1 u22.2.2.2.2 dv dc dm dh gw gh gk gq gr gj gR gT gC)) (va_runV (As := [.int u20.1]) (rest := []) ⟨hx, hb, hml, hown, hts⟩ (metX0_make l D cx aC aG cvL cc cm ch gw gh gk gq gr gj gR gT gC u20.1 N H.size u22 hu22) ⟨callB_of 1 hts (kc_gI wd_292) rfl rfl rfl (hts _ wd_44) (hts _ wd_289) (by decide +kernel) ⟨Nat.le_of_ble_eq_true rfl, Nat.le_of_ble_eq_true rfl⟩, hts _ wd_290, hts _ wd_291⟩ ⟨kc_blind _ _ _ _ _, va_recv hK hP (ci := 0) (q0 := 21) rfl rfl, kc_pre _ hK hN (hP.sub [21, 22, 23, 24, 29, 30, 31, 32] rfl) (hD.sub [21, 22, 23, 24, 29, 30, 31, 32] (by decide) rfl)⟩ rfl rfl hl.1 rfl (lv_room (Nat.le_of_ble_eq_true rfl)) dX4_play_53 ⟨(by show _ + 0 ≤ ka; omega), (by show _ + 0 ≤ sa; omega)⟩) hP hD hS hA [21, 22, 23, 24, 29, 30, 31, 32] [0, 1, 2, 3, 4, 5, 6, 7, 8, 9, 10, 11, 12, 13, 14, 15, 16, 17, 18, 19, 20, 25, 26, 27, 28] [0, 1, 2, 3, 4, 5, 6, 7, 8, 9, 10, 11, 12, 13, 14, 15, 16, 17, 18, 19, 20, 25, 26, 27, 28, 21, 22, 23, 24, 29, 30, 31, 32] rfl rfl (by decide) (by decide) (fun _ => rfl) (by decide) (fun _ H locs hP hD hS => ?_)
            have hP : va_P D classes (wX cx aX aH aI aS aT ak21 aC aD (aC 0) (aD 0) aG db dn ql qf qz qi u20.2.1 u20.2.2.1 u20.2.2.2.1 u20.2.2.2.2.1 u20.2.2.2.2.2.1 u20.2.2.2.2.2.2.1 u20.2.2.2.2.2.2.2.1 u20.2.2.2.2.2.2.2.2.1 u20.2.2.2.2.2.2.2.2.2.1 u20.2.2.2.2.2.2.2.2.2.2.1 u20.2.2.2.2.2.2.2.2.2.2.2.1 u20.2.2.2.2.2.2.2.2.2.2.2.2 u22.2.1 u22.2.2.1 u22.2.2.2.1 u22.2.2.2.2 dv dc dm dh gw gh gk gq gr gj gR gT gC) H := hP
            have hD : va_D A (wX cx aX aH aI aS aT ak21 aC aD (aC 0) (aD 0) aG db dn ql qf qz qi u20.2.1 u20.2.2.1 u20.2.2.2.1 u20.2.2.2.2.1 u20.2.2.2.2.2.1 u20.2.2.2.2.2.2.1 u20.2.2.2.2.2.2.2.1 u20.2.2.2.2.2.2.2.2.1 u20.2.2.2.2.2.2.2.2.2.1 u20.2.2.2.2.2.2.2.2.2.2.1 u20.2.2.2.2.2.2.2.2.2.2.2.1 u20.2.2.2.2.2.2.2.2.2.2.2.2 u22.2.1 u22.2.2.1 u22.2.2.2.1 u22.2.2.2.2 dv dc dm dh gw gh gk gq gr gj gR gT gC) := hD
            refine lv_pop hx hb dX4_play_56 rfl ?_
            refine lv_iinc (v := (x2 + (1 : Int32))) (lv' := [(2, .int (x2 + (1 : Int32))), (0, .ref (aX 0)), (1, .int cv)]) hx hb dX4_play_57 hl (k := 2) rfl rfl (by decide) rfl (fun ls hl => ?_)
            refine lv_goto (tgt := 24) hx hb dX4_play_60 (by decide) ?_
            exact ih u20.2.1 u20.2.2.1 u20.2.2.2.1 u20.2.2.2.2.1 u20.2.2.2.2.2.1 u20.2.2.2.2.2.2.1 u20.2.2.2.2.2.2.2.1 u20.2.2.2.2.2.2.2.2.1 u20.2.2.2.2.2.2.2.2.2.1 u20.2.2.2.2.2.2.2.2.2.2.1 u20.2.2.2.2.2.2.2.2.2.2.2.1 u20.2.2.2.2.2.2.2.2.2.2.2.2 u22.2.1 u22.2.2.1 u22.2.2.2.1 u22.2.2.2.2 (x2 + (1 : Int32)) _ hf _ _ _ (by rw [az_1 hzz]; omega) (by rw [azs_1 hzz]; omega) H locs ls hP hD hS (lv_sub hl [1, 2, 0] rfl) hE
    have hka := hk9 u9 hu9 c10
    obtain ⟨u23, hu23, hf⟩ := ob_s hf
    refine L24 _ sp s1 s2 s3 s4 s5 sP sC sH tl kl kf cv cc cm ch cv u23 hu23 _ _ _ (by omega) (by omega) H locs ls hP hD hS (lv_sub hl [2, 1, 0] rfl) (fun ak cl sl hc1 hc2 H locs ls hP hD hS hl => ?_)
    refine W.widen (k := ka) (n := sa) hc1 hc2 ?_
    refine lv_aload_n hx hb dX4_play_63 rfl (lv_at hl 0 rfl) ?_
    refine va_get (D := D) (ci := 4) (v := .ref (aC 0)) (C := RX4) (T := TX4) (N := 7) hx hb hts iX4 hown hK hP 0 rfl rfl 3 (by decide) (hts _ wd_229) (fun _ h9 => h9) rfl dX4_play_64 ?_
    refine va_get (D := D) (ci := 0) (v := .int u23.2.2.2.2.2.2.2.2.2.2.2.2.1) (C := RX0) (T := TX0) (N := 5) hx hb hts iX0 hown hK hP 21 rfl rfl 4 (by decide) (hts _ wd_189) (fun _ h9 => h9) rfl dX4_play_67 ?_
    refine lv_iload_n hx hb dX4_play_70 rfl (lv_at hl 1 rfl) ?_
    refine lv_isub hx hb dX4_play_71 ?_
    obtain rfl := Option.some.inj hf
    exact kc_iret (ak) hx hb hr hk hP hD hS rfl dX4_play_72
  · replace hf := it_f c10 hf
    refine lv_sipush (v := (-201 : Int32)) hx hb dX4_play_10 (by decide) ?_
    obtain rfl := Option.some.inj hf
    refine W.widen (k := ka) (n := sa) (Nat.zero_le _) (Nat.zero_le _) ?_
    exact kc_iret (ak) hx hb hr hk hP hD hS rfl dX4_play_13
abbrev rmX4_positions (ka sa : Nat) : Room := { frames := 53, cells := ka, slots := sa, locals := 2071 }
set_option maxHeartbeats 4000000 in
set_option maxRecDepth 100000 in
theorem metX4_positions (l : Launch) (D : va_G) (cx : Nat → ClassId) (aX : Nat → Nat) (aH : Nat → Nat) (aI : Nat → Nat) (aS : Nat → Nat) (aT : Nat → Nat) (ak : Nat) (aC : Nat → Nat) (aD : Nat → Nat) (aG : Nat → Nat) (db : Int32) (dn : Int32) (ql : Nat → Int32) (qf : Nat → Int32) (qz : Nat → Int32) (qi : Nat → Nat → Int32) (sp : Int32) (s1 : Int32) (s2 : Int32) (s3 : Int32) (s4 : Int32) (s5 : Int32) (sP : Nat → Int32) (sC : Nat → Int32) (sH : Nat → Int32) (tl : Nat → Nat → Int32) (kl : Nat) (kf : Nat → Int64) (cv : Int32) (cc : Nat → Int32) (cm : Nat → Int32) (ch : Nat → Int32) (dv : Int32) (dc : Nat → Int32) (dm : Nat → Int32) (dh : Nat → Int32) (gw : Int32) (gh : Int32) (gk : Int32) (gq : Int32) (gr : Int32) (gj : Int32) (gR : Nat → Int32) (gT : Nat → Int32) (gC : Nat → Int32) (x1 : Int32) (N : Nat) (sz : Nat) (v : Int32 × Int32 × Int32 × Int32 × Int32 × Int32 × Int32 × (Nat → Int32) × (Nat → Int32) × (Nat → Int32) × (Nat → Nat → Int32) × Nat × (Nat → Int64)) (hf : fX4_positions N sp s1 s2 s3 s4 s5 sP sC sH tl kl kf gw gh gq gT gC x1 = some v) (ka sa : Nat) (hk9 : ∀ (u5 : Int32), fX4_isWithin N x1 (0 : Int32) gq = some u5 → (¬ (u5 = 0)) → (az sp ≤ ka ∧ azs sp ≤ sa)) : Met l yX4_positions (.code yX4_positions cX4_positions 2 (some .int) :: kc_TB) (rmX4_positions ka sa) (kc_Pre D cx (wX cx aX aH aI aS aT ak aC aD (aC 0) (aD 0) aG db dn ql qf qz qi sp s1 s2 s3 s4 s5 sP sC sH tl kl kf cv cc cm ch dv dc dm dh gw gh gk gq gr gj gR gT gC) [.ref (aX 0), .int x1] sz) (kc_Pi D (fun ak : Nat => (wX cx aX aH aI aS aT ak aC aD (aC 0) (aD 0) aG db dn ql qf qz qi v.2.1 v.2.2.1 v.2.2.2.1 v.2.2.2.2.1 v.2.2.2.2.2.1 v.2.2.2.2.2.2.1 v.2.2.2.2.2.2.2.1 v.2.2.2.2.2.2.2.2.1 v.2.2.2.2.2.2.2.2.2.1 v.2.2.2.2.2.2.2.2.2.2.1 v.2.2.2.2.2.2.2.2.2.2.2.1 v.2.2.2.2.2.2.2.2.2.2.2.2 cv cc cm ch dv dc dm dh gw gh gk gq gr gj gR gT gC)) v.1 (va_A (wX cx aX aH aI aS aT ak aC aD (aC 0) (aD 0) aG db dn ql qf qz qi sp s1 s2 s3 s4 s5 sP sC sH tl kl kf cv cc cm ch dv dc dm dh gw gh gk gq gr gj gR gT gC) sz)) ka sa (va_A (wX cx aX aH aI aS aT ak aC aD (aC 0) (aD 0) aG db dn ql qf qz qi sp s1 s2 s3 s4 s5 sP sC sH tl kl kf cv cc cm ch dv dc dm dh gw gh gk gq gr gj gR gT gC) sz) := by
  refine kc_entry (Qc := fun A => (kc_Pi D (fun ak : Nat => (wX cx aX aH aI aS aT ak aC aD (aC 0) (aD 0) aG db dn ql qf qz qi v.2.1 v.2.2.1 v.2.2.2.1 v.2.2.2.2.1 v.2.2.2.2.2.1 v.2.2.2.2.2.2.1 v.2.2.2.2.2.2.2.1 v.2.2.2.2.2.2.2.2.1 v.2.2.2.2.2.2.2.2.2.1 v.2.2.2.2.2.2.2.2.2.2.1 v.2.2.2.2.2.2.2.2.2.2.2.1 v.2.2.2.2.2.2.2.2.2.2.2.2 cv cc cm ch dv dc dm dh gw gh gk gq gr gj gR gT gC)) v.1 A)) (by decide) (Nat.le_of_ble_eq_true rfl) ?_
  intro p e s m below meth c A hx hb hr hk hml hown hin hts hN hK hP hD hS hA ls hl
  have hown : s.vm.findClass RX4 = some m.cls := hown
  have hl : lv_has ls 2 [(0, .ref (aX 0)), (1, .int x1)] := hl
  unfold fX4_positions at hf
  have hP : va_P D classes (wX cx aX aH aI aS aT ak aC aD (aC 0) (aD 0) aG db dn ql qf qz qi sp s1 s2 s3 s4 s5 sP sC sH tl kl kf cv cc cm ch dv dc dm dh gw gh gk gq gr gj gR gT gC) s.heap := hP
  obtain ⟨H, hH⟩ : ∃ H, H = s.heap := ⟨_, rfl⟩
  obtain ⟨locs, hL⟩ : ∃ locs : List Loc, locs = [] := ⟨_, rfl⟩
  have hS : va_S A s.heap H locs := by rw [hH, hL]; exact hS
  have hP : va_P D classes (wX cx aX aH aI aS aT ak aC aD (aC 0) (aD 0) aG db dn ql qf qz qi sp s1 s2 s3 s4 s5 sP sC sH tl kl kf cv cc cm ch dv dc dm dh gw gh gk gq gr gj gR gT gC) H := by rw [hH]; exact hP
  suffices hW : W p l e (rmX4_positions ka sa) s m ([.ref (aX 0), .int x1] : List Value).toArray below meth c H locs 0 0 (MQ below (kc_Pi D (fun ak : Nat => (wX cx aX aH aI aS aT ak aC aD (aC 0) (aD 0) aG db dn ql qf qz qi v.2.1 v.2.2.1 v.2.2.2.1 v.2.2.2.2.1 v.2.2.2.2.2.1 v.2.2.2.2.2.2.1 v.2.2.2.2.2.2.2.1 v.2.2.2.2.2.2.2.2.1 v.2.2.2.2.2.2.2.2.2.1 v.2.2.2.2.2.2.2.2.2.2.1 v.2.2.2.2.2.2.2.2.2.2.2.1 v.2.2.2.2.2.2.2.2.2.2.2.2 cv cc cm ch dv dc dm dh gw gh gk gq gr gj gR gT gC)) v.1 A) ([.ref (aX 0), .int x1] : List Value).toArray s ka sa A) (F0 m 0 ls []) by rw [hH, hL] at hW; exact hW
  clear hH hL
  refine lv_iload_n hx hb dX4_positions_0 rfl (lv_at hl 1 rfl) ?_
  refine lv_iconst (v := (0 : Int32)) hx hb dX4_positions_1 (by decide) ?_
  refine lv_aload_n hx hb dX4_positions_2 rfl (lv_at hl 0 rfl) ?_
  refine va_get (D := D) (ci := 4) (v := .ref (aG 0)) (C := RX4) (T := TX4) (N := 7) hx hb hts iX4 hown hK hP 0 rfl rfl 0 (by decide) (hts _ wd_226) (fun _ h9 => h9) rfl dX4_positions_3 ?_
  refine va_get (D := D) (ci := 1) (v := .int gq) (C := RX1) (T := TX1) (N := 9) hx hb hts iX1 hown hK hP 29 rfl rfl 3 (by decide) (hts _ wd_75) (fun _ h9 => h9) rfl dX4_positions_6 ?_
  obtain ⟨u5, hu5, hf⟩ := ob_s hf
  refine kc_calli (wn := fun _ => (wX cx aX aH aI aS aT ak aC aD (aC 0) (aD 0) aG db dn ql qf qz qi sp s1 s2 s3 s4 s5 sP sC sH tl kl kf cv cc cm ch dv dc dm dh gw gh gk gq gr gj gR gT gC)) (va_runS (As := [.int x1, .int (0 : Int32), .int gq]) (rest := []) ⟨hx, hb, hml, hown, hts⟩ (metX4_isWithin l D cx   x1 (0 : Int32) gq N H.size u5 hu5) ⟨callB_of 3 hts (kc_gI wd_254) rfl rfl rfl (hts _ wd_40) (hts _ wd_252) (by decide +kernel) ⟨Nat.le_of_ble_eq_true rfl, Nat.le_of_ble_eq_true rfl⟩, hts _ wd_253⟩ ⟨kc_blind _ _ _ _ _, kc_pre _ hK hN (hP.sub [] rfl) (hD.sub [] (by decide) rfl)⟩ rfl rfl hl.1 rfl (lv_room (Nat.le_of_ble_eq_true rfl)) dX4_positions_9 ⟨Nat.zero_le _, Nat.zero_le _⟩) hP hD hS hA [] [0, 1, 2, 3, 4, 5, 6, 7, 8, 9, 10, 11, 12, 13, 14, 15, 16, 17, 18, 19, 20, 21, 22, 23, 24, 25, 26, 27, 28, 29, 30, 31, 32] [0, 1, 2, 3, 4, 5, 6, 7, 8, 9, 10, 11, 12, 13, 14, 15, 16, 17, 18, 19, 20, 21, 22, 23, 24, 25, 26, 27, 28, 29, 30, 31, 32] rfl rfl (by decide) (by decide) (fun _ => rfl) (by decide) (fun _ H locs hP hD hS => ?_)
  have hP : va_P D classes (wX cx aX aH aI aS aT ak aC aD (aC 0) (aD 0) aG db dn ql qf qz qi sp s1 s2 s3 s4 s5 sP sC sH tl kl kf cv cc cm ch dv dc dm dh gw gh gk gq gr gj gR gT gC) H := hP
  have hD : va_D A (wX cx aX aH aI aS aT ak aC aD (aC 0) (aD 0) aG db dn ql qf qz qi sp s1 s2 s3 s4 s5 sP sC sH tl kl kf cv cc cm ch dv dc dm dh gw gh gk gq gr gj gR gT gC) := hD
  refine lv_if_eq (tgt := 27) hx hb dX4_positions_12 (by decide) (fun c6 => ?_) (fun c6 => ?_)
  · replace hf := it_t c6 hf
    refine lv_sipush (v := (-200 : Int32)) hx hb dX4_positions_27 (by decide) ?_
    obtain rfl := Option.some.inj hf
    refine W.widen (k := ka) (n := sa) (Nat.zero_le _) (Nat.zero_le _) ?_
    exact kc_iret (ak) hx hb hr hk hP hD hS rfl dX4_positions_30
  · replace hf := it_f c6 hf
    refine lv_aload_n hx hb dX4_positions_15 rfl (lv_at hl 0 rfl) ?_
    refine va_get (D := D) (ci := 4) (v := .ref (aS 0)) (C := RX4) (T := TX4) (N := 7) hx hb hts iX4 hown hK hP 0 rfl rfl 1 (by decide) (hts _ wd_227) (fun _ h9 => h9) rfl dX4_positions_16 ?_
    refine lv_iconst (v := (0 : Int32)) hx hb dX4_positions_19 (by decide) ?_
    refine lv_iload_n hx hb dX4_positions_20 rfl (lv_at hl 1 rfl) ?_
    have hka := hk9 u5 hu5 c6
    obtain ⟨u7, hu7, hf⟩ := ob_s hf
    refine kc_calli (wn := fun ak8 => (wX cx aX aH aI aS aT ak8 aC aD (aC 0) (aD 0) aG db dn ql qf qz qi u7.2.1 u7.2.2.1 u7.2.2.2.1 u7.2.2.2.2.1 u7.2.2.2.2.2.1 u7.2.2.2.2.2.2.1 u7.2.2.2.2.2.2.2.1 u7.2.2.2.2.2.2.2.2.1 u7.2.2.2.2.2.2.2.2.2.1 u7.2.2.2.2.2.2.2.2.2.2.1 u7.2.2.2.2.2.2.2.2.2.2.2.1 u7.2.2.2.2.2.2.2.2.2.2.2.2 cv cc cm ch dv dc dm dh gw gh gk gq gr gj gR gT gC)) (va_runV (As := [.int (0 : Int32), .int x1]) (rest := []) ⟨hx, hb, hml, hown, hts⟩ (metX3_tally l D cx aS aT ak aG sp s1 s2 s3 s4 s5 sP sC sH tl kl kf gw gh gk gq gr gj gR gT gC (0 : Int32) x1 N H.size u7 hu7) ⟨callB_of 2 hts (kc_gI wd_440) rfl rfl rfl (hts _ wd_43) (hts _ wd_437) (by decide +kernel) ⟨Nat.le_of_ble_eq_true rfl, Nat.le_of_ble_eq_true rfl⟩, hts _ wd_438, hts _ wd_439⟩ ⟨kc_blind _ _ _ _ _, va_recv hK hP (ci := 3) (q0 := 10) rfl rfl, kc_pre _ hK hN (hP.sub [10, 11, 12, 13, 14, 15, 16, 17, 18, 19, 20, 29, 30, 31, 32] rfl) (hD.sub [10, 11, 12, 13, 14, 15, 16, 17, 18, 19, 20, 29, 30, 31, 32] (by decide) rfl)⟩ rfl rfl hl.1 rfl (lv_room (Nat.le_of_ble_eq_true rfl)) dX4_positions_21 ⟨(by show 0 + az sp ≤ ka; omega), (by show 0 + azs sp ≤ sa; omega)⟩) hP hD hS hA [10, 11, 12, 13, 14, 15, 16, 17, 18, 19, 20, 29, 30, 31, 32] [0, 1, 2, 3, 4, 5, 6, 7, 8, 9, 21, 22, 23, 24, 25, 26, 27, 28] [0, 1, 2, 3, 4, 5, 6, 7, 8, 9, 18, 19, 20, 21, 22, 23, 24, 25, 26, 27, 28, 10, 11, 12, 13, 14, 15, 16, 17, 29, 30, 31, 32] rfl rfl (by decide) (by decide) (fun _ => rfl) (by decide) (fun ak8 H locs hP hD hS => ?_)
    have hP : va_P D classes (wX cx aX aH aI aS aT ak8 aC aD (aC 0) (aD 0) aG db dn ql qf qz qi u7.2.1 u7.2.2.1 u7.2.2.2.1 u7.2.2.2.2.1 u7.2.2.2.2.2.1 u7.2.2.2.2.2.2.1 u7.2.2.2.2.2.2.2.1 u7.2.2.2.2.2.2.2.2.1 u7.2.2.2.2.2.2.2.2.2.1 u7.2.2.2.2.2.2.2.2.2.2.1 u7.2.2.2.2.2.2.2.2.2.2.2.1 u7.2.2.2.2.2.2.2.2.2.2.2.2 cv cc cm ch dv dc dm dh gw gh gk gq gr gj gR gT gC) H := hP
    have hD : va_D A (wX cx aX aH aI aS aT ak8 aC aD (aC 0) (aD 0) aG db dn ql qf qz qi u7.2.1 u7.2.2.1 u7.2.2.2.1 u7.2.2.2.2.1 u7.2.2.2.2.2.1 u7.2.2.2.2.2.2.1 u7.2.2.2.2.2.2.2.1 u7.2.2.2.2.2.2.2.2.1 u7.2.2.2.2.2.2.2.2.2.1 u7.2.2.2.2.2.2.2.2.2.2.1 u7.2.2.2.2.2.2.2.2.2.2.2.1 u7.2.2.2.2.2.2.2.2.2.2.2.2 cv cc cm ch dv dc dm dh gw gh gk gq gr gj gR gT gC) := hD
    refine W.widen (k := ka) (n := sa) (by omega) (by omega) ?_
    refine lv_goto (tgt := 30) hx hb dX4_positions_24 (by decide) ?_
    obtain rfl := Option.some.inj hf
    exact kc_iret (ak8) hx hb hr hk hP hD hS rfl dX4_positions_30
abbrev rmX4_wins (ka sa : Nat) : Room := { frames := 53, cells := ka, slots := sa, locals := 2071 }
set_option maxHeartbeats 4000000 in
set_option maxRecDepth 100000 in
theorem metX4_wins (l : Launch) (D : va_G) (cx : Nat → ClassId) (aX : Nat → Nat) (aH : Nat → Nat) (aI : Nat → Nat) (aS : Nat → Nat) (aT : Nat → Nat) (ak : Nat) (aC : Nat → Nat) (aD : Nat → Nat) (aG : Nat → Nat) (db : Int32) (dn : Int32) (ql : Nat → Int32) (qf : Nat → Int32) (qz : Nat → Int32) (qi : Nat → Nat → Int32) (sp : Int32) (s1 : Int32) (s2 : Int32) (s3 : Int32) (s4 : Int32) (s5 : Int32) (sP : Nat → Int32) (sC : Nat → Int32) (sH : Nat → Int32) (tl : Nat → Nat → Int32) (kl : Nat) (kf : Nat → Int64) (cv : Int32) (cc : Nat → Int32) (cm : Nat → Int32) (ch : Nat → Int32) (dv : Int32) (dc : Nat → Int32) (dm : Nat → Int32) (dh : Nat → Int32) (gw : Int32) (gh : Int32) (gk : Int32) (gq : Int32) (gr : Int32) (gj : Int32) (gR : Nat → Int32) (gT : Nat → Int32) (gC : Nat → Int32) (x1 : Int32) (N : Nat) (sz : Nat) (v : Int32 × Int32 × Int32 × Int32 × Int32 × Int32 × Int32 × (Nat → Int32) × (Nat → Int32) × (Nat → Int32) × (Nat → Nat → Int32) × Nat × (Nat → Int64)) (hf : fX4_wins N sp s1 s2 s3 s4 s5 sP sC sH tl kl kf gw gh gq gT gC x1 = some v) (ka sa : Nat) (hk9 : ∀ (u5 : Int32), fX4_isWithin N x1 (0 : Int32) gq = some u5 → (¬ (u5 = 0)) → (az sp ≤ ka ∧ azs sp ≤ sa)) : Met l yX4_wins (.code yX4_wins cX4_wins 2 (some .int) :: kc_TB) (rmX4_wins ka sa) (kc_Pre D cx (wX cx aX aH aI aS aT ak aC aD (aC 0) (aD 0) aG db dn ql qf qz qi sp s1 s2 s3 s4 s5 sP sC sH tl kl kf cv cc cm ch dv dc dm dh gw gh gk gq gr gj gR gT gC) [.ref (aX 0), .int x1] sz) (kc_Pi D (fun ak : Nat => (wX cx aX aH aI aS aT ak aC aD (aC 0) (aD 0) aG db dn ql qf qz qi v.2.1 v.2.2.1 v.2.2.2.1 v.2.2.2.2.1 v.2.2.2.2.2.1 v.2.2.2.2.2.2.1 v.2.2.2.2.2.2.2.1 v.2.2.2.2.2.2.2.2.1 v.2.2.2.2.2.2.2.2.2.1 v.2.2.2.2.2.2.2.2.2.2.1 v.2.2.2.2.2.2.2.2.2.2.2.1 v.2.2.2.2.2.2.2.2.2.2.2.2 cv cc cm ch dv dc dm dh gw gh gk gq gr gj gR gT gC)) v.1 (va_A (wX cx aX aH aI aS aT ak aC aD (aC 0) (aD 0) aG db dn ql qf qz qi sp s1 s2 s3 s4 s5 sP sC sH tl kl kf cv cc cm ch dv dc dm dh gw gh gk gq gr gj gR gT gC) sz)) ka sa (va_A (wX cx aX aH aI aS aT ak aC aD (aC 0) (aD 0) aG db dn ql qf qz qi sp s1 s2 s3 s4 s5 sP sC sH tl kl kf cv cc cm ch dv dc dm dh gw gh gk gq gr gj gR gT gC) sz) := by
  refine kc_entry (Qc := fun A => (kc_Pi D (fun ak : Nat => (wX cx aX aH aI aS aT ak aC aD (aC 0) (aD 0) aG db dn ql qf qz qi v.2.1 v.2.2.1 v.2.2.2.1 v.2.2.2.2.1 v.2.2.2.2.2.1 v.2.2.2.2.2.2.1 v.2.2.2.2.2.2.2.1 v.2.2.2.2.2.2.2.2.1 v.2.2.2.2.2.2.2.2.2.1 v.2.2.2.2.2.2.2.2.2.2.1 v.2.2.2.2.2.2.2.2.2.2.2.1 v.2.2.2.2.2.2.2.2.2.2.2.2 cv cc cm ch dv dc dm dh gw gh gk gq gr gj gR gT gC)) v.1 A)) (by decide) (Nat.le_of_ble_eq_true rfl) ?_
  intro p e s m below meth c A hx hb hr hk hml hown hin hts hN hK hP hD hS hA ls hl
  have hown : s.vm.findClass RX4 = some m.cls := hown
  have hl : lv_has ls 2 [(0, .ref (aX 0)), (1, .int x1)] := hl
  unfold fX4_wins at hf
  have hP : va_P D classes (wX cx aX aH aI aS aT ak aC aD (aC 0) (aD 0) aG db dn ql qf qz qi sp s1 s2 s3 s4 s5 sP sC sH tl kl kf cv cc cm ch dv dc dm dh gw gh gk gq gr gj gR gT gC) s.heap := hP
  obtain ⟨H, hH⟩ : ∃ H, H = s.heap := ⟨_, rfl⟩
  obtain ⟨locs, hL⟩ : ∃ locs : List Loc, locs = [] := ⟨_, rfl⟩
  have hS : va_S A s.heap H locs := by rw [hH, hL]; exact hS
  have hP : va_P D classes (wX cx aX aH aI aS aT ak aC aD (aC 0) (aD 0) aG db dn ql qf qz qi sp s1 s2 s3 s4 s5 sP sC sH tl kl kf cv cc cm ch dv dc dm dh gw gh gk gq gr gj gR gT gC) H := by rw [hH]; exact hP
  suffices hW : W p l e (rmX4_wins ka sa) s m ([.ref (aX 0), .int x1] : List Value).toArray below meth c H locs 0 0 (MQ below (kc_Pi D (fun ak : Nat => (wX cx aX aH aI aS aT ak aC aD (aC 0) (aD 0) aG db dn ql qf qz qi v.2.1 v.2.2.1 v.2.2.2.1 v.2.2.2.2.1 v.2.2.2.2.2.1 v.2.2.2.2.2.2.1 v.2.2.2.2.2.2.2.1 v.2.2.2.2.2.2.2.2.1 v.2.2.2.2.2.2.2.2.2.1 v.2.2.2.2.2.2.2.2.2.2.1 v.2.2.2.2.2.2.2.2.2.2.2.1 v.2.2.2.2.2.2.2.2.2.2.2.2 cv cc cm ch dv dc dm dh gw gh gk gq gr gj gR gT gC)) v.1 A) ([.ref (aX 0), .int x1] : List Value).toArray s ka sa A) (F0 m 0 ls []) by rw [hH, hL] at hW; exact hW
  clear hH hL
  refine lv_iload_n hx hb dX4_wins_0 rfl (lv_at hl 1 rfl) ?_
  refine lv_iconst (v := (0 : Int32)) hx hb dX4_wins_1 (by decide) ?_
  refine lv_aload_n hx hb dX4_wins_2 rfl (lv_at hl 0 rfl) ?_
  refine va_get (D := D) (ci := 4) (v := .ref (aG 0)) (C := RX4) (T := TX4) (N := 7) hx hb hts iX4 hown hK hP 0 rfl rfl 0 (by decide) (hts _ wd_226) (fun _ h9 => h9) rfl dX4_wins_3 ?_
  refine va_get (D := D) (ci := 1) (v := .int gq) (C := RX1) (T := TX1) (N := 9) hx hb hts iX1 hown hK hP 29 rfl rfl 3 (by decide) (hts _ wd_75) (fun _ h9 => h9) rfl dX4_wins_6 ?_
  obtain ⟨u5, hu5, hf⟩ := ob_s hf
  refine kc_calli (wn := fun _ => (wX cx aX aH aI aS aT ak aC aD (aC 0) (aD 0) aG db dn ql qf qz qi sp s1 s2 s3 s4 s5 sP sC sH tl kl kf cv cc cm ch dv dc dm dh gw gh gk gq gr gj gR gT gC)) (va_runS (As := [.int x1, .int (0 : Int32), .int gq]) (rest := []) ⟨hx, hb, hml, hown, hts⟩ (metX4_isWithin l D cx   x1 (0 : Int32) gq N H.size u5 hu5) ⟨callB_of 3 hts (kc_gI wd_254) rfl rfl rfl (hts _ wd_40) (hts _ wd_252) (by decide +kernel) ⟨Nat.le_of_ble_eq_true rfl, Nat.le_of_ble_eq_true rfl⟩, hts _ wd_253⟩ ⟨kc_blind _ _ _ _ _, kc_pre _ hK hN (hP.sub [] rfl) (hD.sub [] (by decide) rfl)⟩ rfl rfl hl.1 rfl (lv_room (Nat.le_of_ble_eq_true rfl)) dX4_wins_9 ⟨Nat.zero_le _, Nat.zero_le _⟩) hP hD hS hA [] [0, 1, 2, 3, 4, 5, 6, 7, 8, 9, 10, 11, 12, 13, 14, 15, 16, 17, 18, 19, 20, 21, 22, 23, 24, 25, 26, 27, 28, 29, 30, 31, 32] [0, 1, 2, 3, 4, 5, 6, 7, 8, 9, 10, 11, 12, 13, 14, 15, 16, 17, 18, 19, 20, 21, 22, 23, 24, 25, 26, 27, 28, 29, 30, 31, 32] rfl rfl (by decide) (by decide) (fun _ => rfl) (by decide) (fun _ H locs hP hD hS => ?_)
  have hP : va_P D classes (wX cx aX aH aI aS aT ak aC aD (aC 0) (aD 0) aG db dn ql qf qz qi sp s1 s2 s3 s4 s5 sP sC sH tl kl kf cv cc cm ch dv dc dm dh gw gh gk gq gr gj gR gT gC) H := hP
  have hD : va_D A (wX cx aX aH aI aS aT ak aC aD (aC 0) (aD 0) aG db dn ql qf qz qi sp s1 s2 s3 s4 s5 sP sC sH tl kl kf cv cc cm ch dv dc dm dh gw gh gk gq gr gj gR gT gC) := hD
  refine lv_if_eq (tgt := 27) hx hb dX4_wins_12 (by decide) (fun c6 => ?_) (fun c6 => ?_)
  · replace hf := it_t c6 hf
    refine lv_sipush (v := (-200 : Int32)) hx hb dX4_wins_27 (by decide) ?_
    obtain rfl := Option.some.inj hf
    refine W.widen (k := ka) (n := sa) (Nat.zero_le _) (Nat.zero_le _) ?_
    exact kc_iret (ak) hx hb hr hk hP hD hS rfl dX4_wins_30
  · replace hf := it_f c6 hf
    refine lv_aload_n hx hb dX4_wins_15 rfl (lv_at hl 0 rfl) ?_
    refine va_get (D := D) (ci := 4) (v := .ref (aS 0)) (C := RX4) (T := TX4) (N := 7) hx hb hts iX4 hown hK hP 0 rfl rfl 1 (by decide) (hts _ wd_227) (fun _ h9 => h9) rfl dX4_wins_16 ?_
    refine lv_iconst (v := (1 : Int32)) hx hb dX4_wins_19 (by decide) ?_
    refine lv_iload_n hx hb dX4_wins_20 rfl (lv_at hl 1 rfl) ?_
    have hka := hk9 u5 hu5 c6
    obtain ⟨u7, hu7, hf⟩ := ob_s hf
    refine kc_calli (wn := fun ak8 => (wX cx aX aH aI aS aT ak8 aC aD (aC 0) (aD 0) aG db dn ql qf qz qi u7.2.1 u7.2.2.1 u7.2.2.2.1 u7.2.2.2.2.1 u7.2.2.2.2.2.1 u7.2.2.2.2.2.2.1 u7.2.2.2.2.2.2.2.1 u7.2.2.2.2.2.2.2.2.1 u7.2.2.2.2.2.2.2.2.2.1 u7.2.2.2.2.2.2.2.2.2.2.1 u7.2.2.2.2.2.2.2.2.2.2.2.1 u7.2.2.2.2.2.2.2.2.2.2.2.2 cv cc cm ch dv dc dm dh gw gh gk gq gr gj gR gT gC)) (va_runV (As := [.int (1 : Int32), .int x1]) (rest := []) ⟨hx, hb, hml, hown, hts⟩ (metX3_tally l D cx aS aT ak aG sp s1 s2 s3 s4 s5 sP sC sH tl kl kf gw gh gk gq gr gj gR gT gC (1 : Int32) x1 N H.size u7 hu7) ⟨callB_of 2 hts (kc_gI wd_440) rfl rfl rfl (hts _ wd_43) (hts _ wd_437) (by decide +kernel) ⟨Nat.le_of_ble_eq_true rfl, Nat.le_of_ble_eq_true rfl⟩, hts _ wd_438, hts _ wd_439⟩ ⟨kc_blind _ _ _ _ _, va_recv hK hP (ci := 3) (q0 := 10) rfl rfl, kc_pre _ hK hN (hP.sub [10, 11, 12, 13, 14, 15, 16, 17, 18, 19, 20, 29, 30, 31, 32] rfl) (hD.sub [10, 11, 12, 13, 14, 15, 16, 17, 18, 19, 20, 29, 30, 31, 32] (by decide) rfl)⟩ rfl rfl hl.1 rfl (lv_room (Nat.le_of_ble_eq_true rfl)) dX4_wins_21 ⟨(by show 0 + az sp ≤ ka; omega), (by show 0 + azs sp ≤ sa; omega)⟩) hP hD hS hA [10, 11, 12, 13, 14, 15, 16, 17, 18, 19, 20, 29, 30, 31, 32] [0, 1, 2, 3, 4, 5, 6, 7, 8, 9, 21, 22, 23, 24, 25, 26, 27, 28] [0, 1, 2, 3, 4, 5, 6, 7, 8, 9, 18, 19, 20, 21, 22, 23, 24, 25, 26, 27, 28, 10, 11, 12, 13, 14, 15, 16, 17, 29, 30, 31, 32] rfl rfl (by decide) (by decide) (fun _ => rfl) (by decide) (fun ak8 H locs hP hD hS => ?_)
    have hP : va_P D classes (wX cx aX aH aI aS aT ak8 aC aD (aC 0) (aD 0) aG db dn ql qf qz qi u7.2.1 u7.2.2.1 u7.2.2.2.1 u7.2.2.2.2.1 u7.2.2.2.2.2.1 u7.2.2.2.2.2.2.1 u7.2.2.2.2.2.2.2.1 u7.2.2.2.2.2.2.2.2.1 u7.2.2.2.2.2.2.2.2.2.1 u7.2.2.2.2.2.2.2.2.2.2.1 u7.2.2.2.2.2.2.2.2.2.2.2.1 u7.2.2.2.2.2.2.2.2.2.2.2.2 cv cc cm ch dv dc dm dh gw gh gk gq gr gj gR gT gC) H := hP
    have hD : va_D A (wX cx aX aH aI aS aT ak8 aC aD (aC 0) (aD 0) aG db dn ql qf qz qi u7.2.1 u7.2.2.1 u7.2.2.2.1 u7.2.2.2.2.1 u7.2.2.2.2.2.1 u7.2.2.2.2.2.2.1 u7.2.2.2.2.2.2.2.1 u7.2.2.2.2.2.2.2.2.1 u7.2.2.2.2.2.2.2.2.2.1 u7.2.2.2.2.2.2.2.2.2.2.1 u7.2.2.2.2.2.2.2.2.2.2.2.1 u7.2.2.2.2.2.2.2.2.2.2.2.2 cv cc cm ch dv dc dm dh gw gh gk gq gr gj gR gT gC) := hD
    refine W.widen (k := ka) (n := sa) (by omega) (by omega) ?_
    refine lv_goto (tgt := 30) hx hb dX4_wins_24 (by decide) ?_
    obtain rfl := Option.some.inj hf
    exact kc_iret (ak8) hx hb hr hk hP hD hS rfl dX4_wins_30
abbrev rmX4_share (ka sa : Nat) : Room := { frames := 53, cells := ka, slots := sa, locals := 2071 }
set_option maxHeartbeats 4000000 in
set_option maxRecDepth 100000 in
theorem metX4_share (l : Launch) (D : va_G) (cx : Nat → ClassId) (aX : Nat → Nat) (aH : Nat → Nat) (aI : Nat → Nat) (aS : Nat → Nat) (aT : Nat → Nat) (ak : Nat) (aC : Nat → Nat) (aD : Nat → Nat) (aG : Nat → Nat) (db : Int32) (dn : Int32) (ql : Nat → Int32) (qf : Nat → Int32) (qz : Nat → Int32) (qi : Nat → Nat → Int32) (sp : Int32) (s1 : Int32) (s2 : Int32) (s3 : Int32) (s4 : Int32) (s5 : Int32) (sP : Nat → Int32) (sC : Nat → Int32) (sH : Nat → Int32) (tl : Nat → Nat → Int32) (kl : Nat) (kf : Nat → Int64) (cv : Int32) (cc : Nat → Int32) (cm : Nat → Int32) (ch : Nat → Int32) (dv : Int32) (dc : Nat → Int32) (dm : Nat → Int32) (dh : Nat → Int32) (gw : Int32) (gh : Int32) (gk : Int32) (gq : Int32) (gr : Int32) (gj : Int32) (gR : Nat → Int32) (gT : Nat → Int32) (gC : Nat → Int32) (x1 : Int32) (x2 : Int32) (N : Nat) (sz : Nat) (v : Int32 × Int32 × Int32 × Int32 × Int32 × Int32 × Int32 × (Nat → Int32) × (Nat → Int32) × (Nat → Int32) × (Nat → Nat → Int32) × Nat × (Nat → Int64)) (hf : fX4_share N sp s1 s2 s3 s4 s5 sP sC sH tl kl kf gw gh gq gT gC x1 x2 = some v) (ka sa : Nat) (hk9 : ∀ (u7 : Int32), fX4_isWithin N x1 (0 : Int32) gq = some u7 → (¬ (u7 = 0)) → ∀ (u9 : Int32), fX4_isWithin N x2 (-1 : Int32) (1 : Int32) = some u9 → (¬ (u9 = 0)) → (az sp ≤ ka ∧ azs sp ≤ sa)) : Met l yX4_share (.code yX4_share cX4_share 3 (some .int) :: kc_TB) (rmX4_share ka sa) (kc_Pre D cx (wX cx aX aH aI aS aT ak aC aD (aC 0) (aD 0) aG db dn ql qf qz qi sp s1 s2 s3 s4 s5 sP sC sH tl kl kf cv cc cm ch dv dc dm dh gw gh gk gq gr gj gR gT gC) [.ref (aX 0), .int x1, .int x2] sz) (kc_Pi D (fun ak : Nat => (wX cx aX aH aI aS aT ak aC aD (aC 0) (aD 0) aG db dn ql qf qz qi v.2.1 v.2.2.1 v.2.2.2.1 v.2.2.2.2.1 v.2.2.2.2.2.1 v.2.2.2.2.2.2.1 v.2.2.2.2.2.2.2.1 v.2.2.2.2.2.2.2.2.1 v.2.2.2.2.2.2.2.2.2.1 v.2.2.2.2.2.2.2.2.2.2.1 v.2.2.2.2.2.2.2.2.2.2.2.1 v.2.2.2.2.2.2.2.2.2.2.2.2 cv cc cm ch dv dc dm dh gw gh gk gq gr gj gR gT gC)) v.1 (va_A (wX cx aX aH aI aS aT ak aC aD (aC 0) (aD 0) aG db dn ql qf qz qi sp s1 s2 s3 s4 s5 sP sC sH tl kl kf cv cc cm ch dv dc dm dh gw gh gk gq gr gj gR gT gC) sz)) ka sa (va_A (wX cx aX aH aI aS aT ak aC aD (aC 0) (aD 0) aG db dn ql qf qz qi sp s1 s2 s3 s4 s5 sP sC sH tl kl kf cv cc cm ch dv dc dm dh gw gh gk gq gr gj gR gT gC) sz) := by
  refine kc_entry (Qc := fun A => (kc_Pi D (fun ak : Nat => (wX cx aX aH aI aS aT ak aC aD (aC 0) (aD 0) aG db dn ql qf qz qi v.2.1 v.2.2.1 v.2.2.2.1 v.2.2.2.2.1 v.2.2.2.2.2.1 v.2.2.2.2.2.2.1 v.2.2.2.2.2.2.2.1 v.2.2.2.2.2.2.2.2.1 v.2.2.2.2.2.2.2.2.2.1 v.2.2.2.2.2.2.2.2.2.2.1 v.2.2.2.2.2.2.2.2.2.2.2.1 v.2.2.2.2.2.2.2.2.2.2.2.2 cv cc cm ch dv dc dm dh gw gh gk gq gr gj gR gT gC)) v.1 A)) (by decide) (Nat.le_of_ble_eq_true rfl) ?_
  intro p e s m below meth c A hx hb hr hk hml hown hin hts hN hK hP hD hS hA ls hl
  have hown : s.vm.findClass RX4 = some m.cls := hown
  have hl : lv_has ls 3 [(0, .ref (aX 0)), (1, .int x1), (2, .int x2)] := hl
  unfold fX4_share at hf
  have hP : va_P D classes (wX cx aX aH aI aS aT ak aC aD (aC 0) (aD 0) aG db dn ql qf qz qi sp s1 s2 s3 s4 s5 sP sC sH tl kl kf cv cc cm ch dv dc dm dh gw gh gk gq gr gj gR gT gC) s.heap := hP
  obtain ⟨H, hH⟩ : ∃ H, H = s.heap := ⟨_, rfl⟩
  obtain ⟨locs, hL⟩ : ∃ locs : List Loc, locs = [] := ⟨_, rfl⟩
  have hS : va_S A s.heap H locs := by rw [hH, hL]; exact hS
  have hP : va_P D classes (wX cx aX aH aI aS aT ak aC aD (aC 0) (aD 0) aG db dn ql qf qz qi sp s1 s2 s3 s4 s5 sP sC sH tl kl kf cv cc cm ch dv dc dm dh gw gh gk gq gr gj gR gT gC) H := by rw [hH]; exact hP
  suffices hW : W p l e (rmX4_share ka sa) s m ([.ref (aX 0), .int x1, .int x2] : List Value).toArray below meth c H locs 0 0 (MQ below (kc_Pi D (fun ak : Nat => (wX cx aX aH aI aS aT ak aC aD (aC 0) (aD 0) aG db dn ql qf qz qi v.2.1 v.2.2.1 v.2.2.2.1 v.2.2.2.2.1 v.2.2.2.2.2.1 v.2.2.2.2.2.2.1 v.2.2.2.2.2.2.2.1 v.2.2.2.2.2.2.2.2.1 v.2.2.2.2.2.2.2.2.2.1 v.2.2.2.2.2.2.2.2.2.2.1 v.2.2.2.2.2.2.2.2.2.2.2.1 v.2.2.2.2.2.2.2.2.2.2.2.2 cv cc cm ch dv dc dm dh gw gh gk gq gr gj gR gT gC)) v.1 A) ([.ref (aX 0), .int x1, .int x2] : List Value).toArray s ka sa A) (F0 m 0 ls []) by rw [hH, hL] at hW; exact hW
  clear hH hL
  refine lv_iload_n hx hb dX4_share_0 rfl (lv_at hl 1 rfl) ?_
  refine lv_iconst (v := (0 : Int32)) hx hb dX4_share_1 (by decide) ?_
  refine lv_aload_n hx hb dX4_share_2 rfl (lv_at hl 0 rfl) ?_
  refine va_get (D := D) (ci := 4) (v := .ref (aG 0)) (C := RX4) (T := TX4) (N := 7) hx hb hts iX4 hown hK hP 0 rfl rfl 0 (by decide) (hts _ wd_226) (fun _ h9 => h9) rfl dX4_share_3 ?_
  refine va_get (D := D) (ci := 1) (v := .int gq) (C := RX1) (T := TX1) (N := 9) hx hb hts iX1 hown hK hP 29 rfl rfl 3 (by decide) (hts _ wd_75) (fun _ h9 => h9) rfl dX4_share_6 ?_
  obtain ⟨u7, hu7, hf⟩ := ob_s hf
  refine kc_calli (wn := fun _ => (wX cx aX aH aI aS aT ak aC aD (aC 0) (aD 0) aG db dn ql qf qz qi sp s1 s2 s3 s4 s5 sP sC sH tl kl kf cv cc cm ch dv dc dm dh gw gh gk gq gr gj gR gT gC)) (va_runS (As := [.int x1, .int (0 : Int32), .int gq]) (rest := []) ⟨hx, hb, hml, hown, hts⟩ (metX4_isWithin l D cx   x1 (0 : Int32) gq N H.size u7 hu7) ⟨callB_of 3 hts (kc_gI wd_254) rfl rfl rfl (hts _ wd_40) (hts _ wd_252) (by decide +kernel) ⟨Nat.le_of_ble_eq_true rfl, Nat.le_of_ble_eq_true rfl⟩, hts _ wd_253⟩ ⟨kc_blind _ _ _ _ _, kc_pre _ hK hN (hP.sub [] rfl) (hD.sub [] (by decide) rfl)⟩ rfl rfl hl.1 rfl (lv_room (Nat.le_of_ble_eq_true rfl)) dX4_share_9 ⟨Nat.zero_le _, Nat.zero_le _⟩) hP hD hS hA [] [0, 1, 2, 3, 4, 5, 6, 7, 8, 9, 10, 11, 12, 13, 14, 15, 16, 17, 18, 19, 20, 21, 22, 23, 24, 25, 26, 27, 28, 29, 30, 31, 32] [0, 1, 2, 3, 4, 5, 6, 7, 8, 9, 10, 11, 12, 13, 14, 15, 16, 17, 18, 19, 20, 21, 22, 23, 24, 25, 26, 27, 28, 29, 30, 31, 32] rfl rfl (by decide) (by decide) (fun _ => rfl) (by decide) (fun _ H locs hP hD hS => ?_)
  have hP : va_P D classes (wX cx aX aH aI aS aT ak aC aD (aC 0) (aD 0) aG db dn ql qf qz qi sp s1 s2 s3 s4 s5 sP sC sH tl kl kf cv cc cm ch dv dc dm dh gw gh gk gq gr gj gR gT gC) H := hP
  have hD : va_D A (wX cx aX aH aI aS aT ak aC aD (aC 0) (aD 0) aG db dn ql qf qz qi sp s1 s2 s3 s4 s5 sP sC sH tl kl kf cv cc cm ch dv dc dm dh gw gh gk gq gr gj gR gT gC) := hD
  refine lv_if_eq (tgt := 24) hx hb dX4_share_12 (by decide) (fun c8 => ?_) (fun c8 => ?_)
  · replace hf := it_t c8 hf
    refine lv_sipush (v := (-200 : Int32)) hx hb dX4_share_24 (by decide) ?_
    obtain rfl := Option.some.inj hf
    refine W.widen (k := ka) (n := sa) (Nat.zero_le _) (Nat.zero_le _) ?_
    exact kc_iret (ak) hx hb hr hk hP hD hS rfl dX4_share_27
  · replace hf := it_f c8 hf
    refine lv_iload_n hx hb dX4_share_15 rfl (lv_at hl 2 rfl) ?_
    refine lv_iconst (v := (-1 : Int32)) hx hb dX4_share_16 (by decide) ?_
    refine lv_iconst (v := (1 : Int32)) hx hb dX4_share_17 (by decide) ?_
    obtain ⟨u9, hu9, hf⟩ := ob_s hf
    refine kc_calli (wn := fun _ => (wX cx aX aH aI aS aT ak aC aD (aC 0) (aD 0) aG db dn ql qf qz qi sp s1 s2 s3 s4 s5 sP sC sH tl kl kf cv cc cm ch dv dc dm dh gw gh gk gq gr gj gR gT gC)) (va_runS (As := [.int x2, .int (-1 : Int32), .int (1 : Int32)]) (rest := []) ⟨hx, hb, hml, hown, hts⟩ (metX4_isWithin l D cx   x2 (-1 : Int32) (1 : Int32) N H.size u9 hu9) ⟨callB_of 3 hts (kc_gI wd_254) rfl rfl rfl (hts _ wd_40) (hts _ wd_252) (by decide +kernel) ⟨Nat.le_of_ble_eq_true rfl, Nat.le_of_ble_eq_true rfl⟩, hts _ wd_253⟩ ⟨kc_blind _ _ _ _ _, kc_pre _ hK hN (hP.sub [] rfl) (hD.sub [] (by decide) rfl)⟩ rfl rfl hl.1 rfl (lv_room (Nat.le_of_ble_eq_true rfl)) dX4_share_18 ⟨Nat.zero_le _, Nat.zero_le _⟩) hP hD hS hA [] [0, 1, 2, 3, 4, 5, 6, 7, 8, 9, 10, 11, 12, 13, 14, 15, 16, 17, 18, 19, 20, 21, 22, 23, 24, 25, 26, 27, 28, 29, 30, 31, 32] [0, 1, 2, 3, 4, 5, 6, 7, 8, 9, 10, 11, 12, 13, 14, 15, 16, 17, 18, 19, 20, 21, 22, 23, 24, 25, 26, 27, 28, 29, 30, 31, 32] rfl rfl (by decide) (by decide) (fun _ => rfl) (by decide) (fun _ H locs hP hD hS => ?_)
    have hP : va_P D classes (wX cx aX aH aI aS aT ak aC aD (aC 0) (aD 0) aG db dn ql qf qz qi sp s1 s2 s3 s4 s5 sP sC sH tl kl kf cv cc cm ch dv dc dm dh gw gh gk gq gr gj gR gT gC) H := hP
    have hD : va_D A (wX cx aX aH aI aS aT ak aC aD (aC 0) (aD 0) aG db dn ql qf qz qi sp s1 s2 s3 s4 s5 sP sC sH tl kl kf cv cc cm ch dv dc dm dh gw gh gk gq gr gj gR gT gC) := hD
    refine lv_if_ne (tgt := 28) hx hb dX4_share_21 (by decide) (fun c10 => ?_) (fun c10 => ?_)
    · replace hf := it_f c10 hf
      refine lv_aload_n hx hb dX4_share_28 rfl (lv_at hl 0 rfl) ?_
      refine va_get (D := D) (ci := 4) (v := .ref (aS 0)) (C := RX4) (T := TX4) (N := 7) hx hb hts iX4 hown hK hP 0 rfl rfl 1 (by decide) (hts _ wd_227) (fun _ h9 => h9) rfl dX4_share_29 ?_
      refine lv_iconst (v := (3 : Int32)) hx hb dX4_share_32 (by decide) ?_
      refine lv_iload_n hx hb dX4_share_33 rfl (lv_at hl 2 rfl) ?_
      refine lv_iadd hx hb dX4_share_34 ?_
      refine lv_iload_n hx hb dX4_share_35 rfl (lv_at hl 1 rfl) ?_
      have hka := hk9 u7 hu7 c8 u9 hu9 c10
      obtain ⟨u11, hu11, hf⟩ := ob_s hf
      refine kc_calli (wn := fun ak12 => (wX cx aX aH aI aS aT ak12 aC aD (aC 0) (aD 0) aG db dn ql qf qz qi u11.2.1 u11.2.2.1 u11.2.2.2.1 u11.2.2.2.2.1 u11.2.2.2.2.2.1 u11.2.2.2.2.2.2.1 u11.2.2.2.2.2.2.2.1 u11.2.2.2.2.2.2.2.2.1 u11.2.2.2.2.2.2.2.2.2.1 u11.2.2.2.2.2.2.2.2.2.2.1 u11.2.2.2.2.2.2.2.2.2.2.2.1 u11.2.2.2.2.2.2.2.2.2.2.2.2 cv cc cm ch dv dc dm dh gw gh gk gq gr gj gR gT gC)) (va_runV (As := [.int ((3 : Int32) + x2), .int x1]) (rest := []) ⟨hx, hb, hml, hown, hts⟩ (metX3_tally l D cx aS aT ak aG sp s1 s2 s3 s4 s5 sP sC sH tl kl kf gw gh gk gq gr gj gR gT gC ((3 : Int32) + x2) x1 N H.size u11 hu11) ⟨callB_of 2 hts (kc_gI wd_440) rfl rfl rfl (hts _ wd_43) (hts _ wd_437) (by decide +kernel) ⟨Nat.le_of_ble_eq_true rfl, Nat.le_of_ble_eq_true rfl⟩, hts _ wd_438, hts _ wd_439⟩ ⟨kc_blind _ _ _ _ _, va_recv hK hP (ci := 3) (q0 := 10) rfl rfl, kc_pre _ hK hN (hP.sub [10, 11, 12, 13, 14, 15, 16, 17, 18, 19, 20, 29, 30, 31, 32] rfl) (hD.sub [10, 11, 12, 13, 14, 15, 16, 17, 18, 19, 20, 29, 30, 31, 32] (by decide) rfl)⟩ rfl rfl hl.1 rfl (lv_room (Nat.le_of_ble_eq_true rfl)) dX4_share_36 ⟨(by show 0 + az sp ≤ ka; omega), (by show 0 + azs sp ≤ sa; omega)⟩) hP hD hS hA [10, 11, 12, 13, 14, 15, 16, 17, 18, 19, 20, 29, 30, 31, 32] [0, 1, 2, 3, 4, 5, 6, 7, 8, 9, 21, 22, 23, 24, 25, 26, 27, 28] [0, 1, 2, 3, 4, 5, 6, 7, 8, 9, 18, 19, 20, 21, 22, 23, 24, 25, 26, 27, 28, 10, 11, 12, 13, 14, 15, 16, 17, 29, 30, 31, 32] rfl rfl (by decide) (by decide) (fun _ => rfl) (by decide) (fun ak12 H locs hP hD hS => ?_)
      have hP : va_P D classes (wX cx aX aH aI aS aT ak12 aC aD (aC 0) (aD 0) aG db dn ql qf qz qi u11.2.1 u11.2.2.1 u11.2.2.2.1 u11.2.2.2.2.1 u11.2.2.2.2.2.1 u11.2.2.2.2.2.2.1 u11.2.2.2.2.2.2.2.1 u11.2.2.2.2.2.2.2.2.1 u11.2.2.2.2.2.2.2.2.2.1 u11.2.2.2.2.2.2.2.2.2.2.1 u11.2.2.2.2.2.2.2.2.2.2.2.1 u11.2.2.2.2.2.2.2.2.2.2.2.2 cv cc cm ch dv dc dm dh gw gh gk gq gr gj gR gT gC) H := hP
      have hD : va_D A (wX cx aX aH aI aS aT ak12 aC aD (aC 0) (aD 0) aG db dn ql qf qz qi u11.2.1 u11.2.2.1 u11.2.2.2.1 u11.2.2.2.2.1 u11.2.2.2.2.2.1 u11.2.2.2.2.2.2.1 u11.2.2.2.2.2.2.2.1 u11.2.2.2.2.2.2.2.2.1 u11.2.2.2.2.2.2.2.2.2.1 u11.2.2.2.2.2.2.2.2.2.2.1 u11.2.2.2.2.2.2.2.2.2.2.2.1 u11.2.2.2.2.2.2.2.2.2.2.2.2 cv cc cm ch dv dc dm dh gw gh gk gq gr gj gR gT gC) := hD
      refine W.widen (k := ka) (n := sa) (by omega) (by omega) ?_
      obtain rfl := Option.some.inj hf
      exact kc_iret (ak12) hx hb hr hk hP hD hS rfl dX4_share_39
    · replace hf := it_t c10 hf
      refine lv_sipush (v := (-200 : Int32)) hx hb dX4_share_24 (by decide) ?_
      obtain rfl := Option.some.inj hf
      refine W.widen (k := ka) (n := sa) (Nat.zero_le _) (Nat.zero_le _) ?_
      exact kc_iret (ak) hx hb hr hk hP hD hS rfl dX4_share_27
abbrev rmX4_even : Room := { frames := 1, cells := 0, slots := 0, locals := 22 }
set_option maxHeartbeats 4000000 in
set_option maxRecDepth 100000 in
theorem metX4_even (l : Launch) (D : va_G) (cx : Nat → ClassId) (aX : Nat → Nat) (aH : Nat → Nat) (aI : Nat → Nat) (aS : Nat → Nat) (aT : Nat → Nat) (ak : Nat) (aC : Nat → Nat) (aD : Nat → Nat) (aG : Nat → Nat) (db : Int32) (dn : Int32) (ql : Nat → Int32) (qf : Nat → Int32) (qz : Nat → Int32) (qi : Nat → Nat → Int32) (sp : Int32) (s1 : Int32) (s2 : Int32) (s3 : Int32) (s4 : Int32) (s5 : Int32) (sP : Nat → Int32) (sC : Nat → Int32) (sH : Nat → Int32) (tl : Nat → Nat → Int32) (kl : Nat) (kf : Nat → Int64) (cv : Int32) (cc : Nat → Int32) (cm : Nat → Int32) (ch : Nat → Int32) (dv : Int32) (dc : Nat → Int32) (dm : Nat → Int32) (dh : Nat → Int32) (gw : Int32) (gh : Int32) (gk : Int32) (gq : Int32) (gr : Int32) (gj : Int32) (gR : Nat → Int32) (gT : Nat → Int32) (gC : Nat → Int32)  (N : Nat) (sz : Nat) (v : Int32) (hf : fX4_even N cm gw gq = some v) : Met l yX4_even (.code yX4_even cX4_even 2 (some .int) :: kc_TB) rmX4_even (kc_Pre D cx (wX cx aX aH aI aS aT ak aC aD (aC 0) (aD 0) aG db dn ql qf qz qi sp s1 s2 s3 s4 s5 sP sC sH tl kl kf cv cc cm ch dv dc dm dh gw gh gk gq gr gj gR gT gC) [.ref (aX 0)] sz) (kc_Pi D (fun _ : Unit => (wX cx aX aH aI aS aT ak aC aD (aC 0) (aD 0) aG db dn ql qf qz qi sp s1 s2 s3 s4 s5 sP sC sH tl kl kf cv cc cm ch dv dc dm dh gw gh gk gq gr gj gR gT gC)) v (va_A (wX cx aX aH aI aS aT ak aC aD (aC 0) (aD 0) aG db dn ql qf qz qi sp s1 s2 s3 s4 s5 sP sC sH tl kl kf cv cc cm ch dv dc dm dh gw gh gk gq gr gj gR gT gC) sz)) 0 0 (va_A (wX cx aX aH aI aS aT ak aC aD (aC 0) (aD 0) aG db dn ql qf qz qi sp s1 s2 s3 s4 s5 sP sC sH tl kl kf cv cc cm ch dv dc dm dh gw gh gk gq gr gj gR gT gC) sz) := by
  refine kc_entry (Qc := fun A => (kc_Pi D (fun _ : Unit => (wX cx aX aH aI aS aT ak aC aD (aC 0) (aD 0) aG db dn ql qf qz qi sp s1 s2 s3 s4 s5 sP sC sH tl kl kf cv cc cm ch dv dc dm dh gw gh gk gq gr gj gR gT gC)) v A)) (by decide) (Nat.le_of_ble_eq_true rfl) ?_
  intro p e s m below meth c A hx hb hr hk hml hown hin hts hN hK hP hD hS hA ls hl
  have hown : s.vm.findClass RX4 = some m.cls := hown
  have hl : lv_has ls 2 [(0, .ref (aX 0))] := hl
  unfold fX4_even at hf
  have hP : va_P D classes (wX cx aX aH aI aS aT ak aC aD (aC 0) (aD 0) aG db dn ql qf qz qi sp s1 s2 s3 s4 s5 sP sC sH tl kl kf cv cc cm ch dv dc dm dh gw gh gk gq gr gj gR gT gC) s.heap := hP
  obtain ⟨H, hH⟩ : ∃ H, H = s.heap := ⟨_, rfl⟩
  obtain ⟨locs, hL⟩ : ∃ locs : List Loc, locs = [] := ⟨_, rfl⟩
  have hS : va_S A s.heap H locs := by rw [hH, hL]; exact hS
  have hP : va_P D classes (wX cx aX aH aI aS aT ak aC aD (aC 0) (aD 0) aG db dn ql qf qz qi sp s1 s2 s3 s4 s5 sP sC sH tl kl kf cv cc cm ch dv dc dm dh gw gh gk gq gr gj gR gT gC) H := by rw [hH]; exact hP
  suffices hW : W p l e rmX4_even s m ([.ref (aX 0)] : List Value).toArray below meth c H locs 0 0 (MQ below (kc_Pi D (fun _ : Unit => (wX cx aX aH aI aS aT ak aC aD (aC 0) (aD 0) aG db dn ql qf qz qi sp s1 s2 s3 s4 s5 sP sC sH tl kl kf cv cc cm ch dv dc dm dh gw gh gk gq gr gj gR gT gC)) v A) ([.ref (aX 0)] : List Value).toArray s 0 0 A) (F0 m 0 ls []) by rw [hH, hL] at hW; exact hW
  clear hH hL
  refine lv_iconst (v := (0 : Int32)) hx hb dX4_even_0 (by decide) ?_
  refine lv_istore_n (lv' := [(1, .int (0 : Int32)), (0, .ref (aX 0))]) hx hb dX4_even_1 rfl hl (by decide) rfl (fun ls hl => ?_)
  have L2 : ∀ (ct : Nat) (x1 : Int32) (v2 : (Int32) ⊕ (Unit)), fX4_even_L2 N cm gw gq ct x1 = some v2 → ∀ (H : Heap) (locs : List Loc) (ls : Array Slot), va_P D classes (wX cx aX aH aI aS aT ak aC aD (aC 0) (aD 0) aG db dn ql qf qz qi sp s1 s2 s3 s4 s5 sP sC sH tl kl kf cv cc cm ch dv dc dm dh gw gh gk gq gr gj gR gT gC) H → va_D A (wX cx aX aH aI aS aT ak aC aD (aC 0) (aD 0) aG db dn ql qf qz qi sp s1 s2 s3 s4 s5 sP sC sH tl kl kf cv cc cm ch dv dc dm dh gw gh gk gq gr gj gR gT gC) → va_S A s.heap H locs → lv_has ls 2 [(0, .ref (aX 0)), (1, .int x1)] → (∀ (e2 : Unit), v2 = .inr e2 → ∀ (H : Heap) (locs : List Loc) (ls : Array Slot), va_P D classes (wX cx aX aH aI aS aT ak aC aD (aC 0) (aD 0) aG db dn ql qf qz qi sp s1 s2 s3 s4 s5 sP sC sH tl kl kf cv cc cm ch dv dc dm dh gw gh gk gq gr gj gR gT gC) H → va_D A (wX cx aX aH aI aS aT ak aC aD (aC 0) (aD 0) aG db dn ql qf qz qi sp s1 s2 s3 s4 s5 sP sC sH tl kl kf cv cc cm ch dv dc dm dh gw gh gk gq gr gj gR gT gC) → va_S A s.heap H locs → lv_has ls 2 [] → W p l e rmX4_even s m ([.ref (aX 0)] : List Value).toArray below meth c H locs 0 0 (MQ below (kc_Pi D (fun _ : Unit => (wX cx aX aH aI aS aT ak aC aD (aC 0) (aD 0) aG db dn ql qf qz qi sp s1 s2 s3 s4 s5 sP sC sH tl kl kf cv cc cm ch dv dc dm dh gw gh gk gq gr gj gR gT gC)) v A) ([.ref (aX 0)] : List Value).toArray s 0 0 A) (F0 m 47 ls [])) → (∀ (r2 : Int32), v2 = .inl r2 → ∀ (pc : Nat) (H : Heap) (locs : List Loc) (ls : Array Slot), va_P D classes (wX cx aX aH aI aS aT ak aC aD (aC 0) (aD 0) aG db dn ql qf qz qi sp s1 s2 s3 s4 s5 sP sC sH tl kl kf cv cc cm ch dv dc dm dh gw gh gk gq gr gj gR gT gC) H → va_D A (wX cx aX aH aI aS aT ak aC aD (aC 0) (aD 0) aG db dn ql qf qz qi sp s1 s2 s3 s4 s5 sP sC sH tl kl kf cv cc cm ch dv dc dm dh gw gh gk gq gr gj gR gT gC) → va_S A s.heap H locs → decode cX4_even pc = .ok (.ireturn, 1) → W p l e rmX4_even s m ([.ref (aX 0)] : List Value).toArray below meth c H locs 0 0 (MQ below (kc_Pi D (fun _ : Unit => (wX cx aX aH aI aS aT ak aC aD (aC 0) (aD 0) aG db dn ql qf qz qi sp s1 s2 s3 s4 s5 sP sC sH tl kl kf cv cc cm ch dv dc dm dh gw gh gk gq gr gj gR gT gC)) v A) ([.ref (aX 0)] : List Value).toArray s 0 0 A) (F0 m pc ls [.int r2])) → W p l e rmX4_even s m ([.ref (aX 0)] : List Value).toArray below meth c H locs 0 0 (MQ below (kc_Pi D (fun _ : Unit => (wX cx aX aH aI aS aT ak aC aD (aC 0) (aD 0) aG db dn ql qf qz qi sp s1 s2 s3 s4 s5 sP sC sH tl kl kf cv cc cm ch dv dc dm dh gw gh gk gq gr gj gR gT gC)) v A) ([.ref (aX 0)] : List Value).toArray s 0 0 A) (F0 m 2 ls []) := by
    intro ct
    induction ct with
    | zero =>
      intro x1 v2 hf
      exact absurd (show (none : Option ((Int32) ⊕ (Unit))) = some v2 from hf) (fun q => by cases q)
    | succ ct ih =>
      intro x1 v2 hf H locs ls hP hD hS hl hE hR
      rw [fX4_even_L2] at hf
      refine lv_iload_n hx hb dX4_even_2 rfl (lv_at hl 1 rfl) ?_
      refine lv_aload_n hx hb dX4_even_3 rfl (lv_at hl 0 rfl) ?_
      refine va_get (D := D) (ci := 4) (v := .ref (aG 0)) (C := RX4) (T := TX4) (N := 7) hx hb hts iX4 hown hK hP 0 rfl rfl 0 (by decide) (hts _ wd_226) (fun _ h9 => h9) rfl dX4_even_4 ?_
      refine va_get (D := D) (ci := 1) (v := .int gq) (C := RX1) (T := TX1) (N := 9) hx hb hts iX1 hown hK hP 29 rfl rfl 3 (by decide) (hts _ wd_75) (fun _ h9 => h9) rfl dX4_even_7 ?_
      refine lv_icmp_ge (tgt := 47) hx hb dX4_even_10 (by decide) (fun c11 => ?_) (fun c11 => ?_)
      · replace hf := it_t c11 hf
        obtain rfl := Option.some.inj hf
        exact hE _ rfl H locs ls hP hD hS (lv_sub hl [] rfl)
      · replace hf := it_f c11 hf
        refine lv_aload_n hx hb dX4_even_13 rfl (lv_at hl 0 rfl) ?_
        refine va_get (D := D) (ci := 4) (v := .ref (aC 0)) (C := RX4) (T := TX4) (N := 7) hx hb hts iX4 hown hK hP 0 rfl rfl 3 (by decide) (hts _ wd_229) (fun _ h9 => h9) rfl dX4_even_14 ?_
        refine lv_iload_n hx hb dX4_even_17 rfl (lv_at hl 1 rfl) ?_
        obtain ⟨u12, hg, hf⟩ := ob_s hf
        refine kc_calli (wn := fun _ => (wX cx aX aH aI aS aT ak aC aD (aC 0) (aD 0) aG db dn ql qf qz qi sp s1 s2 s3 s4 s5 sP sC sH tl kl kf cv cc cm ch dv dc dm dh gw gh gk gq gr gj gR gT gC)) (va_runV (As := [.int x1]) (rest := []) ⟨hx, hb, hml, hown, hts⟩ (metX0_manOn l D cx aC aG cv cc cm ch gw gh gk gq gr gj gR gT gC x1 N H.size u12 hg) ⟨callB_of 1 hts (kc_gI wd_317) rfl rfl rfl (hts _ wd_44) (hts _ wd_314) (by decide +kernel) ⟨Nat.le_of_ble_eq_true rfl, Nat.le_of_ble_eq_true rfl⟩, hts _ wd_315, hts _ wd_316⟩ ⟨kc_blind _ _ _ _ _, va_recv hK hP (ci := 0) (q0 := 21) rfl rfl, kc_pre _ hK hN (hP.sub [21, 22, 23, 24, 29, 30, 31, 32] rfl) (hD.sub [21, 22, 23, 24, 29, 30, 31, 32] (by decide) rfl)⟩ rfl rfl hl.1 rfl (lv_room (Nat.le_of_ble_eq_true rfl)) dX4_even_18 ⟨Nat.zero_le _, Nat.zero_le _⟩) hP hD hS hA [21, 22, 23, 24, 29, 30, 31, 32] [0, 1, 2, 3, 4, 5, 6, 7, 8, 9, 10, 11, 12, 13, 14, 15, 16, 17, 18, 19, 20, 25, 26, 27, 28] [0, 1, 2, 3, 4, 5, 6, 7, 8, 9, 10, 11, 12, 13, 14, 15, 16, 17, 18, 19, 20, 25, 26, 27, 28, 21, 22, 23, 24, 29, 30, 31, 32] rfl rfl (by decide) (by decide) (fun _ => rfl) (by decide) (fun _ H locs hP hD hS => ?_)
        have hP : va_P D classes (wX cx aX aH aI aS aT ak aC aD (aC 0) (aD 0) aG db dn ql qf qz qi sp s1 s2 s3 s4 s5 sP sC sH tl kl kf cv cc cm ch dv dc dm dh gw gh gk gq gr gj gR gT gC) H := hP
        have hD : va_D A (wX cx aX aH aI aS aT ak aC aD (aC 0) (aD 0) aG db dn ql qf qz qi sp s1 s2 s3 s4 s5 sP sC sH tl kl kf cv cc cm ch dv dc dm dh gw gh gk gq gr gj gR gT gC) := hD
        refine lv_aload_n hx hb dX4_even_21 rfl (lv_at hl 0 rfl) ?_
        refine va_get (D := D) (ci := 4) (v := .ref (aC 0)) (C := RX4) (T := TX4) (N := 7) hx hb hts iX4 hown hK hP 0 rfl rfl 3 (by decide) (hts _ wd_229) (fun _ h9 => h9) rfl dX4_even_22 ?_
        refine lv_aload_n hx hb dX4_even_25 rfl (lv_at hl 0 rfl) ?_
        refine va_get (D := D) (ci := 4) (v := .ref (aG 0)) (C := RX4) (T := TX4) (N := 7) hx hb hts iX4 hown hK hP 0 rfl rfl 0 (by decide) (hts _ wd_226) (fun _ h9 => h9) rfl dX4_even_26 ?_
        refine lv_iload_n hx hb dX4_even_29 rfl (lv_at hl 1 rfl) ?_
        obtain ⟨u13, hg, hf⟩ := ob_s hf
        refine kc_calli (wn := fun _ => (wX cx aX aH aI aS aT ak aC aD (aC 0) (aD 0) aG db dn ql qf qz qi sp s1 s2 s3 s4 s5 sP sC sH tl kl kf cv cc cm ch dv dc dm dh gw gh gk gq gr gj gR gT gC)) (va_runV (As := [.int x1]) (rest := [.ref (aC 0), .int u12]) ⟨hx, hb, hml, hown, hts⟩ (metX1_imageOf l D cx aG gw gh gk gq gr gj gR gT gC x1 N H.size u13 hg) ⟨callB_of 1 hts (kc_gI wd_458) rfl rfl rfl (hts _ wd_41) (hts _ wd_455) (by decide +kernel) ⟨Nat.le_of_ble_eq_true rfl, Nat.le_of_ble_eq_true rfl⟩, hts _ wd_456, hts _ wd_457⟩ ⟨kc_blind _ _ _ _ _, va_recv hK hP (ci := 1) (q0 := 29) rfl rfl, kc_pre _ hK hN (hP.sub [29, 30, 31, 32] rfl) (hD.sub [29, 30, 31, 32] (by decide) rfl)⟩ rfl rfl hl.1 rfl (lv_room (Nat.le_of_ble_eq_true rfl)) dX4_even_30 ⟨Nat.zero_le _, Nat.zero_le _⟩) hP hD hS hA [29, 30, 31, 32] [0, 1, 2, 3, 4, 5, 6, 7, 8, 9, 10, 11, 12, 13, 14, 15, 16, 17, 18, 19, 20, 21, 22, 23, 24, 25, 26, 27, 28] [0, 1, 2, 3, 4, 5, 6, 7, 8, 9, 10, 11, 12, 13, 14, 15, 16, 17, 18, 19, 20, 21, 22, 23, 24, 25, 26, 27, 28, 29, 30, 31, 32] rfl rfl (by decide) (by decide) (fun _ => rfl) (by decide) (fun _ H locs hP hD hS => ?_)
        have hP : va_P D classes (wX cx aX aH aI aS aT ak aC aD (aC 0) (aD 0) aG db dn ql qf qz qi sp s1 s2 s3 s4 s5 sP sC sH tl kl kf cv cc cm ch dv dc dm dh gw gh gk gq gr gj gR gT gC) H := hP
        have hD : va_D A (wX cx aX aH aI aS aT ak aC aD (aC 0) (aD 0) aG db dn ql qf qz qi sp s1 s2 s3 s4 s5 sP sC sH tl kl kf cv cc cm ch dv dc dm dh gw gh gk gq gr gj gR gT gC) := hD
        obtain ⟨u14, hg, hf⟩ := ob_s hf
        refine kc_calli (wn := fun _ => (wX cx aX aH aI aS aT ak aC aD (aC 0) (aD 0) aG db dn ql qf qz qi sp s1 s2 s3 s4 s5 sP sC sH tl kl kf cv cc cm ch dv dc dm dh gw gh gk gq gr gj gR gT gC)) (va_runV (As := [.int u13]) (rest := [.int u12]) ⟨hx, hb, hml, hown, hts⟩ (metX0_manOn l D cx aC aG cv cc cm ch gw gh gk gq gr gj gR gT gC u13 N H.size u14 hg) ⟨callB_of 1 hts (kc_gI wd_317) rfl rfl rfl (hts _ wd_44) (hts _ wd_314) (by decide +kernel) ⟨Nat.le_of_ble_eq_true rfl, Nat.le_of_ble_eq_true rfl⟩, hts _ wd_315, hts _ wd_316⟩ ⟨kc_blind _ _ _ _ _, va_recv hK hP (ci := 0) (q0 := 21) rfl rfl, kc_pre _ hK hN (hP.sub [21, 22, 23, 24, 29, 30, 31, 32] rfl) (hD.sub [21, 22, 23, 24, 29, 30, 31, 32] (by decide) rfl)⟩ rfl rfl hl.1 rfl (lv_room (Nat.le_of_ble_eq_true rfl)) dX4_even_33 ⟨Nat.zero_le _, Nat.zero_le _⟩) hP hD hS hA [21, 22, 23, 24, 29, 30, 31, 32] [0, 1, 2, 3, 4, 5, 6, 7, 8, 9, 10, 11, 12, 13, 14, 15, 16, 17, 18, 19, 20, 25, 26, 27, 28] [0, 1, 2, 3, 4, 5, 6, 7, 8, 9, 10, 11, 12, 13, 14, 15, 16, 17, 18, 19, 20, 25, 26, 27, 28, 21, 22, 23, 24, 29, 30, 31, 32] rfl rfl (by decide) (by decide) (fun _ => rfl) (by decide) (fun _ H locs hP hD hS => ?_)
        have hP : va_P D classes (wX cx aX aH aI aS aT ak aC aD (aC 0) (aD 0) aG db dn ql qf qz qi sp s1 s2 s3 s4 s5 sP sC sH tl kl kf cv cc cm ch dv dc dm dh gw gh gk gq gr gj gR gT gC) H := hP
        have hD : va_D A (wX cx aX aH aI aS aT ak aC aD (aC 0) (aD 0) aG db dn ql qf qz qi sp s1 s2 s3 s4 s5 sP sC sH tl kl kf cv cc cm ch dv dc dm dh gw gh gk gq gr gj gR gT gC) := hD
        refine lv_icmp_eq (tgt := 41) hx hb dX4_even_36 (by decide) (fun c15 => ?_) (fun c15 => ?_)
        · replace hf := it_t c15 hf
          refine lv_iinc (v := (x1 + (1 : Int32))) (lv' := [(1, .int (x1 + (1 : Int32))), (0, .ref (aX 0))]) hx hb dX4_even_41 hl (k := 1) rfl rfl (by decide) rfl (fun ls hl => ?_)
          refine lv_goto (tgt := 2) hx hb dX4_even_44 (by decide) ?_
          exact ih (x1 + (1 : Int32)) _ hf H locs ls hP hD hS (lv_sub hl [1, 0] rfl) hE hR
        · replace hf := it_f c15 hf
          refine lv_iconst (v := (0 : Int32)) hx hb dX4_even_39 (by decide) ?_
          obtain rfl := Option.some.inj hf
          exact hR _ rfl _ H locs ls hP hD hS dX4_even_40
  obtain ⟨u16, hg, hf⟩ := ob_s hf
  refine L2 _ (0 : Int32) u16 hg H locs ls hP hD hS (lv_sub hl [1, 0] rfl) (fun e17 ee H locs ls hP hD hS hl => ?_) (fun r18 ee pc H locs ls hP hD hS hd => ?_)
  · subst ee
    replace hf := onS_r hf
    refine lv_iconst (v := (1 : Int32)) hx hb dX4_even_47 (by decide) ?_
    obtain rfl := Option.some.inj hf
    exact kc_iret () hx hb hr hk hP hD hS rfl dX4_even_48
  · subst ee
    replace hf := onS_l hf
    obtain rfl := Option.some.inj hf
    exact kc_iret () hx hb hr hk hP hD hS rfl hd
abbrev rmX4_threats : Room := { frames := 3, cells := 0, slots := 0, locals := 67 }
set_option maxHeartbeats 4000000 in
set_option maxRecDepth 100000 in
theorem metX4_threats (l : Launch) (D : va_G) (cx : Nat → ClassId) (aX : Nat → Nat) (aH : Nat → Nat) (aI : Nat → Nat) (aS : Nat → Nat) (aT : Nat → Nat) (ak : Nat) (aC : Nat → Nat) (aD : Nat → Nat) (aG : Nat → Nat) (db : Int32) (dn : Int32) (ql : Nat → Int32) (qf : Nat → Int32) (qz : Nat → Int32) (qi : Nat → Nat → Int32) (sp : Int32) (s1 : Int32) (s2 : Int32) (s3 : Int32) (s4 : Int32) (s5 : Int32) (sP : Nat → Int32) (sC : Nat → Int32) (sH : Nat → Int32) (tl : Nat → Nat → Int32) (kl : Nat) (kf : Nat → Int64) (cv : Int32) (cc : Nat → Int32) (cm : Nat → Int32) (ch : Nat → Int32) (dv : Int32) (dc : Nat → Int32) (dm : Nat → Int32) (dh : Nat → Int32) (gw : Int32) (gh : Int32) (gk : Int32) (gq : Int32) (gr : Int32) (gj : Int32) (gR : Nat → Int32) (gT : Nat → Int32) (gC : Nat → Int32) (x1 : Int32) (N : Nat) (sz : Nat) (v : Int32) (hf : fX4_threats N cm gq gr gR x1 = some v) : Met l yX4_threats (.code yX4_threats cX4_threats 2 (some .int) :: kc_TB) rmX4_threats (kc_Pre D cx (wX cx aX aH aI aS aT ak aC aD (aC 0) (aD 0) aG db dn ql qf qz qi sp s1 s2 s3 s4 s5 sP sC sH tl kl kf cv cc cm ch dv dc dm dh gw gh gk gq gr gj gR gT gC) [.ref (aX 0), .int x1] sz) (kc_Pi D (fun _ : Unit => (wX cx aX aH aI aS aT ak aC aD (aC 0) (aD 0) aG db dn ql qf qz qi sp s1 s2 s3 s4 s5 sP sC sH tl kl kf cv cc cm ch dv dc dm dh gw gh gk gq gr gj gR gT gC)) v (va_A (wX cx aX aH aI aS aT ak aC aD (aC 0) (aD 0) aG db dn ql qf qz qi sp s1 s2 s3 s4 s5 sP sC sH tl kl kf cv cc cm ch dv dc dm dh gw gh gk gq gr gj gR gT gC) sz)) 0 0 (va_A (wX cx aX aH aI aS aT ak aC aD (aC 0) (aD 0) aG db dn ql qf qz qi sp s1 s2 s3 s4 s5 sP sC sH tl kl kf cv cc cm ch dv dc dm dh gw gh gk gq gr gj gR gT gC) sz) := by
  refine kc_entry (Qc := fun A => (kc_Pi D (fun _ : Unit => (wX cx aX aH aI aS aT ak aC aD (aC 0) (aD 0) aG db dn ql qf qz qi sp s1 s2 s3 s4 s5 sP sC sH tl kl kf cv cc cm ch dv dc dm dh gw gh gk gq gr gj gR gT gC)) v A)) (by decide) (Nat.le_of_ble_eq_true rfl) ?_
  intro p e s m below meth c A hx hb hr hk hml hown hin hts hN hK hP hD hS hA ls hl
  have hown : s.vm.findClass RX4 = some m.cls := hown
  have hl : lv_has ls 2 [(0, .ref (aX 0)), (1, .int x1)] := hl
  unfold fX4_threats at hf
  have hP : va_P D classes (wX cx aX aH aI aS aT ak aC aD (aC 0) (aD 0) aG db dn ql qf qz qi sp s1 s2 s3 s4 s5 sP sC sH tl kl kf cv cc cm ch dv dc dm dh gw gh gk gq gr gj gR gT gC) s.heap := hP
  obtain ⟨H, hH⟩ : ∃ H, H = s.heap := ⟨_, rfl⟩
  obtain ⟨locs, hL⟩ : ∃ locs : List Loc, locs = [] := ⟨_, rfl⟩
  have hS : va_S A s.heap H locs := by rw [hH, hL]; exact hS
  have hP : va_P D classes (wX cx aX aH aI aS aT ak aC aD (aC 0) (aD 0) aG db dn ql qf qz qi sp s1 s2 s3 s4 s5 sP sC sH tl kl kf cv cc cm ch dv dc dm dh gw gh gk gq gr gj gR gT gC) H := by rw [hH]; exact hP
  suffices hW : W p l e rmX4_threats s m ([.ref (aX 0), .int x1] : List Value).toArray below meth c H locs 0 0 (MQ below (kc_Pi D (fun _ : Unit => (wX cx aX aH aI aS aT ak aC aD (aC 0) (aD 0) aG db dn ql qf qz qi sp s1 s2 s3 s4 s5 sP sC sH tl kl kf cv cc cm ch dv dc dm dh gw gh gk gq gr gj gR gT gC)) v A) ([.ref (aX 0), .int x1] : List Value).toArray s 0 0 A) (F0 m 0 ls []) by rw [hH, hL] at hW; exact hW
  clear hH hL
  refine lv_iload_n hx hb dX4_threats_0 rfl (lv_at hl 1 rfl) ?_
  refine lv_iconst (v := (0 : Int32)) hx hb dX4_threats_1 (by decide) ?_
  refine lv_iconst (v := (1 : Int32)) hx hb dX4_threats_2 (by decide) ?_
  obtain ⟨u5, hg, hf⟩ := ob_s hf
  refine kc_calli (wn := fun _ => (wX cx aX aH aI aS aT ak aC aD (aC 0) (aD 0) aG db dn ql qf qz qi sp s1 s2 s3 s4 s5 sP sC sH tl kl kf cv cc cm ch dv dc dm dh gw gh gk gq gr gj gR gT gC)) (va_runS (As := [.int x1, .int (0 : Int32), .int (1 : Int32)]) (rest := []) ⟨hx, hb, hml, hown, hts⟩ (metX4_isWithin l D cx   x1 (0 : Int32) (1 : Int32) N H.size u5 hg) ⟨callB_of 3 hts (kc_gI wd_254) rfl rfl rfl (hts _ wd_40) (hts _ wd_252) (by decide +kernel) ⟨Nat.le_of_ble_eq_true rfl, Nat.le_of_ble_eq_true rfl⟩, hts _ wd_253⟩ ⟨kc_blind _ _ _ _ _, kc_pre _ hK hN (hP.sub [] rfl) (hD.sub [] (by decide) rfl)⟩ rfl rfl hl.1 rfl (lv_room (Nat.le_of_ble_eq_true rfl)) dX4_threats_3 ⟨Nat.zero_le _, Nat.zero_le _⟩) hP hD hS hA [] [0, 1, 2, 3, 4, 5, 6, 7, 8, 9, 10, 11, 12, 13, 14, 15, 16, 17, 18, 19, 20, 21, 22, 23, 24, 25, 26, 27, 28, 29, 30, 31, 32] [0, 1, 2, 3, 4, 5, 6, 7, 8, 9, 10, 11, 12, 13, 14, 15, 16, 17, 18, 19, 20, 21, 22, 23, 24, 25, 26, 27, 28, 29, 30, 31, 32] rfl rfl (by decide) (by decide) (fun _ => rfl) (by decide) (fun _ H locs hP hD hS => ?_)
  have hP : va_P D classes (wX cx aX aH aI aS aT ak aC aD (aC 0) (aD 0) aG db dn ql qf qz qi sp s1 s2 s3 s4 s5 sP sC sH tl kl kf cv cc cm ch dv dc dm dh gw gh gk gq gr gj gR gT gC) H := hP
  have hD : va_D A (wX cx aX aH aI aS aT ak aC aD (aC 0) (aD 0) aG db dn ql qf qz qi sp s1 s2 s3 s4 s5 sP sC sH tl kl kf cv cc cm ch dv dc dm dh gw gh gk gq gr gj gR gT gC) := hD
  refine lv_if_eq (tgt := 23) hx hb dX4_threats_6 (by decide) (fun c6 => ?_) (fun c6 => ?_)
  · replace hf := it_t c6 hf
    refine lv_sipush (v := (-200 : Int32)) hx hb dX4_threats_23 (by decide) ?_
    obtain rfl := Option.some.inj hf
    exact kc_iret () hx hb hr hk hP hD hS rfl dX4_threats_26
  · replace hf := it_f c6 hf
    refine lv_aload_n hx hb dX4_threats_9 rfl (lv_at hl 0 rfl) ?_
    refine va_get (D := D) (ci := 4) (v := .ref (aC 0)) (C := RX4) (T := TX4) (N := 7) hx hb hts iX4 hown hK hP 0 rfl rfl 3 (by decide) (hts _ wd_229) (fun _ h9 => h9) rfl dX4_threats_10 ?_
    refine lv_iload_n hx hb dX4_threats_13 rfl (lv_at hl 1 rfl) ?_
    obtain ⟨u7, hg, hf⟩ := ob_s hf
    refine kc_calli (wn := fun _ => (wX cx aX aH aI aS aT ak aC aD (aC 0) (aD 0) aG db dn ql qf qz qi sp s1 s2 s3 s4 s5 sP sC sH tl kl kf cv cc cm ch dv dc dm dh gw gh gk gq gr gj gR gT gC)) (va_runV (As := [.int x1]) (rest := []) ⟨hx, hb, hml, hown, hts⟩ (metX0_threatsOf l D cx aC aG cv cc cm ch gw gh gk gq gr gj gR gT gC x1 N H.size u7 hg) ⟨callB_of 1 hts (kc_gI wd_466) rfl rfl rfl (hts _ wd_44) (hts _ wd_463) (by decide +kernel) ⟨Nat.le_of_ble_eq_true rfl, Nat.le_of_ble_eq_true rfl⟩, hts _ wd_464, hts _ wd_465⟩ ⟨kc_blind _ _ _ _ _, va_recv hK hP (ci := 0) (q0 := 21) rfl rfl, kc_pre _ hK hN (hP.sub [21, 22, 23, 24, 29, 30, 31, 32] rfl) (hD.sub [21, 22, 23, 24, 29, 30, 31, 32] (by decide) rfl)⟩ rfl rfl hl.1 rfl (lv_room (Nat.le_of_ble_eq_true rfl)) dX4_threats_14 ⟨Nat.zero_le _, Nat.zero_le _⟩) hP hD hS hA [21, 22, 23, 24, 29, 30, 31, 32] [0, 1, 2, 3, 4, 5, 6, 7, 8, 9, 10, 11, 12, 13, 14, 15, 16, 17, 18, 19, 20, 25, 26, 27, 28] [0, 1, 2, 3, 4, 5, 6, 7, 8, 9, 10, 11, 12, 13, 14, 15, 16, 17, 18, 19, 20, 25, 26, 27, 28, 21, 22, 23, 24, 29, 30, 31, 32] rfl rfl (by decide) (by decide) (fun _ => rfl) (by decide) (fun _ H locs hP hD hS => ?_)
    have hP : va_P D classes (wX cx aX aH aI aS aT ak aC aD (aC 0) (aD 0) aG db dn ql qf qz qi sp s1 s2 s3 s4 s5 sP sC sH tl kl kf cv cc cm ch dv dc dm dh gw gh gk gq gr gj gR gT gC) H := hP
    have hD : va_D A (wX cx aX aH aI aS aT ak aC aD (aC 0) (aD 0) aG db dn ql qf qz qi sp s1 s2 s3 s4 s5 sP sC sH tl kl kf cv cc cm ch dv dc dm dh gw gh gk gq gr gj gR gT gC) := hD
    obtain ⟨u8, hg, hf⟩ := ob_s hf
    refine kc_calli (wn := fun _ => (wX cx aX aH aI aS aT ak aC aD (aC 0) (aD 0) aG db dn ql qf qz qi sp s1 s2 s3 s4 s5 sP sC sH tl kl kf cv cc cm ch dv dc dm dh gw gh gk gq gr gj gR gT gC)) (va_runS (As := [.int u7]) (rest := []) ⟨hx, hb, hml, hown, hts⟩ (metJ6_bitCount_0f7a4 l D cx   u7 N H.size u8 hg) ⟨callB_of 1 hts (kc_gI wd_348) rfl rfl rfl (hts _ wd_47) (hts _ wd_346) (by decide +kernel) ⟨Nat.le_of_ble_eq_true rfl, Nat.le_of_ble_eq_true rfl⟩, hts _ wd_347⟩ ⟨kc_blind _ _ _ _ _, kc_pre _ hK hN (hP.sub [] rfl) (hD.sub [] (by decide) rfl)⟩ rfl rfl hl.1 rfl (lv_room (Nat.le_of_ble_eq_true rfl)) dX4_threats_17 ⟨Nat.zero_le _, Nat.zero_le _⟩) hP hD hS hA [] [0, 1, 2, 3, 4, 5, 6, 7, 8, 9, 10, 11, 12, 13, 14, 15, 16, 17, 18, 19, 20, 21, 22, 23, 24, 25, 26, 27, 28, 29, 30, 31, 32] [0, 1, 2, 3, 4, 5, 6, 7, 8, 9, 10, 11, 12, 13, 14, 15, 16, 17, 18, 19, 20, 21, 22, 23, 24, 25, 26, 27, 28, 29, 30, 31, 32] rfl rfl (by decide) (by decide) (fun _ => rfl) (by decide) (fun _ H locs hP hD hS => ?_)
    have hP : va_P D classes (wX cx aX aH aI aS aT ak aC aD (aC 0) (aD 0) aG db dn ql qf qz qi sp s1 s2 s3 s4 s5 sP sC sH tl kl kf cv cc cm ch dv dc dm dh gw gh gk gq gr gj gR gT gC) H := hP
    have hD : va_D A (wX cx aX aH aI aS aT ak aC aD (aC 0) (aD 0) aG db dn ql qf qz qi sp s1 s2 s3 s4 s5 sP sC sH tl kl kf cv cc cm ch dv dc dm dh gw gh gk gq gr gj gR gT gC) := hD
    refine lv_goto (tgt := 26) hx hb dX4_threats_20 (by decide) ?_
    obtain rfl := Option.some.inj hf
    exact kc_iret () hx hb hr hk hP hD hS rfl dX4_threats_26
abbrev rmX4_threat : Room := { frames := 3, cells := 0, slots := 0, locals := 67 }
set_option maxHeartbeats 4000000 in
set_option maxRecDepth 100000 in
theorem metX4_threat (l : Launch) (D : va_G) (cx : Nat → ClassId) (aX : Nat → Nat) (aH : Nat → Nat) (aI : Nat → Nat) (aS : Nat → Nat) (aT : Nat → Nat) (ak : Nat) (aC : Nat → Nat) (aD : Nat → Nat) (aG : Nat → Nat) (db : Int32) (dn : Int32) (ql : Nat → Int32) (qf : Nat → Int32) (qz : Nat → Int32) (qi : Nat → Nat → Int32) (sp : Int32) (s1 : Int32) (s2 : Int32) (s3 : Int32) (s4 : Int32) (s5 : Int32) (sP : Nat → Int32) (sC : Nat → Int32) (sH : Nat → Int32) (tl : Nat → Nat → Int32) (kl : Nat) (kf : Nat → Int64) (cv : Int32) (cc : Nat → Int32) (cm : Nat → Int32) (ch : Nat → Int32) (dv : Int32) (dc : Nat → Int32) (dm : Nat → Int32) (dh : Nat → Int32) (gw : Int32) (gh : Int32) (gk : Int32) (gq : Int32) (gr : Int32) (gj : Int32) (gR : Nat → Int32) (gT : Nat → Int32) (gC : Nat → Int32) (x1 : Int32) (x2 : Int32) (N : Nat) (sz : Nat) (v : Int32) (hf : fX4_threat N cm gq gr gR x1 x2 = some v) : Met l yX4_threat (.code yX4_threat cX4_threat 4 (some .int) :: kc_TB) rmX4_threat (kc_Pre D cx (wX cx aX aH aI aS aT ak aC aD (aC 0) (aD 0) aG db dn ql qf qz qi sp s1 s2 s3 s4 s5 sP sC sH tl kl kf cv cc cm ch dv dc dm dh gw gh gk gq gr gj gR gT gC) [.ref (aX 0), .int x1, .int x2] sz) (kc_Pi D (fun _ : Unit => (wX cx aX aH aI aS aT ak aC aD (aC 0) (aD 0) aG db dn ql qf qz qi sp s1 s2 s3 s4 s5 sP sC sH tl kl kf cv cc cm ch dv dc dm dh gw gh gk gq gr gj gR gT gC)) v (va_A (wX cx aX aH aI aS aT ak aC aD (aC 0) (aD 0) aG db dn ql qf qz qi sp s1 s2 s3 s4 s5 sP sC sH tl kl kf cv cc cm ch dv dc dm dh gw gh gk gq gr gj gR gT gC) sz)) 0 0 (va_A (wX cx aX aH aI aS aT ak aC aD (aC 0) (aD 0) aG db dn ql qf qz qi sp s1 s2 s3 s4 s5 sP sC sH tl kl kf cv cc cm ch dv dc dm dh gw gh gk gq gr gj gR gT gC) sz) := by
  refine kc_entry (Qc := fun A => (kc_Pi D (fun _ : Unit => (wX cx aX aH aI aS aT ak aC aD (aC 0) (aD 0) aG db dn ql qf qz qi sp s1 s2 s3 s4 s5 sP sC sH tl kl kf cv cc cm ch dv dc dm dh gw gh gk gq gr gj gR gT gC)) v A)) (by decide) (Nat.le_of_ble_eq_true rfl) ?_
  intro p e s m below meth c A hx hb hr hk hml hown hin hts hN hK hP hD hS hA ls hl
  have hown : s.vm.findClass RX4 = some m.cls := hown
  have hl : lv_has ls 4 [(0, .ref (aX 0)), (1, .int x1), (2, .int x2)] := hl
  unfold fX4_threat at hf
  have hP : va_P D classes (wX cx aX aH aI aS aT ak aC aD (aC 0) (aD 0) aG db dn ql qf qz qi sp s1 s2 s3 s4 s5 sP sC sH tl kl kf cv cc cm ch dv dc dm dh gw gh gk gq gr gj gR gT gC) s.heap := hP
  obtain ⟨H, hH⟩ : ∃ H, H = s.heap := ⟨_, rfl⟩
  obtain ⟨locs, hL⟩ : ∃ locs : List Loc, locs = [] := ⟨_, rfl⟩
  have hS : va_S A s.heap H locs := by rw [hH, hL]; exact hS
  have hP : va_P D classes (wX cx aX aH aI aS aT ak aC aD (aC 0) (aD 0) aG db dn ql qf qz qi sp s1 s2 s3 s4 s5 sP sC sH tl kl kf cv cc cm ch dv dc dm dh gw gh gk gq gr gj gR gT gC) H := by rw [hH]; exact hP
  suffices hW : W p l e rmX4_threat s m ([.ref (aX 0), .int x1, .int x2] : List Value).toArray below meth c H locs 0 0 (MQ below (kc_Pi D (fun _ : Unit => (wX cx aX aH aI aS aT ak aC aD (aC 0) (aD 0) aG db dn ql qf qz qi sp s1 s2 s3 s4 s5 sP sC sH tl kl kf cv cc cm ch dv dc dm dh gw gh gk gq gr gj gR gT gC)) v A) ([.ref (aX 0), .int x1, .int x2] : List Value).toArray s 0 0 A) (F0 m 0 ls []) by rw [hH, hL] at hW; exact hW
  clear hH hL
  refine lv_iload_n hx hb dX4_threat_0 rfl (lv_at hl 1 rfl) ?_
  refine lv_iconst (v := (0 : Int32)) hx hb dX4_threat_1 (by decide) ?_
  refine lv_iconst (v := (1 : Int32)) hx hb dX4_threat_2 (by decide) ?_
  obtain ⟨u8, hg, hf⟩ := ob_s hf
  refine kc_calli (wn := fun _ => (wX cx aX aH aI aS aT ak aC aD (aC 0) (aD 0) aG db dn ql qf qz qi sp s1 s2 s3 s4 s5 sP sC sH tl kl kf cv cc cm ch dv dc dm dh gw gh gk gq gr gj gR gT gC)) (va_runS (As := [.int x1, .int (0 : Int32), .int (1 : Int32)]) (rest := []) ⟨hx, hb, hml, hown, hts⟩ (metX4_isWithin l D cx   x1 (0 : Int32) (1 : Int32) N H.size u8 hg) ⟨callB_of 3 hts (kc_gI wd_254) rfl rfl rfl (hts _ wd_40) (hts _ wd_252) (by decide +kernel) ⟨Nat.le_of_ble_eq_true rfl, Nat.le_of_ble_eq_true rfl⟩, hts _ wd_253⟩ ⟨kc_blind _ _ _ _ _, kc_pre _ hK hN (hP.sub [] rfl) (hD.sub [] (by decide) rfl)⟩ rfl rfl hl.1 rfl (lv_room (Nat.le_of_ble_eq_true rfl)) dX4_threat_3 ⟨Nat.zero_le _, Nat.zero_le _⟩) hP hD hS hA [] [0, 1, 2, 3, 4, 5, 6, 7, 8, 9, 10, 11, 12, 13, 14, 15, 16, 17, 18, 19, 20, 21, 22, 23, 24, 25, 26, 27, 28, 29, 30, 31, 32] [0, 1, 2, 3, 4, 5, 6, 7, 8, 9, 10, 11, 12, 13, 14, 15, 16, 17, 18, 19, 20, 21, 22, 23, 24, 25, 26, 27, 28, 29, 30, 31, 32] rfl rfl (by decide) (by decide) (fun _ => rfl) (by decide) (fun _ H locs hP hD hS => ?_)
  have hP : va_P D classes (wX cx aX aH aI aS aT ak aC aD (aC 0) (aD 0) aG db dn ql qf qz qi sp s1 s2 s3 s4 s5 sP sC sH tl kl kf cv cc cm ch dv dc dm dh gw gh gk gq gr gj gR gT gC) H := hP
  have hD : va_D A (wX cx aX aH aI aS aT ak aC aD (aC 0) (aD 0) aG db dn ql qf qz qi sp s1 s2 s3 s4 s5 sP sC sH tl kl kf cv cc cm ch dv dc dm dh gw gh gk gq gr gj gR gT gC) := hD
  refine lv_if_ne (tgt := 13) hx hb dX4_threat_6 (by decide) (fun c9 => ?_) (fun c9 => ?_)
  · replace hf := it_f c9 hf
    refine lv_aload_n hx hb dX4_threat_13 rfl (lv_at hl 0 rfl) ?_
    refine va_get (D := D) (ci := 4) (v := .ref (aC 0)) (C := RX4) (T := TX4) (N := 7) hx hb hts iX4 hown hK hP 0 rfl rfl 3 (by decide) (hts _ wd_229) (fun _ h9 => h9) rfl dX4_threat_14 ?_
    refine lv_iload_n hx hb dX4_threat_17 rfl (lv_at hl 1 rfl) ?_
    obtain ⟨u10, hg, hf⟩ := ob_s hf
    refine kc_calli (wn := fun _ => (wX cx aX aH aI aS aT ak aC aD (aC 0) (aD 0) aG db dn ql qf qz qi sp s1 s2 s3 s4 s5 sP sC sH tl kl kf cv cc cm ch dv dc dm dh gw gh gk gq gr gj gR gT gC)) (va_runV (As := [.int x1]) (rest := []) ⟨hx, hb, hml, hown, hts⟩ (metX0_threatsOf l D cx aC aG cv cc cm ch gw gh gk gq gr gj gR gT gC x1 N H.size u10 hg) ⟨callB_of 1 hts (kc_gI wd_466) rfl rfl rfl (hts _ wd_44) (hts _ wd_463) (by decide +kernel) ⟨Nat.le_of_ble_eq_true rfl, Nat.le_of_ble_eq_true rfl⟩, hts _ wd_464, hts _ wd_465⟩ ⟨kc_blind _ _ _ _ _, va_recv hK hP (ci := 0) (q0 := 21) rfl rfl, kc_pre _ hK hN (hP.sub [21, 22, 23, 24, 29, 30, 31, 32] rfl) (hD.sub [21, 22, 23, 24, 29, 30, 31, 32] (by decide) rfl)⟩ rfl rfl hl.1 rfl (lv_room (Nat.le_of_ble_eq_true rfl)) dX4_threat_18 ⟨Nat.zero_le _, Nat.zero_le _⟩) hP hD hS hA [21, 22, 23, 24, 29, 30, 31, 32] [0, 1, 2, 3, 4, 5, 6, 7, 8, 9, 10, 11, 12, 13, 14, 15, 16, 17, 18, 19, 20, 25, 26, 27, 28] [0, 1, 2, 3, 4, 5, 6, 7, 8, 9, 10, 11, 12, 13, 14, 15, 16, 17, 18, 19, 20, 25, 26, 27, 28, 21, 22, 23, 24, 29, 30, 31, 32] rfl rfl (by decide) (by decide) (fun _ => rfl) (by decide) (fun _ H locs hP hD hS => ?_)
    have hP : va_P D classes (wX cx aX aH aI aS aT ak aC aD (aC 0) (aD 0) aG db dn ql qf qz qi sp s1 s2 s3 s4 s5 sP sC sH tl kl kf cv cc cm ch dv dc dm dh gw gh gk gq gr gj gR gT gC) H := hP
    have hD : va_D A (wX cx aX aH aI aS aT ak aC aD (aC 0) (aD 0) aG db dn ql qf qz qi sp s1 s2 s3 s4 s5 sP sC sH tl kl kf cv cc cm ch dv dc dm dh gw gh gk gq gr gj gR gT gC) := hD
    refine lv_istore_n (lv' := [(3, .int u10), (0, .ref (aX 0)), (1, .int x1), (2, .int x2)]) hx hb dX4_threat_21 rfl hl (by decide) rfl (fun ls hl => ?_)
    refine lv_iload_n hx hb dX4_threat_22 rfl (lv_at hl 3 rfl) ?_
    refine lv_iconst (v := (0 : Int32)) hx hb dX4_threat_23 (by decide) ?_
    refine lv_iload_n hx hb dX4_threat_24 rfl (lv_at hl 0 rfl) ?_
    obtain ⟨u11, hg, hf⟩ := ob_s hf
    refine kc_calli (wn := fun _ => (wX cx aX aH aI aS aT ak aC aD (aC 0) (aD 0) aG db dn ql qf qz qi sp s1 s2 s3 s4 s5 sP sC sH tl kl kf cv cc cm ch dv dc dm dh gw gh gk gq gr gj gR gT gC)) (va_runS (As := [.int u10]) (rest := [.int (0 : Int32), .int x2]) ⟨hx, hb, hml, hown, hts⟩ (metJ6_bitCount_0f7a4 l D cx   u10 N H.size u11 hg) ⟨callB_of 1 hts (kc_gI wd_348) rfl rfl rfl (hts _ wd_47) (hts _ wd_346) (by decide +kernel) ⟨Nat.le_of_ble_eq_true rfl, Nat.le_of_ble_eq_true rfl⟩, hts _ wd_347⟩ ⟨kc_blind _ _ _ _ _, kc_pre _ hK hN (hP.sub [] rfl) (hD.sub [] (by decide) rfl)⟩ rfl rfl hl.1 rfl (lv_room (Nat.le_of_ble_eq_true rfl)) dX4_threat_25 ⟨Nat.zero_le _, Nat.zero_le _⟩) hP hD hS hA [] [0, 1, 2, 3, 4, 5, 6, 7, 8, 9, 10, 11, 12, 13, 14, 15, 16, 17, 18, 19, 20, 21, 22, 23, 24, 25, 26, 27, 28, 29, 30, 31, 32] [0, 1, 2, 3, 4, 5, 6, 7, 8, 9, 10, 11, 12, 13, 14, 15, 16, 17, 18, 19, 20, 21, 22, 23, 24, 25, 26, 27, 28, 29, 30, 31, 32] rfl rfl (by decide) (by decide) (fun _ => rfl) (by decide) (fun _ H locs hP hD hS => ?_)
    have hP : va_P D classes (wX cx aX aH aI aS aT ak aC aD (aC 0) (aD 0) aG db dn ql qf qz qi sp s1 s2 s3 s4 s5 sP sC sH tl kl kf cv cc cm ch dv dc dm dh gw gh gk gq gr gj gR gT gC) H := hP
    have hD : va_D A (wX cx aX aH aI aS aT ak aC aD (aC 0) (aD 0) aG db dn ql qf qz qi sp s1 s2 s3 s4 s5 sP sC sH tl kl kf cv cc cm ch dv dc dm dh gw gh gk gq gr gj gR gT gC) := hD
    refine lv_iconst (v := (1 : Int32)) hx hb dX4_threat_28 (by decide) ?_
    refine lv_isub hx hb dX4_threat_29 ?_
    obtain ⟨u12, hg, hf⟩ := ob_s hf
    refine kc_calli (wn := fun _ => (wX cx aX aH aI aS aT ak aC aD (aC 0) (aD 0) aG db dn ql qf qz qi sp s1 s2 s3 s4 s5 sP sC sH tl kl kf cv cc cm ch dv dc dm dh gw gh gk gq gr gj gR gT gC)) (va_runS (As := [.int x2, .int (0 : Int32), .int (u11 - (1 : Int32))]) (rest := []) ⟨hx, hb, hml, hown, hts⟩ (metX4_isWithin l D cx   x2 (0 : Int32) (u11 - (1 : Int32)) N H.size u12 hg) ⟨callB_of 3 hts (kc_gI wd_254) rfl rfl rfl (hts _ wd_40) (hts _ wd_252) (by decide +kernel) ⟨Nat.le_of_ble_eq_true rfl, Nat.le_of_ble_eq_true rfl⟩, hts _ wd_253⟩ ⟨kc_blind _ _ _ _ _, kc_pre _ hK hN (hP.sub [] rfl) (hD.sub [] (by decide) rfl)⟩ rfl rfl hl.1 rfl (lv_room (Nat.le_of_ble_eq_true rfl)) dX4_threat_30 ⟨Nat.zero_le _, Nat.zero_le _⟩) hP hD hS hA [] [0, 1, 2, 3, 4, 5, 6, 7, 8, 9, 10, 11, 12, 13, 14, 15, 16, 17, 18, 19, 20, 21, 22, 23, 24, 25, 26, 27, 28, 29, 30, 31, 32] [0, 1, 2, 3, 4, 5, 6, 7, 8, 9, 10, 11, 12, 13, 14, 15, 16, 17, 18, 19, 20, 21, 22, 23, 24, 25, 26, 27, 28, 29, 30, 31, 32] rfl rfl (by decide) (by decide) (fun _ => rfl) (by decide) (fun _ H locs hP hD hS => ?_)
    have hP : va_P D classes (wX cx aX aH aI aS aT ak aC aD (aC 0) (aD 0) aG db dn ql qf qz qi sp s1 s2 s3 s4 s5 sP sC sH tl kl kf cv cc cm ch dv dc dm dh gw gh gk gq gr gj gR gT gC) H := hP
    have hD : va_D A (wX cx aX aH aI aS aT ak aC aD (aC 0) (aD 0) aG db dn ql qf qz qi sp s1 s2 s3 s4 s5 sP sC sH tl kl kf cv cc cm ch dv dc dm dh gw gh gk gq gr gj gR gT gC) := hD
    refine lv_if_eq (tgt := 44) hx hb dX4_threat_33 (by decide) (fun c13 => ?_) (fun c13 => ?_)
    · replace hf := it_t c13 hf
      refine lv_sipush (v := (-200 : Int32)) hx hb dX4_threat_44 (by decide) ?_
      obtain rfl := Option.some.inj hf
      exact kc_iret () hx hb hr hk hP hD hS rfl dX4_threat_47
    · replace hf := it_f c13 hf
      refine lv_iload_n hx hb dX4_threat_36 rfl (lv_at hl 0 rfl) ?_
      refine lv_iload_n hx hb dX4_threat_37 rfl (lv_at hl 3 rfl) ?_
      obtain ⟨u14, hg, hf⟩ := ob_s hf
      refine kc_calli (wn := fun _ => (wX cx aX aH aI aS aT ak aC aD (aC 0) (aD 0) aG db dn ql qf qz qi sp s1 s2 s3 s4 s5 sP sC sH tl kl kf cv cc cm ch dv dc dm dh gw gh gk gq gr gj gR gT gC)) (va_runS (As := [.int u10, .int x2]) (rest := []) ⟨hx, hb, hml, hown, hts⟩ (metX4_nthSquare l D cx   u10 x2 N H.size u14 hg) ⟨callB_of 2 hts (kc_gI wd_345) rfl rfl rfl (hts _ wd_40) (hts _ wd_343) (by decide +kernel) ⟨Nat.le_of_ble_eq_true rfl, Nat.le_of_ble_eq_true rfl⟩, hts _ wd_344⟩ ⟨kc_blind _ _ _ _ _, kc_pre _ hK hN (hP.sub [] rfl) (hD.sub [] (by decide) rfl)⟩ rfl rfl hl.1 rfl (lv_room (Nat.le_of_ble_eq_true rfl)) dX4_threat_38 ⟨Nat.zero_le _, Nat.zero_le _⟩) hP hD hS hA [] [0, 1, 2, 3, 4, 5, 6, 7, 8, 9, 10, 11, 12, 13, 14, 15, 16, 17, 18, 19, 20, 21, 22, 23, 24, 25, 26, 27, 28, 29, 30, 31, 32] [0, 1, 2, 3, 4, 5, 6, 7, 8, 9, 10, 11, 12, 13, 14, 15, 16, 17, 18, 19, 20, 21, 22, 23, 24, 25, 26, 27, 28, 29, 30, 31, 32] rfl rfl (by decide) (by decide) (fun _ => rfl) (by decide) (fun _ H locs hP hD hS => ?_)
      have hP : va_P D classes (wX cx aX aH aI aS aT ak aC aD (aC 0) (aD 0) aG db dn ql qf qz qi sp s1 s2 s3 s4 s5 sP sC sH tl kl kf cv cc cm ch dv dc dm dh gw gh gk gq gr gj gR gT gC) H := hP
      have hD : va_D A (wX cx aX aH aI aS aT ak aC aD (aC 0) (aD 0) aG db dn ql qf qz qi sp s1 s2 s3 s4 s5 sP sC sH tl kl kf cv cc cm ch dv dc dm dh gw gh gk gq gr gj gR gT gC) := hD
      refine lv_goto (tgt := 47) hx hb dX4_threat_41 (by decide) ?_
      obtain rfl := Option.some.inj hf
      exact kc_iret () hx hb hr hk hP hD hS rfl dX4_threat_47
  · replace hf := it_t c9 hf
    refine lv_sipush (v := (-200 : Int32)) hx hb dX4_threat_9 (by decide) ?_
    obtain rfl := Option.some.inj hf
    exact kc_iret () hx hb hr hk hP hD hS rfl dX4_threat_12
abbrev rmX4_waiting : Room := { frames := 4, cells := 0, slots := 0, locals := 92 }
set_option maxHeartbeats 4000000 in
set_option maxRecDepth 100000 in
theorem metX4_waiting (l : Launch) (D : va_G) (cx : Nat → ClassId) (aX : Nat → Nat) (aH : Nat → Nat) (aI : Nat → Nat) (aS : Nat → Nat) (aT : Nat → Nat) (ak : Nat) (aC : Nat → Nat) (aD : Nat → Nat) (aG : Nat → Nat) (db : Int32) (dn : Int32) (ql : Nat → Int32) (qf : Nat → Int32) (qz : Nat → Int32) (qi : Nat → Nat → Int32) (sp : Int32) (s1 : Int32) (s2 : Int32) (s3 : Int32) (s4 : Int32) (s5 : Int32) (sP : Nat → Int32) (sC : Nat → Int32) (sH : Nat → Int32) (tl : Nat → Nat → Int32) (kl : Nat) (kf : Nat → Int64) (cv : Int32) (cc : Nat → Int32) (cm : Nat → Int32) (ch : Nat → Int32) (dv : Int32) (dc : Nat → Int32) (dm : Nat → Int32) (dh : Nat → Int32) (gw : Int32) (gh : Int32) (gk : Int32) (gq : Int32) (gr : Int32) (gj : Int32) (gR : Nat → Int32) (gT : Nat → Int32) (gC : Nat → Int32)  (N : Nat) (sz : Nat) (v : Int32 × Int32 × (Nat → Int32) × (Nat → Int32) × (Nat → Int32)) (hf : fX4_waiting N cv cc cm dv dc dm dh gw gh gq gr gR = some v) : Met l yX4_waiting (.code yX4_waiting cX4_waiting 2 (some .int) :: kc_TB) rmX4_waiting (kc_Pre D cx (wX cx aX aH aI aS aT ak aC aD (aC 0) (aD 0) aG db dn ql qf qz qi sp s1 s2 s3 s4 s5 sP sC sH tl kl kf cv cc cm ch dv dc dm dh gw gh gk gq gr gj gR gT gC) [.ref (aX 0)] sz) (kc_Pi D (fun _ : Unit => (wX cx aX aH aI aS aT ak aC aD (aC 0) (aD 0) aG db dn ql qf qz qi sp s1 s2 s3 s4 s5 sP sC sH tl kl kf cv cc cm ch v.2.1 v.2.2.1 v.2.2.2.1 v.2.2.2.2 gw gh gk gq gr gj gR gT gC)) v.1 (va_A (wX cx aX aH aI aS aT ak aC aD (aC 0) (aD 0) aG db dn ql qf qz qi sp s1 s2 s3 s4 s5 sP sC sH tl kl kf cv cc cm ch dv dc dm dh gw gh gk gq gr gj gR gT gC) sz)) 0 0 (va_A (wX cx aX aH aI aS aT ak aC aD (aC 0) (aD 0) aG db dn ql qf qz qi sp s1 s2 s3 s4 s5 sP sC sH tl kl kf cv cc cm ch dv dc dm dh gw gh gk gq gr gj gR gT gC) sz) := by
  refine kc_entry (Qc := fun A => (kc_Pi D (fun _ : Unit => (wX cx aX aH aI aS aT ak aC aD (aC 0) (aD 0) aG db dn ql qf qz qi sp s1 s2 s3 s4 s5 sP sC sH tl kl kf cv cc cm ch v.2.1 v.2.2.1 v.2.2.2.1 v.2.2.2.2 gw gh gk gq gr gj gR gT gC)) v.1 A)) (by decide) (Nat.le_of_ble_eq_true rfl) ?_
  intro p e s m below meth c A hx hb hr hk hml hown hin hts hN hK hP hD hS hA ls hl
  have hown : s.vm.findClass RX4 = some m.cls := hown
  have hl : lv_has ls 2 [(0, .ref (aX 0))] := hl
  unfold fX4_waiting at hf
  have hP : va_P D classes (wX cx aX aH aI aS aT ak aC aD (aC 0) (aD 0) aG db dn ql qf qz qi sp s1 s2 s3 s4 s5 sP sC sH tl kl kf cv cc cm ch dv dc dm dh gw gh gk gq gr gj gR gT gC) s.heap := hP
  obtain ⟨H, hH⟩ : ∃ H, H = s.heap := ⟨_, rfl⟩
  obtain ⟨locs, hL⟩ : ∃ locs : List Loc, locs = [] := ⟨_, rfl⟩
  have hS : va_S A s.heap H locs := by rw [hH, hL]; exact hS
  have hP : va_P D classes (wX cx aX aH aI aS aT ak aC aD (aC 0) (aD 0) aG db dn ql qf qz qi sp s1 s2 s3 s4 s5 sP sC sH tl kl kf cv cc cm ch dv dc dm dh gw gh gk gq gr gj gR gT gC) H := by rw [hH]; exact hP
  suffices hW : W p l e rmX4_waiting s m ([.ref (aX 0)] : List Value).toArray below meth c H locs 0 0 (MQ below (kc_Pi D (fun _ : Unit => (wX cx aX aH aI aS aT ak aC aD (aC 0) (aD 0) aG db dn ql qf qz qi sp s1 s2 s3 s4 s5 sP sC sH tl kl kf cv cc cm ch v.2.1 v.2.2.1 v.2.2.2.1 v.2.2.2.2 gw gh gk gq gr gj gR gT gC)) v.1 A) ([.ref (aX 0)] : List Value).toArray s 0 0 A) (F0 m 0 ls []) by rw [hH, hL] at hW; exact hW
  clear hH hL
  refine lv_aload_n hx hb dX4_waiting_0 rfl (lv_at hl 0 rfl) ?_
  refine va_get (D := D) (ci := 4) (v := .ref (aC 0)) (C := RX4) (T := TX4) (N := 7) hx hb hts iX4 hown hK hP 0 rfl rfl 3 (by decide) (hts _ wd_229) (fun _ h9 => h9) rfl dX4_waiting_1 ?_
  obtain ⟨u13, hg, hf⟩ := ob_s hf
  refine kc_calli (wn := fun _ => (wX cx aX aH aI aS aT ak aC aD (aC 0) (aD 0) aG db dn ql qf qz qi sp s1 s2 s3 s4 s5 sP sC sH tl kl kf cv cc cm ch dv dc dm dh gw gh gk gq gr gj gR gT gC)) (va_runV (As := []) (rest := []) ⟨hx, hb, hml, hown, hts⟩ (metX0_isOver l D cx aC aG cv cc cm ch gw gh gk gq gr gj gR gT gC  N H.size u13 hg) ⟨callB_of 0 hts (kc_gI wd_276) rfl rfl rfl (hts _ wd_44) (hts _ wd_273) (by decide +kernel) ⟨Nat.le_of_ble_eq_true rfl, Nat.le_of_ble_eq_true rfl⟩, hts _ wd_274, hts _ wd_275⟩ ⟨kc_blind _ _ _ _ _, va_recv hK hP (ci := 0) (q0 := 21) rfl rfl, kc_pre _ hK hN (hP.sub [21, 22, 23, 24, 29, 30, 31, 32] rfl) (hD.sub [21, 22, 23, 24, 29, 30, 31, 32] (by decide) rfl)⟩ rfl rfl hl.1 rfl (lv_room (Nat.le_of_ble_eq_true rfl)) dX4_waiting_4 ⟨Nat.zero_le _, Nat.zero_le _⟩) hP hD hS hA [21, 22, 23, 24, 29, 30, 31, 32] [0, 1, 2, 3, 4, 5, 6, 7, 8, 9, 10, 11, 12, 13, 14, 15, 16, 17, 18, 19, 20, 25, 26, 27, 28] [0, 1, 2, 3, 4, 5, 6, 7, 8, 9, 10, 11, 12, 13, 14, 15, 16, 17, 18, 19, 20, 25, 26, 27, 28, 21, 22, 23, 24, 29, 30, 31, 32] rfl rfl (by decide) (by decide) (fun _ => rfl) (by decide) (fun _ H locs hP hD hS => ?_)
  have hP : va_P D classes (wX cx aX aH aI aS aT ak aC aD (aC 0) (aD 0) aG db dn ql qf qz qi sp s1 s2 s3 s4 s5 sP sC sH tl kl kf cv cc cm ch dv dc dm dh gw gh gk gq gr gj gR gT gC) H := hP
  have hD : va_D A (wX cx aX aH aI aS aT ak aC aD (aC 0) (aD 0) aG db dn ql qf qz qi sp s1 s2 s3 s4 s5 sP sC sH tl kl kf cv cc cm ch dv dc dm dh gw gh gk gq gr gj gR gT gC) := hD
  refine lv_if_eq (tgt := 14) hx hb dX4_waiting_7 (by decide) (fun c14 => ?_) (fun c14 => ?_)
  · replace hf := it_t c14 hf
    refine lv_aload_n hx hb dX4_waiting_14 rfl (lv_at hl 0 rfl) ?_
    refine va_get (D := D) (ci := 4) (v := .ref (aD 0)) (C := RX4) (T := TX4) (N := 7) hx hb hts iX4 hown hK hP 0 rfl rfl 4 (by decide) (hts _ wd_230) (fun _ h9 => h9) rfl dX4_waiting_15 ?_
    refine lv_aload_n hx hb dX4_waiting_18 rfl (lv_at hl 0 rfl) ?_
    refine va_get (D := D) (ci := 4) (v := .ref (aC 0)) (C := RX4) (T := TX4) (N := 7) hx hb hts iX4 hown hK hP 0 rfl rfl 3 (by decide) (hts _ wd_229) (fun _ h9 => h9) rfl dX4_waiting_19 ?_
    obtain ⟨u15, hg, hf⟩ := ob_s hf
    refine kc_callv (wn := fun _ => (wX cx aX aH aI aS aT ak aC aD (aC 0) (aD 0) aG db dn ql qf qz qi sp s1 s2 s3 s4 s5 sP sC sH tl kl kf cv cc cm ch u15.1 u15.2.1 u15.2.2.1 u15.2.2.2 gw gh gk gq gr gj gR gT gC)) (va_runV (As := [.ref (aC 0)]) (rest := []) ⟨hx, hb, hml, hown, hts⟩ (metX0_follow l D cx aD aC aG dv dc dm dh cv cc cm ch gw gh gk gq gr gj gR gT gC  N H.size u15 hg) ⟨callB_of 1 hts (kc_gI wd_483) rfl rfl rfl (hts _ wd_44) (hts _ wd_480) (by decide +kernel) ⟨Nat.le_of_ble_eq_true rfl, Nat.le_of_ble_eq_true rfl⟩, hts _ wd_481, hts _ wd_482⟩ ⟨kc_blind _ _ _ _ _, va_recv hK hP (ci := 0) (q0 := 25) rfl rfl, kc_pre _ hK hN (hP.sub [25, 26, 27, 28, 21, 22, 23, 24, 29, 30, 31, 32] rfl) (hD.sub [25, 26, 27, 28, 21, 22, 23, 24, 29, 30, 31, 32] (by decide) rfl)⟩ rfl rfl hl.1 rfl (lv_room (Nat.le_of_ble_eq_true rfl)) dX4_waiting_22 ⟨Nat.zero_le _, Nat.zero_le _⟩) hP hD hS hA [25, 26, 27, 28, 21, 22, 23, 24, 29, 30, 31, 32] [0, 1, 2, 3, 4, 5, 6, 7, 8, 9, 10, 11, 12, 13, 14, 15, 16, 17, 18, 19, 20] [0, 1, 2, 3, 4, 5, 6, 7, 8, 9, 10, 11, 12, 13, 14, 15, 16, 17, 18, 19, 20, 25, 26, 27, 28, 21, 22, 23, 24, 29, 30, 31, 32] rfl rfl (by decide) (by decide) (fun _ => rfl) (by decide) (fun _ H locs hP hD hS => ?_)
    have hP : va_P D classes (wX cx aX aH aI aS aT ak aC aD (aC 0) (aD 0) aG db dn ql qf qz qi sp s1 s2 s3 s4 s5 sP sC sH tl kl kf cv cc cm ch u15.1 u15.2.1 u15.2.2.1 u15.2.2.2 gw gh gk gq gr gj gR gT gC) H := hP
    have hD : va_D A (wX cx aX aH aI aS aT ak aC aD (aC 0) (aD 0) aG db dn ql qf qz qi sp s1 s2 s3 s4 s5 sP sC sH tl kl kf cv cc cm ch u15.1 u15.2.1 u15.2.2.1 u15.2.2.2 gw gh gk gq gr gj gR gT gC) := hD
    refine lv_aload_n hx hb dX4_waiting_25 rfl (lv_at hl 0 rfl) ?_
    refine va_get (D := D) (ci := 4) (v := .ref (aD 0)) (C := RX4) (T := TX4) (N := 7) hx hb hts iX4 hown hK hP 0 rfl rfl 4 (by decide) (hts _ wd_230) (fun _ h9 => h9) rfl dX4_waiting_26 ?_
    refine va_get (D := D) (ci := 0) (v := .int u15.1) (C := RX0) (T := TX0) (N := 5) hx hb hts iX0 hown hK hP 25 rfl rfl 4 (by decide) (hts _ wd_189) (fun _ h9 => h9) rfl dX4_waiting_29 ?_
    refine lv_istore_n (lv' := [(1, .int u15.1), (0, .ref (aX 0))]) hx hb dX4_waiting_32 rfl hl (by decide) rfl (fun ls hl => ?_)
    have L33 : ∀ (ct : Nat) (dv : Int32) (dc : Nat → Int32) (dm : Nat → Int32) (dh : Nat → Int32) (x1 : Int32) (v33 : Int32 × (Nat → Int32) × (Nat → Int32) × (Nat → Int32)), fX4_waiting_L33 N gw gh gq gr gR ct dv dc dm dh x1 = some v33 → ∀ (H : Heap) (locs : List Loc) (ls : Array Slot), va_P D classes (wX cx aX aH aI aS aT ak aC aD (aC 0) (aD 0) aG db dn ql qf qz qi sp s1 s2 s3 s4 s5 sP sC sH tl kl kf cv cc cm ch dv dc dm dh gw gh gk gq gr gj gR gT gC) H → va_D A (wX cx aX aH aI aS aT ak aC aD (aC 0) (aD 0) aG db dn ql qf qz qi sp s1 s2 s3 s4 s5 sP sC sH tl kl kf cv cc cm ch dv dc dm dh gw gh gk gq gr gj gR gT gC) → va_S A s.heap H locs → lv_has ls 2 [(0, .ref (aX 0)), (1, .int x1)] → (∀ (H : Heap) (locs : List Loc) (ls : Array Slot), va_P D classes (wX cx aX aH aI aS aT ak aC aD (aC 0) (aD 0) aG db dn ql qf qz qi sp s1 s2 s3 s4 s5 sP sC sH tl kl kf cv cc cm ch v33.1 v33.2.1 v33.2.2.1 v33.2.2.2 gw gh gk gq gr gj gR gT gC) H → va_D A (wX cx aX aH aI aS aT ak aC aD (aC 0) (aD 0) aG db dn ql qf qz qi sp s1 s2 s3 s4 s5 sP sC sH tl kl kf cv cc cm ch v33.1 v33.2.1 v33.2.2.1 v33.2.2.2 gw gh gk gq gr gj gR gT gC) → va_S A s.heap H locs → lv_has ls 2 [(0, .ref (aX 0))] → W p l e rmX4_waiting s m ([.ref (aX 0)] : List Value).toArray below meth c H locs 0 0 (MQ below (kc_Pi D (fun _ : Unit => (wX cx aX aH aI aS aT ak aC aD (aC 0) (aD 0) aG db dn ql qf qz qi sp s1 s2 s3 s4 s5 sP sC sH tl kl kf cv cc cm ch v.2.1 v.2.2.1 v.2.2.2.1 v.2.2.2.2 gw gh gk gq gr gj gR gT gC)) v.1 A) ([.ref (aX 0)] : List Value).toArray s 0 0 A) (F0 m 75 ls [])) → W p l e rmX4_waiting s m ([.ref (aX 0)] : List Value).toArray below meth c H locs 0 0 (MQ below (kc_Pi D (fun _ : Unit => (wX cx aX aH aI aS aT ak aC aD (aC 0) (aD 0) aG db dn ql qf qz qi sp s1 s2 s3 s4 s5 sP sC sH tl kl kf cv cc cm ch v.2.1 v.2.2.1 v.2.2.2.1 v.2.2.2.2 gw gh gk gq gr gj gR gT gC)) v.1 A) ([.ref (aX 0)] : List Value).toArray s 0 0 A) (F0 m 33 ls []) := by
      intro ct
      induction ct with
      | zero =>
        intro dv dc dm dh x1 v33 hf
        exact absurd (show (none : Option (Int32 × (Nat → Int32) × (Nat → Int32) × (Nat → Int32))) = some v33 from hf) (fun q => by cases q)
      | succ ct ih =>
        intro dv dc dm dh x1 v33 hf H locs ls hP hD hS hl hE
        rw [fX4_waiting_L33] at hf
        refine lv_iload_n hx hb dX4_waiting_33 rfl (lv_at hl 1 rfl) ?_
        refine lv_aload_n hx hb dX4_waiting_34 rfl (lv_at hl 0 rfl) ?_
        refine va_get (D := D) (ci := 4) (v := .ref (aG 0)) (C := RX4) (T := TX4) (N := 7) hx hb hts iX4 hown hK hP 0 rfl rfl 0 (by decide) (hts _ wd_226) (fun _ h9 => h9) rfl dX4_waiting_35 ?_
        refine va_get (D := D) (ci := 1) (v := .int gq) (C := RX1) (T := TX1) (N := 9) hx hb hts iX1 hown hK hP 29 rfl rfl 3 (by decide) (hts _ wd_75) (fun _ h9 => h9) rfl dX4_waiting_38 ?_
        refine lv_icmp_ge (tgt := 75) hx hb dX4_waiting_41 (by decide) (fun c21 => ?_) (fun c21 => ?_)
        · replace hf := it_t c21 hf
          obtain rfl := Option.some.inj hf
          exact hE H locs ls hP hD hS (lv_sub hl [0] rfl)
        · replace hf := it_f c21 hf
          refine lv_aload_n hx hb dX4_waiting_44 rfl (lv_at hl 0 rfl) ?_
          refine va_get (D := D) (ci := 4) (v := .ref (aD 0)) (C := RX4) (T := TX4) (N := 7) hx hb hts iX4 hown hK hP 0 rfl rfl 4 (by decide) (hts _ wd_230) (fun _ h9 => h9) rfl dX4_waiting_45 ?_
          obtain ⟨u22, hg, hf⟩ := ob_s hf
          refine kc_calli (wn := fun _ => (wX cx aX aH aI aS aT ak aC aD (aC 0) (aD 0) aG db dn ql qf qz qi sp s1 s2 s3 s4 s5 sP sC sH tl kl kf cv cc cm ch dv dc dm dh gw gh gk gq gr gj gR gT gC)) (va_runV (As := []) (rest := []) ⟨hx, hb, hml, hown, hts⟩ (metX0_isOver l D cx aD aG dv dc dm dh gw gh gk gq gr gj gR gT gC  N H.size u22 hg) ⟨callB_of 0 hts (kc_gI wd_276) rfl rfl rfl (hts _ wd_44) (hts _ wd_273) (by decide +kernel) ⟨Nat.le_of_ble_eq_true rfl, Nat.le_of_ble_eq_true rfl⟩, hts _ wd_274, hts _ wd_275⟩ ⟨kc_blind _ _ _ _ _, va_recv hK hP (ci := 0) (q0 := 25) rfl rfl, kc_pre _ hK hN (hP.sub [25, 26, 27, 28, 29, 30, 31, 32] rfl) (hD.sub [25, 26, 27, 28, 29, 30, 31, 32] (by decide) rfl)⟩ rfl rfl hl.1 rfl (lv_room (Nat.le_of_ble_eq_true rfl)) dX4_waiting_48 ⟨Nat.zero_le _, Nat.zero_le _⟩) hP hD hS hA [25, 26, 27, 28, 29, 30, 31, 32] [0, 1, 2, 3, 4, 5, 6, 7, 8, 9, 10, 11, 12, 13, 14, 15, 16, 17, 18, 19, 20, 21, 22, 23, 24] [0, 1, 2, 3, 4, 5, 6, 7, 8, 9, 10, 11, 12, 13, 14, 15, 16, 17, 18, 19, 20, 21, 22, 23, 24, 25, 26, 27, 28, 29, 30, 31, 32] rfl rfl (by decide) (by decide) (fun _ => rfl) (by decide) (fun _ H locs hP hD hS => ?_)
          have hP : va_P D classes (wX cx aX aH aI aS aT ak aC aD (aC 0) (aD 0) aG db dn ql qf qz qi sp s1 s2 s3 s4 s5 sP sC sH tl kl kf cv cc cm ch dv dc dm dh gw gh gk gq gr gj gR gT gC) H := hP
          have hD : va_D A (wX cx aX aH aI aS aT ak aC aD (aC 0) (aD 0) aG db dn ql qf qz qi sp s1 s2 s3 s4 s5 sP sC sH tl kl kf cv cc cm ch dv dc dm dh gw gh gk gq gr gj gR gT gC) := hD
          refine lv_if_ne (tgt := 75) hx hb dX4_waiting_51 (by decide) (fun c23 => ?_) (fun c23 => ?_)
          · replace hf := it_f c23 hf
            obtain rfl := Option.some.inj hf
            exact hE H locs ls hP hD hS (lv_sub hl [0] rfl)
          · replace hf := it_t c23 hf
            refine lv_aload_n hx hb dX4_waiting_54 rfl (lv_at hl 0 rfl) ?_
            refine va_get (D := D) (ci := 4) (v := .ref (aD 0)) (C := RX4) (T := TX4) (N := 7) hx hb hts iX4 hown hK hP 0 rfl rfl 4 (by decide) (hts _ wd_230) (fun _ h9 => h9) rfl dX4_waiting_55 ?_
            refine lv_aload_n hx hb dX4_waiting_58 rfl (lv_at hl 0 rfl) ?_
            refine va_get (D := D) (ci := 4) (v := .ref (aD 0)) (C := RX4) (T := TX4) (N := 7) hx hb hts iX4 hown hK hP 0 rfl rfl 4 (by decide) (hts _ wd_230) (fun _ h9 => h9) rfl dX4_waiting_59 ?_
            obtain ⟨u24, hg, hf⟩ := ob_s hf
            refine kc_calli (wn := fun _ => (wX cx aX aH aI aS aT ak aC aD (aC 0) (aD 0) aG db dn ql qf qz qi sp s1 s2 s3 s4 s5 sP sC sH tl kl kf cv cc cm ch dv dc dm dh gw gh gk gq gr gj gR gT gC)) (va_runV (As := []) (rest := [.ref (aD 0)]) ⟨hx, hb, hml, hown, hts⟩ (metX0_waitingColumn l D cx aD aG dv dc dm dh gw gh gk gq gr gj gR gT gC  N H.size u24 hg) ⟨callB_of 0 hts (kc_gI wd_489) rfl rfl rfl (hts _ wd_44) (hts _ wd_486) (by decide +kernel) ⟨Nat.le_of_ble_eq_true rfl, Nat.le_of_ble_eq_true rfl⟩, hts _ wd_487, hts _ wd_488⟩ ⟨kc_blind _ _ _ _ _, va_recv hK hP (ci := 0) (q0 := 25) rfl rfl, kc_pre _ hK hN (hP.sub [25, 26, 27, 28, 29, 30, 31, 32] rfl) (hD.sub [25, 26, 27, 28, 29, 30, 31, 32] (by decide) rfl)⟩ rfl rfl hl.1 rfl (lv_room (Nat.le_of_ble_eq_true rfl)) dX4_waiting_62 ⟨Nat.zero_le _, Nat.zero_le _⟩) hP hD hS hA [25, 26, 27, 28, 29, 30, 31, 32] [0, 1, 2, 3, 4, 5, 6, 7, 8, 9, 10, 11, 12, 13, 14, 15, 16, 17, 18, 19, 20, 21, 22, 23, 24] [0, 1, 2, 3, 4, 5, 6, 7, 8, 9, 10, 11, 12, 13, 14, 15, 16, 17, 18, 19, 20, 21, 22, 23, 24, 25, 26, 27, 28, 29, 30, 31, 32] rfl rfl (by decide) (by decide) (fun _ => rfl) (by decide) (fun _ H locs hP hD hS => ?_)
            have hP : va_P D classes (wX cx aX aH aI aS aT ak aC aD (aC 0) (aD 0) aG db dn ql qf qz qi sp s1 s2 s3 s4 s5 sP sC sH tl kl kf cv cc cm ch dv dc dm dh gw gh gk gq gr gj gR gT gC) H := hP
            have hD : va_D A (wX cx aX aH aI aS aT ak aC aD (aC 0) (aD 0) aG db dn ql qf qz qi sp s1 s2 s3 s4 s5 sP sC sH tl kl kf cv cc cm ch dv dc dm dh gw gh gk gq gr gj gR gT gC) := hD
            obtain ⟨u25, hg, hf⟩ := ob_s hf
            refine kc_calli (wn := fun _ => (wX cx aX aH aI aS aT ak aC aD (aC 0) (aD 0) aG db dn ql qf qz qi sp s1 s2 s3 s4 s5 sP sC sH tl kl kf cv cc cm ch u25.2.1 u25.2.2.1 u25.2.2.2.1 u25.2.2.2.2 gw gh gk gq gr gj gR gT gC)) (va_runV (As := [.int u24]) (rest := []) ⟨hx, hb, hml, hown, hts⟩ (metX0_make l D cx aD aG dv dc dm dh gw gh gk gq gr gj gR gT gC u24 N H.size u25 hg) ⟨callB_of 1 hts (kc_gI wd_292) rfl rfl rfl (hts _ wd_44) (hts _ wd_289) (by decide +kernel) ⟨Nat.le_of_ble_eq_true rfl, Nat.le_of_ble_eq_true rfl⟩, hts _ wd_290, hts _ wd_291⟩ ⟨kc_blind _ _ _ _ _, va_recv hK hP (ci := 0) (q0 := 25) rfl rfl, kc_pre _ hK hN (hP.sub [25, 26, 27, 28, 29, 30, 31, 32] rfl) (hD.sub [25, 26, 27, 28, 29, 30, 31, 32] (by decide) rfl)⟩ rfl rfl hl.1 rfl (lv_room (Nat.le_of_ble_eq_true rfl)) dX4_waiting_65 ⟨Nat.zero_le _, Nat.zero_le _⟩) hP hD hS hA [25, 26, 27, 28, 29, 30, 31, 32] [0, 1, 2, 3, 4, 5, 6, 7, 8, 9, 10, 11, 12, 13, 14, 15, 16, 17, 18, 19, 20, 21, 22, 23, 24] [0, 1, 2, 3, 4, 5, 6, 7, 8, 9, 10, 11, 12, 13, 14, 15, 16, 17, 18, 19, 20, 21, 22, 23, 24, 25, 26, 27, 28, 29, 30, 31, 32] rfl rfl (by decide) (by decide) (fun _ => rfl) (by decide) (fun _ H locs hP hD hS => ?_)
            have hP : va_P D classes (wX cx aX aH aI aS aT ak aC aD (aC 0) (aD 0) aG db dn ql qf qz qi sp s1 s2 s3 s4 s5 sP sC sH tl kl kf cv cc cm ch u25.2.1 u25.2.2.1 u25.2.2.2.1 u25.2.2.2.2 gw gh gk gq gr gj gR gT gC) H := hP
            have hD : va_D A (wX cx aX aH aI aS aT ak aC aD (aC 0) (aD 0) aG db dn ql qf qz qi sp s1 s2 s3 s4 s5 sP sC sH tl kl kf cv cc cm ch u25.2.1 u25.2.2.1 u25.2.2.2.1 u25.2.2.2.2 gw gh gk gq gr gj gR gT gC) := hD
            refine lv_pop hx hb dX4_waiting_68 rfl ?_
            refine lv_iinc (v := (x1 + (1 : Int32))) (lv' := [(1, .int (x1 + (1 : Int32))), (0, .ref (aX 0))]) hx hb dX4_waiting_69 hl (k := 1) rfl rfl (by decide) rfl (fun ls hl => ?_)
            refine lv_goto (tgt := 33) hx hb dX4_waiting_72 (by decide) ?_
            exact ih u25.2.1 u25.2.2.1 u25.2.2.2.1 u25.2.2.2.2 (x1 + (1 : Int32)) _ hf H locs ls hP hD hS (lv_sub hl [1, 0] rfl) hE
    obtain ⟨u26, hg, hf⟩ := ob_s hf
    refine L33 _ u15.1 u15.2.1 u15.2.2.1 u15.2.2.2 u15.1 u26 hg H locs ls hP hD hS (lv_sub hl [1, 0] rfl) (fun H locs ls hP hD hS hl => ?_)
    refine lv_aload_n hx hb dX4_waiting_75 rfl (lv_at hl 0 rfl) ?_
    refine va_get (D := D) (ci := 4) (v := .ref (aD 0)) (C := RX4) (T := TX4) (N := 7) hx hb hts iX4 hown hK hP 0 rfl rfl 4 (by decide) (hts _ wd_230) (fun _ h9 => h9) rfl dX4_waiting_76 ?_
    obtain ⟨u27, hg, hf⟩ := ob_s hf
    refine kc_calli (wn := fun _ => (wX cx aX aH aI aS aT ak aC aD (aC 0) (aD 0) aG db dn ql qf qz qi sp s1 s2 s3 s4 s5 sP sC sH tl kl kf cv cc cm ch u26.1 u26.2.1 u26.2.2.1 u26.2.2.2 gw gh gk gq gr gj gR gT gC)) (va_runV (As := []) (rest := []) ⟨hx, hb, hml, hown, hts⟩ (metX0_state l D cx aD aG u26.1 u26.2.1 u26.2.2.1 u26.2.2.2 gw gh gk gq gr gj gR gT gC  N H.size u27 hg) ⟨callB_of 0 hts (kc_gI wd_280) rfl rfl rfl (hts _ wd_44) (hts _ wd_323) (by decide +kernel) ⟨Nat.le_of_ble_eq_true rfl, Nat.le_of_ble_eq_true rfl⟩, hts _ wd_278, hts _ wd_279⟩ ⟨kc_blind _ _ _ _ _, va_recv hK hP (ci := 0) (q0 := 25) rfl rfl, kc_pre _ hK hN (hP.sub [25, 26, 27, 28, 29, 30, 31, 32] rfl) (hD.sub [25, 26, 27, 28, 29, 30, 31, 32] (by decide) rfl)⟩ rfl rfl hl.1 rfl (lv_room (Nat.le_of_ble_eq_true rfl)) dX4_waiting_79 ⟨Nat.zero_le _, Nat.zero_le _⟩) hP hD hS hA [25, 26, 27, 28, 29, 30, 31, 32] [0, 1, 2, 3, 4, 5, 6, 7, 8, 9, 10, 11, 12, 13, 14, 15, 16, 17, 18, 19, 20, 21, 22, 23, 24] [0, 1, 2, 3, 4, 5, 6, 7, 8, 9, 10, 11, 12, 13, 14, 15, 16, 17, 18, 19, 20, 21, 22, 23, 24, 25, 26, 27, 28, 29, 30, 31, 32] rfl rfl (by decide) (by decide) (fun _ => rfl) (by decide) (fun _ H locs hP hD hS => ?_)
    have hP : va_P D classes (wX cx aX aH aI aS aT ak aC aD (aC 0) (aD 0) aG db dn ql qf qz qi sp s1 s2 s3 s4 s5 sP sC sH tl kl kf cv cc cm ch u26.1 u26.2.1 u26.2.2.1 u26.2.2.2 gw gh gk gq gr gj gR gT gC) H := hP
    have hD : va_D A (wX cx aX aH aI aS aT ak aC aD (aC 0) (aD 0) aG db dn ql qf qz qi sp s1 s2 s3 s4 s5 sP sC sH tl kl kf cv cc cm ch u26.1 u26.2.1 u26.2.2.1 u26.2.2.2 gw gh gk gq gr gj gR gT gC) := hD
    refine lv_iconst (v := (1 : Int32)) hx hb dX4_waiting_82 (by decide) ?_
    refine lv_icmp_eq (tgt := 88) hx hb dX4_waiting_83 (by decide) (fun c28 => ?_) (fun c28 => ?_)
    · replace hf := it_t c28 hf
      refine lv_aload_n hx hb dX4_waiting_88 rfl (lv_at hl 0 rfl) ?_
      refine va_get (D := D) (ci := 4) (v := .ref (aD 0)) (C := RX4) (T := TX4) (N := 7) hx hb hts iX4 hown hK hP 0 rfl rfl 4 (by decide) (hts _ wd_230) (fun _ h9 => h9) rfl dX4_waiting_89 ?_
      obtain ⟨u29, hg, hf⟩ := ob_s hf
      refine kc_calli (wn := fun _ => (wX cx aX aH aI aS aT ak aC aD (aC 0) (aD 0) aG db dn ql qf qz qi sp s1 s2 s3 s4 s5 sP sC sH tl kl kf cv cc cm ch u26.1 u26.2.1 u26.2.2.1 u26.2.2.2 gw gh gk gq gr gj gR gT gC)) (va_runV (As := []) (rest := []) ⟨hx, hb, hml, hown, hts⟩ (metX0_side l D cx aD aG u26.1 u26.2.1 u26.2.2.1 u26.2.2.2 gw gh gk gq gr gj gR gT gC  N H.size u29 hg) ⟨callB_of 0 hts (kc_gI wd_284) rfl rfl rfl (hts _ wd_44) (hts _ wd_322) (by decide +kernel) ⟨Nat.le_of_ble_eq_true rfl, Nat.le_of_ble_eq_true rfl⟩, hts _ wd_282, hts _ wd_283⟩ ⟨kc_blind _ _ _ _ _, va_recv hK hP (ci := 0) (q0 := 25) rfl rfl, kc_pre _ hK hN (hP.sub [25, 26, 27, 28, 29, 30, 31, 32] rfl) (hD.sub [25, 26, 27, 28, 29, 30, 31, 32] (by decide) rfl)⟩ rfl rfl hl.1 rfl (lv_room (Nat.le_of_ble_eq_true rfl)) dX4_waiting_92 ⟨Nat.zero_le _, Nat.zero_le _⟩) hP hD hS hA [25, 26, 27, 28, 29, 30, 31, 32] [0, 1, 2, 3, 4, 5, 6, 7, 8, 9, 10, 11, 12, 13, 14, 15, 16, 17, 18, 19, 20, 21, 22, 23, 24] [0, 1, 2, 3, 4, 5, 6, 7, 8, 9, 10, 11, 12, 13, 14, 15, 16, 17, 18, 19, 20, 21, 22, 23, 24, 25, 26, 27, 28, 29, 30, 31, 32] rfl rfl (by decide) (by decide) (fun _ => rfl) (by decide) (fun _ H locs hP hD hS => ?_)
      have hP : va_P D classes (wX cx aX aH aI aS aT ak aC aD (aC 0) (aD 0) aG db dn ql qf qz qi sp s1 s2 s3 s4 s5 sP sC sH tl kl kf cv cc cm ch u26.1 u26.2.1 u26.2.2.1 u26.2.2.2 gw gh gk gq gr gj gR gT gC) H := hP
      have hD : va_D A (wX cx aX aH aI aS aT ak aC aD (aC 0) (aD 0) aG db dn ql qf qz qi sp s1 s2 s3 s4 s5 sP sC sH tl kl kf cv cc cm ch u26.1 u26.2.1 u26.2.2.1 u26.2.2.2 gw gh gk gq gr gj gR gT gC) := hD
      refine lv_iconst (v := (1 : Int32)) hx hb dX4_waiting_95 (by decide) ?_
      refine lv_icmp_ne (tgt := 103) hx hb dX4_waiting_96 (by decide) (fun c30 => ?_) (fun c30 => ?_)
      · replace hf := it_f c30 hf
        refine lv_iconst (v := (-1 : Int32)) hx hb dX4_waiting_103 (by decide) ?_
        obtain rfl := Option.some.inj hf
        exact kc_iret () hx hb hr hk hP hD hS rfl dX4_waiting_104
      · replace hf := it_t c30 hf
        refine lv_iconst (v := (1 : Int32)) hx hb dX4_waiting_99 (by decide) ?_
        refine lv_goto (tgt := 104) hx hb dX4_waiting_100 (by decide) ?_
        obtain rfl := Option.some.inj hf
        exact kc_iret () hx hb hr hk hP hD hS rfl dX4_waiting_104
    · replace hf := it_f c28 hf
      refine lv_iconst (v := (0 : Int32)) hx hb dX4_waiting_86 (by decide) ?_
      obtain rfl := Option.some.inj hf
      exact kc_iret () hx hb hr hk hP hD hS rfl dX4_waiting_87
  · replace hf := it_f c14 hf
    refine lv_sipush (v := (-201 : Int32)) hx hb dX4_waiting_10 (by decide) ?_
    obtain rfl := Option.some.inj hf
    exact kc_iret () hx hb hr hk hP hD hS rfl dX4_waiting_13
abbrev rmX4_sheet : Room := { frames := 2, cells := 0, slots := 0, locals := 45 }
set_option maxHeartbeats 4000000 in
set_option maxRecDepth 100000 in
theorem metX4_sheet (l : Launch) (D : va_G) (cx : Nat → ClassId) (aX : Nat → Nat) (aH : Nat → Nat) (aI : Nat → Nat) (aS : Nat → Nat) (aT : Nat → Nat) (ak : Nat) (aC : Nat → Nat) (aD : Nat → Nat) (aG : Nat → Nat) (db : Int32) (dn : Int32) (ql : Nat → Int32) (qf : Nat → Int32) (qz : Nat → Int32) (qi : Nat → Nat → Int32) (sp : Int32) (s1 : Int32) (s2 : Int32) (s3 : Int32) (s4 : Int32) (s5 : Int32) (sP : Nat → Int32) (sC : Nat → Int32) (sH : Nat → Int32) (tl : Nat → Nat → Int32) (kl : Nat) (kf : Nat → Int64) (cv : Int32) (cc : Nat → Int32) (cm : Nat → Int32) (ch : Nat → Int32) (dv : Int32) (dc : Nat → Int32) (dm : Nat → Int32) (dh : Nat → Int32) (gw : Int32) (gh : Int32) (gk : Int32) (gq : Int32) (gr : Int32) (gj : Int32) (gR : Nat → Int32) (gT : Nat → Int32) (gC : Nat → Int32) (x1 : Int32) (x2 : Int32) (x3 : Int32) (N : Nat) (sz : Nat) (v : Int32 × Int32 × (Nat → Int32) × (Nat → Int32) × (Nat → Int32) × (Nat → Nat → Int32)) (hf : fX4_sheet N dn ql qf qz qi x1 x2 x3 = some v) : Met l yX4_sheet (.code yX4_sheet cX4_sheet 4 (some .int) :: kc_TB) rmX4_sheet (kc_Pre D cx (wX cx aX aH aI aS aT ak aC aD (aC 0) (aD 0) aG db dn ql qf qz qi sp s1 s2 s3 s4 s5 sP sC sH tl kl kf cv cc cm ch dv dc dm dh gw gh gk gq gr gj gR gT gC) [.ref (aX 0), .int x1, .int x2, .int x3] sz) (kc_Pi D (fun _ : Unit => (wX cx aX aH aI aS aT ak aC aD (aC 0) (aD 0) aG db v.2.1 v.2.2.1 v.2.2.2.1 v.2.2.2.2.1 v.2.2.2.2.2 sp s1 s2 s3 s4 s5 sP sC sH tl kl kf cv cc cm ch dv dc dm dh gw gh gk gq gr gj gR gT gC)) v.1 (va_A (wX cx aX aH aI aS aT ak aC aD (aC 0) (aD 0) aG db dn ql qf qz qi sp s1 s2 s3 s4 s5 sP sC sH tl kl kf cv cc cm ch dv dc dm dh gw gh gk gq gr gj gR gT gC) sz)) 0 0 (va_A (wX cx aX aH aI aS aT ak aC aD (aC 0) (aD 0) aG db dn ql qf qz qi sp s1 s2 s3 s4 s5 sP sC sH tl kl kf cv cc cm ch dv dc dm dh gw gh gk gq gr gj gR gT gC) sz) := by
  refine kc_entry (Qc := fun A => (kc_Pi D (fun _ : Unit => (wX cx aX aH aI aS aT ak aC aD (aC 0) (aD 0) aG db v.2.1 v.2.2.1 v.2.2.2.1 v.2.2.2.2.1 v.2.2.2.2.2 sp s1 s2 s3 s4 s5 sP sC sH tl kl kf cv cc cm ch dv dc dm dh gw gh gk gq gr gj gR gT gC)) v.1 A)) (by decide) (Nat.le_of_ble_eq_true rfl) ?_
  intro p e s m below meth c A hx hb hr hk hml hown hin hts hN hK hP hD hS hA ls hl
  have hown : s.vm.findClass RX4 = some m.cls := hown
  have hl : lv_has ls 4 [(0, .ref (aX 0)), (1, .int x1), (2, .int x2), (3, .int x3)] := hl
  unfold fX4_sheet at hf
  have hP : va_P D classes (wX cx aX aH aI aS aT ak aC aD (aC 0) (aD 0) aG db dn ql qf qz qi sp s1 s2 s3 s4 s5 sP sC sH tl kl kf cv cc cm ch dv dc dm dh gw gh gk gq gr gj gR gT gC) s.heap := hP
  obtain ⟨H, hH⟩ : ∃ H, H = s.heap := ⟨_, rfl⟩
  obtain ⟨locs, hL⟩ : ∃ locs : List Loc, locs = [] := ⟨_, rfl⟩
  have hS : va_S A s.heap H locs := by rw [hH, hL]; exact hS
  have hP : va_P D classes (wX cx aX aH aI aS aT ak aC aD (aC 0) (aD 0) aG db dn ql qf qz qi sp s1 s2 s3 s4 s5 sP sC sH tl kl kf cv cc cm ch dv dc dm dh gw gh gk gq gr gj gR gT gC) H := by rw [hH]; exact hP
  suffices hW : W p l e rmX4_sheet s m ([.ref (aX 0), .int x1, .int x2, .int x3] : List Value).toArray below meth c H locs 0 0 (MQ below (kc_Pi D (fun _ : Unit => (wX cx aX aH aI aS aT ak aC aD (aC 0) (aD 0) aG db v.2.1 v.2.2.1 v.2.2.2.1 v.2.2.2.2.1 v.2.2.2.2.2 sp s1 s2 s3 s4 s5 sP sC sH tl kl kf cv cc cm ch dv dc dm dh gw gh gk gq gr gj gR gT gC)) v.1 A) ([.ref (aX 0), .int x1, .int x2, .int x3] : List Value).toArray s 0 0 A) (F0 m 0 ls []) by rw [hH, hL] at hW; exact hW
  clear hH hL
  refine lv_iload_n hx hb dX4_sheet_0 rfl (lv_at hl 1 rfl) ?_
  obtain ⟨u10, hg, hf⟩ := ob_s hf
  refine kc_calli (wn := fun _ => (wX cx aX aH aI aS aT ak aC aD (aC 0) (aD 0) aG db dn ql qf qz qi sp s1 s2 s3 s4 s5 sP sC sH tl kl kf cv cc cm ch dv dc dm dh gw gh gk gq gr gj gR gT gC)) (va_runS (As := [.int x1]) (rest := []) ⟨hx, hb, hml, hown, hts⟩ (metX4_isSheet l D cx   x1 N H.size u10 hg) ⟨callB_of 1 hts (kc_gI wd_500) rfl rfl rfl (hts _ wd_40) (hts _ wd_498) (by decide +kernel) ⟨Nat.le_of_ble_eq_true rfl, Nat.le_of_ble_eq_true rfl⟩, hts _ wd_499⟩ ⟨kc_blind _ _ _ _ _, kc_pre _ hK hN (hP.sub [] rfl) (hD.sub [] (by decide) rfl)⟩ rfl rfl hl.1 rfl (lv_room (Nat.le_of_ble_eq_true rfl)) dX4_sheet_1 ⟨Nat.zero_le _, Nat.zero_le _⟩) hP hD hS hA [] [0, 1, 2, 3, 4, 5, 6, 7, 8, 9, 10, 11, 12, 13, 14, 15, 16, 17, 18, 19, 20, 21, 22, 23, 24, 25, 26, 27, 28, 29, 30, 31, 32] [0, 1, 2, 3, 4, 5, 6, 7, 8, 9, 10, 11, 12, 13, 14, 15, 16, 17, 18, 19, 20, 21, 22, 23, 24, 25, 26, 27, 28, 29, 30, 31, 32] rfl rfl (by decide) (by decide) (fun _ => rfl) (by decide) (fun _ H locs hP hD hS => ?_)
  have hP : va_P D classes (wX cx aX aH aI aS aT ak aC aD (aC 0) (aD 0) aG db dn ql qf qz qi sp s1 s2 s3 s4 s5 sP sC sH tl kl kf cv cc cm ch dv dc dm dh gw gh gk gq gr gj gR gT gC) H := hP
  have hD : va_D A (wX cx aX aH aI aS aT ak aC aD (aC 0) (aD 0) aG db dn ql qf qz qi sp s1 s2 s3 s4 s5 sP sC sH tl kl kf cv cc cm ch dv dc dm dh gw gh gk gq gr gj gR gT gC) := hD
  refine lv_if_eq (tgt := 20) hx hb dX4_sheet_4 (by decide) (fun c11 => ?_) (fun c11 => ?_)
  · replace hf := it_t c11 hf
    refine lv_sipush (v := (-200 : Int32)) hx hb dX4_sheet_20 (by decide) ?_
    obtain rfl := Option.some.inj hf
    exact kc_iret () hx hb hr hk hP hD hS rfl dX4_sheet_23
  · replace hf := it_f c11 hf
    refine lv_iload_n hx hb dX4_sheet_7 rfl (lv_at hl 2 rfl) ?_
    obtain ⟨u12, hg, hf⟩ := ob_s hf
    refine kc_calli (wn := fun _ => (wX cx aX aH aI aS aT ak aC aD (aC 0) (aD 0) aG db dn ql qf qz qi sp s1 s2 s3 s4 s5 sP sC sH tl kl kf cv cc cm ch dv dc dm dh gw gh gk gq gr gj gR gT gC)) (va_runS (As := [.int x2]) (rest := []) ⟨hx, hb, hml, hown, hts⟩ (metX4_isForm l D cx   x2 N H.size u12 hg) ⟨callB_of 1 hts (kc_gI wd_503) rfl rfl rfl (hts _ wd_40) (hts _ wd_501) (by decide +kernel) ⟨Nat.le_of_ble_eq_true rfl, Nat.le_of_ble_eq_true rfl⟩, hts _ wd_502⟩ ⟨kc_blind _ _ _ _ _, kc_pre _ hK hN (hP.sub [] rfl) (hD.sub [] (by decide) rfl)⟩ rfl rfl hl.1 rfl (lv_room (Nat.le_of_ble_eq_true rfl)) dX4_sheet_8 ⟨Nat.zero_le _, Nat.zero_le _⟩) hP hD hS hA [] [0, 1, 2, 3, 4, 5, 6, 7, 8, 9, 10, 11, 12, 13, 14, 15, 16, 17, 18, 19, 20, 21, 22, 23, 24, 25, 26, 27, 28, 29, 30, 31, 32] [0, 1, 2, 3, 4, 5, 6, 7, 8, 9, 10, 11, 12, 13, 14, 15, 16, 17, 18, 19, 20, 21, 22, 23, 24, 25, 26, 27, 28, 29, 30, 31, 32] rfl rfl (by decide) (by decide) (fun _ => rfl) (by decide) (fun _ H locs hP hD hS => ?_)
    have hP : va_P D classes (wX cx aX aH aI aS aT ak aC aD (aC 0) (aD 0) aG db dn ql qf qz qi sp s1 s2 s3 s4 s5 sP sC sH tl kl kf cv cc cm ch dv dc dm dh gw gh gk gq gr gj gR gT gC) H := hP
    have hD : va_D A (wX cx aX aH aI aS aT ak aC aD (aC 0) (aD 0) aG db dn ql qf qz qi sp s1 s2 s3 s4 s5 sP sC sH tl kl kf cv cc cm ch dv dc dm dh gw gh gk gq gr gj gR gT gC) := hD
    refine lv_if_eq (tgt := 20) hx hb dX4_sheet_11 (by decide) (fun c13 => ?_) (fun c13 => ?_)
    · replace hf := it_t c13 hf
      refine lv_sipush (v := (-200 : Int32)) hx hb dX4_sheet_20 (by decide) ?_
      obtain rfl := Option.some.inj hf
      exact kc_iret () hx hb hr hk hP hD hS rfl dX4_sheet_23
    · replace hf := it_f c13 hf
      refine lv_iload_n hx hb dX4_sheet_14 rfl (lv_at hl 3 rfl) ?_
      refine lv_bipush (v := (20 : Int32)) hx hb dX4_sheet_15 (by decide) ?_
      refine lv_icmp_le (tgt := 24) hx hb dX4_sheet_17 (by decide) (fun c14 => ?_) (fun c14 => ?_)
      · replace hf := it_t c14 hf
        refine lv_iload_n hx hb dX4_sheet_24 rfl (lv_at hl 3 rfl) ?_
        refine lv_if_ge (tgt := 34) hx hb dX4_sheet_25 (by decide) (fun c15 => ?_) (fun c15 => ?_)
        · replace hf := it_t c15 hf
          refine lv_aload_n hx hb dX4_sheet_34 rfl (lv_at hl 0 rfl) ?_
          refine va_get (D := D) (ci := 4) (v := .ref (aX 1)) (C := RX4) (T := TX4) (N := 7) hx hb hts iX4 hown hK hP 0 rfl rfl 2 (by decide) (hts _ wd_228) (fun _ h9 => h9) rfl dX4_sheet_35 ?_
          refine lv_iload_n hx hb dX4_sheet_38 rfl (lv_at hl 1 rfl) ?_
          obtain ⟨hz, hf⟩ := okb_s hf
          have hj16 : x1.toNatClampNeg < 4 := inb_lt hz
          refine va_aldq (D := D) hx hb hK hP 1 3 rfl rfl (inb_s hz) dX4_sheet_39 ?_
          rw [if_pos hj16]
          show W _ _ _ _ _ _ _ _ _ _ _ _ _ _ _ (F0 m 40 ls (.ref (aH (x1.toNatClampNeg)) :: _))
          refine lv_iload_n hx hb dX4_sheet_40 rfl (lv_at hl 2 rfl) ?_
          refine lv_iload_n hx hb dX4_sheet_41 rfl (lv_at hl 3 rfl) ?_
          obtain ⟨u17, hg, hf⟩ := ob_s hf
          refine kc_callv2 (f1 := fun _ => .inr (2, [.int u17.1, .int u17.2.1, .int u17.2.2.1, .ref (aI (x1.toNatClampNeg))])) (f2 := fun _ => .inl (cx 0, 20, .inl u17.2.2.2)) (va_runV (As := [.int x2, .int x3]) (rest := []) ⟨hx, hb, hml, hown, hts⟩ (metX2_renew l D cx (sh2 (aH (x1.toNatClampNeg)) (aI (x1.toNatClampNeg))) (ql (x1.toNatClampNeg)) (qf (x1.toNatClampNeg)) (qz (x1.toNatClampNeg)) (qi (x1.toNatClampNeg)) x2 x3 N H.size u17 hg) ⟨callB_of 2 hts (kc_gI wd_511) rfl rfl rfl (hts _ wd_45) (hts _ wd_508) (by decide +kernel) ⟨Nat.le_of_ble_eq_true rfl, Nat.le_of_ble_eq_true rfl⟩, hts _ wd_509, hts _ wd_510⟩ ⟨kc_blind _ _ _ _ _, va_recv hK hP (ci := 2) (q0 := 2 + 2 * (x1.toNatClampNeg)) rfl (wX_get_sheet hj16), kc_pre _ hK hN (kc_P2 hP (wX_get_sheet hj16) (wX_get_item hj16)) (kc_D2 hD (wX_get_sheet hj16) (wX_get_item hj16) (by omega))⟩ rfl rfl hl.1 rfl (lv_room (Nat.le_of_ble_eq_true rfl)) dX4_sheet_42 ⟨Nat.zero_le _, Nat.zero_le _⟩) hP hD hS hA (wX_get_sheet hj16) (wX_get_item hj16) (by omega) rfl (fun _ => rfl) (fun _ H locs hP hD hS => ?_)
          rw [wX_two_all hj16] at hP hD
          have hP : va_P D classes (wX cx aX aH aI aS aT ak aC aD (aC 0) (aD 0) aG db dn (upd ql (x1.toNatClampNeg) u17.1) (upd qf (x1.toNatClampNeg) u17.2.1) (upd qz (x1.toNatClampNeg) u17.2.2.1) (upT qi (x1.toNatClampNeg) u17.2.2.2) sp s1 s2 s3 s4 s5 sP sC sH tl kl kf cv cc cm ch dv dc dm dh gw gh gk gq gr gj gR gT gC) H := hP
          have hD : va_D A (wX cx aX aH aI aS aT ak aC aD (aC 0) (aD 0) aG db dn (upd ql (x1.toNatClampNeg) u17.1) (upd qf (x1.toNatClampNeg) u17.2.1) (upd qz (x1.toNatClampNeg) u17.2.2.1) (upT qi (x1.toNatClampNeg) u17.2.2.2) sp s1 s2 s3 s4 s5 sP sC sH tl kl kf cv cc cm ch dv dc dm dh gw gh gk gq gr gj gR gT gC) := hD
          refine lv_iload_n hx hb dX4_sheet_45 rfl (lv_at hl 3 rfl) ?_
          obtain rfl := Option.some.inj hf
          exact kc_iret () hx hb hr hk hP hD hS rfl dX4_sheet_46
        · replace hf := it_f c15 hf
          refine lv_aload_n hx hb dX4_sheet_28 rfl (lv_at hl 0 rfl) ?_
          refine lv_iconst (v := (5 : Int32)) hx hb dX4_sheet_29 (by decide) ?_
          obtain ⟨u18, hg, hf⟩ := ob_s hf
          refine kc_calli (wn := fun _ => (wX cx aX aH aI aS aT ak aC aD (aC 0) (aD 0) aG db u18.2 ql qf qz qi sp s1 s2 s3 s4 s5 sP sC sH tl kl kf cv cc cm ch dv dc dm dh gw gh gk gq gr gj gR gT gC)) (va_runV (As := [.int (5 : Int32)]) (rest := []) ⟨hx, hb, hml, hown, hts⟩ (metX4_refuse l D cx aX aH aI aS aT ak aC aD aG db dn ql qf qz qi sp s1 s2 s3 s4 s5 sP sC sH tl kl kf cv cc cm ch dv dc dm dh gw gh gk gq gr gj gR gT gC (5 : Int32) N H.size u18 hg) ⟨callB_of 1 hts (kc_gI wd_507) rfl rfl rfl (hts _ wd_40) (hts _ wd_504) (by decide +kernel) ⟨Nat.le_of_ble_eq_true rfl, Nat.le_of_ble_eq_true rfl⟩, hts _ wd_506, hts _ wd_14⟩ ⟨kc_blind _ _ _ _ _, va_recv hK hP (ci := 4) (q0 := 0) rfl rfl, kc_pre _ hK hN (hP.sub [0, 1, 2, 3, 4, 5, 6, 7, 8, 9, 10, 11, 12, 13, 14, 15, 16, 17, 18, 19, 20, 21, 22, 23, 24, 25, 26, 27, 28, 29, 30, 31, 32] rfl) (hD.sub [0, 1, 2, 3, 4, 5, 6, 7, 8, 9, 10, 11, 12, 13, 14, 15, 16, 17, 18, 19, 20, 21, 22, 23, 24, 25, 26, 27, 28, 29, 30, 31, 32] (by decide) rfl)⟩ rfl rfl hl.1 rfl (lv_room (Nat.le_of_ble_eq_true rfl)) dX4_sheet_30 ⟨Nat.zero_le _, Nat.zero_le _⟩) hP hD hS hA [0, 1, 2, 3, 4, 5, 6, 7, 8, 9, 10, 11, 12, 13, 14, 15, 16, 17, 18, 19, 20, 21, 22, 23, 24, 25, 26, 27, 28, 29, 30, 31, 32] [] [0, 1, 2, 3, 4, 5, 6, 7, 8, 9, 10, 11, 12, 13, 14, 15, 16, 17, 18, 19, 20, 21, 22, 23, 24, 25, 26, 27, 28, 29, 30, 31, 32] rfl rfl (by decide) (by decide) (fun _ => rfl) (by decide) (fun _ H locs hP hD hS => ?_)
          have hP : va_P D classes (wX cx aX aH aI aS aT ak aC aD (aC 0) (aD 0) aG db u18.2 ql qf qz qi sp s1 s2 s3 s4 s5 sP sC sH tl kl kf cv cc cm ch dv dc dm dh gw gh gk gq gr gj gR gT gC) H := hP
          have hD : va_D A (wX cx aX aH aI aS aT ak aC aD (aC 0) (aD 0) aG db u18.2 ql qf qz qi sp s1 s2 s3 s4 s5 sP sC sH tl kl kf cv cc cm ch dv dc dm dh gw gh gk gq gr gj gR gT gC) := hD
          obtain rfl := Option.some.inj hf
          exact kc_iret () hx hb hr hk hP hD hS rfl dX4_sheet_33
      · replace hf := it_f c14 hf
        refine lv_sipush (v := (-200 : Int32)) hx hb dX4_sheet_20 (by decide) ?_
        obtain rfl := Option.some.inj hf
        exact kc_iret () hx hb hr hk hP hD hS rfl dX4_sheet_23
abbrev rmX4_lose : Room := { frames := 2, cells := 0, slots := 0, locals := 42 }
set_option maxHeartbeats 4000000 in
set_option maxRecDepth 100000 in
theorem metX4_lose (l : Launch) (D : va_G) (cx : Nat → ClassId) (aX : Nat → Nat) (aH : Nat → Nat) (aI : Nat → Nat) (aS : Nat → Nat) (aT : Nat → Nat) (ak : Nat) (aC : Nat → Nat) (aD : Nat → Nat) (aG : Nat → Nat) (db : Int32) (dn : Int32) (ql : Nat → Int32) (qf : Nat → Int32) (qz : Nat → Int32) (qi : Nat → Nat → Int32) (sp : Int32) (s1 : Int32) (s2 : Int32) (s3 : Int32) (s4 : Int32) (s5 : Int32) (sP : Nat → Int32) (sC : Nat → Int32) (sH : Nat → Int32) (tl : Nat → Nat → Int32) (kl : Nat) (kf : Nat → Int64) (cv : Int32) (cc : Nat → Int32) (cm : Nat → Int32) (ch : Nat → Int32) (dv : Int32) (dc : Nat → Int32) (dm : Nat → Int32) (dh : Nat → Int32) (gw : Int32) (gh : Int32) (gk : Int32) (gq : Int32) (gr : Int32) (gj : Int32) (gR : Nat → Int32) (gT : Nat → Int32) (gC : Nat → Int32) (x1 : Int32) (N : Nat) (sz : Nat) (v : Int32 × Int32 × (Nat → Int32)) (hf : fX4_lose N dn ql qz x1 = some v) : Met l yX4_lose (.code yX4_lose cX4_lose 2 (some .int) :: kc_TB) rmX4_lose (kc_Pre D cx (wX cx aX aH aI aS aT ak aC aD (aC 0) (aD 0) aG db dn ql qf qz qi sp s1 s2 s3 s4 s5 sP sC sH tl kl kf cv cc cm ch dv dc dm dh gw gh gk gq gr gj gR gT gC) [.ref (aX 0), .int x1] sz) (kc_Pi D (fun _ : Unit => (wX cx aX aH aI aS aT ak aC aD (aC 0) (aD 0) aG db v.2.1 v.2.2 qf qz qi sp s1 s2 s3 s4 s5 sP sC sH tl kl kf cv cc cm ch dv dc dm dh gw gh gk gq gr gj gR gT gC)) v.1 (va_A (wX cx aX aH aI aS aT ak aC aD (aC 0) (aD 0) aG db dn ql qf qz qi sp s1 s2 s3 s4 s5 sP sC sH tl kl kf cv cc cm ch dv dc dm dh gw gh gk gq gr gj gR gT gC) sz)) 0 0 (va_A (wX cx aX aH aI aS aT ak aC aD (aC 0) (aD 0) aG db dn ql qf qz qi sp s1 s2 s3 s4 s5 sP sC sH tl kl kf cv cc cm ch dv dc dm dh gw gh gk gq gr gj gR gT gC) sz) := by
  refine kc_entry (Qc := fun A => (kc_Pi D (fun _ : Unit => (wX cx aX aH aI aS aT ak aC aD (aC 0) (aD 0) aG db v.2.1 v.2.2 qf qz qi sp s1 s2 s3 s4 s5 sP sC sH tl kl kf cv cc cm ch dv dc dm dh gw gh gk gq gr gj gR gT gC)) v.1 A)) (by decide) (Nat.le_of_ble_eq_true rfl) ?_
  intro p e s m below meth c A hx hb hr hk hml hown hin hts hN hK hP hD hS hA ls hl
  have hown : s.vm.findClass RX4 = some m.cls := hown
  have hl : lv_has ls 2 [(0, .ref (aX 0)), (1, .int x1)] := hl
  unfold fX4_lose at hf
  have hP : va_P D classes (wX cx aX aH aI aS aT ak aC aD (aC 0) (aD 0) aG db dn ql qf qz qi sp s1 s2 s3 s4 s5 sP sC sH tl kl kf cv cc cm ch dv dc dm dh gw gh gk gq gr gj gR gT gC) s.heap := hP
  obtain ⟨H, hH⟩ : ∃ H, H = s.heap := ⟨_, rfl⟩
  obtain ⟨locs, hL⟩ : ∃ locs : List Loc, locs = [] := ⟨_, rfl⟩
  have hS : va_S A s.heap H locs := by rw [hH, hL]; exact hS
  have hP : va_P D classes (wX cx aX aH aI aS aT ak aC aD (aC 0) (aD 0) aG db dn ql qf qz qi sp s1 s2 s3 s4 s5 sP sC sH tl kl kf cv cc cm ch dv dc dm dh gw gh gk gq gr gj gR gT gC) H := by rw [hH]; exact hP
  suffices hW : W p l e rmX4_lose s m ([.ref (aX 0), .int x1] : List Value).toArray below meth c H locs 0 0 (MQ below (kc_Pi D (fun _ : Unit => (wX cx aX aH aI aS aT ak aC aD (aC 0) (aD 0) aG db v.2.1 v.2.2 qf qz qi sp s1 s2 s3 s4 s5 sP sC sH tl kl kf cv cc cm ch dv dc dm dh gw gh gk gq gr gj gR gT gC)) v.1 A) ([.ref (aX 0), .int x1] : List Value).toArray s 0 0 A) (F0 m 0 ls []) by rw [hH, hL] at hW; exact hW
  clear hH hL
  refine lv_iload_n hx hb dX4_lose_0 rfl (lv_at hl 1 rfl) ?_
  obtain ⟨u8, hg, hf⟩ := ob_s hf
  refine kc_calli (wn := fun _ => (wX cx aX aH aI aS aT ak aC aD (aC 0) (aD 0) aG db dn ql qf qz qi sp s1 s2 s3 s4 s5 sP sC sH tl kl kf cv cc cm ch dv dc dm dh gw gh gk gq gr gj gR gT gC)) (va_runS (As := [.int x1]) (rest := []) ⟨hx, hb, hml, hown, hts⟩ (metX4_isSheet l D cx   x1 N H.size u8 hg) ⟨callB_of 1 hts (kc_gI wd_500) rfl rfl rfl (hts _ wd_40) (hts _ wd_498) (by decide +kernel) ⟨Nat.le_of_ble_eq_true rfl, Nat.le_of_ble_eq_true rfl⟩, hts _ wd_499⟩ ⟨kc_blind _ _ _ _ _, kc_pre _ hK hN (hP.sub [] rfl) (hD.sub [] (by decide) rfl)⟩ rfl rfl hl.1 rfl (lv_room (Nat.le_of_ble_eq_true rfl)) dX4_lose_1 ⟨Nat.zero_le _, Nat.zero_le _⟩) hP hD hS hA [] [0, 1, 2, 3, 4, 5, 6, 7, 8, 9, 10, 11, 12, 13, 14, 15, 16, 17, 18, 19, 20, 21, 22, 23, 24, 25, 26, 27, 28, 29, 30, 31, 32] [0, 1, 2, 3, 4, 5, 6, 7, 8, 9, 10, 11, 12, 13, 14, 15, 16, 17, 18, 19, 20, 21, 22, 23, 24, 25, 26, 27, 28, 29, 30, 31, 32] rfl rfl (by decide) (by decide) (fun _ => rfl) (by decide) (fun _ H locs hP hD hS => ?_)
  have hP : va_P D classes (wX cx aX aH aI aS aT ak aC aD (aC 0) (aD 0) aG db dn ql qf qz qi sp s1 s2 s3 s4 s5 sP sC sH tl kl kf cv cc cm ch dv dc dm dh gw gh gk gq gr gj gR gT gC) H := hP
  have hD : va_D A (wX cx aX aH aI aS aT ak aC aD (aC 0) (aD 0) aG db dn ql qf qz qi sp s1 s2 s3 s4 s5 sP sC sH tl kl kf cv cc cm ch dv dc dm dh gw gh gk gq gr gj gR gT gC) := hD
  refine lv_if_ne (tgt := 11) hx hb dX4_lose_4 (by decide) (fun c9 => ?_) (fun c9 => ?_)
  · replace hf := it_f c9 hf
    refine lv_aload_n hx hb dX4_lose_11 rfl (lv_at hl 0 rfl) ?_
    refine va_get (D := D) (ci := 4) (v := .ref (aX 1)) (C := RX4) (T := TX4) (N := 7) hx hb hts iX4 hown hK hP 0 rfl rfl 2 (by decide) (hts _ wd_228) (fun _ h9 => h9) rfl dX4_lose_12 ?_
    refine lv_iload_n hx hb dX4_lose_15 rfl (lv_at hl 1 rfl) ?_
    obtain ⟨hz, hf⟩ := okb_s hf
    have hj10 : x1.toNatClampNeg < 4 := inb_lt hz
    refine va_aldq (D := D) hx hb hK hP 1 3 rfl rfl (inb_s hz) dX4_lose_16 ?_
    rw [if_pos hj10]
    show W _ _ _ _ _ _ _ _ _ _ _ _ _ _ _ (F0 m 17 ls (.ref (aH (x1.toNatClampNeg)) :: _))
    refine va_get (D := D) (ci := 2) (v := .int (ql (x1.toNatClampNeg))) (C := RX2) (T := TX2) (N := 4) hx hb hts iX2 hown hK hP (2 + 2 * (x1.toNatClampNeg)) (wX_get_sheet hj10) rfl 0 (by decide) (hts _ wd_210) (fun _ h9 => h9) rfl dX4_lose_17 ?_
    refine lv_if_eq (tgt := 29) hx hb dX4_lose_20 (by decide) (fun c11 => ?_) (fun c11 => ?_)
    · replace hf := it_t c11 hf
      refine lv_aload_n hx hb dX4_lose_29 rfl (lv_at hl 0 rfl) ?_
      refine va_get (D := D) (ci := 4) (v := .ref (aX 1)) (C := RX4) (T := TX4) (N := 7) hx hb hts iX4 hown hK hP 0 rfl rfl 2 (by decide) (hts _ wd_228) (fun _ h9 => h9) rfl dX4_lose_30 ?_
      refine lv_iload_n hx hb dX4_lose_33 rfl (lv_at hl 1 rfl) ?_
      obtain ⟨hz, hf⟩ := okb_s hf
      have hj12 : x1.toNatClampNeg < 4 := inb_lt hz
      refine va_aldq (D := D) hx hb hK hP 1 3 rfl rfl (inb_s hz) dX4_lose_34 ?_
      rw [if_pos hj12]
      show W _ _ _ _ _ _ _ _ _ _ _ _ _ _ _ (F0 m 35 ls (.ref (aH (x1.toNatClampNeg)) :: _))
      refine lv_iconst (v := (1 : Int32)) hx hb dX4_lose_35 (by decide) ?_
      refine va_put (D := D) (ci := 2) (v := .int (1 : Int32)) (ty := .boolean) (C := RX2) (T := TX2) (N := 4) hx hb hts iX2 tyX2 tyX2_ok nmX2 hown hK hP hD hS (2 + 2 * (x1.toNatClampNeg)) (wX_get_sheet hj12) rfl 0 (by decide) (hts _ wd_210) (fun _ h9 => h9) rfl (by decide +kernel) rfl rfl (Nat.le_of_ble_eq_true rfl) dX4_lose_36 (fun H locs hP hD hS => ?_)
      have hP : va_P D classes (List.set (wX cx aX aH aI aS aT ak aC aD (aC 0) (aD 0) aG db dn ql qf qz qi sp s1 s2 s3 s4 s5 sP sC sH tl kl kf cv cc cm ch dv dc dm dh gw gh gk gq gr gj gR gT gC) (2 + 2 * (x1.toNatClampNeg)) (aH (x1.toNatClampNeg), .inr (2, [.int (1 : Int32), .int (qf (x1.toNatClampNeg)), .int (qz (x1.toNatClampNeg)), .ref (aI (x1.toNatClampNeg))]))) H := hP
      have hD : va_D A (List.set (wX cx aX aH aI aS aT ak aC aD (aC 0) (aD 0) aG db dn ql qf qz qi sp s1 s2 s3 s4 s5 sP sC sH tl kl kf cv cc cm ch dv dc dm dh gw gh gk gq gr gj gR gT gC) (2 + 2 * (x1.toNatClampNeg)) (aH (x1.toNatClampNeg), .inr (2, [.int (1 : Int32), .int (qf (x1.toNatClampNeg)), .int (qz (x1.toNatClampNeg)), .ref (aI (x1.toNatClampNeg))]))) := hD
      rw [wX_set_lost hj12] at hP hD
      have hP : va_P D classes (wX cx aX aH aI aS aT ak aC aD (aC 0) (aD 0) aG db dn (upd ql (x1.toNatClampNeg) (1 : Int32)) qf qz qi sp s1 s2 s3 s4 s5 sP sC sH tl kl kf cv cc cm ch dv dc dm dh gw gh gk gq gr gj gR gT gC) H := hP
      have hD : va_D A (wX cx aX aH aI aS aT ak aC aD (aC 0) (aD 0) aG db dn (upd ql (x1.toNatClampNeg) (1 : Int32)) qf qz qi sp s1 s2 s3 s4 s5 sP sC sH tl kl kf cv cc cm ch dv dc dm dh gw gh gk gq gr gj gR gT gC) := hD
      refine lv_aload_n hx hb dX4_lose_39 rfl (lv_at hl 0 rfl) ?_
      refine va_get (D := D) (ci := 4) (v := .ref (aX 1)) (C := RX4) (T := TX4) (N := 7) hx hb hts iX4 hown hK hP 0 rfl rfl 2 (by decide) (hts _ wd_228) (fun _ h9 => h9) rfl dX4_lose_40 ?_
      refine lv_iload_n hx hb dX4_lose_43 rfl (lv_at hl 1 rfl) ?_
      obtain ⟨hz, hf⟩ := okb_s hf
      have hj13 : x1.toNatClampNeg < 4 := inb_lt hz
      refine va_aldq (D := D) hx hb hK hP 1 3 rfl rfl (inb_s hz) dX4_lose_44 ?_
      rw [if_pos hj13]
      show W _ _ _ _ _ _ _ _ _ _ _ _ _ _ _ (F0 m 45 ls (.ref (aH (x1.toNatClampNeg)) :: _))
      refine va_get (D := D) (ci := 2) (v := .int (qz (x1.toNatClampNeg))) (C := RX2) (T := TX2) (N := 4) hx hb hts iX2 hown hK hP (2 + 2 * (x1.toNatClampNeg)) (wX_get_sheet hj13) rfl 2 (by decide) (hts _ wd_214) (fun _ h9 => h9) rfl dX4_lose_45 ?_
      obtain rfl := Option.some.inj hf
      exact kc_iret () hx hb hr hk hP hD hS rfl dX4_lose_48
    · replace hf := it_f c11 hf
      refine lv_aload_n hx hb dX4_lose_23 rfl (lv_at hl 0 rfl) ?_
      refine lv_iconst (v := (1 : Int32)) hx hb dX4_lose_24 (by decide) ?_
      obtain ⟨u14, hg, hf⟩ := ob_s hf
      refine kc_calli (wn := fun _ => (wX cx aX aH aI aS aT ak aC aD (aC 0) (aD 0) aG db u14.2 ql qf qz qi sp s1 s2 s3 s4 s5 sP sC sH tl kl kf cv cc cm ch dv dc dm dh gw gh gk gq gr gj gR gT gC)) (va_runV (As := [.int (1 : Int32)]) (rest := []) ⟨hx, hb, hml, hown, hts⟩ (metX4_refuse l D cx aX aH aI aS aT ak aC aD aG db dn ql qf qz qi sp s1 s2 s3 s4 s5 sP sC sH tl kl kf cv cc cm ch dv dc dm dh gw gh gk gq gr gj gR gT gC (1 : Int32) N H.size u14 hg) ⟨callB_of 1 hts (kc_gI wd_507) rfl rfl rfl (hts _ wd_40) (hts _ wd_504) (by decide +kernel) ⟨Nat.le_of_ble_eq_true rfl, Nat.le_of_ble_eq_true rfl⟩, hts _ wd_506, hts _ wd_14⟩ ⟨kc_blind _ _ _ _ _, va_recv hK hP (ci := 4) (q0 := 0) rfl rfl, kc_pre _ hK hN (hP.sub [0, 1, 2, 3, 4, 5, 6, 7, 8, 9, 10, 11, 12, 13, 14, 15, 16, 17, 18, 19, 20, 21, 22, 23, 24, 25, 26, 27, 28, 29, 30, 31, 32] rfl) (hD.sub [0, 1, 2, 3, 4, 5, 6, 7, 8, 9, 10, 11, 12, 13, 14, 15, 16, 17, 18, 19, 20, 21, 22, 23, 24, 25, 26, 27, 28, 29, 30, 31, 32] (by decide) rfl)⟩ rfl rfl hl.1 rfl (lv_room (Nat.le_of_ble_eq_true rfl)) dX4_lose_25 ⟨Nat.zero_le _, Nat.zero_le _⟩) hP hD hS hA [0, 1, 2, 3, 4, 5, 6, 7, 8, 9, 10, 11, 12, 13, 14, 15, 16, 17, 18, 19, 20, 21, 22, 23, 24, 25, 26, 27, 28, 29, 30, 31, 32] [] [0, 1, 2, 3, 4, 5, 6, 7, 8, 9, 10, 11, 12, 13, 14, 15, 16, 17, 18, 19, 20, 21, 22, 23, 24, 25, 26, 27, 28, 29, 30, 31, 32] rfl rfl (by decide) (by decide) (fun _ => rfl) (by decide) (fun _ H locs hP hD hS => ?_)
      have hP : va_P D classes (wX cx aX aH aI aS aT ak aC aD (aC 0) (aD 0) aG db u14.2 ql qf qz qi sp s1 s2 s3 s4 s5 sP sC sH tl kl kf cv cc cm ch dv dc dm dh gw gh gk gq gr gj gR gT gC) H := hP
      have hD : va_D A (wX cx aX aH aI aS aT ak aC aD (aC 0) (aD 0) aG db u14.2 ql qf qz qi sp s1 s2 s3 s4 s5 sP sC sH tl kl kf cv cc cm ch dv dc dm dh gw gh gk gq gr gj gR gT gC) := hD
      obtain rfl := Option.some.inj hf
      exact kc_iret () hx hb hr hk hP hD hS rfl dX4_lose_28
  · replace hf := it_t c9 hf
    refine lv_sipush (v := (-200 : Int32)) hx hb dX4_lose_7 (by decide) ?_
    obtain rfl := Option.some.inj hf
    exact kc_iret () hx hb hr hk hP hD hS rfl dX4_lose_10
abbrev rmX4_put : Room := { frames := 2, cells := 0, slots := 0, locals := 44 }
set_option maxHeartbeats 4000000 in
set_option maxRecDepth 100000 in
theorem metX4_put (l : Launch) (D : va_G) (cx : Nat → ClassId) (aX : Nat → Nat) (aH : Nat → Nat) (aI : Nat → Nat) (aS : Nat → Nat) (aT : Nat → Nat) (ak : Nat) (aC : Nat → Nat) (aD : Nat → Nat) (aG : Nat → Nat) (db : Int32) (dn : Int32) (ql : Nat → Int32) (qf : Nat → Int32) (qz : Nat → Int32) (qi : Nat → Nat → Int32) (sp : Int32) (s1 : Int32) (s2 : Int32) (s3 : Int32) (s4 : Int32) (s5 : Int32) (sP : Nat → Int32) (sC : Nat → Int32) (sH : Nat → Int32) (tl : Nat → Nat → Int32) (kl : Nat) (kf : Nat → Int64) (cv : Int32) (cc : Nat → Int32) (cm : Nat → Int32) (ch : Nat → Int32) (dv : Int32) (dc : Nat → Int32) (dm : Nat → Int32) (dh : Nat → Int32) (gw : Int32) (gh : Int32) (gk : Int32) (gq : Int32) (gr : Int32) (gj : Int32) (gR : Nat → Int32) (gT : Nat → Int32) (gC : Nat → Int32) (x1 : Int32) (x2 : Int32) (x3 : Int32) (x4 : Int32) (N : Nat) (sz : Nat) (v : Int32 × Int32 × (Nat → Nat → Int32)) (hf : fX4_put N dn ql qf qz qi x1 x2 x3 x4 = some v) : Met l yX4_put (.code yX4_put cX4_put 6 (some .int) :: kc_TB) rmX4_put (kc_Pre D cx (wX cx aX aH aI aS aT ak aC aD (aC 0) (aD 0) aG db dn ql qf qz qi sp s1 s2 s3 s4 s5 sP sC sH tl kl kf cv cc cm ch dv dc dm dh gw gh gk gq gr gj gR gT gC) [.ref (aX 0), .int x1, .int x2, .int x3, .int x4] sz) (kc_Pi D (fun _ : Unit => (wX cx aX aH aI aS aT ak aC aD (aC 0) (aD 0) aG db v.2.1 ql qf qz v.2.2 sp s1 s2 s3 s4 s5 sP sC sH tl kl kf cv cc cm ch dv dc dm dh gw gh gk gq gr gj gR gT gC)) v.1 (va_A (wX cx aX aH aI aS aT ak aC aD (aC 0) (aD 0) aG db dn ql qf qz qi sp s1 s2 s3 s4 s5 sP sC sH tl kl kf cv cc cm ch dv dc dm dh gw gh gk gq gr gj gR gT gC) sz)) 0 0 (va_A (wX cx aX aH aI aS aT ak aC aD (aC 0) (aD 0) aG db dn ql qf qz qi sp s1 s2 s3 s4 s5 sP sC sH tl kl kf cv cc cm ch dv dc dm dh gw gh gk gq gr gj gR gT gC) sz) := by
  refine kc_entry (Qc := fun A => (kc_Pi D (fun _ : Unit => (wX cx aX aH aI aS aT ak aC aD (aC 0) (aD 0) aG db v.2.1 ql qf qz v.2.2 sp s1 s2 s3 s4 s5 sP sC sH tl kl kf cv cc cm ch dv dc dm dh gw gh gk gq gr gj gR gT gC)) v.1 A)) (by decide) (Nat.le_of_ble_eq_true rfl) ?_
  intro p e s m below meth c A hx hb hr hk hml hown hin hts hN hK hP hD hS hA ls hl
  have hown : s.vm.findClass RX4 = some m.cls := hown
  have hl : lv_has ls 6 [(0, .ref (aX 0)), (1, .int x1), (2, .int x2), (3, .int x3), (4, .int x4)] := hl
  unfold fX4_put at hf
  have hP : va_P D classes (wX cx aX aH aI aS aT ak aC aD (aC 0) (aD 0) aG db dn ql qf qz qi sp s1 s2 s3 s4 s5 sP sC sH tl kl kf cv cc cm ch dv dc dm dh gw gh gk gq gr gj gR gT gC) s.heap := hP
  obtain ⟨H, hH⟩ : ∃ H, H = s.heap := ⟨_, rfl⟩
  obtain ⟨locs, hL⟩ : ∃ locs : List Loc, locs = [] := ⟨_, rfl⟩
  have hS : va_S A s.heap H locs := by rw [hH, hL]; exact hS
  have hP : va_P D classes (wX cx aX aH aI aS aT ak aC aD (aC 0) (aD 0) aG db dn ql qf qz qi sp s1 s2 s3 s4 s5 sP sC sH tl kl kf cv cc cm ch dv dc dm dh gw gh gk gq gr gj gR gT gC) H := by rw [hH]; exact hP
  suffices hW : W p l e rmX4_put s m ([.ref (aX 0), .int x1, .int x2, .int x3, .int x4] : List Value).toArray below meth c H locs 0 0 (MQ below (kc_Pi D (fun _ : Unit => (wX cx aX aH aI aS aT ak aC aD (aC 0) (aD 0) aG db v.2.1 ql qf qz v.2.2 sp s1 s2 s3 s4 s5 sP sC sH tl kl kf cv cc cm ch dv dc dm dh gw gh gk gq gr gj gR gT gC)) v.1 A) ([.ref (aX 0), .int x1, .int x2, .int x3, .int x4] : List Value).toArray s 0 0 A) (F0 m 0 ls []) by rw [hH, hL] at hW; exact hW
  clear hH hL
  refine lv_iload_n hx hb dX4_put_0 rfl (lv_at hl 1 rfl) ?_
  obtain ⟨u11, hg, hf⟩ := ob_s hf
  refine kc_calli (wn := fun _ => (wX cx aX aH aI aS aT ak aC aD (aC 0) (aD 0) aG db dn ql qf qz qi sp s1 s2 s3 s4 s5 sP sC sH tl kl kf cv cc cm ch dv dc dm dh gw gh gk gq gr gj gR gT gC)) (va_runS (As := [.int x1]) (rest := []) ⟨hx, hb, hml, hown, hts⟩ (metX4_isSheet l D cx   x1 N H.size u11 hg) ⟨callB_of 1 hts (kc_gI wd_500) rfl rfl rfl (hts _ wd_40) (hts _ wd_498) (by decide +kernel) ⟨Nat.le_of_ble_eq_true rfl, Nat.le_of_ble_eq_true rfl⟩, hts _ wd_499⟩ ⟨kc_blind _ _ _ _ _, kc_pre _ hK hN (hP.sub [] rfl) (hD.sub [] (by decide) rfl)⟩ rfl rfl hl.1 rfl (lv_room (Nat.le_of_ble_eq_true rfl)) dX4_put_1 ⟨Nat.zero_le _, Nat.zero_le _⟩) hP hD hS hA [] [0, 1, 2, 3, 4, 5, 6, 7, 8, 9, 10, 11, 12, 13, 14, 15, 16, 17, 18, 19, 20, 21, 22, 23, 24, 25, 26, 27, 28, 29, 30, 31, 32] [0, 1, 2, 3, 4, 5, 6, 7, 8, 9, 10, 11, 12, 13, 14, 15, 16, 17, 18, 19, 20, 21, 22, 23, 24, 25, 26, 27, 28, 29, 30, 31, 32] rfl rfl (by decide) (by decide) (fun _ => rfl) (by decide) (fun _ H locs hP hD hS => ?_)
  have hP : va_P D classes (wX cx aX aH aI aS aT ak aC aD (aC 0) (aD 0) aG db dn ql qf qz qi sp s1 s2 s3 s4 s5 sP sC sH tl kl kf cv cc cm ch dv dc dm dh gw gh gk gq gr gj gR gT gC) H := hP
  have hD : va_D A (wX cx aX aH aI aS aT ak aC aD (aC 0) (aD 0) aG db dn ql qf qz qi sp s1 s2 s3 s4 s5 sP sC sH tl kl kf cv cc cm ch dv dc dm dh gw gh gk gq gr gj gR gT gC) := hD
  refine lv_if_eq (tgt := 14) hx hb dX4_put_4 (by decide) (fun c12 => ?_) (fun c12 => ?_)
  · replace hf := it_t c12 hf
    refine lv_sipush (v := (-200 : Int32)) hx hb dX4_put_14 (by decide) ?_
    obtain rfl := Option.some.inj hf
    exact kc_iret () hx hb hr hk hP hD hS rfl dX4_put_17
  · replace hf := it_f c12 hf
    refine lv_iload_n hx hb dX4_put_7 rfl (lv_at hl 2 rfl) ?_
    obtain ⟨u13, hg, hf⟩ := ob_s hf
    refine kc_calli (wn := fun _ => (wX cx aX aH aI aS aT ak aC aD (aC 0) (aD 0) aG db dn ql qf qz qi sp s1 s2 s3 s4 s5 sP sC sH tl kl kf cv cc cm ch dv dc dm dh gw gh gk gq gr gj gR gT gC)) (va_runS (As := [.int x2]) (rest := []) ⟨hx, hb, hml, hown, hts⟩ (metX4_isForm l D cx   x2 N H.size u13 hg) ⟨callB_of 1 hts (kc_gI wd_503) rfl rfl rfl (hts _ wd_40) (hts _ wd_501) (by decide +kernel) ⟨Nat.le_of_ble_eq_true rfl, Nat.le_of_ble_eq_true rfl⟩, hts _ wd_502⟩ ⟨kc_blind _ _ _ _ _, kc_pre _ hK hN (hP.sub [] rfl) (hD.sub [] (by decide) rfl)⟩ rfl rfl hl.1 rfl (lv_room (Nat.le_of_ble_eq_true rfl)) dX4_put_8 ⟨Nat.zero_le _, Nat.zero_le _⟩) hP hD hS hA [] [0, 1, 2, 3, 4, 5, 6, 7, 8, 9, 10, 11, 12, 13, 14, 15, 16, 17, 18, 19, 20, 21, 22, 23, 24, 25, 26, 27, 28, 29, 30, 31, 32] [0, 1, 2, 3, 4, 5, 6, 7, 8, 9, 10, 11, 12, 13, 14, 15, 16, 17, 18, 19, 20, 21, 22, 23, 24, 25, 26, 27, 28, 29, 30, 31, 32] rfl rfl (by decide) (by decide) (fun _ => rfl) (by decide) (fun _ H locs hP hD hS => ?_)
    have hP : va_P D classes (wX cx aX aH aI aS aT ak aC aD (aC 0) (aD 0) aG db dn ql qf qz qi sp s1 s2 s3 s4 s5 sP sC sH tl kl kf cv cc cm ch dv dc dm dh gw gh gk gq gr gj gR gT gC) H := hP
    have hD : va_D A (wX cx aX aH aI aS aT ak aC aD (aC 0) (aD 0) aG db dn ql qf qz qi sp s1 s2 s3 s4 s5 sP sC sH tl kl kf cv cc cm ch dv dc dm dh gw gh gk gq gr gj gR gT gC) := hD
    refine lv_if_ne (tgt := 18) hx hb dX4_put_11 (by decide) (fun c14 => ?_) (fun c14 => ?_)
    · replace hf := it_f c14 hf
      refine lv_aload_n hx hb dX4_put_18 rfl (lv_at hl 0 rfl) ?_
      refine va_get (D := D) (ci := 4) (v := .ref (aX 1)) (C := RX4) (T := TX4) (N := 7) hx hb hts iX4 hown hK hP 0 rfl rfl 2 (by decide) (hts _ wd_228) (fun _ h9 => h9) rfl dX4_put_19 ?_
      refine lv_iload_n hx hb dX4_put_22 rfl (lv_at hl 1 rfl) ?_
      obtain ⟨hz, hf⟩ := okb_s hf
      have hj15 : x1.toNatClampNeg < 4 := inb_lt hz
      refine va_aldq (D := D) hx hb hK hP 1 3 rfl rfl (inb_s hz) dX4_put_23 ?_
      rw [if_pos hj15]
      show W _ _ _ _ _ _ _ _ _ _ _ _ _ _ _ (F0 m 24 ls (.ref (aH (x1.toNatClampNeg)) :: _))
      refine lv_iload_n hx hb dX4_put_24 rfl (lv_at hl 2 rfl) ?_
      refine lv_iload_n hx hb dX4_put_25 rfl (lv_at hl 3 rfl) ?_
      obtain ⟨u16, hg, hf⟩ := ob_s hf
      refine kc_calli2 (f1 := fun _ => .inr (2, [.int (ql (x1.toNatClampNeg)), .int (qf (x1.toNatClampNeg)), .int (qz (x1.toNatClampNeg)), .ref (aI (x1.toNatClampNeg))])) (f2 := fun _ => .inl (cx 0, 20, .inl (qi (x1.toNatClampNeg)))) (va_runV (As := [.int x2, .int x3]) (rest := []) ⟨hx, hb, hml, hown, hts⟩ (metX2_findingAt l D cx (sh2 (aH (x1.toNatClampNeg)) (aI (x1.toNatClampNeg))) (ql (x1.toNatClampNeg)) (qf (x1.toNatClampNeg)) (qz (x1.toNatClampNeg)) (qi (x1.toNatClampNeg)) x2 x3 N H.size u16 hg) ⟨callB_of 2 hts (kc_gI wd_524) rfl rfl rfl (hts _ wd_45) (hts _ wd_521) (by decide +kernel) ⟨Nat.le_of_ble_eq_true rfl, Nat.le_of_ble_eq_true rfl⟩, hts _ wd_522, hts _ wd_523⟩ ⟨kc_blind _ _ _ _ _, va_recv hK hP (ci := 2) (q0 := 2 + 2 * (x1.toNatClampNeg)) rfl (wX_get_sheet hj15), kc_pre _ hK hN (kc_P2 hP (wX_get_sheet hj15) (wX_get_item hj15)) (kc_D2 hD (wX_get_sheet hj15) (wX_get_item hj15) (by omega))⟩ rfl rfl hl.1 rfl (lv_room (Nat.le_of_ble_eq_true rfl)) dX4_put_26 ⟨Nat.zero_le _, Nat.zero_le _⟩) hP hD hS hA (wX_get_sheet hj15) (wX_get_item hj15) (by omega) rfl (fun _ => rfl) (fun _ H locs hP hD hS => ?_)
      rw [wX_two_same hj15] at hP hD
      have hP : va_P D classes (wX cx aX aH aI aS aT ak aC aD (aC 0) (aD 0) aG db dn ql qf qz qi sp s1 s2 s3 s4 s5 sP sC sH tl kl kf cv cc cm ch dv dc dm dh gw gh gk gq gr gj gR gT gC) H := hP
      have hD : va_D A (wX cx aX aH aI aS aT ak aC aD (aC 0) (aD 0) aG db dn ql qf qz qi sp s1 s2 s3 s4 s5 sP sC sH tl kl kf cv cc cm ch dv dc dm dh gw gh gk gq gr gj gR gT gC) := hD
      refine lv_istore (lv' := [(5, .int u16), (0, .ref (aX 0)), (1, .int x1), (2, .int x2), (3, .int x3), (4, .int x4)]) hx hb dX4_put_29 hl (by decide) rfl (fun ls hl => ?_)
      refine lv_iload hx hb dX4_put_31 (lv_at hl 0 rfl) ?_
      refine lv_if_eq (tgt := 43) hx hb dX4_put_33 (by decide) (fun c17 => ?_) (fun c17 => ?_)
      · replace hf := it_t c17 hf
        refine lv_aload_n hx hb dX4_put_43 rfl (lv_at hl 1 rfl) ?_
        refine va_get (D := D) (ci := 4) (v := .ref (aX 1)) (C := RX4) (T := TX4) (N := 7) hx hb hts iX4 hown hK hP 0 rfl rfl 2 (by decide) (hts _ wd_228) (fun _ h9 => h9) rfl dX4_put_44 ?_
        refine lv_iload_n hx hb dX4_put_47 rfl (lv_at hl 2 rfl) ?_
        obtain ⟨hz, hf⟩ := okb_s hf
        have hj18 : x1.toNatClampNeg < 4 := inb_lt hz
        refine va_aldq (D := D) hx hb hK hP 1 3 rfl rfl (inb_s hz) dX4_put_48 ?_
        rw [if_pos hj18]
        show W _ _ _ _ _ _ _ _ _ _ _ _ _ _ _ (F0 m 49 ls (.ref (aH (x1.toNatClampNeg)) :: _))
        refine lv_iload_n hx hb dX4_put_49 rfl (lv_at hl 4 rfl) ?_
        refine lv_iload hx hb dX4_put_50 (lv_at hl 5 rfl) ?_
        obtain ⟨u19, hg, hf⟩ := ob_s hf
        refine kc_callv2 (f1 := fun _ => .inr (2, [.int (ql (x1.toNatClampNeg)), .int (qf (x1.toNatClampNeg)), .int (qz (x1.toNatClampNeg)), .ref (aI (x1.toNatClampNeg))])) (f2 := fun _ => .inl (cx 0, 20, .inl u19)) (va_runV (As := [.int x3, .int x4]) (rest := []) ⟨hx, hb, hml, hown, hts⟩ (metX2_store l D cx (sh2 (aH (x1.toNatClampNeg)) (aI (x1.toNatClampNeg))) (ql (x1.toNatClampNeg)) (qf (x1.toNatClampNeg)) (qz (x1.toNatClampNeg)) (qi (x1.toNatClampNeg)) x3 x4 N H.size u19 hg) ⟨callB_of 2 hts (kc_gI wd_529) rfl rfl rfl (hts _ wd_45) (hts _ wd_526) (by decide +kernel) ⟨Nat.le_of_ble_eq_true rfl, Nat.le_of_ble_eq_true rfl⟩, hts _ wd_527, hts _ wd_528⟩ ⟨kc_blind _ _ _ _ _, va_recv hK hP (ci := 2) (q0 := 2 + 2 * (x1.toNatClampNeg)) rfl (wX_get_sheet hj18), kc_pre _ hK hN (kc_P2 hP (wX_get_sheet hj18) (wX_get_item hj18)) (kc_D2 hD (wX_get_sheet hj18) (wX_get_item hj18) (by omega))⟩ rfl rfl hl.1 rfl (lv_room (Nat.le_of_ble_eq_true rfl)) dX4_put_52 ⟨Nat.zero_le _, Nat.zero_le _⟩) hP hD hS hA (wX_get_sheet hj18) (wX_get_item hj18) (by omega) rfl (fun _ => rfl) (fun _ H locs hP hD hS => ?_)
        rw [wX_two_items hj18] at hP hD
        have hP : va_P D classes (wX cx aX aH aI aS aT ak aC aD (aC 0) (aD 0) aG db dn ql qf qz (upT qi (x1.toNatClampNeg) u19) sp s1 s2 s3 s4 s5 sP sC sH tl kl kf cv cc cm ch dv dc dm dh gw gh gk gq gr gj gR gT gC) H := hP
        have hD : va_D A (wX cx aX aH aI aS aT ak aC aD (aC 0) (aD 0) aG db dn ql qf qz (upT qi (x1.toNatClampNeg) u19) sp s1 s2 s3 s4 s5 sP sC sH tl kl kf cv cc cm ch dv dc dm dh gw gh gk gq gr gj gR gT gC) := hD
        refine lv_iconst (v := (1 : Int32)) hx hb dX4_put_55 (by decide) ?_
        obtain rfl := Option.some.inj hf
        exact kc_iret () hx hb hr hk hP hD hS rfl dX4_put_56
      · replace hf := it_f c17 hf
        refine lv_aload_n hx hb dX4_put_36 rfl (lv_at hl 1 rfl) ?_
        refine lv_iload hx hb dX4_put_37 (lv_at hl 0 rfl) ?_
        obtain ⟨u20, hg, hf⟩ := ob_s hf
        refine kc_calli (wn := fun _ => (wX cx aX aH aI aS aT ak aC aD (aC 0) (aD 0) aG db u20.2 ql qf qz qi sp s1 s2 s3 s4 s5 sP sC sH tl kl kf cv cc cm ch dv dc dm dh gw gh gk gq gr gj gR gT gC)) (va_runV (As := [.int u16]) (rest := []) ⟨hx, hb, hml, hown, hts⟩ (metX4_refuse l D cx aX aH aI aS aT ak aC aD aG db dn ql qf qz qi sp s1 s2 s3 s4 s5 sP sC sH tl kl kf cv cc cm ch dv dc dm dh gw gh gk gq gr gj gR gT gC u16 N H.size u20 hg) ⟨callB_of 1 hts (kc_gI wd_507) rfl rfl rfl (hts _ wd_40) (hts _ wd_504) (by decide +kernel) ⟨Nat.le_of_ble_eq_true rfl, Nat.le_of_ble_eq_true rfl⟩, hts _ wd_506, hts _ wd_14⟩ ⟨kc_blind _ _ _ _ _, va_recv hK hP (ci := 4) (q0 := 0) rfl rfl, kc_pre _ hK hN (hP.sub [0, 1, 2, 3, 4, 5, 6, 7, 8, 9, 10, 11, 12, 13, 14, 15, 16, 17, 18, 19, 20, 21, 22, 23, 24, 25, 26, 27, 28, 29, 30, 31, 32] rfl) (hD.sub [0, 1, 2, 3, 4, 5, 6, 7, 8, 9, 10, 11, 12, 13, 14, 15, 16, 17, 18, 19, 20, 21, 22, 23, 24, 25, 26, 27, 28, 29, 30, 31, 32] (by decide) rfl)⟩ rfl rfl hl.1 rfl (lv_room (Nat.le_of_ble_eq_true rfl)) dX4_put_39 ⟨Nat.zero_le _, Nat.zero_le _⟩) hP hD hS hA [0, 1, 2, 3, 4, 5, 6, 7, 8, 9, 10, 11, 12, 13, 14, 15, 16, 17, 18, 19, 20, 21, 22, 23, 24, 25, 26, 27, 28, 29, 30, 31, 32] [] [0, 1, 2, 3, 4, 5, 6, 7, 8, 9, 10, 11, 12, 13, 14, 15, 16, 17, 18, 19, 20, 21, 22, 23, 24, 25, 26, 27, 28, 29, 30, 31, 32] rfl rfl (by decide) (by decide) (fun _ => rfl) (by decide) (fun _ H locs hP hD hS => ?_)
        have hP : va_P D classes (wX cx aX aH aI aS aT ak aC aD (aC 0) (aD 0) aG db u20.2 ql qf qz qi sp s1 s2 s3 s4 s5 sP sC sH tl kl kf cv cc cm ch dv dc dm dh gw gh gk gq gr gj gR gT gC) H := hP
        have hD : va_D A (wX cx aX aH aI aS aT ak aC aD (aC 0) (aD 0) aG db u20.2 ql qf qz qi sp s1 s2 s3 s4 s5 sP sC sH tl kl kf cv cc cm ch dv dc dm dh gw gh gk gq gr gj gR gT gC) := hD
        obtain rfl := Option.some.inj hf
        exact kc_iret () hx hb hr hk hP hD hS rfl dX4_put_42
    · replace hf := it_t c14 hf
      refine lv_sipush (v := (-200 : Int32)) hx hb dX4_put_14 (by decide) ?_
      obtain rfl := Option.some.inj hf
      exact kc_iret () hx hb hr hk hP hD hS rfl dX4_put_17
abbrev rmX4_get : Room := { frames := 2, cells := 0, slots := 0, locals := 44 }
set_option maxHeartbeats 4000000 in
set_option maxRecDepth 100000 in
theorem metX4_get (l : Launch) (D : va_G) (cx : Nat → ClassId) (aX : Nat → Nat) (aH : Nat → Nat) (aI : Nat → Nat) (aS : Nat → Nat) (aT : Nat → Nat) (ak : Nat) (aC : Nat → Nat) (aD : Nat → Nat) (aG : Nat → Nat) (db : Int32) (dn : Int32) (ql : Nat → Int32) (qf : Nat → Int32) (qz : Nat → Int32) (qi : Nat → Nat → Int32) (sp : Int32) (s1 : Int32) (s2 : Int32) (s3 : Int32) (s4 : Int32) (s5 : Int32) (sP : Nat → Int32) (sC : Nat → Int32) (sH : Nat → Int32) (tl : Nat → Nat → Int32) (kl : Nat) (kf : Nat → Int64) (cv : Int32) (cc : Nat → Int32) (cm : Nat → Int32) (ch : Nat → Int32) (dv : Int32) (dc : Nat → Int32) (dm : Nat → Int32) (dh : Nat → Int32) (gw : Int32) (gh : Int32) (gk : Int32) (gq : Int32) (gr : Int32) (gj : Int32) (gR : Nat → Int32) (gT : Nat → Int32) (gC : Nat → Int32) (x1 : Int32) (x2 : Int32) (x3 : Int32) (N : Nat) (sz : Nat) (v : Int32 × Int32) (hf : fX4_get N dn ql qf qz qi x1 x2 x3 = some v) : Met l yX4_get (.code yX4_get cX4_get 5 (some .int) :: kc_TB) rmX4_get (kc_Pre D cx (wX cx aX aH aI aS aT ak aC aD (aC 0) (aD 0) aG db dn ql qf qz qi sp s1 s2 s3 s4 s5 sP sC sH tl kl kf cv cc cm ch dv dc dm dh gw gh gk gq gr gj gR gT gC) [.ref (aX 0), .int x1, .int x2, .int x3] sz) (kc_Pi D (fun _ : Unit => (wX cx aX aH aI aS aT ak aC aD (aC 0) (aD 0) aG db v.2 ql qf qz qi sp s1 s2 s3 s4 s5 sP sC sH tl kl kf cv cc cm ch dv dc dm dh gw gh gk gq gr gj gR gT gC)) v.1 (va_A (wX cx aX aH aI aS aT ak aC aD (aC 0) (aD 0) aG db dn ql qf qz qi sp s1 s2 s3 s4 s5 sP sC sH tl kl kf cv cc cm ch dv dc dm dh gw gh gk gq gr gj gR gT gC) sz)) 0 0 (va_A (wX cx aX aH aI aS aT ak aC aD (aC 0) (aD 0) aG db dn ql qf qz qi sp s1 s2 s3 s4 s5 sP sC sH tl kl kf cv cc cm ch dv dc dm dh gw gh gk gq gr gj gR gT gC) sz) := by
  refine kc_entry (Qc := fun A => (kc_Pi D (fun _ : Unit => (wX cx aX aH aI aS aT ak aC aD (aC 0) (aD 0) aG db v.2 ql qf qz qi sp s1 s2 s3 s4 s5 sP sC sH tl kl kf cv cc cm ch dv dc dm dh gw gh gk gq gr gj gR gT gC)) v.1 A)) (by decide) (Nat.le_of_ble_eq_true rfl) ?_
  intro p e s m below meth c A hx hb hr hk hml hown hin hts hN hK hP hD hS hA ls hl
  have hown : s.vm.findClass RX4 = some m.cls := hown
  have hl : lv_has ls 5 [(0, .ref (aX 0)), (1, .int x1), (2, .int x2), (3, .int x3)] := hl
  unfold fX4_get at hf
  have hP : va_P D classes (wX cx aX aH aI aS aT ak aC aD (aC 0) (aD 0) aG db dn ql qf qz qi sp s1 s2 s3 s4 s5 sP sC sH tl kl kf cv cc cm ch dv dc dm dh gw gh gk gq gr gj gR gT gC) s.heap := hP
  obtain ⟨H, hH⟩ : ∃ H, H = s.heap := ⟨_, rfl⟩
  obtain ⟨locs, hL⟩ : ∃ locs : List Loc, locs = [] := ⟨_, rfl⟩
  have hS : va_S A s.heap H locs := by rw [hH, hL]; exact hS
  have hP : va_P D classes (wX cx aX aH aI aS aT ak aC aD (aC 0) (aD 0) aG db dn ql qf qz qi sp s1 s2 s3 s4 s5 sP sC sH tl kl kf cv cc cm ch dv dc dm dh gw gh gk gq gr gj gR gT gC) H := by rw [hH]; exact hP
  suffices hW : W p l e rmX4_get s m ([.ref (aX 0), .int x1, .int x2, .int x3] : List Value).toArray below meth c H locs 0 0 (MQ below (kc_Pi D (fun _ : Unit => (wX cx aX aH aI aS aT ak aC aD (aC 0) (aD 0) aG db v.2 ql qf qz qi sp s1 s2 s3 s4 s5 sP sC sH tl kl kf cv cc cm ch dv dc dm dh gw gh gk gq gr gj gR gT gC)) v.1 A) ([.ref (aX 0), .int x1, .int x2, .int x3] : List Value).toArray s 0 0 A) (F0 m 0 ls []) by rw [hH, hL] at hW; exact hW
  clear hH hL
  refine lv_iload_n hx hb dX4_get_0 rfl (lv_at hl 1 rfl) ?_
  obtain ⟨u10, hg, hf⟩ := ob_s hf
  refine kc_calli (wn := fun _ => (wX cx aX aH aI aS aT ak aC aD (aC 0) (aD 0) aG db dn ql qf qz qi sp s1 s2 s3 s4 s5 sP sC sH tl kl kf cv cc cm ch dv dc dm dh gw gh gk gq gr gj gR gT gC)) (va_runS (As := [.int x1]) (rest := []) ⟨hx, hb, hml, hown, hts⟩ (metX4_isSheet l D cx   x1 N H.size u10 hg) ⟨callB_of 1 hts (kc_gI wd_500) rfl rfl rfl (hts _ wd_40) (hts _ wd_498) (by decide +kernel) ⟨Nat.le_of_ble_eq_true rfl, Nat.le_of_ble_eq_true rfl⟩, hts _ wd_499⟩ ⟨kc_blind _ _ _ _ _, kc_pre _ hK hN (hP.sub [] rfl) (hD.sub [] (by decide) rfl)⟩ rfl rfl hl.1 rfl (lv_room (Nat.le_of_ble_eq_true rfl)) dX4_get_1 ⟨Nat.zero_le _, Nat.zero_le _⟩) hP hD hS hA [] [0, 1, 2, 3, 4, 5, 6, 7, 8, 9, 10, 11, 12, 13, 14, 15, 16, 17, 18, 19, 20, 21, 22, 23, 24, 25, 26, 27, 28, 29, 30, 31, 32] [0, 1, 2, 3, 4, 5, 6, 7, 8, 9, 10, 11, 12, 13, 14, 15, 16, 17, 18, 19, 20, 21, 22, 23, 24, 25, 26, 27, 28, 29, 30, 31, 32] rfl rfl (by decide) (by decide) (fun _ => rfl) (by decide) (fun _ H locs hP hD hS => ?_)
  have hP : va_P D classes (wX cx aX aH aI aS aT ak aC aD (aC 0) (aD 0) aG db dn ql qf qz qi sp s1 s2 s3 s4 s5 sP sC sH tl kl kf cv cc cm ch dv dc dm dh gw gh gk gq gr gj gR gT gC) H := hP
  have hD : va_D A (wX cx aX aH aI aS aT ak aC aD (aC 0) (aD 0) aG db dn ql qf qz qi sp s1 s2 s3 s4 s5 sP sC sH tl kl kf cv cc cm ch dv dc dm dh gw gh gk gq gr gj gR gT gC) := hD
  refine lv_if_eq (tgt := 14) hx hb dX4_get_4 (by decide) (fun c11 => ?_) (fun c11 => ?_)
  · replace hf := it_t c11 hf
    refine lv_ldc hx hb hown (hts _ wd_534) dX4_get_14 ?_
    obtain rfl := Option.some.inj hf
    exact kc_iret () hx hb hr hk hP hD hS rfl dX4_get_16
  · replace hf := it_f c11 hf
    refine lv_iload_n hx hb dX4_get_7 rfl (lv_at hl 2 rfl) ?_
    obtain ⟨u12, hg, hf⟩ := ob_s hf
    refine kc_calli (wn := fun _ => (wX cx aX aH aI aS aT ak aC aD (aC 0) (aD 0) aG db dn ql qf qz qi sp s1 s2 s3 s4 s5 sP sC sH tl kl kf cv cc cm ch dv dc dm dh gw gh gk gq gr gj gR gT gC)) (va_runS (As := [.int x2]) (rest := []) ⟨hx, hb, hml, hown, hts⟩ (metX4_isForm l D cx   x2 N H.size u12 hg) ⟨callB_of 1 hts (kc_gI wd_503) rfl rfl rfl (hts _ wd_40) (hts _ wd_501) (by decide +kernel) ⟨Nat.le_of_ble_eq_true rfl, Nat.le_of_ble_eq_true rfl⟩, hts _ wd_502⟩ ⟨kc_blind _ _ _ _ _, kc_pre _ hK hN (hP.sub [] rfl) (hD.sub [] (by decide) rfl)⟩ rfl rfl hl.1 rfl (lv_room (Nat.le_of_ble_eq_true rfl)) dX4_get_8 ⟨Nat.zero_le _, Nat.zero_le _⟩) hP hD hS hA [] [0, 1, 2, 3, 4, 5, 6, 7, 8, 9, 10, 11, 12, 13, 14, 15, 16, 17, 18, 19, 20, 21, 22, 23, 24, 25, 26, 27, 28, 29, 30, 31, 32] [0, 1, 2, 3, 4, 5, 6, 7, 8, 9, 10, 11, 12, 13, 14, 15, 16, 17, 18, 19, 20, 21, 22, 23, 24, 25, 26, 27, 28, 29, 30, 31, 32] rfl rfl (by decide) (by decide) (fun _ => rfl) (by decide) (fun _ H locs hP hD hS => ?_)
    have hP : va_P D classes (wX cx aX aH aI aS aT ak aC aD (aC 0) (aD 0) aG db dn ql qf qz qi sp s1 s2 s3 s4 s5 sP sC sH tl kl kf cv cc cm ch dv dc dm dh gw gh gk gq gr gj gR gT gC) H := hP
    have hD : va_D A (wX cx aX aH aI aS aT ak aC aD (aC 0) (aD 0) aG db dn ql qf qz qi sp s1 s2 s3 s4 s5 sP sC sH tl kl kf cv cc cm ch dv dc dm dh gw gh gk gq gr gj gR gT gC) := hD
    refine lv_if_ne (tgt := 17) hx hb dX4_get_11 (by decide) (fun c13 => ?_) (fun c13 => ?_)
    · replace hf := it_f c13 hf
      refine lv_aload_n hx hb dX4_get_17 rfl (lv_at hl 0 rfl) ?_
      refine va_get (D := D) (ci := 4) (v := .ref (aX 1)) (C := RX4) (T := TX4) (N := 7) hx hb hts iX4 hown hK hP 0 rfl rfl 2 (by decide) (hts _ wd_228) (fun _ h9 => h9) rfl dX4_get_18 ?_
      refine lv_iload_n hx hb dX4_get_21 rfl (lv_at hl 1 rfl) ?_
      obtain ⟨hz, hf⟩ := okb_s hf
      have hj14 : x1.toNatClampNeg < 4 := inb_lt hz
      refine va_aldq (D := D) hx hb hK hP 1 3 rfl rfl (inb_s hz) dX4_get_22 ?_
      rw [if_pos hj14]
      show W _ _ _ _ _ _ _ _ _ _ _ _ _ _ _ (F0 m 23 ls (.ref (aH (x1.toNatClampNeg)) :: _))
      refine lv_iload_n hx hb dX4_get_23 rfl (lv_at hl 2 rfl) ?_
      refine lv_iload_n hx hb dX4_get_24 rfl (lv_at hl 3 rfl) ?_
      obtain ⟨u15, hg, hf⟩ := ob_s hf
      refine kc_calli2 (f1 := fun _ => .inr (2, [.int (ql (x1.toNatClampNeg)), .int (qf (x1.toNatClampNeg)), .int (qz (x1.toNatClampNeg)), .ref (aI (x1.toNatClampNeg))])) (f2 := fun _ => .inl (cx 0, 20, .inl (qi (x1.toNatClampNeg)))) (va_runV (As := [.int x2, .int x3]) (rest := []) ⟨hx, hb, hml, hown, hts⟩ (metX2_findingAt l D cx (sh2 (aH (x1.toNatClampNeg)) (aI (x1.toNatClampNeg))) (ql (x1.toNatClampNeg)) (qf (x1.toNatClampNeg)) (qz (x1.toNatClampNeg)) (qi (x1.toNatClampNeg)) x2 x3 N H.size u15 hg) ⟨callB_of 2 hts (kc_gI wd_524) rfl rfl rfl (hts _ wd_45) (hts _ wd_521) (by decide +kernel) ⟨Nat.le_of_ble_eq_true rfl, Nat.le_of_ble_eq_true rfl⟩, hts _ wd_522, hts _ wd_523⟩ ⟨kc_blind _ _ _ _ _, va_recv hK hP (ci := 2) (q0 := 2 + 2 * (x1.toNatClampNeg)) rfl (wX_get_sheet hj14), kc_pre _ hK hN (kc_P2 hP (wX_get_sheet hj14) (wX_get_item hj14)) (kc_D2 hD (wX_get_sheet hj14) (wX_get_item hj14) (by omega))⟩ rfl rfl hl.1 rfl (lv_room (Nat.le_of_ble_eq_true rfl)) dX4_get_25 ⟨Nat.zero_le _, Nat.zero_le _⟩) hP hD hS hA (wX_get_sheet hj14) (wX_get_item hj14) (by omega) rfl (fun _ => rfl) (fun _ H locs hP hD hS => ?_)
      rw [wX_two_same hj14] at hP hD
      have hP : va_P D classes (wX cx aX aH aI aS aT ak aC aD (aC 0) (aD 0) aG db dn ql qf qz qi sp s1 s2 s3 s4 s5 sP sC sH tl kl kf cv cc cm ch dv dc dm dh gw gh gk gq gr gj gR gT gC) H := hP
      have hD : va_D A (wX cx aX aH aI aS aT ak aC aD (aC 0) (aD 0) aG db dn ql qf qz qi sp s1 s2 s3 s4 s5 sP sC sH tl kl kf cv cc cm ch dv dc dm dh gw gh gk gq gr gj gR gT gC) := hD
      refine lv_istore (lv' := [(4, .int u15), (0, .ref (aX 0)), (1, .int x1), (2, .int x2), (3, .int x3)]) hx hb dX4_get_28 hl (by decide) rfl (fun ls hl => ?_)
      refine lv_iload hx hb dX4_get_30 (lv_at hl 0 rfl) ?_
      refine lv_if_eq (tgt := 45) hx hb dX4_get_32 (by decide) (fun c16 => ?_) (fun c16 => ?_)
      · replace hf := it_t c16 hf
        refine lv_aload_n hx hb dX4_get_45 rfl (lv_at hl 1 rfl) ?_
        refine va_get (D := D) (ci := 4) (v := .ref (aX 1)) (C := RX4) (T := TX4) (N := 7) hx hb hts iX4 hown hK hP 0 rfl rfl 2 (by decide) (hts _ wd_228) (fun _ h9 => h9) rfl dX4_get_46 ?_
        refine lv_iload_n hx hb dX4_get_49 rfl (lv_at hl 2 rfl) ?_
        obtain ⟨hz, hf⟩ := okb_s hf
        have hj17 : x1.toNatClampNeg < 4 := inb_lt hz
        refine va_aldq (D := D) hx hb hK hP 1 3 rfl rfl (inb_s hz) dX4_get_50 ?_
        rw [if_pos hj17]
        show W _ _ _ _ _ _ _ _ _ _ _ _ _ _ _ (F0 m 51 ls (.ref (aH (x1.toNatClampNeg)) :: _))
        refine va_get (D := D) (ci := 2) (v := .ref (aI (x1.toNatClampNeg))) (C := RX2) (T := TX2) (N := 4) hx hb hts iX2 hown hK hP (2 + 2 * (x1.toNatClampNeg)) (wX_get_sheet hj17) rfl 3 (by decide) (hts _ wd_216) (fun _ h9 => h9) rfl dX4_get_51 ?_
        refine lv_iload_n hx hb dX4_get_54 rfl (lv_at hl 4 rfl) ?_
        obtain ⟨hz, hf⟩ := okb_s hf
        refine va_iald (D := D) hx hb hK hP (3 + 2 * (x1.toNatClampNeg)) 0 (wX_get_item hj17) rfl (inb_s hz) dX4_get_55 ?_
        obtain rfl := Option.some.inj hf
        exact kc_iret () hx hb hr hk hP hD hS rfl dX4_get_56
      · replace hf := it_f c16 hf
        refine lv_aload_n hx hb dX4_get_35 rfl (lv_at hl 1 rfl) ?_
        refine lv_iload hx hb dX4_get_36 (lv_at hl 0 rfl) ?_
        obtain ⟨u18, hg, hf⟩ := ob_s hf
        refine kc_calli (wn := fun _ => (wX cx aX aH aI aS aT ak aC aD (aC 0) (aD 0) aG db u18.2 ql qf qz qi sp s1 s2 s3 s4 s5 sP sC sH tl kl kf cv cc cm ch dv dc dm dh gw gh gk gq gr gj gR gT gC)) (va_runV (As := [.int u15]) (rest := []) ⟨hx, hb, hml, hown, hts⟩ (metX4_refuse l D cx aX aH aI aS aT ak aC aD aG db dn ql qf qz qi sp s1 s2 s3 s4 s5 sP sC sH tl kl kf cv cc cm ch dv dc dm dh gw gh gk gq gr gj gR gT gC u15 N H.size u18 hg) ⟨callB_of 1 hts (kc_gI wd_507) rfl rfl rfl (hts _ wd_40) (hts _ wd_504) (by decide +kernel) ⟨Nat.le_of_ble_eq_true rfl, Nat.le_of_ble_eq_true rfl⟩, hts _ wd_506, hts _ wd_14⟩ ⟨kc_blind _ _ _ _ _, va_recv hK hP (ci := 4) (q0 := 0) rfl rfl, kc_pre _ hK hN (hP.sub [0, 1, 2, 3, 4, 5, 6, 7, 8, 9, 10, 11, 12, 13, 14, 15, 16, 17, 18, 19, 20, 21, 22, 23, 24, 25, 26, 27, 28, 29, 30, 31, 32] rfl) (hD.sub [0, 1, 2, 3, 4, 5, 6, 7, 8, 9, 10, 11, 12, 13, 14, 15, 16, 17, 18, 19, 20, 21, 22, 23, 24, 25, 26, 27, 28, 29, 30, 31, 32] (by decide) rfl)⟩ rfl rfl hl.1 rfl (lv_room (Nat.le_of_ble_eq_true rfl)) dX4_get_38 ⟨Nat.zero_le _, Nat.zero_le _⟩) hP hD hS hA [0, 1, 2, 3, 4, 5, 6, 7, 8, 9, 10, 11, 12, 13, 14, 15, 16, 17, 18, 19, 20, 21, 22, 23, 24, 25, 26, 27, 28, 29, 30, 31, 32] [] [0, 1, 2, 3, 4, 5, 6, 7, 8, 9, 10, 11, 12, 13, 14, 15, 16, 17, 18, 19, 20, 21, 22, 23, 24, 25, 26, 27, 28, 29, 30, 31, 32] rfl rfl (by decide) (by decide) (fun _ => rfl) (by decide) (fun _ H locs hP hD hS => ?_)
        have hP : va_P D classes (wX cx aX aH aI aS aT ak aC aD (aC 0) (aD 0) aG db u18.2 ql qf qz qi sp s1 s2 s3 s4 s5 sP sC sH tl kl kf cv cc cm ch dv dc dm dh gw gh gk gq gr gj gR gT gC) H := hP
        have hD : va_D A (wX cx aX aH aI aS aT ak aC aD (aC 0) (aD 0) aG db u18.2 ql qf qz qi sp s1 s2 s3 s4 s5 sP sC sH tl kl kf cv cc cm ch dv dc dm dh gw gh gk gq gr gj gR gT gC) := hD
        refine lv_pop hx hb dX4_get_41 rfl ?_
        refine lv_ldc hx hb hown (hts _ wd_534) dX4_get_42 ?_
        obtain rfl := Option.some.inj hf
        exact kc_iret () hx hb hr hk hP hD hS rfl dX4_get_44
    · replace hf := it_t c13 hf
      refine lv_ldc hx hb hown (hts _ wd_534) dX4_get_14 ?_
      obtain rfl := Option.some.inj hf
      exact kc_iret () hx hb hr hk hP hD hS rfl dX4_get_16
abbrev rmX4_copy : Room := { frames := 2, cells := 0, slots := 0, locals := 60 }
set_option maxHeartbeats 4000000 in
set_option maxRecDepth 100000 in
theorem metX4_copy (l : Launch) (D : va_G) (cx : Nat → ClassId) (aX : Nat → Nat) (aH : Nat → Nat) (aI : Nat → Nat) (aS : Nat → Nat) (aT : Nat → Nat) (ak : Nat) (aC : Nat → Nat) (aD : Nat → Nat) (aG : Nat → Nat) (db : Int32) (dn : Int32) (ql : Nat → Int32) (qf : Nat → Int32) (qz : Nat → Int32) (qi : Nat → Nat → Int32) (sp : Int32) (s1 : Int32) (s2 : Int32) (s3 : Int32) (s4 : Int32) (s5 : Int32) (sP : Nat → Int32) (sC : Nat → Int32) (sH : Nat → Int32) (tl : Nat → Nat → Int32) (kl : Nat) (kf : Nat → Int64) (cv : Int32) (cc : Nat → Int32) (cm : Nat → Int32) (ch : Nat → Int32) (dv : Int32) (dc : Nat → Int32) (dm : Nat → Int32) (dh : Nat → Int32) (gw : Int32) (gh : Int32) (gk : Int32) (gq : Int32) (gr : Int32) (gj : Int32) (gR : Nat → Int32) (gT : Nat → Int32) (gC : Nat → Int32) (x1 : Int32) (x2 : Int32) (x3 : Int32) (x4 : Int32) (x5 : Int32) (N : Nat) (sz : Nat) (v : Int32 × Int32 × (Nat → Nat → Int32)) (hf : fX4_copy N dn ql qf qz qi x1 x2 x3 x4 x5 = some v) : Met l yX4_copy (.code yX4_copy cX4_copy 8 (some .int) :: kc_TB) rmX4_copy (kc_Pre D cx (wX cx aX aH aI aS aT ak aC aD (aC 0) (aD 0) aG db dn ql qf qz qi sp s1 s2 s3 s4 s5 sP sC sH tl kl kf cv cc cm ch dv dc dm dh gw gh gk gq gr gj gR gT gC) [.ref (aX 0), .int x1, .int x2, .int x3, .int x4, .int x5] sz) (kc_Pi D (fun _ : Unit => (wX cx aX aH aI aS aT ak aC aD (aC 0) (aD 0) aG db v.2.1 ql qf qz v.2.2 sp s1 s2 s3 s4 s5 sP sC sH tl kl kf cv cc cm ch dv dc dm dh gw gh gk gq gr gj gR gT gC)) v.1 (va_A (wX cx aX aH aI aS aT ak aC aD (aC 0) (aD 0) aG db dn ql qf qz qi sp s1 s2 s3 s4 s5 sP sC sH tl kl kf cv cc cm ch dv dc dm dh gw gh gk gq gr gj gR gT gC) sz)) 0 0 (va_A (wX cx aX aH aI aS aT ak aC aD (aC 0) (aD 0) aG db dn ql qf qz qi sp s1 s2 s3 s4 s5 sP sC sH tl kl kf cv cc cm ch dv dc dm dh gw gh gk gq gr gj gR gT gC) sz) := by
  refine kc_entry (Qc := fun A => (kc_Pi D (fun _ : Unit => (wX cx aX aH aI aS aT ak aC aD (aC 0) (aD 0) aG db v.2.1 ql qf qz v.2.2 sp s1 s2 s3 s4 s5 sP sC sH tl kl kf cv cc cm ch dv dc dm dh gw gh gk gq gr gj gR gT gC)) v.1 A)) (by decide) (Nat.le_of_ble_eq_true rfl) ?_
  intro p e s m below meth c A hx hb hr hk hml hown hin hts hN hK hP hD hS hA ls hl
  have hown : s.vm.findClass RX4 = some m.cls := hown
  have hl : lv_has ls 8 [(0, .ref (aX 0)), (1, .int x1), (2, .int x2), (3, .int x3), (4, .int x4), (5, .int x5)] := hl
  unfold fX4_copy at hf
  have hP : va_P D classes (wX cx aX aH aI aS aT ak aC aD (aC 0) (aD 0) aG db dn ql qf qz qi sp s1 s2 s3 s4 s5 sP sC sH tl kl kf cv cc cm ch dv dc dm dh gw gh gk gq gr gj gR gT gC) s.heap := hP
  obtain ⟨H, hH⟩ : ∃ H, H = s.heap := ⟨_, rfl⟩
  obtain ⟨locs, hL⟩ : ∃ locs : List Loc, locs = [] := ⟨_, rfl⟩
  have hS : va_S A s.heap H locs := by rw [hH, hL]; exact hS
  have hP : va_P D classes (wX cx aX aH aI aS aT ak aC aD (aC 0) (aD 0) aG db dn ql qf qz qi sp s1 s2 s3 s4 s5 sP sC sH tl kl kf cv cc cm ch dv dc dm dh gw gh gk gq gr gj gR gT gC) H := by rw [hH]; exact hP
  suffices hW : W p l e rmX4_copy s m ([.ref (aX 0), .int x1, .int x2, .int x3, .int x4, .int x5] : List Value).toArray below meth c H locs 0 0 (MQ below (kc_Pi D (fun _ : Unit => (wX cx aX aH aI aS aT ak aC aD (aC 0) (aD 0) aG db v.2.1 ql qf qz v.2.2 sp s1 s2 s3 s4 s5 sP sC sH tl kl kf cv cc cm ch dv dc dm dh gw gh gk gq gr gj gR gT gC)) v.1 A) ([.ref (aX 0), .int x1, .int x2, .int x3, .int x4, .int x5] : List Value).toArray s 0 0 A) (F0 m 0 ls []) by rw [hH, hL] at hW; exact hW
  clear hH hL
  refine lv_iload_n hx hb dX4_copy_0 rfl (lv_at hl 1 rfl) ?_
  obtain ⟨u19, hg, hf⟩ := ob_s hf
  refine kc_calli (wn := fun _ => (wX cx aX aH aI aS aT ak aC aD (aC 0) (aD 0) aG db dn ql qf qz qi sp s1 s2 s3 s4 s5 sP sC sH tl kl kf cv cc cm ch dv dc dm dh gw gh gk gq gr gj gR gT gC)) (va_runS (As := [.int x1]) (rest := []) ⟨hx, hb, hml, hown, hts⟩ (metX4_isSheet l D cx   x1 N H.size u19 hg) ⟨callB_of 1 hts (kc_gI wd_500) rfl rfl rfl (hts _ wd_40) (hts _ wd_498) (by decide +kernel) ⟨Nat.le_of_ble_eq_true rfl, Nat.le_of_ble_eq_true rfl⟩, hts _ wd_499⟩ ⟨kc_blind _ _ _ _ _, kc_pre _ hK hN (hP.sub [] rfl) (hD.sub [] (by decide) rfl)⟩ rfl rfl hl.1 rfl (lv_room (Nat.le_of_ble_eq_true rfl)) dX4_copy_1 ⟨Nat.zero_le _, Nat.zero_le _⟩) hP hD hS hA [] [0, 1, 2, 3, 4, 5, 6, 7, 8, 9, 10, 11, 12, 13, 14, 15, 16, 17, 18, 19, 20, 21, 22, 23, 24, 25, 26, 27, 28, 29, 30, 31, 32] [0, 1, 2, 3, 4, 5, 6, 7, 8, 9, 10, 11, 12, 13, 14, 15, 16, 17, 18, 19, 20, 21, 22, 23, 24, 25, 26, 27, 28, 29, 30, 31, 32] rfl rfl (by decide) (by decide) (fun _ => rfl) (by decide) (fun _ H locs hP hD hS => ?_)
  have hP : va_P D classes (wX cx aX aH aI aS aT ak aC aD (aC 0) (aD 0) aG db dn ql qf qz qi sp s1 s2 s3 s4 s5 sP sC sH tl kl kf cv cc cm ch dv dc dm dh gw gh gk gq gr gj gR gT gC) H := hP
  have hD : va_D A (wX cx aX aH aI aS aT ak aC aD (aC 0) (aD 0) aG db dn ql qf qz qi sp s1 s2 s3 s4 s5 sP sC sH tl kl kf cv cc cm ch dv dc dm dh gw gh gk gq gr gj gR gT gC) := hD
  refine lv_if_eq (tgt := 14) hx hb dX4_copy_4 (by decide) (fun c20 => ?_) (fun c20 => ?_)
  · replace hf := it_t c20 hf
    refine lv_sipush (v := (-200 : Int32)) hx hb dX4_copy_14 (by decide) ?_
    obtain rfl := Option.some.inj hf
    exact kc_iret () hx hb hr hk hP hD hS rfl dX4_copy_17
  · replace hf := it_f c20 hf
    refine lv_iload_n hx hb dX4_copy_7 rfl (lv_at hl 3 rfl) ?_
    obtain ⟨u21, hg, hf⟩ := ob_s hf
    refine kc_calli (wn := fun _ => (wX cx aX aH aI aS aT ak aC aD (aC 0) (aD 0) aG db dn ql qf qz qi sp s1 s2 s3 s4 s5 sP sC sH tl kl kf cv cc cm ch dv dc dm dh gw gh gk gq gr gj gR gT gC)) (va_runS (As := [.int x3]) (rest := []) ⟨hx, hb, hml, hown, hts⟩ (metX4_isSheet l D cx   x3 N H.size u21 hg) ⟨callB_of 1 hts (kc_gI wd_500) rfl rfl rfl (hts _ wd_40) (hts _ wd_498) (by decide +kernel) ⟨Nat.le_of_ble_eq_true rfl, Nat.le_of_ble_eq_true rfl⟩, hts _ wd_499⟩ ⟨kc_blind _ _ _ _ _, kc_pre _ hK hN (hP.sub [] rfl) (hD.sub [] (by decide) rfl)⟩ rfl rfl hl.1 rfl (lv_room (Nat.le_of_ble_eq_true rfl)) dX4_copy_8 ⟨Nat.zero_le _, Nat.zero_le _⟩) hP hD hS hA [] [0, 1, 2, 3, 4, 5, 6, 7, 8, 9, 10, 11, 12, 13, 14, 15, 16, 17, 18, 19, 20, 21, 22, 23, 24, 25, 26, 27, 28, 29, 30, 31, 32] [0, 1, 2, 3, 4, 5, 6, 7, 8, 9, 10, 11, 12, 13, 14, 15, 16, 17, 18, 19, 20, 21, 22, 23, 24, 25, 26, 27, 28, 29, 30, 31, 32] rfl rfl (by decide) (by decide) (fun _ => rfl) (by decide) (fun _ H locs hP hD hS => ?_)
    have hP : va_P D classes (wX cx aX aH aI aS aT ak aC aD (aC 0) (aD 0) aG db dn ql qf qz qi sp s1 s2 s3 s4 s5 sP sC sH tl kl kf cv cc cm ch dv dc dm dh gw gh gk gq gr gj gR gT gC) H := hP
    have hD : va_D A (wX cx aX aH aI aS aT ak aC aD (aC 0) (aD 0) aG db dn ql qf qz qi sp s1 s2 s3 s4 s5 sP sC sH tl kl kf cv cc cm ch dv dc dm dh gw gh gk gq gr gj gR gT gC) := hD
    refine lv_if_ne (tgt := 18) hx hb dX4_copy_11 (by decide) (fun c22 => ?_) (fun c22 => ?_)
    · replace hf := it_f c22 hf
      refine lv_aload_n hx hb dX4_copy_18 rfl (lv_at hl 0 rfl) ?_
      refine va_get (D := D) (ci := 4) (v := .ref (aX 1)) (C := RX4) (T := TX4) (N := 7) hx hb hts iX4 hown hK hP 0 rfl rfl 2 (by decide) (hts _ wd_228) (fun _ h9 => h9) rfl dX4_copy_19 ?_
      refine lv_iload_n hx hb dX4_copy_22 rfl (lv_at hl 1 rfl) ?_
      obtain ⟨hz, hf⟩ := okb_s hf
      have hj23 : x1.toNatClampNeg < 4 := inb_lt hz
      refine va_aldq (D := D) hx hb hK hP 1 3 rfl rfl (inb_s hz) dX4_copy_23 ?_
      rw [if_pos hj23]
      show W _ _ _ _ _ _ _ _ _ _ _ _ _ _ _ (F0 m 24 ls (.ref (aH (x1.toNatClampNeg)) :: _))
      refine lv_astore (lv' := [(6, .ref (aH (x1.toNatClampNeg))), (0, .ref (aX 0)), (1, .int x1), (2, .int x2), (3, .int x3), (4, .int x4), (5, .int x5)]) hx hb dX4_copy_24 hl (by decide) rfl (fun ls hl => ?_)
      refine lv_aload_n hx hb dX4_copy_26 rfl (lv_at hl 1 rfl) ?_
      refine va_get (D := D) (ci := 4) (v := .ref (aX 1)) (C := RX4) (T := TX4) (N := 7) hx hb hts iX4 hown hK hP 0 rfl rfl 2 (by decide) (hts _ wd_228) (fun _ h9 => h9) rfl dX4_copy_27 ?_
      refine lv_iload_n hx hb dX4_copy_30 rfl (lv_at hl 4 rfl) ?_
      obtain ⟨hz, hf⟩ := okb_s hf
      have hj24 : x3.toNatClampNeg < 4 := inb_lt hz
      refine va_aldq (D := D) hx hb hK hP 1 3 rfl rfl (inb_s hz) dX4_copy_31 ?_
      rw [if_pos hj24]
      show W _ _ _ _ _ _ _ _ _ _ _ _ _ _ _ (F0 m 32 ls (.ref (aH (x3.toNatClampNeg)) :: _))
      refine lv_astore (lv' := [(7, .ref (aH (x3.toNatClampNeg))), (6, .ref (aH (x1.toNatClampNeg))), (0, .ref (aX 0)), (1, .int x1), (2, .int x2), (3, .int x3), (4, .int x4), (5, .int x5)]) hx hb dX4_copy_32 hl (by decide) rfl (fun ls hl => ?_)
      refine lv_aload hx hb dX4_copy_34 (lv_at hl 1 rfl) ?_
      refine va_get (D := D) (ci := 2) (v := .int (ql (x1.toNatClampNeg))) (C := RX2) (T := TX2) (N := 4) hx hb hts iX2 hown hK hP (2 + 2 * (x1.toNatClampNeg)) (wX_get_sheet hj23) rfl 0 (by decide) (hts _ wd_210) (fun _ h9 => h9) rfl dX4_copy_36 ?_
      refine lv_if_ne (tgt := 50) hx hb dX4_copy_39 (by decide) (fun c25 => ?_) (fun c25 => ?_)
      · replace hf := it_f c25 hf
        refine lv_aload_n hx hb dX4_copy_50 rfl (lv_at hl 2 rfl) ?_
        refine lv_iconst (v := (1 : Int32)) hx hb dX4_copy_51 (by decide) ?_
        obtain ⟨u26, hg, hf⟩ := ob_s hf
        refine kc_calli (wn := fun _ => (wX cx aX aH aI aS aT ak aC aD (aC 0) (aD 0) aG db u26.2 ql qf qz qi sp s1 s2 s3 s4 s5 sP sC sH tl kl kf cv cc cm ch dv dc dm dh gw gh gk gq gr gj gR gT gC)) (va_runV (As := [.int (1 : Int32)]) (rest := []) ⟨hx, hb, hml, hown, hts⟩ (metX4_refuse l D cx aX aH aI aS aT ak aC aD aG db dn ql qf qz qi sp s1 s2 s3 s4 s5 sP sC sH tl kl kf cv cc cm ch dv dc dm dh gw gh gk gq gr gj gR gT gC (1 : Int32) N H.size u26 hg) ⟨callB_of 1 hts (kc_gI wd_507) rfl rfl rfl (hts _ wd_40) (hts _ wd_504) (by decide +kernel) ⟨Nat.le_of_ble_eq_true rfl, Nat.le_of_ble_eq_true rfl⟩, hts _ wd_506, hts _ wd_14⟩ ⟨kc_blind _ _ _ _ _, va_recv hK hP (ci := 4) (q0 := 0) rfl rfl, kc_pre _ hK hN (hP.sub [0, 1, 2, 3, 4, 5, 6, 7, 8, 9, 10, 11, 12, 13, 14, 15, 16, 17, 18, 19, 20, 21, 22, 23, 24, 25, 26, 27, 28, 29, 30, 31, 32] rfl) (hD.sub [0, 1, 2, 3, 4, 5, 6, 7, 8, 9, 10, 11, 12, 13, 14, 15, 16, 17, 18, 19, 20, 21, 22, 23, 24, 25, 26, 27, 28, 29, 30, 31, 32] (by decide) rfl)⟩ rfl rfl hl.1 rfl (lv_room (Nat.le_of_ble_eq_true rfl)) dX4_copy_52 ⟨Nat.zero_le _, Nat.zero_le _⟩) hP hD hS hA [0, 1, 2, 3, 4, 5, 6, 7, 8, 9, 10, 11, 12, 13, 14, 15, 16, 17, 18, 19, 20, 21, 22, 23, 24, 25, 26, 27, 28, 29, 30, 31, 32] [] [0, 1, 2, 3, 4, 5, 6, 7, 8, 9, 10, 11, 12, 13, 14, 15, 16, 17, 18, 19, 20, 21, 22, 23, 24, 25, 26, 27, 28, 29, 30, 31, 32] rfl rfl (by decide) (by decide) (fun _ => rfl) (by decide) (fun _ H locs hP hD hS => ?_)
        have hP : va_P D classes (wX cx aX aH aI aS aT ak aC aD (aC 0) (aD 0) aG db u26.2 ql qf qz qi sp s1 s2 s3 s4 s5 sP sC sH tl kl kf cv cc cm ch dv dc dm dh gw gh gk gq gr gj gR gT gC) H := hP
        have hD : va_D A (wX cx aX aH aI aS aT ak aC aD (aC 0) (aD 0) aG db u26.2 ql qf qz qi sp s1 s2 s3 s4 s5 sP sC sH tl kl kf cv cc cm ch dv dc dm dh gw gh gk gq gr gj gR gT gC) := hD
        obtain rfl := Option.some.inj hf
        exact kc_iret () hx hb hr hk hP hD hS rfl dX4_copy_55
      · replace hf := it_t c25 hf
        refine lv_aload hx hb dX4_copy_42 (lv_at hl 0 rfl) ?_
        refine va_get (D := D) (ci := 2) (v := .int (ql (x3.toNatClampNeg))) (C := RX2) (T := TX2) (N := 4) hx hb hts iX2 hown hK hP (2 + 2 * (x3.toNatClampNeg)) (wX_get_sheet hj24) rfl 0 (by decide) (hts _ wd_210) (fun _ h9 => h9) rfl dX4_copy_44 ?_
        refine lv_if_eq (tgt := 56) hx hb dX4_copy_47 (by decide) (fun c27 => ?_) (fun c27 => ?_)
        · replace hf := it_t c27 hf
          refine lv_aload hx hb dX4_copy_56 (lv_at hl 1 rfl) ?_
          refine va_get (D := D) (ci := 2) (v := .int (qf (x1.toNatClampNeg))) (C := RX2) (T := TX2) (N := 4) hx hb hts iX2 hown hK hP (2 + 2 * (x1.toNatClampNeg)) (wX_get_sheet hj23) rfl 1 (by decide) (hts _ wd_212) (fun _ h9 => h9) rfl dX4_copy_58 ?_
          refine lv_aload hx hb dX4_copy_61 (lv_at hl 0 rfl) ?_
          refine va_get (D := D) (ci := 2) (v := .int (qf (x3.toNatClampNeg))) (C := RX2) (T := TX2) (N := 4) hx hb hts iX2 hown hK hP (2 + 2 * (x3.toNatClampNeg)) (wX_get_sheet hj24) rfl 1 (by decide) (hts _ wd_212) (fun _ h9 => h9) rfl dX4_copy_63 ?_
          refine lv_icmp_eq (tgt := 75) hx hb dX4_copy_66 (by decide) (fun c28 => ?_) (fun c28 => ?_)
          · replace hf := it_t c28 hf
            refine lv_aload hx hb dX4_copy_75 (lv_at hl 1 rfl) ?_
            refine lv_iload_n hx hb dX4_copy_77 rfl (lv_at hl 4 rfl) ?_
            refine lv_iload hx hb dX4_copy_78 (lv_at hl 7 rfl) ?_
            obtain ⟨u29, hg, hf⟩ := ob_s hf
            refine kc_calli2 (f1 := fun _ => .inr (2, [.int (ql (x1.toNatClampNeg)), .int (qf (x1.toNatClampNeg)), .int (qz (x1.toNatClampNeg)), .ref (aI (x1.toNatClampNeg))])) (f2 := fun _ => .inl (cx 0, 20, .inl (qi (x1.toNatClampNeg)))) (va_runV (As := [.int x2, .int x5]) (rest := []) ⟨hx, hb, hml, hown, hts⟩ (metX2_hasPart l D cx (sh2 (aH (x1.toNatClampNeg)) (aI (x1.toNatClampNeg))) (ql (x1.toNatClampNeg)) (qf (x1.toNatClampNeg)) (qz (x1.toNatClampNeg)) (qi (x1.toNatClampNeg)) x2 x5 N H.size u29 hg) ⟨callB_of 2 hts (kc_gI wd_542) rfl rfl rfl (hts _ wd_45) (hts _ wd_539) (by decide +kernel) ⟨Nat.le_of_ble_eq_true rfl, Nat.le_of_ble_eq_true rfl⟩, hts _ wd_540, hts _ wd_541⟩ ⟨kc_blind _ _ _ _ _, va_recv hK hP (ci := 2) (q0 := 2 + 2 * (x1.toNatClampNeg)) rfl (wX_get_sheet hj23), kc_pre _ hK hN (kc_P2 hP (wX_get_sheet hj23) (wX_get_item hj23)) (kc_D2 hD (wX_get_sheet hj23) (wX_get_item hj23) (by omega))⟩ rfl rfl hl.1 rfl (lv_room (Nat.le_of_ble_eq_true rfl)) dX4_copy_80 ⟨Nat.zero_le _, Nat.zero_le _⟩) hP hD hS hA (wX_get_sheet hj23) (wX_get_item hj23) (by omega) rfl (fun _ => rfl) (fun _ H locs hP hD hS => ?_)
            rw [wX_two_same hj23] at hP hD
            have hP : va_P D classes (wX cx aX aH aI aS aT ak aC aD (aC 0) (aD 0) aG db dn ql qf qz qi sp s1 s2 s3 s4 s5 sP sC sH tl kl kf cv cc cm ch dv dc dm dh gw gh gk gq gr gj gR gT gC) H := hP
            have hD : va_D A (wX cx aX aH aI aS aT ak aC aD (aC 0) (aD 0) aG db dn ql qf qz qi sp s1 s2 s3 s4 s5 sP sC sH tl kl kf cv cc cm ch dv dc dm dh gw gh gk gq gr gj gR gT gC) := hD
            refine lv_if_eq (tgt := 98) hx hb dX4_copy_83 (by decide) (fun c30 => ?_) (fun c30 => ?_)
            · replace hf := it_t c30 hf
              refine lv_aload_n hx hb dX4_copy_98 rfl (lv_at hl 2 rfl) ?_
              refine lv_iconst (v := (2 : Int32)) hx hb dX4_copy_99 (by decide) ?_
              obtain ⟨u31, hg, hf⟩ := ob_s hf
              refine kc_calli (wn := fun _ => (wX cx aX aH aI aS aT ak aC aD (aC 0) (aD 0) aG db u31.2 ql qf qz qi sp s1 s2 s3 s4 s5 sP sC sH tl kl kf cv cc cm ch dv dc dm dh gw gh gk gq gr gj gR gT gC)) (va_runV (As := [.int (2 : Int32)]) (rest := []) ⟨hx, hb, hml, hown, hts⟩ (metX4_refuse l D cx aX aH aI aS aT ak aC aD aG db dn ql qf qz qi sp s1 s2 s3 s4 s5 sP sC sH tl kl kf cv cc cm ch dv dc dm dh gw gh gk gq gr gj gR gT gC (2 : Int32) N H.size u31 hg) ⟨callB_of 1 hts (kc_gI wd_507) rfl rfl rfl (hts _ wd_40) (hts _ wd_504) (by decide +kernel) ⟨Nat.le_of_ble_eq_true rfl, Nat.le_of_ble_eq_true rfl⟩, hts _ wd_506, hts _ wd_14⟩ ⟨kc_blind _ _ _ _ _, va_recv hK hP (ci := 4) (q0 := 0) rfl rfl, kc_pre _ hK hN (hP.sub [0, 1, 2, 3, 4, 5, 6, 7, 8, 9, 10, 11, 12, 13, 14, 15, 16, 17, 18, 19, 20, 21, 22, 23, 24, 25, 26, 27, 28, 29, 30, 31, 32] rfl) (hD.sub [0, 1, 2, 3, 4, 5, 6, 7, 8, 9, 10, 11, 12, 13, 14, 15, 16, 17, 18, 19, 20, 21, 22, 23, 24, 25, 26, 27, 28, 29, 30, 31, 32] (by decide) rfl)⟩ rfl rfl hl.1 rfl (lv_room (Nat.le_of_ble_eq_true rfl)) dX4_copy_100 ⟨Nat.zero_le _, Nat.zero_le _⟩) hP hD hS hA [0, 1, 2, 3, 4, 5, 6, 7, 8, 9, 10, 11, 12, 13, 14, 15, 16, 17, 18, 19, 20, 21, 22, 23, 24, 25, 26, 27, 28, 29, 30, 31, 32] [] [0, 1, 2, 3, 4, 5, 6, 7, 8, 9, 10, 11, 12, 13, 14, 15, 16, 17, 18, 19, 20, 21, 22, 23, 24, 25, 26, 27, 28, 29, 30, 31, 32] rfl rfl (by decide) (by decide) (fun _ => rfl) (by decide) (fun _ H locs hP hD hS => ?_)
              have hP : va_P D classes (wX cx aX aH aI aS aT ak aC aD (aC 0) (aD 0) aG db u31.2 ql qf qz qi sp s1 s2 s3 s4 s5 sP sC sH tl kl kf cv cc cm ch dv dc dm dh gw gh gk gq gr gj gR gT gC) H := hP
              have hD : va_D A (wX cx aX aH aI aS aT ak aC aD (aC 0) (aD 0) aG db u31.2 ql qf qz qi sp s1 s2 s3 s4 s5 sP sC sH tl kl kf cv cc cm ch dv dc dm dh gw gh gk gq gr gj gR gT gC) := hD
              obtain rfl := Option.some.inj hf
              exact kc_iret () hx hb hr hk hP hD hS rfl dX4_copy_103
            · replace hf := it_f c30 hf
              refine lv_aload hx hb dX4_copy_86 (lv_at hl 0 rfl) ?_
              refine lv_iload hx hb dX4_copy_88 (lv_at hl 6 rfl) ?_
              refine lv_iload hx hb dX4_copy_90 (lv_at hl 7 rfl) ?_
              obtain ⟨u32, hg, hf⟩ := ob_s hf
              refine kc_calli2 (f1 := fun _ => .inr (2, [.int (ql (x3.toNatClampNeg)), .int (qf (x3.toNatClampNeg)), .int (qz (x3.toNatClampNeg)), .ref (aI (x3.toNatClampNeg))])) (f2 := fun _ => .inl (cx 0, 20, .inl (qi (x3.toNatClampNeg)))) (va_runV (As := [.int x4, .int x5]) (rest := []) ⟨hx, hb, hml, hown, hts⟩ (metX2_hasPart l D cx (sh2 (aH (x3.toNatClampNeg)) (aI (x3.toNatClampNeg))) (ql (x3.toNatClampNeg)) (qf (x3.toNatClampNeg)) (qz (x3.toNatClampNeg)) (qi (x3.toNatClampNeg)) x4 x5 N H.size u32 hg) ⟨callB_of 2 hts (kc_gI wd_542) rfl rfl rfl (hts _ wd_45) (hts _ wd_539) (by decide +kernel) ⟨Nat.le_of_ble_eq_true rfl, Nat.le_of_ble_eq_true rfl⟩, hts _ wd_540, hts _ wd_541⟩ ⟨kc_blind _ _ _ _ _, va_recv hK hP (ci := 2) (q0 := 2 + 2 * (x3.toNatClampNeg)) rfl (wX_get_sheet hj24), kc_pre _ hK hN (kc_P2 hP (wX_get_sheet hj24) (wX_get_item hj24)) (kc_D2 hD (wX_get_sheet hj24) (wX_get_item hj24) (by omega))⟩ rfl rfl hl.1 rfl (lv_room (Nat.le_of_ble_eq_true rfl)) dX4_copy_92 ⟨Nat.zero_le _, Nat.zero_le _⟩) hP hD hS hA (wX_get_sheet hj24) (wX_get_item hj24) (by omega) rfl (fun _ => rfl) (fun _ H locs hP hD hS => ?_)
              rw [wX_two_same hj24] at hP hD
              have hP : va_P D classes (wX cx aX aH aI aS aT ak aC aD (aC 0) (aD 0) aG db dn ql qf qz qi sp s1 s2 s3 s4 s5 sP sC sH tl kl kf cv cc cm ch dv dc dm dh gw gh gk gq gr gj gR gT gC) H := hP
              have hD : va_D A (wX cx aX aH aI aS aT ak aC aD (aC 0) (aD 0) aG db dn ql qf qz qi sp s1 s2 s3 s4 s5 sP sC sH tl kl kf cv cc cm ch dv dc dm dh gw gh gk gq gr gj gR gT gC) := hD
              refine lv_if_ne (tgt := 104) hx hb dX4_copy_95 (by decide) (fun c33 => ?_) (fun c33 => ?_)
              · replace hf := it_f c33 hf
                refine lv_aload hx hb dX4_copy_104 (lv_at hl 1 rfl) ?_
                refine va_get (D := D) (ci := 2) (v := .ref (aI (x1.toNatClampNeg))) (C := RX2) (T := TX2) (N := 4) hx hb hts iX2 hown hK hP (2 + 2 * (x1.toNatClampNeg)) (wX_get_sheet hj23) rfl 3 (by decide) (hts _ wd_216) (fun _ h9 => h9) rfl dX4_copy_106 ?_
                refine lv_iload_n hx hb dX4_copy_109 rfl (lv_at hl 4 rfl) ?_
                refine lv_aload hx hb dX4_copy_110 (lv_at hl 0 rfl) ?_
                refine va_get (D := D) (ci := 2) (v := .ref (aI (x3.toNatClampNeg))) (C := RX2) (T := TX2) (N := 4) hx hb hts iX2 hown hK hP (2 + 2 * (x3.toNatClampNeg)) (wX_get_sheet hj24) rfl 3 (by decide) (hts _ wd_216) (fun _ h9 => h9) rfl dX4_copy_112 ?_
                refine lv_iload hx hb dX4_copy_115 (lv_at hl 6 rfl) ?_
                refine lv_iload hx hb dX4_copy_117 (lv_at hl 7 rfl) ?_
                obtain ⟨hz, hf⟩ := okb_s hf
                simp only [Bool.and_eq_true, Bool.not_eq_true', decide_eq_false_iff_not, decide_eq_true_eq] at hz
                refine va_copyi (D := D) (ty := .int) hx hb (hml.trans hl.1.symm) hown (hts _ wd_543) (hts _ wd_545) (hts _ wd_544) (hts _ wd_49) hK hP hD hS (3 + 2 * (x1.toNatClampNeg)) (3 + 2 * (x3.toNatClampNeg)) 0 0 (wX_get_item hj23) (wX_get_item hj24) rfl rfl rfl hz.1.1.1.1 hz.1.1.1.2 hz.1.1.2 hz.1.2 hz.2 (fun _ _ => rfl) (Nat.le_of_ble_eq_true rfl) (Nat.le_of_ble_eq_true rfl) dX4_copy_119 (fun H locs hP hD hS => ?_)
                rw [wX_set_item hj24] at hP hD
                have hP : va_P D classes (wX cx aX aH aI aS aT ak aC aD (aC 0) (aD 0) aG db dn ql qf qz (upT qi (x3.toNatClampNeg) (va_cpy (qi (x1.toNatClampNeg)) (qi (x3.toNatClampNeg)) x2.toNatClampNeg x4.toNatClampNeg x5.toNatClampNeg)) sp s1 s2 s3 s4 s5 sP sC sH tl kl kf cv cc cm ch dv dc dm dh gw gh gk gq gr gj gR gT gC) H := hP
                have hD : va_D A (wX cx aX aH aI aS aT ak aC aD (aC 0) (aD 0) aG db dn ql qf qz (upT qi (x3.toNatClampNeg) (va_cpy (qi (x1.toNatClampNeg)) (qi (x3.toNatClampNeg)) x2.toNatClampNeg x4.toNatClampNeg x5.toNatClampNeg)) sp s1 s2 s3 s4 s5 sP sC sH tl kl kf cv cc cm ch dv dc dm dh gw gh gk gq gr gj gR gT gC) := hD
                refine lv_iconst (v := (1 : Int32)) hx hb dX4_copy_122 (by decide) ?_
                obtain rfl := Option.some.inj hf
                exact kc_iret () hx hb hr hk hP hD hS rfl dX4_copy_123
              · replace hf := it_t c33 hf
                refine lv_aload_n hx hb dX4_copy_98 rfl (lv_at hl 2 rfl) ?_
                refine lv_iconst (v := (2 : Int32)) hx hb dX4_copy_99 (by decide) ?_
                obtain ⟨u34, hg, hf⟩ := ob_s hf
                refine kc_calli (wn := fun _ => (wX cx aX aH aI aS aT ak aC aD (aC 0) (aD 0) aG db u34.2 ql qf qz qi sp s1 s2 s3 s4 s5 sP sC sH tl kl kf cv cc cm ch dv dc dm dh gw gh gk gq gr gj gR gT gC)) (va_runV (As := [.int (2 : Int32)]) (rest := []) ⟨hx, hb, hml, hown, hts⟩ (metX4_refuse l D cx aX aH aI aS aT ak aC aD aG db dn ql qf qz qi sp s1 s2 s3 s4 s5 sP sC sH tl kl kf cv cc cm ch dv dc dm dh gw gh gk gq gr gj gR gT gC (2 : Int32) N H.size u34 hg) ⟨callB_of 1 hts (kc_gI wd_507) rfl rfl rfl (hts _ wd_40) (hts _ wd_504) (by decide +kernel) ⟨Nat.le_of_ble_eq_true rfl, Nat.le_of_ble_eq_true rfl⟩, hts _ wd_506, hts _ wd_14⟩ ⟨kc_blind _ _ _ _ _, va_recv hK hP (ci := 4) (q0 := 0) rfl rfl, kc_pre _ hK hN (hP.sub [0, 1, 2, 3, 4, 5, 6, 7, 8, 9, 10, 11, 12, 13, 14, 15, 16, 17, 18, 19, 20, 21, 22, 23, 24, 25, 26, 27, 28, 29, 30, 31, 32] rfl) (hD.sub [0, 1, 2, 3, 4, 5, 6, 7, 8, 9, 10, 11, 12, 13, 14, 15, 16, 17, 18, 19, 20, 21, 22, 23, 24, 25, 26, 27, 28, 29, 30, 31, 32] (by decide) rfl)⟩ rfl rfl hl.1 rfl (lv_room (Nat.le_of_ble_eq_true rfl)) dX4_copy_100 ⟨Nat.zero_le _, Nat.zero_le _⟩) hP hD hS hA [0, 1, 2, 3, 4, 5, 6, 7, 8, 9, 10, 11, 12, 13, 14, 15, 16, 17, 18, 19, 20, 21, 22, 23, 24, 25, 26, 27, 28, 29, 30, 31, 32] [] [0, 1, 2, 3, 4, 5, 6, 7, 8, 9, 10, 11, 12, 13, 14, 15, 16, 17, 18, 19, 20, 21, 22, 23, 24, 25, 26, 27, 28, 29, 30, 31, 32] rfl rfl (by decide) (by decide) (fun _ => rfl) (by decide) (fun _ H locs hP hD hS => ?_)
                have hP : va_P D classes (wX cx aX aH aI aS aT ak aC aD (aC 0) (aD 0) aG db u34.2 ql qf qz qi sp s1 s2 s3 s4 s5 sP sC sH tl kl kf cv cc cm ch dv dc dm dh gw gh gk gq gr gj gR gT gC) H := hP
                have hD : va_D A (wX cx aX aH aI aS aT ak aC aD (aC 0) (aD 0) aG db u34.2 ql qf qz qi sp s1 s2 s3 s4 s5 sP sC sH tl kl kf cv cc cm ch dv dc dm dh gw gh gk gq gr gj gR gT gC) := hD
                obtain rfl := Option.some.inj hf
                exact kc_iret () hx hb hr hk hP hD hS rfl dX4_copy_103
          · replace hf := it_f c28 hf
            refine lv_aload_n hx hb dX4_copy_69 rfl (lv_at hl 2 rfl) ?_
            refine lv_iconst (v := (4 : Int32)) hx hb dX4_copy_70 (by decide) ?_
            obtain ⟨u35, hg, hf⟩ := ob_s hf
            refine kc_calli (wn := fun _ => (wX cx aX aH aI aS aT ak aC aD (aC 0) (aD 0) aG db u35.2 ql qf qz qi sp s1 s2 s3 s4 s5 sP sC sH tl kl kf cv cc cm ch dv dc dm dh gw gh gk gq gr gj gR gT gC)) (va_runV (As := [.int (4 : Int32)]) (rest := []) ⟨hx, hb, hml, hown, hts⟩ (metX4_refuse l D cx aX aH aI aS aT ak aC aD aG db dn ql qf qz qi sp s1 s2 s3 s4 s5 sP sC sH tl kl kf cv cc cm ch dv dc dm dh gw gh gk gq gr gj gR gT gC (4 : Int32) N H.size u35 hg) ⟨callB_of 1 hts (kc_gI wd_507) rfl rfl rfl (hts _ wd_40) (hts _ wd_504) (by decide +kernel) ⟨Nat.le_of_ble_eq_true rfl, Nat.le_of_ble_eq_true rfl⟩, hts _ wd_506, hts _ wd_14⟩ ⟨kc_blind _ _ _ _ _, va_recv hK hP (ci := 4) (q0 := 0) rfl rfl, kc_pre _ hK hN (hP.sub [0, 1, 2, 3, 4, 5, 6, 7, 8, 9, 10, 11, 12, 13, 14, 15, 16, 17, 18, 19, 20, 21, 22, 23, 24, 25, 26, 27, 28, 29, 30, 31, 32] rfl) (hD.sub [0, 1, 2, 3, 4, 5, 6, 7, 8, 9, 10, 11, 12, 13, 14, 15, 16, 17, 18, 19, 20, 21, 22, 23, 24, 25, 26, 27, 28, 29, 30, 31, 32] (by decide) rfl)⟩ rfl rfl hl.1 rfl (lv_room (Nat.le_of_ble_eq_true rfl)) dX4_copy_71 ⟨Nat.zero_le _, Nat.zero_le _⟩) hP hD hS hA [0, 1, 2, 3, 4, 5, 6, 7, 8, 9, 10, 11, 12, 13, 14, 15, 16, 17, 18, 19, 20, 21, 22, 23, 24, 25, 26, 27, 28, 29, 30, 31, 32] [] [0, 1, 2, 3, 4, 5, 6, 7, 8, 9, 10, 11, 12, 13, 14, 15, 16, 17, 18, 19, 20, 21, 22, 23, 24, 25, 26, 27, 28, 29, 30, 31, 32] rfl rfl (by decide) (by decide) (fun _ => rfl) (by decide) (fun _ H locs hP hD hS => ?_)
            have hP : va_P D classes (wX cx aX aH aI aS aT ak aC aD (aC 0) (aD 0) aG db u35.2 ql qf qz qi sp s1 s2 s3 s4 s5 sP sC sH tl kl kf cv cc cm ch dv dc dm dh gw gh gk gq gr gj gR gT gC) H := hP
            have hD : va_D A (wX cx aX aH aI aS aT ak aC aD (aC 0) (aD 0) aG db u35.2 ql qf qz qi sp s1 s2 s3 s4 s5 sP sC sH tl kl kf cv cc cm ch dv dc dm dh gw gh gk gq gr gj gR gT gC) := hD
            obtain rfl := Option.some.inj hf
            exact kc_iret () hx hb hr hk hP hD hS rfl dX4_copy_74
        · replace hf := it_f c27 hf
          refine lv_aload_n hx hb dX4_copy_50 rfl (lv_at hl 2 rfl) ?_
          refine lv_iconst (v := (1 : Int32)) hx hb dX4_copy_51 (by decide) ?_
          obtain ⟨u36, hg, hf⟩ := ob_s hf
          refine kc_calli (wn := fun _ => (wX cx aX aH aI aS aT ak aC aD (aC 0) (aD 0) aG db u36.2 ql qf qz qi sp s1 s2 s3 s4 s5 sP sC sH tl kl kf cv cc cm ch dv dc dm dh gw gh gk gq gr gj gR gT gC)) (va_runV (As := [.int (1 : Int32)]) (rest := []) ⟨hx, hb, hml, hown, hts⟩ (metX4_refuse l D cx aX aH aI aS aT ak aC aD aG db dn ql qf qz qi sp s1 s2 s3 s4 s5 sP sC sH tl kl kf cv cc cm ch dv dc dm dh gw gh gk gq gr gj gR gT gC (1 : Int32) N H.size u36 hg) ⟨callB_of 1 hts (kc_gI wd_507) rfl rfl rfl (hts _ wd_40) (hts _ wd_504) (by decide +kernel) ⟨Nat.le_of_ble_eq_true rfl, Nat.le_of_ble_eq_true rfl⟩, hts _ wd_506, hts _ wd_14⟩ ⟨kc_blind _ _ _ _ _, va_recv hK hP (ci := 4) (q0 := 0) rfl rfl, kc_pre _ hK hN (hP.sub [0, 1, 2, 3, 4, 5, 6, 7, 8, 9, 10, 11, 12, 13, 14, 15, 16, 17, 18, 19, 20, 21, 22, 23, 24, 25, 26, 27, 28, 29, 30, 31, 32] rfl) (hD.sub [0, 1, 2, 3, 4, 5, 6, 7, 8, 9, 10, 11, 12, 13, 14, 15, 16, 17, 18, 19, 20, 21, 22, 23, 24, 25, 26, 27, 28, 29, 30, 31, 32] (by decide) rfl)⟩ rfl rfl hl.1 rfl (lv_room (Nat.le_of_ble_eq_true rfl)) dX4_copy_52 ⟨Nat.zero_le _, Nat.zero_le _⟩) hP hD hS hA [0, 1, 2, 3, 4, 5, 6, 7, 8, 9, 10, 11, 12, 13, 14, 15, 16, 17, 18, 19, 20, 21, 22, 23, 24, 25, 26, 27, 28, 29, 30, 31, 32] [] [0, 1, 2, 3, 4, 5, 6, 7, 8, 9, 10, 11, 12, 13, 14, 15, 16, 17, 18, 19, 20, 21, 22, 23, 24, 25, 26, 27, 28, 29, 30, 31, 32] rfl rfl (by decide) (by decide) (fun _ => rfl) (by decide) (fun _ H locs hP hD hS => ?_)
          have hP : va_P D classes (wX cx aX aH aI aS aT ak aC aD (aC 0) (aD 0) aG db u36.2 ql qf qz qi sp s1 s2 s3 s4 s5 sP sC sH tl kl kf cv cc cm ch dv dc dm dh gw gh gk gq gr gj gR gT gC) H := hP
          have hD : va_D A (wX cx aX aH aI aS aT ak aC aD (aC 0) (aD 0) aG db u36.2 ql qf qz qi sp s1 s2 s3 s4 s5 sP sC sH tl kl kf cv cc cm ch dv dc dm dh gw gh gk gq gr gj gR gT gC) := hD
          obtain rfl := Option.some.inj hf
          exact kc_iret () hx hb hr hk hP hD hS rfl dX4_copy_55
    · replace hf := it_t c22 hf
      refine lv_sipush (v := (-200 : Int32)) hx hb dX4_copy_14 (by decide) ?_
      obtain rfl := Option.some.inj hf
      exact kc_iret () hx hb hr hk hP hD hS rfl dX4_copy_17
abbrev rmX4_take : Room := { frames := 3, cells := 0, slots := 0, locals := 65 }
set_option maxHeartbeats 4000000 in
set_option maxRecDepth 100000 in
theorem metX4_take (l : Launch) (D : va_G) (cx : Nat → ClassId) (aX : Nat → Nat) (aH : Nat → Nat) (aI : Nat → Nat) (aS : Nat → Nat) (aT : Nat → Nat) (ak : Nat) (aC : Nat → Nat) (aD : Nat → Nat) (aG : Nat → Nat) (db : Int32) (dn : Int32) (ql : Nat → Int32) (qf : Nat → Int32) (qz : Nat → Int32) (qi : Nat → Nat → Int32) (sp : Int32) (s1 : Int32) (s2 : Int32) (s3 : Int32) (s4 : Int32) (s5 : Int32) (sP : Nat → Int32) (sC : Nat → Int32) (sH : Nat → Int32) (tl : Nat → Nat → Int32) (kl : Nat) (kf : Nat → Int64) (cv : Int32) (cc : Nat → Int32) (cm : Nat → Int32) (ch : Nat → Int32) (dv : Int32) (dc : Nat → Int32) (dm : Nat → Int32) (dh : Nat → Int32) (gw : Int32) (gh : Int32) (gk : Int32) (gq : Int32) (gr : Int32) (gj : Int32) (gR : Nat → Int32) (gT : Nat → Int32) (gC : Nat → Int32) (x1 : Int32) (x2 : Int32) (N : Nat) (sz : Nat) (v : Int32 × Int32 × Int32 × (Nat → Int32) × (Nat → Int32) × (Nat → Int32) × Int32 × (Nat → Int32) × (Nat → Int32) × (Nat → Int32)) (hf : fX4_take N dn ql qz qi cv cc cm ch dv dc dm dh gw gh gq gr gR x1 x2 = some v) : Met l yX4_take (.code yX4_take cX4_take 5 (some .int) :: kc_TB) rmX4_take (kc_Pre D cx (wX cx aX aH aI aS aT ak aC aD (aC 0) (aD 0) aG db dn ql qf qz qi sp s1 s2 s3 s4 s5 sP sC sH tl kl kf cv cc cm ch dv dc dm dh gw gh gk gq gr gj gR gT gC) [.ref (aX 0), .int x1, .int x2] sz) (kc_Pi D (fun u : (Nat → Nat) × (Nat → Nat) => (wX cx aX aH aI aS aT ak u.1 u.2 (u.1 0) (u.2 0) aG db v.2.1 ql qf qz qi sp s1 s2 s3 s4 s5 sP sC sH tl kl kf v.2.2.1 v.2.2.2.1 v.2.2.2.2.1 v.2.2.2.2.2.1 v.2.2.2.2.2.2.1 v.2.2.2.2.2.2.2.1 v.2.2.2.2.2.2.2.2.1 v.2.2.2.2.2.2.2.2.2 gw gh gk gq gr gj gR gT gC)) v.1 (va_A (wX cx aX aH aI aS aT ak aC aD (aC 0) (aD 0) aG db dn ql qf qz qi sp s1 s2 s3 s4 s5 sP sC sH tl kl kf cv cc cm ch dv dc dm dh gw gh gk gq gr gj gR gT gC) sz)) 0 0 (va_A (wX cx aX aH aI aS aT ak aC aD (aC 0) (aD 0) aG db dn ql qf qz qi sp s1 s2 s3 s4 s5 sP sC sH tl kl kf cv cc cm ch dv dc dm dh gw gh gk gq gr gj gR gT gC) sz) := by
  refine kc_entry (Qc := fun A => (kc_Pi D (fun u : (Nat → Nat) × (Nat → Nat) => (wX cx aX aH aI aS aT ak u.1 u.2 (u.1 0) (u.2 0) aG db v.2.1 ql qf qz qi sp s1 s2 s3 s4 s5 sP sC sH tl kl kf v.2.2.1 v.2.2.2.1 v.2.2.2.2.1 v.2.2.2.2.2.1 v.2.2.2.2.2.2.1 v.2.2.2.2.2.2.2.1 v.2.2.2.2.2.2.2.2.1 v.2.2.2.2.2.2.2.2.2 gw gh gk gq gr gj gR gT gC)) v.1 A)) (by decide) (Nat.le_of_ble_eq_true rfl) ?_
  intro p e s m below meth c A hx hb hr hk hml hown hin hts hN hK hP hD hS hA ls hl
  have hown : s.vm.findClass RX4 = some m.cls := hown
  have hl : lv_has ls 5 [(0, .ref (aX 0)), (1, .int x1), (2, .int x2)] := hl
  unfold fX4_take at hf
  have hP : va_P D classes (wX cx aX aH aI aS aT ak aC aD (aC 0) (aD 0) aG db dn ql qf qz qi sp s1 s2 s3 s4 s5 sP sC sH tl kl kf cv cc cm ch dv dc dm dh gw gh gk gq gr gj gR gT gC) s.heap := hP
  obtain ⟨H, hH⟩ : ∃ H, H = s.heap := ⟨_, rfl⟩
  obtain ⟨locs, hL⟩ : ∃ locs : List Loc, locs = [] := ⟨_, rfl⟩
  have hS : va_S A s.heap H locs := by rw [hH, hL]; exact hS
  have hP : va_P D classes (wX cx aX aH aI aS aT ak aC aD (aC 0) (aD 0) aG db dn ql qf qz qi sp s1 s2 s3 s4 s5 sP sC sH tl kl kf cv cc cm ch dv dc dm dh gw gh gk gq gr gj gR gT gC) H := by rw [hH]; exact hP
  suffices hW : W p l e rmX4_take s m ([.ref (aX 0), .int x1, .int x2] : List Value).toArray below meth c H locs 0 0 (MQ below (kc_Pi D (fun u : (Nat → Nat) × (Nat → Nat) => (wX cx aX aH aI aS aT ak u.1 u.2 (u.1 0) (u.2 0) aG db v.2.1 ql qf qz qi sp s1 s2 s3 s4 s5 sP sC sH tl kl kf v.2.2.1 v.2.2.2.1 v.2.2.2.2.1 v.2.2.2.2.2.1 v.2.2.2.2.2.2.1 v.2.2.2.2.2.2.2.1 v.2.2.2.2.2.2.2.2.1 v.2.2.2.2.2.2.2.2.2 gw gh gk gq gr gj gR gT gC)) v.1 A) ([.ref (aX 0), .int x1, .int x2] : List Value).toArray s 0 0 A) (F0 m 0 ls []) by rw [hH, hL] at hW; exact hW
  clear hH hL
  refine lv_iload_n hx hb dX4_take_0 rfl (lv_at hl 1 rfl) ?_
  obtain ⟨u18, hg, hf⟩ := ob_s hf
  refine kc_calli (wn := fun _ => (wX cx aX aH aI aS aT ak aC aD (aC 0) (aD 0) aG db dn ql qf qz qi sp s1 s2 s3 s4 s5 sP sC sH tl kl kf cv cc cm ch dv dc dm dh gw gh gk gq gr gj gR gT gC)) (va_runS (As := [.int x1]) (rest := []) ⟨hx, hb, hml, hown, hts⟩ (metX4_isSheet l D cx   x1 N H.size u18 hg) ⟨callB_of 1 hts (kc_gI wd_500) rfl rfl rfl (hts _ wd_40) (hts _ wd_498) (by decide +kernel) ⟨Nat.le_of_ble_eq_true rfl, Nat.le_of_ble_eq_true rfl⟩, hts _ wd_499⟩ ⟨kc_blind _ _ _ _ _, kc_pre _ hK hN (hP.sub [] rfl) (hD.sub [] (by decide) rfl)⟩ rfl rfl hl.1 rfl (lv_room (Nat.le_of_ble_eq_true rfl)) dX4_take_1 ⟨Nat.zero_le _, Nat.zero_le _⟩) hP hD hS hA [] [0, 1, 2, 3, 4, 5, 6, 7, 8, 9, 10, 11, 12, 13, 14, 15, 16, 17, 18, 19, 20, 21, 22, 23, 24, 25, 26, 27, 28, 29, 30, 31, 32] [0, 1, 2, 3, 4, 5, 6, 7, 8, 9, 10, 11, 12, 13, 14, 15, 16, 17, 18, 19, 20, 21, 22, 23, 24, 25, 26, 27, 28, 29, 30, 31, 32] rfl rfl (by decide) (by decide) (fun _ => rfl) (by decide) (fun _ H locs hP hD hS => ?_)
  have hP : va_P D classes (wX cx aX aH aI aS aT ak aC aD (aC 0) (aD 0) aG db dn ql qf qz qi sp s1 s2 s3 s4 s5 sP sC sH tl kl kf cv cc cm ch dv dc dm dh gw gh gk gq gr gj gR gT gC) H := hP
  have hD : va_D A (wX cx aX aH aI aS aT ak aC aD (aC 0) (aD 0) aG db dn ql qf qz qi sp s1 s2 s3 s4 s5 sP sC sH tl kl kf cv cc cm ch dv dc dm dh gw gh gk gq gr gj gR gT gC) := hD
  refine lv_if_eq (tgt := 17) hx hb dX4_take_4 (by decide) (fun c19 => ?_) (fun c19 => ?_)
  · replace hf := it_t c19 hf
    refine lv_sipush (v := (-200 : Int32)) hx hb dX4_take_17 (by decide) ?_
    obtain rfl := Option.some.inj hf
    exact kc_iret (aC, aD) hx hb hr hk hP hD hS rfl dX4_take_20
  · replace hf := it_f c19 hf
    refine lv_iload_n hx hb dX4_take_7 rfl (lv_at hl 2 rfl) ?_
    refine lv_iconst (v := (0 : Int32)) hx hb dX4_take_8 (by decide) ?_
    refine lv_bipush (v := (16 : Int32)) hx hb dX4_take_9 (by decide) ?_
    obtain ⟨u20, hg, hf⟩ := ob_s hf
    refine kc_calli (wn := fun _ => (wX cx aX aH aI aS aT ak aC aD (aC 0) (aD 0) aG db dn ql qf qz qi sp s1 s2 s3 s4 s5 sP sC sH tl kl kf cv cc cm ch dv dc dm dh gw gh gk gq gr gj gR gT gC)) (va_runS (As := [.int x2, .int (0 : Int32), .int (16 : Int32)]) (rest := []) ⟨hx, hb, hml, hown, hts⟩ (metX4_isWithin l D cx   x2 (0 : Int32) (16 : Int32) N H.size u20 hg) ⟨callB_of 3 hts (kc_gI wd_254) rfl rfl rfl (hts _ wd_40) (hts _ wd_252) (by decide +kernel) ⟨Nat.le_of_ble_eq_true rfl, Nat.le_of_ble_eq_true rfl⟩, hts _ wd_253⟩ ⟨kc_blind _ _ _ _ _, kc_pre _ hK hN (hP.sub [] rfl) (hD.sub [] (by decide) rfl)⟩ rfl rfl hl.1 rfl (lv_room (Nat.le_of_ble_eq_true rfl)) dX4_take_11 ⟨Nat.zero_le _, Nat.zero_le _⟩) hP hD hS hA [] [0, 1, 2, 3, 4, 5, 6, 7, 8, 9, 10, 11, 12, 13, 14, 15, 16, 17, 18, 19, 20, 21, 22, 23, 24, 25, 26, 27, 28, 29, 30, 31, 32] [0, 1, 2, 3, 4, 5, 6, 7, 8, 9, 10, 11, 12, 13, 14, 15, 16, 17, 18, 19, 20, 21, 22, 23, 24, 25, 26, 27, 28, 29, 30, 31, 32] rfl rfl (by decide) (by decide) (fun _ => rfl) (by decide) (fun _ H locs hP hD hS => ?_)
    have hP : va_P D classes (wX cx aX aH aI aS aT ak aC aD (aC 0) (aD 0) aG db dn ql qf qz qi sp s1 s2 s3 s4 s5 sP sC sH tl kl kf cv cc cm ch dv dc dm dh gw gh gk gq gr gj gR gT gC) H := hP
    have hD : va_D A (wX cx aX aH aI aS aT ak aC aD (aC 0) (aD 0) aG db dn ql qf qz qi sp s1 s2 s3 s4 s5 sP sC sH tl kl kf cv cc cm ch dv dc dm dh gw gh gk gq gr gj gR gT gC) := hD
    refine lv_if_ne (tgt := 21) hx hb dX4_take_14 (by decide) (fun c21 => ?_) (fun c21 => ?_)
    · replace hf := it_f c21 hf
      refine lv_aload_n hx hb dX4_take_21 rfl (lv_at hl 0 rfl) ?_
      refine va_get (D := D) (ci := 4) (v := .ref (aX 1)) (C := RX4) (T := TX4) (N := 7) hx hb hts iX4 hown hK hP 0 rfl rfl 2 (by decide) (hts _ wd_228) (fun _ h9 => h9) rfl dX4_take_22 ?_
      refine lv_iload_n hx hb dX4_take_25 rfl (lv_at hl 1 rfl) ?_
      obtain ⟨hz, hf⟩ := okb_s hf
      have hj22 : x1.toNatClampNeg < 4 := inb_lt hz
      refine va_aldq (D := D) hx hb hK hP 1 3 rfl rfl (inb_s hz) dX4_take_26 ?_
      rw [if_pos hj22]
      show W _ _ _ _ _ _ _ _ _ _ _ _ _ _ _ (F0 m 27 ls (.ref (aH (x1.toNatClampNeg)) :: _))
      refine lv_astore_n (lv' := [(3, .ref (aH (x1.toNatClampNeg))), (0, .ref (aX 0)), (1, .int x1), (2, .int x2)]) hx hb dX4_take_27 rfl hl (by decide) rfl (fun ls hl => ?_)
      refine lv_aload_n hx hb dX4_take_28 rfl (lv_at hl 0 rfl) ?_
      refine va_get (D := D) (ci := 2) (v := .int (ql (x1.toNatClampNeg))) (C := RX2) (T := TX2) (N := 4) hx hb hts iX2 hown hK hP (2 + 2 * (x1.toNatClampNeg)) (wX_get_sheet hj22) rfl 0 (by decide) (hts _ wd_210) (fun _ h9 => h9) rfl dX4_take_29 ?_
      refine lv_if_eq (tgt := 41) hx hb dX4_take_32 (by decide) (fun c23 => ?_) (fun c23 => ?_)
      · replace hf := it_t c23 hf
        refine lv_aload_n hx hb dX4_take_41 rfl (lv_at hl 0 rfl) ?_
        refine lv_iconst (v := (0 : Int32)) hx hb dX4_take_42 (by decide) ?_
        refine lv_iload_n hx hb dX4_take_43 rfl (lv_at hl 3 rfl) ?_
        obtain ⟨u24, hg, hf⟩ := ob_s hf
        refine kc_calli2 (f1 := fun _ => .inr (2, [.int (ql (x1.toNatClampNeg)), .int (qf (x1.toNatClampNeg)), .int (qz (x1.toNatClampNeg)), .ref (aI (x1.toNatClampNeg))])) (f2 := fun _ => .inl (cx 0, 20, .inl (qi (x1.toNatClampNeg)))) (va_runV (As := [.int (0 : Int32), .int x2]) (rest := []) ⟨hx, hb, hml, hown, hts⟩ (metX2_hasPart l D cx (sh2 (aH (x1.toNatClampNeg)) (aI (x1.toNatClampNeg))) (ql (x1.toNatClampNeg)) (qf (x1.toNatClampNeg)) (qz (x1.toNatClampNeg)) (qi (x1.toNatClampNeg)) (0 : Int32) x2 N H.size u24 hg) ⟨callB_of 2 hts (kc_gI wd_542) rfl rfl rfl (hts _ wd_45) (hts _ wd_539) (by decide +kernel) ⟨Nat.le_of_ble_eq_true rfl, Nat.le_of_ble_eq_true rfl⟩, hts _ wd_540, hts _ wd_541⟩ ⟨kc_blind _ _ _ _ _, va_recv hK hP (ci := 2) (q0 := 2 + 2 * (x1.toNatClampNeg)) rfl (wX_get_sheet hj22), kc_pre _ hK hN (kc_P2 hP (wX_get_sheet hj22) (wX_get_item hj22)) (kc_D2 hD (wX_get_sheet hj22) (wX_get_item hj22) (by omega))⟩ rfl rfl hl.1 rfl (lv_room (Nat.le_of_ble_eq_true rfl)) dX4_take_44 ⟨Nat.zero_le _, Nat.zero_le _⟩) hP hD hS hA (wX_get_sheet hj22) (wX_get_item hj22) (by omega) rfl (fun _ => rfl) (fun _ H locs hP hD hS => ?_)
        rw [wX_two_same hj22] at hP hD
        have hP : va_P D classes (wX cx aX aH aI aS aT ak aC aD (aC 0) (aD 0) aG db dn ql qf qz qi sp s1 s2 s3 s4 s5 sP sC sH tl kl kf cv cc cm ch dv dc dm dh gw gh gk gq gr gj gR gT gC) H := hP
        have hD : va_D A (wX cx aX aH aI aS aT ak aC aD (aC 0) (aD 0) aG db dn ql qf qz qi sp s1 s2 s3 s4 s5 sP sC sH tl kl kf cv cc cm ch dv dc dm dh gw gh gk gq gr gj gR gT gC) := hD
        refine lv_if_ne (tgt := 56) hx hb dX4_take_47 (by decide) (fun c25 => ?_) (fun c25 => ?_)
        · replace hf := it_f c25 hf
          refine lv_aload_n hx hb dX4_take_56 rfl (lv_at hl 1 rfl) ?_
          refine va_get (D := D) (ci := 4) (v := .ref (aD 0)) (C := RX4) (T := TX4) (N := 7) hx hb hts iX4 hown hK hP 0 rfl rfl 4 (by decide) (hts _ wd_230) (fun _ h9 => h9) rfl dX4_take_57 ?_
          obtain ⟨u26, hg, hf⟩ := ob_s hf
          refine kc_callv (wn := fun _ => (wX cx aX aH aI aS aT ak aC aD (aC 0) (aD 0) aG db dn ql qf qz qi sp s1 s2 s3 s4 s5 sP sC sH tl kl kf cv cc cm ch u26.1 dc u26.2.1 u26.2.2 gw gh gk gq gr gj gR gT gC)) (va_runV (As := []) (rest := []) ⟨hx, hb, hml, hown, hts⟩ (metX0_clear l D cx aD aG dv dc dm dh gw gh gk gq gr gj gR gT gC  N H.size u26 hg) ⟨callB_of 0 hts (kc_gI wd_262) rfl rfl rfl (hts _ wd_44) (hts _ wd_259) (by decide +kernel) ⟨Nat.le_of_ble_eq_true rfl, Nat.le_of_ble_eq_true rfl⟩, hts _ wd_260, hts _ wd_261⟩ ⟨kc_blind _ _ _ _ _, va_recv hK hP (ci := 0) (q0 := 25) rfl rfl, kc_pre _ hK hN (hP.sub [25, 26, 27, 28, 29, 30, 31, 32] rfl) (hD.sub [25, 26, 27, 28, 29, 30, 31, 32] (by decide) rfl)⟩ rfl rfl hl.1 rfl (lv_room (Nat.le_of_ble_eq_true rfl)) dX4_take_60 ⟨Nat.zero_le _, Nat.zero_le _⟩) hP hD hS hA [25, 26, 27, 28, 29, 30, 31, 32] [0, 1, 2, 3, 4, 5, 6, 7, 8, 9, 10, 11, 12, 13, 14, 15, 16, 17, 18, 19, 20, 21, 22, 23, 24] [0, 1, 2, 3, 4, 5, 6, 7, 8, 9, 10, 11, 12, 13, 14, 15, 16, 17, 18, 19, 20, 21, 22, 23, 24, 25, 26, 27, 28, 29, 30, 31, 32] rfl rfl (by decide) (by decide) (fun _ => rfl) (by decide) (fun _ H locs hP hD hS => ?_)
          have hP : va_P D classes (wX cx aX aH aI aS aT ak aC aD (aC 0) (aD 0) aG db dn ql qf qz qi sp s1 s2 s3 s4 s5 sP sC sH tl kl kf cv cc cm ch u26.1 dc u26.2.1 u26.2.2 gw gh gk gq gr gj gR gT gC) H := hP
          have hD : va_D A (wX cx aX aH aI aS aT ak aC aD (aC 0) (aD 0) aG db dn ql qf qz qi sp s1 s2 s3 s4 s5 sP sC sH tl kl kf cv cc cm ch u26.1 dc u26.2.1 u26.2.2 gw gh gk gq gr gj gR gT gC) := hD
          refine lv_iconst (v := (0 : Int32)) hx hb dX4_take_63 (by decide) ?_
          refine lv_istore (lv' := [(4, .int (0 : Int32)), (3, .ref (aH (x1.toNatClampNeg))), (0, .ref (aX 0)), (1, .int x1), (2, .int x2)]) hx hb dX4_take_64 hl (by decide) rfl (fun ls hl => ?_)
          have L66 : ∀ (ct : Nat) (dv : Int32) (dc : Nat → Int32) (dm : Nat → Int32) (dh : Nat → Int32) (x4 : Int32) (v66 : (Int32 × Int32 × Int32 × (Nat → Int32) × (Nat → Int32) × (Nat → Int32) × Int32 × (Nat → Int32) × (Nat → Int32) × (Nat → Int32)) ⊕ (Int32 × (Nat → Int32) × (Nat → Int32) × (Nat → Int32))), fX4_take_L66 N dn qi cv cc cm ch gw gh gq gr gR x2 x1 ct dv dc dm dh x4 = some v66 → ∀ (H : Heap) (locs : List Loc) (ls : Array Slot), va_P D classes (wX cx aX aH aI aS aT ak aC aD (aC 0) (aD 0) aG db dn ql qf qz qi sp s1 s2 s3 s4 s5 sP sC sH tl kl kf cv cc cm ch dv dc dm dh gw gh gk gq gr gj gR gT gC) H → va_D A (wX cx aX aH aI aS aT ak aC aD (aC 0) (aD 0) aG db dn ql qf qz qi sp s1 s2 s3 s4 s5 sP sC sH tl kl kf cv cc cm ch dv dc dm dh gw gh gk gq gr gj gR gT gC) → va_S A s.heap H locs → lv_has ls 5 [(0, .ref (aX 0)), (2, .int x2), (3, .ref (aH (x1.toNatClampNeg))), (4, .int x4)] → (∀ (e66 : Int32 × (Nat → Int32) × (Nat → Int32) × (Nat → Int32)), v66 = .inr e66 → ∀ (H : Heap) (locs : List Loc) (ls : Array Slot), va_P D classes (wX cx aX aH aI aS aT ak aC aD (aC 0) (aD 0) aG db dn ql qf qz qi sp s1 s2 s3 s4 s5 sP sC sH tl kl kf cv cc cm ch e66.1 e66.2.1 e66.2.2.1 e66.2.2.2 gw gh gk gq gr gj gR gT gC) H → va_D A (wX cx aX aH aI aS aT ak aC aD (aC 0) (aD 0) aG db dn ql qf qz qi sp s1 s2 s3 s4 s5 sP sC sH tl kl kf cv cc cm ch e66.1 e66.2.1 e66.2.2.1 e66.2.2.2 gw gh gk gq gr gj gR gT gC) → va_S A s.heap H locs → lv_has ls 5 [(0, .ref (aX 0))] → W p l e rmX4_take s m ([.ref (aX 0), .int x1, .int x2] : List Value).toArray below meth c H locs 0 0 (MQ below (kc_Pi D (fun u : (Nat → Nat) × (Nat → Nat) => (wX cx aX aH aI aS aT ak u.1 u.2 (u.1 0) (u.2 0) aG db v.2.1 ql qf qz qi sp s1 s2 s3 s4 s5 sP sC sH tl kl kf v.2.2.1 v.2.2.2.1 v.2.2.2.2.1 v.2.2.2.2.2.1 v.2.2.2.2.2.2.1 v.2.2.2.2.2.2.2.1 v.2.2.2.2.2.2.2.2.1 v.2.2.2.2.2.2.2.2.2 gw gh gk gq gr gj gR gT gC)) v.1 A) ([.ref (aX 0), .int x1, .int x2] : List Value).toArray s 0 0 A) (F0 m 112 ls [])) → (∀ (r66 : Int32 × Int32 × Int32 × (Nat → Int32) × (Nat → Int32) × (Nat → Int32) × Int32 × (Nat → Int32) × (Nat → Int32) × (Nat → Int32)), v66 = .inl r66 → ∀ (pc : Nat) (H : Heap) (locs : List Loc) (ls : Array Slot), va_P D classes (wX cx aX aH aI aS aT ak aC aD (aC 0) (aD 0) aG db r66.2.1 ql qf qz qi sp s1 s2 s3 s4 s5 sP sC sH tl kl kf r66.2.2.1 r66.2.2.2.1 r66.2.2.2.2.1 r66.2.2.2.2.2.1 r66.2.2.2.2.2.2.1 r66.2.2.2.2.2.2.2.1 r66.2.2.2.2.2.2.2.2.1 r66.2.2.2.2.2.2.2.2.2 gw gh gk gq gr gj gR gT gC) H → va_D A (wX cx aX aH aI aS aT ak aC aD (aC 0) (aD 0) aG db r66.2.1 ql qf qz qi sp s1 s2 s3 s4 s5 sP sC sH tl kl kf r66.2.2.1 r66.2.2.2.1 r66.2.2.2.2.1 r66.2.2.2.2.2.1 r66.2.2.2.2.2.2.1 r66.2.2.2.2.2.2.2.1 r66.2.2.2.2.2.2.2.2.1 r66.2.2.2.2.2.2.2.2.2 gw gh gk gq gr gj gR gT gC) → va_S A s.heap H locs → decode cX4_take pc = .ok (.ireturn, 1) → W p l e rmX4_take s m ([.ref (aX 0), .int x1, .int x2] : List Value).toArray below meth c H locs 0 0 (MQ below (kc_Pi D (fun u : (Nat → Nat) × (Nat → Nat) => (wX cx aX aH aI aS aT ak u.1 u.2 (u.1 0) (u.2 0) aG db v.2.1 ql qf qz qi sp s1 s2 s3 s4 s5 sP sC sH tl kl kf v.2.2.1 v.2.2.2.1 v.2.2.2.2.1 v.2.2.2.2.2.1 v.2.2.2.2.2.2.1 v.2.2.2.2.2.2.2.1 v.2.2.2.2.2.2.2.2.1 v.2.2.2.2.2.2.2.2.2 gw gh gk gq gr gj gR gT gC)) v.1 A) ([.ref (aX 0), .int x1, .int x2] : List Value).toArray s 0 0 A) (F0 m pc ls [.int r66.1])) → W p l e rmX4_take s m ([.ref (aX 0), .int x1, .int x2] : List Value).toArray below meth c H locs 0 0 (MQ below (kc_Pi D (fun u : (Nat → Nat) × (Nat → Nat) => (wX cx aX aH aI aS aT ak u.1 u.2 (u.1 0) (u.2 0) aG db v.2.1 ql qf qz qi sp s1 s2 s3 s4 s5 sP sC sH tl kl kf v.2.2.1 v.2.2.2.1 v.2.2.2.2.1 v.2.2.2.2.2.1 v.2.2.2.2.2.2.1 v.2.2.2.2.2.2.2.1 v.2.2.2.2.2.2.2.2.1 v.2.2.2.2.2.2.2.2.2 gw gh gk gq gr gj gR gT gC)) v.1 A) ([.ref (aX 0), .int x1, .int x2] : List Value).toArray s 0 0 A) (F0 m 66 ls []) := by
            intro ct
            induction ct with
            | zero =>
              intro dv dc dm dh x4 v66 hf
              exact absurd (show (none : Option ((Int32 × Int32 × Int32 × (Nat → Int32) × (Nat → Int32) × (Nat → Int32) × Int32 × (Nat → Int32) × (Nat → Int32) × (Nat → Int32)) ⊕ (Int32 × (Nat → Int32) × (Nat → Int32) × (Nat → Int32)))) = some v66 from hf) (fun q => by cases q)
            | succ ct ih =>
              intro dv dc dm dh x4 v66 hf H locs ls hP hD hS hl hE hR
              rw [fX4_take_L66] at hf
              refine lv_iload hx hb dX4_take_66 (lv_at hl 3 rfl) ?_
              refine lv_iload_n hx hb dX4_take_68 rfl (lv_at hl 1 rfl) ?_
              refine lv_icmp_ge (tgt := 112) hx hb dX4_take_69 (by decide) (fun c32 => ?_) (fun c32 => ?_)
              · replace hf := it_t c32 hf
                obtain rfl := Option.some.inj hf
                exact hE _ rfl H locs ls hP hD hS (lv_sub hl [0] rfl)
              · replace hf := it_f c32 hf
                refine lv_aload_n hx hb dX4_take_72 rfl (lv_at hl 0 rfl) ?_
                refine va_get (D := D) (ci := 4) (v := .ref (aD 0)) (C := RX4) (T := TX4) (N := 7) hx hb hts iX4 hown hK hP 0 rfl rfl 4 (by decide) (hts _ wd_230) (fun _ h9 => h9) rfl dX4_take_73 ?_
                obtain ⟨u33, hg, hf⟩ := ob_s hf
                refine kc_calli (wn := fun _ => (wX cx aX aH aI aS aT ak aC aD (aC 0) (aD 0) aG db dn ql qf qz qi sp s1 s2 s3 s4 s5 sP sC sH tl kl kf cv cc cm ch dv dc dm dh gw gh gk gq gr gj gR gT gC)) (va_runV (As := []) (rest := []) ⟨hx, hb, hml, hown, hts⟩ (metX0_isOver l D cx aD aG dv dc dm dh gw gh gk gq gr gj gR gT gC  N H.size u33 hg) ⟨callB_of 0 hts (kc_gI wd_276) rfl rfl rfl (hts _ wd_44) (hts _ wd_273) (by decide +kernel) ⟨Nat.le_of_ble_eq_true rfl, Nat.le_of_ble_eq_true rfl⟩, hts _ wd_274, hts _ wd_275⟩ ⟨kc_blind _ _ _ _ _, va_recv hK hP (ci := 0) (q0 := 25) rfl rfl, kc_pre _ hK hN (hP.sub [25, 26, 27, 28, 29, 30, 31, 32] rfl) (hD.sub [25, 26, 27, 28, 29, 30, 31, 32] (by decide) rfl)⟩ rfl rfl hl.1 rfl (lv_room (Nat.le_of_ble_eq_true rfl)) dX4_take_76 ⟨Nat.zero_le _, Nat.zero_le _⟩) hP hD hS hA [25, 26, 27, 28, 29, 30, 31, 32] [0, 1, 2, 3, 4, 5, 6, 7, 8, 9, 10, 11, 12, 13, 14, 15, 16, 17, 18, 19, 20, 21, 22, 23, 24] [0, 1, 2, 3, 4, 5, 6, 7, 8, 9, 10, 11, 12, 13, 14, 15, 16, 17, 18, 19, 20, 21, 22, 23, 24, 25, 26, 27, 28, 29, 30, 31, 32] rfl rfl (by decide) (by decide) (fun _ => rfl) (by decide) (fun _ H locs hP hD hS => ?_)
                have hP : va_P D classes (wX cx aX aH aI aS aT ak aC aD (aC 0) (aD 0) aG db dn ql qf qz qi sp s1 s2 s3 s4 s5 sP sC sH tl kl kf cv cc cm ch dv dc dm dh gw gh gk gq gr gj gR gT gC) H := hP
                have hD : va_D A (wX cx aX aH aI aS aT ak aC aD (aC 0) (aD 0) aG db dn ql qf qz qi sp s1 s2 s3 s4 s5 sP sC sH tl kl kf cv cc cm ch dv dc dm dh gw gh gk gq gr gj gR gT gC) := hD
                refine lv_if_ne (tgt := 100) hx hb dX4_take_79 (by decide) (fun c34 => ?_) (fun c34 => ?_)
                · replace hf := it_f c34 hf
                  refine lv_bipush (v := (-100 : Int32)) hx hb dX4_take_100 (by decide) ?_
                  refine lv_iload hx hb dX4_take_102 (lv_at hl 3 rfl) ?_
                  refine lv_isub hx hb dX4_take_104 ?_
                  obtain rfl := Option.some.inj hf
                  exact hR _ rfl _ H locs ls hP hD hS dX4_take_105
                · replace hf := it_t c34 hf
                  refine lv_aload_n hx hb dX4_take_82 rfl (lv_at hl 0 rfl) ?_
                  refine va_get (D := D) (ci := 4) (v := .ref (aD 0)) (C := RX4) (T := TX4) (N := 7) hx hb hts iX4 hown hK hP 0 rfl rfl 4 (by decide) (hts _ wd_230) (fun _ h9 => h9) rfl dX4_take_83 ?_
                  refine lv_aload_n hx hb dX4_take_86 rfl (lv_at hl 2 rfl) ?_
                  refine va_get (D := D) (ci := 2) (v := .ref (aI (x1.toNatClampNeg))) (C := RX2) (T := TX2) (N := 4) hx hb hts iX2 hown hK hP (2 + 2 * (x1.toNatClampNeg)) (wX_get_sheet hj22) rfl 3 (by decide) (hts _ wd_216) (fun _ h9 => h9) rfl dX4_take_87 ?_
                  refine lv_iload hx hb dX4_take_90 (lv_at hl 3 rfl) ?_
                  obtain ⟨hz, hf⟩ := okb_s hf
                  refine va_iald (D := D) hx hb hK hP (3 + 2 * (x1.toNatClampNeg)) 0 (wX_get_item hj22) rfl (inb_s hz) dX4_take_92 ?_
                  obtain ⟨u35, hg, hf⟩ := ob_s hf
                  refine kc_calli (wn := fun _ => (wX cx aX aH aI aS aT ak aC aD (aC 0) (aD 0) aG db dn ql qf qz qi sp s1 s2 s3 s4 s5 sP sC sH tl kl kf cv cc cm ch u35.2.1 u35.2.2.1 u35.2.2.2.1 u35.2.2.2.2 gw gh gk gq gr gj gR gT gC)) (va_runV (As := [.int (qi (x1.toNatClampNeg) x4.toNatClampNeg)]) (rest := []) ⟨hx, hb, hml, hown, hts⟩ (metX0_make l D cx aD aG dv dc dm dh gw gh gk gq gr gj gR gT gC (qi (x1.toNatClampNeg) x4.toNatClampNeg) N H.size u35 hg) ⟨callB_of 1 hts (kc_gI wd_292) rfl rfl rfl (hts _ wd_44) (hts _ wd_289) (by decide +kernel) ⟨Nat.le_of_ble_eq_true rfl, Nat.le_of_ble_eq_true rfl⟩, hts _ wd_290, hts _ wd_291⟩ ⟨kc_blind _ _ _ _ _, va_recv hK hP (ci := 0) (q0 := 25) rfl rfl, kc_pre _ hK hN (hP.sub [25, 26, 27, 28, 29, 30, 31, 32] rfl) (hD.sub [25, 26, 27, 28, 29, 30, 31, 32] (by decide) rfl)⟩ rfl rfl hl.1 rfl (lv_room (Nat.le_of_ble_eq_true rfl)) dX4_take_93 ⟨Nat.zero_le _, Nat.zero_le _⟩) hP hD hS hA [25, 26, 27, 28, 29, 30, 31, 32] [0, 1, 2, 3, 4, 5, 6, 7, 8, 9, 10, 11, 12, 13, 14, 15, 16, 17, 18, 19, 20, 21, 22, 23, 24] [0, 1, 2, 3, 4, 5, 6, 7, 8, 9, 10, 11, 12, 13, 14, 15, 16, 17, 18, 19, 20, 21, 22, 23, 24, 25, 26, 27, 28, 29, 30, 31, 32] rfl rfl (by decide) (by decide) (fun _ => rfl) (by decide) (fun _ H locs hP hD hS => ?_)
                  have hP : va_P D classes (wX cx aX aH aI aS aT ak aC aD (aC 0) (aD 0) aG db dn ql qf qz qi sp s1 s2 s3 s4 s5 sP sC sH tl kl kf cv cc cm ch u35.2.1 u35.2.2.1 u35.2.2.2.1 u35.2.2.2.2 gw gh gk gq gr gj gR gT gC) H := hP
                  have hD : va_D A (wX cx aX aH aI aS aT ak aC aD (aC 0) (aD 0) aG db dn ql qf qz qi sp s1 s2 s3 s4 s5 sP sC sH tl kl kf cv cc cm ch u35.2.1 u35.2.2.1 u35.2.2.2.1 u35.2.2.2.2 gw gh gk gq gr gj gR gT gC) := hD
                  refine lv_iconst (v := (-1 : Int32)) hx hb dX4_take_96 (by decide) ?_
                  refine lv_icmp_ne (tgt := 106) hx hb dX4_take_97 (by decide) (fun c36 => ?_) (fun c36 => ?_)
                  · replace hf := it_f c36 hf
                    refine lv_iinc (v := (x4 + (1 : Int32))) (lv' := [(4, .int (x4 + (1 : Int32))), (0, .ref (aX 0)), (2, .int x2), (3, .ref (aH (x1.toNatClampNeg)))]) hx hb dX4_take_106 hl (k := 3) rfl rfl (by decide) rfl (fun ls hl => ?_)
                    refine lv_goto (tgt := 66) hx hb dX4_take_109 (by decide) ?_
                    exact ih u35.2.1 u35.2.2.1 u35.2.2.2.1 u35.2.2.2.2 (x4 + (1 : Int32)) _ hf H locs ls hP hD hS (lv_sub hl [1, 2, 3, 0] rfl) hE hR
                  · replace hf := it_t c36 hf
                    refine lv_bipush (v := (-100 : Int32)) hx hb dX4_take_100 (by decide) ?_
                    refine lv_iload hx hb dX4_take_102 (lv_at hl 3 rfl) ?_
                    refine lv_isub hx hb dX4_take_104 ?_
                    obtain rfl := Option.some.inj hf
                    exact hR _ rfl _ H locs ls hP hD hS dX4_take_105
          obtain ⟨u37, hg, hf⟩ := ob_s hf
          refine L66 _ u26.1 dc u26.2.1 u26.2.2 (0 : Int32) u37 hg H locs ls hP hD hS (lv_sub hl [2, 4, 1, 0] rfl) (fun e38 ee H locs ls hP hD hS hl => ?_) (fun r39 ee pc H locs ls hP hD hS hd => ?_)
          · subst ee
            replace hf := onS_r hf
            refine lv_aload_n hx hb dX4_take_112 rfl (lv_at hl 0 rfl) ?_
            refine va_get (D := D) (ci := 4) (v := .ref (aD 0)) (C := RX4) (T := TX4) (N := 7) hx hb hts iX4 hown hK hP 0 rfl rfl 4 (by decide) (hts _ wd_230) (fun _ h9 => h9) rfl dX4_take_113 ?_
            refine lv_astore (lv' := [(4, .ref (aD 0)), (0, .ref (aX 0))]) hx hb dX4_take_116 hl (by decide) rfl (fun ls hl => ?_)
            refine lv_aload_n hx hb dX4_take_118 rfl (lv_at hl 1 rfl) ?_
            refine lv_aload_n hx hb dX4_take_119 rfl (lv_at hl 1 rfl) ?_
            refine va_get (D := D) (ci := 4) (v := .ref (aC 0)) (C := RX4) (T := TX4) (N := 7) hx hb hts iX4 hown hK hP 0 rfl rfl 3 (by decide) (hts _ wd_229) (fun _ h9 => h9) rfl dX4_take_120 ?_
            refine va_put (D := D) (ci := 4) (v := .ref (aC 0)) (ty := .object RX0) (C := RX4) (T := TX4) (N := 7) hx hb hts iX4 tyX4 tyX4_ok nmX4 hown hK hP hD hS 0 rfl rfl 4 (by decide) (hts _ wd_230) (fun _ h9 => h9) rfl (by decide +kernel) rfl rfl (Nat.le_of_ble_eq_true rfl) dX4_take_123 (fun H locs hP hD hS => ?_)
            have hP : va_P D classes (wX cx aX aH aI aS aT ak aC aD (aC 0) (aC 0) aG db dn ql qf qz qi sp s1 s2 s3 s4 s5 sP sC sH tl kl kf cv cc cm ch e38.1 e38.2.1 e38.2.2.1 e38.2.2.2 gw gh gk gq gr gj gR gT gC) H := hP
            have hD : va_D A (wX cx aX aH aI aS aT ak aC aD (aC 0) (aC 0) aG db dn ql qf qz qi sp s1 s2 s3 s4 s5 sP sC sH tl kl kf cv cc cm ch e38.1 e38.2.1 e38.2.2.1 e38.2.2.2 gw gh gk gq gr gj gR gT gC) := hD
            refine lv_aload_n hx hb dX4_take_126 rfl (lv_at hl 1 rfl) ?_
            refine lv_aload hx hb dX4_take_127 (lv_at hl 0 rfl) ?_
            refine va_put (D := D) (ci := 4) (v := .ref (aD 0)) (ty := .object RX0) (C := RX4) (T := TX4) (N := 7) hx hb hts iX4 tyX4 tyX4_ok nmX4 hown hK hP hD hS 0 rfl rfl 3 (by decide) (hts _ wd_229) (fun _ h9 => h9) rfl (by decide +kernel) rfl rfl (Nat.le_of_ble_eq_true rfl) dX4_take_129 (fun H locs hP hD hS => ?_)
            have hP : va_P D classes (wX cx aX aH aI aS aT ak aC aD (aD 0) (aC 0) aG db dn ql qf qz qi sp s1 s2 s3 s4 s5 sP sC sH tl kl kf cv cc cm ch e38.1 e38.2.1 e38.2.2.1 e38.2.2.2 gw gh gk gq gr gj gR gT gC) H := hP
            have hD : va_D A (wX cx aX aH aI aS aT ak aC aD (aD 0) (aC 0) aG db dn ql qf qz qi sp s1 s2 s3 s4 s5 sP sC sH tl kl kf cv cc cm ch e38.1 e38.2.1 e38.2.2.1 e38.2.2.2 gw gh gk gq gr gj gR gT gC) := hD
            have hP : va_P D classes (wX cx aX aH aI aS aT ak aD aC (aD 0) (aC 0) aG db dn ql qf qz qi sp s1 s2 s3 s4 s5 sP sC sH tl kl kf e38.1 e38.2.1 e38.2.2.1 e38.2.2.2 cv cc cm ch gw gh gk gq gr gj gR gT gC) H := hP.sub [0, 1, 2, 3, 4, 5, 6, 7, 8, 9, 10, 11, 12, 13, 14, 15, 16, 17, 18, 19, 20, 25, 26, 27, 28, 21, 22, 23, 24, 29, 30, 31, 32] rfl
            have hD : va_D A (wX cx aX aH aI aS aT ak aD aC (aD 0) (aC 0) aG db dn ql qf qz qi sp s1 s2 s3 s4 s5 sP sC sH tl kl kf e38.1 e38.2.1 e38.2.2.1 e38.2.2.2 cv cc cm ch gw gh gk gq gr gj gR gT gC) := hD.sub [0, 1, 2, 3, 4, 5, 6, 7, 8, 9, 10, 11, 12, 13, 14, 15, 16, 17, 18, 19, 20, 25, 26, 27, 28, 21, 22, 23, 24, 29, 30, 31, 32] (by decide) rfl
            refine lv_aload_n hx hb dX4_take_132 rfl (lv_at hl 1 rfl) ?_
            refine va_get (D := D) (ci := 4) (v := .ref (aD 0)) (C := RX4) (T := TX4) (N := 7) hx hb hts iX4 hown hK hP 0 rfl rfl 3 (by decide) (hts _ wd_229) (fun _ h9 => h9) rfl dX4_take_133 ?_
            obtain ⟨u40, hg, hf⟩ := ob_s hf
            refine kc_calli (wn := fun _ => (wX cx aX aH aI aS aT ak aD aC (aD 0) (aC 0) aG db dn ql qf qz qi sp s1 s2 s3 s4 s5 sP sC sH tl kl kf e38.1 e38.2.1 e38.2.2.1 e38.2.2.2 cv cc cm ch gw gh gk gq gr gj gR gT gC)) (va_runV (As := []) (rest := []) ⟨hx, hb, hml, hown, hts⟩ (metX0_state l D cx aD aG e38.1 e38.2.1 e38.2.2.1 e38.2.2.2 gw gh gk gq gr gj gR gT gC  N H.size u40 hg) ⟨callB_of 0 hts (kc_gI wd_280) rfl rfl rfl (hts _ wd_44) (hts _ wd_323) (by decide +kernel) ⟨Nat.le_of_ble_eq_true rfl, Nat.le_of_ble_eq_true rfl⟩, hts _ wd_278, hts _ wd_279⟩ ⟨kc_blind _ _ _ _ _, va_recv hK hP (ci := 0) (q0 := 21) rfl rfl, kc_pre _ hK hN (hP.sub [21, 22, 23, 24, 29, 30, 31, 32] rfl) (hD.sub [21, 22, 23, 24, 29, 30, 31, 32] (by decide) rfl)⟩ rfl rfl hl.1 rfl (lv_room (Nat.le_of_ble_eq_true rfl)) dX4_take_136 ⟨Nat.zero_le _, Nat.zero_le _⟩) hP hD hS hA [21, 22, 23, 24, 29, 30, 31, 32] [0, 1, 2, 3, 4, 5, 6, 7, 8, 9, 10, 11, 12, 13, 14, 15, 16, 17, 18, 19, 20, 25, 26, 27, 28] [0, 1, 2, 3, 4, 5, 6, 7, 8, 9, 10, 11, 12, 13, 14, 15, 16, 17, 18, 19, 20, 25, 26, 27, 28, 21, 22, 23, 24, 29, 30, 31, 32] rfl rfl (by decide) (by decide) (fun _ => rfl) (by decide) (fun _ H locs hP hD hS => ?_)
            have hP : va_P D classes (wX cx aX aH aI aS aT ak aD aC (aD 0) (aC 0) aG db dn ql qf qz qi sp s1 s2 s3 s4 s5 sP sC sH tl kl kf e38.1 e38.2.1 e38.2.2.1 e38.2.2.2 cv cc cm ch gw gh gk gq gr gj gR gT gC) H := hP
            have hD : va_D A (wX cx aX aH aI aS aT ak aD aC (aD 0) (aC 0) aG db dn ql qf qz qi sp s1 s2 s3 s4 s5 sP sC sH tl kl kf e38.1 e38.2.1 e38.2.2.1 e38.2.2.2 cv cc cm ch gw gh gk gq gr gj gR gT gC) := hD
            obtain rfl := Option.some.inj hf
            exact kc_iret (aD, aC) hx hb hr hk hP hD hS rfl dX4_take_139
          · subst ee
            replace hf := onS_l hf
            obtain rfl := Option.some.inj hf
            exact kc_iret (aC, aD) hx hb hr hk hP hD hS rfl hd
        · replace hf := it_t c25 hf
          refine lv_aload_n hx hb dX4_take_50 rfl (lv_at hl 1 rfl) ?_
          refine lv_iconst (v := (2 : Int32)) hx hb dX4_take_51 (by decide) ?_
          obtain ⟨u41, hg, hf⟩ := ob_s hf
          refine kc_calli (wn := fun _ => (wX cx aX aH aI aS aT ak aC aD (aC 0) (aD 0) aG db u41.2 ql qf qz qi sp s1 s2 s3 s4 s5 sP sC sH tl kl kf cv cc cm ch dv dc dm dh gw gh gk gq gr gj gR gT gC)) (va_runV (As := [.int (2 : Int32)]) (rest := []) ⟨hx, hb, hml, hown, hts⟩ (metX4_refuse l D cx aX aH aI aS aT ak aC aD aG db dn ql qf qz qi sp s1 s2 s3 s4 s5 sP sC sH tl kl kf cv cc cm ch dv dc dm dh gw gh gk gq gr gj gR gT gC (2 : Int32) N H.size u41 hg) ⟨callB_of 1 hts (kc_gI wd_507) rfl rfl rfl (hts _ wd_40) (hts _ wd_504) (by decide +kernel) ⟨Nat.le_of_ble_eq_true rfl, Nat.le_of_ble_eq_true rfl⟩, hts _ wd_506, hts _ wd_14⟩ ⟨kc_blind _ _ _ _ _, va_recv hK hP (ci := 4) (q0 := 0) rfl rfl, kc_pre _ hK hN (hP.sub [0, 1, 2, 3, 4, 5, 6, 7, 8, 9, 10, 11, 12, 13, 14, 15, 16, 17, 18, 19, 20, 21, 22, 23, 24, 25, 26, 27, 28, 29, 30, 31, 32] rfl) (hD.sub [0, 1, 2, 3, 4, 5, 6, 7, 8, 9, 10, 11, 12, 13, 14, 15, 16, 17, 18, 19, 20, 21, 22, 23, 24, 25, 26, 27, 28, 29, 30, 31, 32] (by decide) rfl)⟩ rfl rfl hl.1 rfl (lv_room (Nat.le_of_ble_eq_true rfl)) dX4_take_52 ⟨Nat.zero_le _, Nat.zero_le _⟩) hP hD hS hA [0, 1, 2, 3, 4, 5, 6, 7, 8, 9, 10, 11, 12, 13, 14, 15, 16, 17, 18, 19, 20, 21, 22, 23, 24, 25, 26, 27, 28, 29, 30, 31, 32] [] [0, 1, 2, 3, 4, 5, 6, 7, 8, 9, 10, 11, 12, 13, 14, 15, 16, 17, 18, 19, 20, 21, 22, 23, 24, 25, 26, 27, 28, 29, 30, 31, 32] rfl rfl (by decide) (by decide) (fun _ => rfl) (by decide) (fun _ H locs hP hD hS => ?_)
          have hP : va_P D classes (wX cx aX aH aI aS aT ak aC aD (aC 0) (aD 0) aG db u41.2 ql qf qz qi sp s1 s2 s3 s4 s5 sP sC sH tl kl kf cv cc cm ch dv dc dm dh gw gh gk gq gr gj gR gT gC) H := hP
          have hD : va_D A (wX cx aX aH aI aS aT ak aC aD (aC 0) (aD 0) aG db u41.2 ql qf qz qi sp s1 s2 s3 s4 s5 sP sC sH tl kl kf cv cc cm ch dv dc dm dh gw gh gk gq gr gj gR gT gC) := hD
          obtain rfl := Option.some.inj hf
          exact kc_iret (aC, aD) hx hb hr hk hP hD hS rfl dX4_take_55
      · replace hf := it_f c23 hf
        refine lv_aload_n hx hb dX4_take_35 rfl (lv_at hl 1 rfl) ?_
        refine lv_iconst (v := (1 : Int32)) hx hb dX4_take_36 (by decide) ?_
        obtain ⟨u42, hg, hf⟩ := ob_s hf
        refine kc_calli (wn := fun _ => (wX cx aX aH aI aS aT ak aC aD (aC 0) (aD 0) aG db u42.2 ql qf qz qi sp s1 s2 s3 s4 s5 sP sC sH tl kl kf cv cc cm ch dv dc dm dh gw gh gk gq gr gj gR gT gC)) (va_runV (As := [.int (1 : Int32)]) (rest := []) ⟨hx, hb, hml, hown, hts⟩ (metX4_refuse l D cx aX aH aI aS aT ak aC aD aG db dn ql qf qz qi sp s1 s2 s3 s4 s5 sP sC sH tl kl kf cv cc cm ch dv dc dm dh gw gh gk gq gr gj gR gT gC (1 : Int32) N H.size u42 hg) ⟨callB_of 1 hts (kc_gI wd_507) rfl rfl rfl (hts _ wd_40) (hts _ wd_504) (by decide +kernel) ⟨Nat.le_of_ble_eq_true rfl, Nat.le_of_ble_eq_true rfl⟩, hts _ wd_506, hts _ wd_14⟩ ⟨kc_blind _ _ _ _ _, va_recv hK hP (ci := 4) (q0 := 0) rfl rfl, kc_pre _ hK hN (hP.sub [0, 1, 2, 3, 4, 5, 6, 7, 8, 9, 10, 11, 12, 13, 14, 15, 16, 17, 18, 19, 20, 21, 22, 23, 24, 25, 26, 27, 28, 29, 30, 31, 32] rfl) (hD.sub [0, 1, 2, 3, 4, 5, 6, 7, 8, 9, 10, 11, 12, 13, 14, 15, 16, 17, 18, 19, 20, 21, 22, 23, 24, 25, 26, 27, 28, 29, 30, 31, 32] (by decide) rfl)⟩ rfl rfl hl.1 rfl (lv_room (Nat.le_of_ble_eq_true rfl)) dX4_take_37 ⟨Nat.zero_le _, Nat.zero_le _⟩) hP hD hS hA [0, 1, 2, 3, 4, 5, 6, 7, 8, 9, 10, 11, 12, 13, 14, 15, 16, 17, 18, 19, 20, 21, 22, 23, 24, 25, 26, 27, 28, 29, 30, 31, 32] [] [0, 1, 2, 3, 4, 5, 6, 7, 8, 9, 10, 11, 12, 13, 14, 15, 16, 17, 18, 19, 20, 21, 22, 23, 24, 25, 26, 27, 28, 29, 30, 31, 32] rfl rfl (by decide) (by decide) (fun _ => rfl) (by decide) (fun _ H locs hP hD hS => ?_)
        have hP : va_P D classes (wX cx aX aH aI aS aT ak aC aD (aC 0) (aD 0) aG db u42.2 ql qf qz qi sp s1 s2 s3 s4 s5 sP sC sH tl kl kf cv cc cm ch dv dc dm dh gw gh gk gq gr gj gR gT gC) H := hP
        have hD : va_D A (wX cx aX aH aI aS aT ak aC aD (aC 0) (aD 0) aG db u42.2 ql qf qz qi sp s1 s2 s3 s4 s5 sP sC sH tl kl kf cv cc cm ch dv dc dm dh gw gh gk gq gr gj gR gT gC) := hD
        obtain rfl := Option.some.inj hf
        exact kc_iret (aC, aD) hx hb hr hk hP hD hS rfl dX4_take_40
    · replace hf := it_t c21 hf
      refine lv_sipush (v := (-200 : Int32)) hx hb dX4_take_17 (by decide) ?_
      obtain rfl := Option.some.inj hf
      exact kc_iret (aC, aD) hx hb hr hk hP hD hS rfl dX4_take_20
abbrev rmX4_write : Room := { frames := 2, cells := 0, slots := 0, locals := 42 }
set_option maxHeartbeats 4000000 in
set_option maxRecDepth 100000 in
theorem metX4_write (l : Launch) (D : va_G) (cx : Nat → ClassId) (aX : Nat → Nat) (aH : Nat → Nat) (aI : Nat → Nat) (aS : Nat → Nat) (aT : Nat → Nat) (ak : Nat) (aC : Nat → Nat) (aD : Nat → Nat) (aG : Nat → Nat) (db : Int32) (dn : Int32) (ql : Nat → Int32) (qf : Nat → Int32) (qz : Nat → Int32) (qi : Nat → Nat → Int32) (sp : Int32) (s1 : Int32) (s2 : Int32) (s3 : Int32) (s4 : Int32) (s5 : Int32) (sP : Nat → Int32) (sC : Nat → Int32) (sH : Nat → Int32) (tl : Nat → Nat → Int32) (kl : Nat) (kf : Nat → Int64) (cv : Int32) (cc : Nat → Int32) (cm : Nat → Int32) (ch : Nat → Int32) (dv : Int32) (dc : Nat → Int32) (dm : Nat → Int32) (dh : Nat → Int32) (gw : Int32) (gh : Int32) (gk : Int32) (gq : Int32) (gr : Int32) (gj : Int32) (gR : Nat → Int32) (gT : Nat → Int32) (gC : Nat → Int32) (x1 : Int32) (N : Nat) (sz : Nat) (v : Int32 × Int32 × (Nat → Nat → Int32)) (hf : fX4_write N dn ql qf qz qi cv cc x1 = some v) : Met l yX4_write (.code yX4_write cX4_write 4 (some .int) :: kc_TB) rmX4_write (kc_Pre D cx (wX cx aX aH aI aS aT ak aC aD (aC 0) (aD 0) aG db dn ql qf qz qi sp s1 s2 s3 s4 s5 sP sC sH tl kl kf cv cc cm ch dv dc dm dh gw gh gk gq gr gj gR gT gC) [.ref (aX 0), .int x1] sz) (kc_Pi D (fun _ : Unit => (wX cx aX aH aI aS aT ak aC aD (aC 0) (aD 0) aG db v.2.1 ql qf qz v.2.2 sp s1 s2 s3 s4 s5 sP sC sH tl kl kf cv cc cm ch dv dc dm dh gw gh gk gq gr gj gR gT gC)) v.1 (va_A (wX cx aX aH aI aS aT ak aC aD (aC 0) (aD 0) aG db dn ql qf qz qi sp s1 s2 s3 s4 s5 sP sC sH tl kl kf cv cc cm ch dv dc dm dh gw gh gk gq gr gj gR gT gC) sz)) 0 0 (va_A (wX cx aX aH aI aS aT ak aC aD (aC 0) (aD 0) aG db dn ql qf qz qi sp s1 s2 s3 s4 s5 sP sC sH tl kl kf cv cc cm ch dv dc dm dh gw gh gk gq gr gj gR gT gC) sz) := by
  refine kc_entry (Qc := fun A => (kc_Pi D (fun _ : Unit => (wX cx aX aH aI aS aT ak aC aD (aC 0) (aD 0) aG db v.2.1 ql qf qz v.2.2 sp s1 s2 s3 s4 s5 sP sC sH tl kl kf cv cc cm ch dv dc dm dh gw gh gk gq gr gj gR gT gC)) v.1 A)) (by decide) (Nat.le_of_ble_eq_true rfl) ?_
  intro p e s m below meth c A hx hb hr hk hml hown hin hts hN hK hP hD hS hA ls hl
  have hown : s.vm.findClass RX4 = some m.cls := hown
  have hl : lv_has ls 4 [(0, .ref (aX 0)), (1, .int x1)] := hl
  unfold fX4_write at hf
  have hP : va_P D classes (wX cx aX aH aI aS aT ak aC aD (aC 0) (aD 0) aG db dn ql qf qz qi sp s1 s2 s3 s4 s5 sP sC sH tl kl kf cv cc cm ch dv dc dm dh gw gh gk gq gr gj gR gT gC) s.heap := hP
  obtain ⟨H, hH⟩ : ∃ H, H = s.heap := ⟨_, rfl⟩
  obtain ⟨locs, hL⟩ : ∃ locs : List Loc, locs = [] := ⟨_, rfl⟩
  have hS : va_S A s.heap H locs := by rw [hH, hL]; exact hS
  have hP : va_P D classes (wX cx aX aH aI aS aT ak aC aD (aC 0) (aD 0) aG db dn ql qf qz qi sp s1 s2 s3 s4 s5 sP sC sH tl kl kf cv cc cm ch dv dc dm dh gw gh gk gq gr gj gR gT gC) H := by rw [hH]; exact hP
  suffices hW : W p l e rmX4_write s m ([.ref (aX 0), .int x1] : List Value).toArray below meth c H locs 0 0 (MQ below (kc_Pi D (fun _ : Unit => (wX cx aX aH aI aS aT ak aC aD (aC 0) (aD 0) aG db v.2.1 ql qf qz v.2.2 sp s1 s2 s3 s4 s5 sP sC sH tl kl kf cv cc cm ch dv dc dm dh gw gh gk gq gr gj gR gT gC)) v.1 A) ([.ref (aX 0), .int x1] : List Value).toArray s 0 0 A) (F0 m 0 ls []) by rw [hH, hL] at hW; exact hW
  clear hH hL
  refine lv_iload_n hx hb dX4_write_0 rfl (lv_at hl 1 rfl) ?_
  obtain ⟨u11, hg, hf⟩ := ob_s hf
  refine kc_calli (wn := fun _ => (wX cx aX aH aI aS aT ak aC aD (aC 0) (aD 0) aG db dn ql qf qz qi sp s1 s2 s3 s4 s5 sP sC sH tl kl kf cv cc cm ch dv dc dm dh gw gh gk gq gr gj gR gT gC)) (va_runS (As := [.int x1]) (rest := []) ⟨hx, hb, hml, hown, hts⟩ (metX4_isSheet l D cx   x1 N H.size u11 hg) ⟨callB_of 1 hts (kc_gI wd_500) rfl rfl rfl (hts _ wd_40) (hts _ wd_498) (by decide +kernel) ⟨Nat.le_of_ble_eq_true rfl, Nat.le_of_ble_eq_true rfl⟩, hts _ wd_499⟩ ⟨kc_blind _ _ _ _ _, kc_pre _ hK hN (hP.sub [] rfl) (hD.sub [] (by decide) rfl)⟩ rfl rfl hl.1 rfl (lv_room (Nat.le_of_ble_eq_true rfl)) dX4_write_1 ⟨Nat.zero_le _, Nat.zero_le _⟩) hP hD hS hA [] [0, 1, 2, 3, 4, 5, 6, 7, 8, 9, 10, 11, 12, 13, 14, 15, 16, 17, 18, 19, 20, 21, 22, 23, 24, 25, 26, 27, 28, 29, 30, 31, 32] [0, 1, 2, 3, 4, 5, 6, 7, 8, 9, 10, 11, 12, 13, 14, 15, 16, 17, 18, 19, 20, 21, 22, 23, 24, 25, 26, 27, 28, 29, 30, 31, 32] rfl rfl (by decide) (by decide) (fun _ => rfl) (by decide) (fun _ H locs hP hD hS => ?_)
  have hP : va_P D classes (wX cx aX aH aI aS aT ak aC aD (aC 0) (aD 0) aG db dn ql qf qz qi sp s1 s2 s3 s4 s5 sP sC sH tl kl kf cv cc cm ch dv dc dm dh gw gh gk gq gr gj gR gT gC) H := hP
  have hD : va_D A (wX cx aX aH aI aS aT ak aC aD (aC 0) (aD 0) aG db dn ql qf qz qi sp s1 s2 s3 s4 s5 sP sC sH tl kl kf cv cc cm ch dv dc dm dh gw gh gk gq gr gj gR gT gC) := hD
  refine lv_if_ne (tgt := 11) hx hb dX4_write_4 (by decide) (fun c12 => ?_) (fun c12 => ?_)
  · replace hf := it_f c12 hf
    refine lv_aload_n hx hb dX4_write_11 rfl (lv_at hl 0 rfl) ?_
    refine va_get (D := D) (ci := 4) (v := .ref (aX 1)) (C := RX4) (T := TX4) (N := 7) hx hb hts iX4 hown hK hP 0 rfl rfl 2 (by decide) (hts _ wd_228) (fun _ h9 => h9) rfl dX4_write_12 ?_
    refine lv_iload_n hx hb dX4_write_15 rfl (lv_at hl 1 rfl) ?_
    obtain ⟨hz, hf⟩ := okb_s hf
    have hj13 : x1.toNatClampNeg < 4 := inb_lt hz
    refine va_aldq (D := D) hx hb hK hP 1 3 rfl rfl (inb_s hz) dX4_write_16 ?_
    rw [if_pos hj13]
    show W _ _ _ _ _ _ _ _ _ _ _ _ _ _ _ (F0 m 17 ls (.ref (aH (x1.toNatClampNeg)) :: _))
    refine lv_astore_n (lv' := [(2, .ref (aH (x1.toNatClampNeg))), (0, .ref (aX 0)), (1, .int x1)]) hx hb dX4_write_17 rfl hl (by decide) rfl (fun ls hl => ?_)
    refine lv_aload_n hx hb dX4_write_18 rfl (lv_at hl 0 rfl) ?_
    refine va_get (D := D) (ci := 2) (v := .int (ql (x1.toNatClampNeg))) (C := RX2) (T := TX2) (N := 4) hx hb hts iX2 hown hK hP (2 + 2 * (x1.toNatClampNeg)) (wX_get_sheet hj13) rfl 0 (by decide) (hts _ wd_210) (fun _ h9 => h9) rfl dX4_write_19 ?_
    refine lv_if_eq (tgt := 31) hx hb dX4_write_22 (by decide) (fun c14 => ?_) (fun c14 => ?_)
    · replace hf := it_t c14 hf
      refine lv_aload_n hx hb dX4_write_31 rfl (lv_at hl 0 rfl) ?_
      refine lv_iconst (v := (0 : Int32)) hx hb dX4_write_32 (by decide) ?_
      refine lv_aload_n hx hb dX4_write_33 rfl (lv_at hl 1 rfl) ?_
      refine va_get (D := D) (ci := 4) (v := .ref (aC 0)) (C := RX4) (T := TX4) (N := 7) hx hb hts iX4 hown hK hP 0 rfl rfl 3 (by decide) (hts _ wd_229) (fun _ h9 => h9) rfl dX4_write_34 ?_
      refine va_get (D := D) (ci := 0) (v := .int cv) (C := RX0) (T := TX0) (N := 5) hx hb hts iX0 hown hK hP 21 rfl rfl 4 (by decide) (hts _ wd_189) (fun _ h9 => h9) rfl dX4_write_37 ?_
      obtain ⟨u15, hg, hf⟩ := ob_s hf
      refine kc_calli2 (f1 := fun _ => .inr (2, [.int (ql (x1.toNatClampNeg)), .int (qf (x1.toNatClampNeg)), .int (qz (x1.toNatClampNeg)), .ref (aI (x1.toNatClampNeg))])) (f2 := fun _ => .inl (cx 0, 20, .inl (qi (x1.toNatClampNeg)))) (va_runV (As := [.int (0 : Int32), .int cv]) (rest := []) ⟨hx, hb, hml, hown, hts⟩ (metX2_hasPart l D cx (sh2 (aH (x1.toNatClampNeg)) (aI (x1.toNatClampNeg))) (ql (x1.toNatClampNeg)) (qf (x1.toNatClampNeg)) (qz (x1.toNatClampNeg)) (qi (x1.toNatClampNeg)) (0 : Int32) cv N H.size u15 hg) ⟨callB_of 2 hts (kc_gI wd_542) rfl rfl rfl (hts _ wd_45) (hts _ wd_539) (by decide +kernel) ⟨Nat.le_of_ble_eq_true rfl, Nat.le_of_ble_eq_true rfl⟩, hts _ wd_540, hts _ wd_541⟩ ⟨kc_blind _ _ _ _ _, va_recv hK hP (ci := 2) (q0 := 2 + 2 * (x1.toNatClampNeg)) rfl (wX_get_sheet hj13), kc_pre _ hK hN (kc_P2 hP (wX_get_sheet hj13) (wX_get_item hj13)) (kc_D2 hD (wX_get_sheet hj13) (wX_get_item hj13) (by omega))⟩ rfl rfl hl.1 rfl (lv_room (Nat.le_of_ble_eq_true rfl)) dX4_write_40 ⟨Nat.zero_le _, Nat.zero_le _⟩) hP hD hS hA (wX_get_sheet hj13) (wX_get_item hj13) (by omega) rfl (fun _ => rfl) (fun _ H locs hP hD hS => ?_)
      rw [wX_two_same hj13] at hP hD
      have hP : va_P D classes (wX cx aX aH aI aS aT ak aC aD (aC 0) (aD 0) aG db dn ql qf qz qi sp s1 s2 s3 s4 s5 sP sC sH tl kl kf cv cc cm ch dv dc dm dh gw gh gk gq gr gj gR gT gC) H := hP
      have hD : va_D A (wX cx aX aH aI aS aT ak aC aD (aC 0) (aD 0) aG db dn ql qf qz qi sp s1 s2 s3 s4 s5 sP sC sH tl kl kf cv cc cm ch dv dc dm dh gw gh gk gq gr gj gR gT gC) := hD
      refine lv_if_ne (tgt := 52) hx hb dX4_write_43 (by decide) (fun c16 => ?_) (fun c16 => ?_)
      · replace hf := it_f c16 hf
        refine lv_iconst (v := (0 : Int32)) hx hb dX4_write_52 (by decide) ?_
        refine lv_istore_n (lv' := [(3, .int (0 : Int32)), (2, .ref (aH (x1.toNatClampNeg))), (0, .ref (aX 0)), (1, .int x1)]) hx hb dX4_write_53 rfl hl (by decide) rfl (fun ls hl => ?_)
        have L54 : ∀ (ct : Nat) (qi : Nat → Nat → Int32) (x3 : Int32) (v54 : (Nat → Nat → Int32)), fX4_write_L54 N qf cv cc x1 ct qi x3 = some v54 → ∀ (H : Heap) (locs : List Loc) (ls : Array Slot), va_P D classes (wX cx aX aH aI aS aT ak aC aD (aC 0) (aD 0) aG db dn ql qf qz qi sp s1 s2 s3 s4 s5 sP sC sH tl kl kf cv cc cm ch dv dc dm dh gw gh gk gq gr gj gR gT gC) H → va_D A (wX cx aX aH aI aS aT ak aC aD (aC 0) (aD 0) aG db dn ql qf qz qi sp s1 s2 s3 s4 s5 sP sC sH tl kl kf cv cc cm ch dv dc dm dh gw gh gk gq gr gj gR gT gC) → va_S A s.heap H locs → lv_has ls 4 [(0, .ref (aX 0)), (2, .ref (aH (x1.toNatClampNeg))), (3, .int x3)] → (∀ (H : Heap) (locs : List Loc) (ls : Array Slot), va_P D classes (wX cx aX aH aI aS aT ak aC aD (aC 0) (aD 0) aG db dn ql qf qz v54 sp s1 s2 s3 s4 s5 sP sC sH tl kl kf cv cc cm ch dv dc dm dh gw gh gk gq gr gj gR gT gC) H → va_D A (wX cx aX aH aI aS aT ak aC aD (aC 0) (aD 0) aG db dn ql qf qz v54 sp s1 s2 s3 s4 s5 sP sC sH tl kl kf cv cc cm ch dv dc dm dh gw gh gk gq gr gj gR gT gC) → va_S A s.heap H locs → lv_has ls 4 [(0, .ref (aX 0))] → W p l e rmX4_write s m ([.ref (aX 0), .int x1] : List Value).toArray below meth c H locs 0 0 (MQ below (kc_Pi D (fun _ : Unit => (wX cx aX aH aI aS aT ak aC aD (aC 0) (aD 0) aG db v.2.1 ql qf qz v.2.2 sp s1 s2 s3 s4 s5 sP sC sH tl kl kf cv cc cm ch dv dc dm dh gw gh gk gq gr gj gR gT gC)) v.1 A) ([.ref (aX 0), .int x1] : List Value).toArray s 0 0 A) (F0 m 85 ls [])) → W p l e rmX4_write s m ([.ref (aX 0), .int x1] : List Value).toArray below meth c H locs 0 0 (MQ below (kc_Pi D (fun _ : Unit => (wX cx aX aH aI aS aT ak aC aD (aC 0) (aD 0) aG db v.2.1 ql qf qz v.2.2 sp s1 s2 s3 s4 s5 sP sC sH tl kl kf cv cc cm ch dv dc dm dh gw gh gk gq gr gj gR gT gC)) v.1 A) ([.ref (aX 0), .int x1] : List Value).toArray s 0 0 A) (F0 m 54 ls []) := by
          intro ct
          induction ct with
          | zero =>
            intro qi x3 v54 hf
            exact absurd (show (none : Option ((Nat → Nat → Int32))) = some v54 from hf) (fun q => by cases q)
          | succ ct ih =>
            intro qi x3 v54 hf H locs ls hP hD hS hl hE
            rw [fX4_write_L54] at hf
            refine lv_iload_n hx hb dX4_write_54 rfl (lv_at hl 2 rfl) ?_
            refine lv_aload_n hx hb dX4_write_55 rfl (lv_at hl 0 rfl) ?_
            refine va_get (D := D) (ci := 4) (v := .ref (aC 0)) (C := RX4) (T := TX4) (N := 7) hx hb hts iX4 hown hK hP 0 rfl rfl 3 (by decide) (hts _ wd_229) (fun _ h9 => h9) rfl dX4_write_56 ?_
            refine va_get (D := D) (ci := 0) (v := .int cv) (C := RX0) (T := TX0) (N := 5) hx hb hts iX0 hown hK hP 21 rfl rfl 4 (by decide) (hts _ wd_189) (fun _ h9 => h9) rfl dX4_write_59 ?_
            refine lv_icmp_ge (tgt := 85) hx hb dX4_write_62 (by decide) (fun c19 => ?_) (fun c19 => ?_)
            · replace hf := it_t c19 hf
              obtain rfl := Option.some.inj hf
              exact hE H locs ls hP hD hS (lv_sub hl [0] rfl)
            · replace hf := it_f c19 hf
              refine lv_aload_n hx hb dX4_write_65 rfl (lv_at hl 1 rfl) ?_
              refine lv_iload_n hx hb dX4_write_66 rfl (lv_at hl 2 rfl) ?_
              refine lv_aload_n hx hb dX4_write_67 rfl (lv_at hl 0 rfl) ?_
              refine va_get (D := D) (ci := 4) (v := .ref (aC 0)) (C := RX4) (T := TX4) (N := 7) hx hb hts iX4 hown hK hP 0 rfl rfl 3 (by decide) (hts _ wd_229) (fun _ h9 => h9) rfl dX4_write_68 ?_
              refine va_get (D := D) (ci := 0) (v := .ref (aC 1)) (C := RX0) (T := TX0) (N := 5) hx hb hts iX0 hown hK hP 21 rfl rfl 1 (by decide) (hts _ wd_183) (fun _ h9 => h9) rfl dX4_write_71 ?_
              refine lv_iload_n hx hb dX4_write_74 rfl (lv_at hl 2 rfl) ?_
              obtain ⟨hz, hf⟩ := okb_s hf
              refine va_iald (D := D) hx hb hK hP 22 0 rfl rfl (inb_s hz) dX4_write_75 ?_
              obtain ⟨u20, hg, hf⟩ := ob_s hf
              refine kc_callv2 (f1 := fun _ => .inr (2, [.int (ql (x1.toNatClampNeg)), .int (qf (x1.toNatClampNeg)), .int (qz (x1.toNatClampNeg)), .ref (aI (x1.toNatClampNeg))])) (f2 := fun _ => .inl (cx 0, 20, .inl u20)) (va_runV (As := [.int x3, .int (cc x3.toNatClampNeg)]) (rest := []) ⟨hx, hb, hml, hown, hts⟩ (metX2_store l D cx (sh2 (aH (x1.toNatClampNeg)) (aI (x1.toNatClampNeg))) (ql (x1.toNatClampNeg)) (qf (x1.toNatClampNeg)) (qz (x1.toNatClampNeg)) (qi (x1.toNatClampNeg)) x3 (cc x3.toNatClampNeg) N H.size u20 hg) ⟨callB_of 2 hts (kc_gI wd_529) rfl rfl rfl (hts _ wd_45) (hts _ wd_526) (by decide +kernel) ⟨Nat.le_of_ble_eq_true rfl, Nat.le_of_ble_eq_true rfl⟩, hts _ wd_527, hts _ wd_528⟩ ⟨kc_blind _ _ _ _ _, va_recv hK hP (ci := 2) (q0 := 2 + 2 * (x1.toNatClampNeg)) rfl (wX_get_sheet hj13), kc_pre _ hK hN (kc_P2 hP (wX_get_sheet hj13) (wX_get_item hj13)) (kc_D2 hD (wX_get_sheet hj13) (wX_get_item hj13) (by omega))⟩ rfl rfl hl.1 rfl (lv_room (Nat.le_of_ble_eq_true rfl)) dX4_write_76 ⟨Nat.zero_le _, Nat.zero_le _⟩) hP hD hS hA (wX_get_sheet hj13) (wX_get_item hj13) (by omega) rfl (fun _ => rfl) (fun _ H locs hP hD hS => ?_)
              rw [wX_two_items hj13] at hP hD
              have hP : va_P D classes (wX cx aX aH aI aS aT ak aC aD (aC 0) (aD 0) aG db dn ql qf qz (upT qi (x1.toNatClampNeg) u20) sp s1 s2 s3 s4 s5 sP sC sH tl kl kf cv cc cm ch dv dc dm dh gw gh gk gq gr gj gR gT gC) H := hP
              have hD : va_D A (wX cx aX aH aI aS aT ak aC aD (aC 0) (aD 0) aG db dn ql qf qz (upT qi (x1.toNatClampNeg) u20) sp s1 s2 s3 s4 s5 sP sC sH tl kl kf cv cc cm ch dv dc dm dh gw gh gk gq gr gj gR gT gC) := hD
              refine lv_iinc (v := (x3 + (1 : Int32))) (lv' := [(3, .int (x3 + (1 : Int32))), (0, .ref (aX 0)), (2, .ref (aH (x1.toNatClampNeg)))]) hx hb dX4_write_79 hl (k := 2) rfl rfl (by decide) rfl (fun ls hl => ?_)
              refine lv_goto (tgt := 54) hx hb dX4_write_82 (by decide) ?_
              exact ih (upT qi (x1.toNatClampNeg) u20) (x3 + (1 : Int32)) _ hf H locs ls hP hD hS (lv_sub hl [1, 2, 0] rfl) hE
        obtain ⟨u21, hg, hf⟩ := ob_s hf
        refine L54 _ qi (0 : Int32) u21 hg H locs ls hP hD hS (lv_sub hl [2, 1, 0] rfl) (fun H locs ls hP hD hS hl => ?_)
        refine lv_aload_n hx hb dX4_write_85 rfl (lv_at hl 0 rfl) ?_
        refine va_get (D := D) (ci := 4) (v := .ref (aC 0)) (C := RX4) (T := TX4) (N := 7) hx hb hts iX4 hown hK hP 0 rfl rfl 3 (by decide) (hts _ wd_229) (fun _ h9 => h9) rfl dX4_write_86 ?_
        refine va_get (D := D) (ci := 0) (v := .int cv) (C := RX0) (T := TX0) (N := 5) hx hb hts iX0 hown hK hP 21 rfl rfl 4 (by decide) (hts _ wd_189) (fun _ h9 => h9) rfl dX4_write_89 ?_
        obtain rfl := Option.some.inj hf
        exact kc_iret () hx hb hr hk hP hD hS rfl dX4_write_92
      · replace hf := it_t c16 hf
        refine lv_aload_n hx hb dX4_write_46 rfl (lv_at hl 1 rfl) ?_
        refine lv_iconst (v := (2 : Int32)) hx hb dX4_write_47 (by decide) ?_
        obtain ⟨u22, hg, hf⟩ := ob_s hf
        refine kc_calli (wn := fun _ => (wX cx aX aH aI aS aT ak aC aD (aC 0) (aD 0) aG db u22.2 ql qf qz qi sp s1 s2 s3 s4 s5 sP sC sH tl kl kf cv cc cm ch dv dc dm dh gw gh gk gq gr gj gR gT gC)) (va_runV (As := [.int (2 : Int32)]) (rest := []) ⟨hx, hb, hml, hown, hts⟩ (metX4_refuse l D cx aX aH aI aS aT ak aC aD aG db dn ql qf qz qi sp s1 s2 s3 s4 s5 sP sC sH tl kl kf cv cc cm ch dv dc dm dh gw gh gk gq gr gj gR gT gC (2 : Int32) N H.size u22 hg) ⟨callB_of 1 hts (kc_gI wd_507) rfl rfl rfl (hts _ wd_40) (hts _ wd_504) (by decide +kernel) ⟨Nat.le_of_ble_eq_true rfl, Nat.le_of_ble_eq_true rfl⟩, hts _ wd_506, hts _ wd_14⟩ ⟨kc_blind _ _ _ _ _, va_recv hK hP (ci := 4) (q0 := 0) rfl rfl, kc_pre _ hK hN (hP.sub [0, 1, 2, 3, 4, 5, 6, 7, 8, 9, 10, 11, 12, 13, 14, 15, 16, 17, 18, 19, 20, 21, 22, 23, 24, 25, 26, 27, 28, 29, 30, 31, 32] rfl) (hD.sub [0, 1, 2, 3, 4, 5, 6, 7, 8, 9, 10, 11, 12, 13, 14, 15, 16, 17, 18, 19, 20, 21, 22, 23, 24, 25, 26, 27, 28, 29, 30, 31, 32] (by decide) rfl)⟩ rfl rfl hl.1 rfl (lv_room (Nat.le_of_ble_eq_true rfl)) dX4_write_48 ⟨Nat.zero_le _, Nat.zero_le _⟩) hP hD hS hA [0, 1, 2, 3, 4, 5, 6, 7, 8, 9, 10, 11, 12, 13, 14, 15, 16, 17, 18, 19, 20, 21, 22, 23, 24, 25, 26, 27, 28, 29, 30, 31, 32] [] [0, 1, 2, 3, 4, 5, 6, 7, 8, 9, 10, 11, 12, 13, 14, 15, 16, 17, 18, 19, 20, 21, 22, 23, 24, 25, 26, 27, 28, 29, 30, 31, 32] rfl rfl (by decide) (by decide) (fun _ => rfl) (by decide) (fun _ H locs hP hD hS => ?_)
        have hP : va_P D classes (wX cx aX aH aI aS aT ak aC aD (aC 0) (aD 0) aG db u22.2 ql qf qz qi sp s1 s2 s3 s4 s5 sP sC sH tl kl kf cv cc cm ch dv dc dm dh gw gh gk gq gr gj gR gT gC) H := hP
        have hD : va_D A (wX cx aX aH aI aS aT ak aC aD (aC 0) (aD 0) aG db u22.2 ql qf qz qi sp s1 s2 s3 s4 s5 sP sC sH tl kl kf cv cc cm ch dv dc dm dh gw gh gk gq gr gj gR gT gC) := hD
        obtain rfl := Option.some.inj hf
        exact kc_iret () hx hb hr hk hP hD hS rfl dX4_write_51
    · replace hf := it_f c14 hf
      refine lv_aload_n hx hb dX4_write_25 rfl (lv_at hl 1 rfl) ?_
      refine lv_iconst (v := (1 : Int32)) hx hb dX4_write_26 (by decide) ?_
      obtain ⟨u23, hg, hf⟩ := ob_s hf
      refine kc_calli (wn := fun _ => (wX cx aX aH aI aS aT ak aC aD (aC 0) (aD 0) aG db u23.2 ql qf qz qi sp s1 s2 s3 s4 s5 sP sC sH tl kl kf cv cc cm ch dv dc dm dh gw gh gk gq gr gj gR gT gC)) (va_runV (As := [.int (1 : Int32)]) (rest := []) ⟨hx, hb, hml, hown, hts⟩ (metX4_refuse l D cx aX aH aI aS aT ak aC aD aG db dn ql qf qz qi sp s1 s2 s3 s4 s5 sP sC sH tl kl kf cv cc cm ch dv dc dm dh gw gh gk gq gr gj gR gT gC (1 : Int32) N H.size u23 hg) ⟨callB_of 1 hts (kc_gI wd_507) rfl rfl rfl (hts _ wd_40) (hts _ wd_504) (by decide +kernel) ⟨Nat.le_of_ble_eq_true rfl, Nat.le_of_ble_eq_true rfl⟩, hts _ wd_506, hts _ wd_14⟩ ⟨kc_blind _ _ _ _ _, va_recv hK hP (ci := 4) (q0 := 0) rfl rfl, kc_pre _ hK hN (hP.sub [0, 1, 2, 3, 4, 5, 6, 7, 8, 9, 10, 11, 12, 13, 14, 15, 16, 17, 18, 19, 20, 21, 22, 23, 24, 25, 26, 27, 28, 29, 30, 31, 32] rfl) (hD.sub [0, 1, 2, 3, 4, 5, 6, 7, 8, 9, 10, 11, 12, 13, 14, 15, 16, 17, 18, 19, 20, 21, 22, 23, 24, 25, 26, 27, 28, 29, 30, 31, 32] (by decide) rfl)⟩ rfl rfl hl.1 rfl (lv_room (Nat.le_of_ble_eq_true rfl)) dX4_write_27 ⟨Nat.zero_le _, Nat.zero_le _⟩) hP hD hS hA [0, 1, 2, 3, 4, 5, 6, 7, 8, 9, 10, 11, 12, 13, 14, 15, 16, 17, 18, 19, 20, 21, 22, 23, 24, 25, 26, 27, 28, 29, 30, 31, 32] [] [0, 1, 2, 3, 4, 5, 6, 7, 8, 9, 10, 11, 12, 13, 14, 15, 16, 17, 18, 19, 20, 21, 22, 23, 24, 25, 26, 27, 28, 29, 30, 31, 32] rfl rfl (by decide) (by decide) (fun _ => rfl) (by decide) (fun _ H locs hP hD hS => ?_)
      have hP : va_P D classes (wX cx aX aH aI aS aT ak aC aD (aC 0) (aD 0) aG db u23.2 ql qf qz qi sp s1 s2 s3 s4 s5 sP sC sH tl kl kf cv cc cm ch dv dc dm dh gw gh gk gq gr gj gR gT gC) H := hP
      have hD : va_D A (wX cx aX aH aI aS aT ak aC aD (aC 0) (aD 0) aG db u23.2 ql qf qz qi sp s1 s2 s3 s4 s5 sP sC sH tl kl kf cv cc cm ch dv dc dm dh gw gh gk gq gr gj gR gT gC) := hD
      obtain rfl := Option.some.inj hf
      exact kc_iret () hx hb hr hk hP hD hS rfl dX4_write_30
  · replace hf := it_t c12 hf
    refine lv_sipush (v := (-200 : Int32)) hx hb dX4_write_7 (by decide) ?_
    obtain rfl := Option.some.inj hf
    exact kc_iret () hx hb hr hk hP hD hS rfl dX4_write_10
abbrev rmX4_count : Room := { frames := 0, cells := 0, slots := 0, locals := 0 }
set_option maxHeartbeats 4000000 in
set_option maxRecDepth 100000 in
theorem metX4_count (l : Launch) (D : va_G) (cx : Nat → ClassId) (aX : Nat → Nat) (aH : Nat → Nat) (aI : Nat → Nat) (aS : Nat → Nat) (aT : Nat → Nat) (ak : Nat) (aC : Nat → Nat) (aD : Nat → Nat) (aG : Nat → Nat) (db : Int32) (dn : Int32) (ql : Nat → Int32) (qf : Nat → Int32) (qz : Nat → Int32) (qi : Nat → Nat → Int32) (sp : Int32) (s1 : Int32) (s2 : Int32) (s3 : Int32) (s4 : Int32) (s5 : Int32) (sP : Nat → Int32) (sC : Nat → Int32) (sH : Nat → Int32) (tl : Nat → Nat → Int32) (kl : Nat) (kf : Nat → Int64) (cv : Int32) (cc : Nat → Int32) (cm : Nat → Int32) (ch : Nat → Int32) (dv : Int32) (dc : Nat → Int32) (dm : Nat → Int32) (dh : Nat → Int32) (gw : Int32) (gh : Int32) (gk : Int32) (gq : Int32) (gr : Int32) (gj : Int32) (gR : Nat → Int32) (gT : Nat → Int32) (gC : Nat → Int32) (x1 : Int32) (N : Nat) (sz : Nat) (v : Int32) (hf : fX4_count N dn gw gh gk gq gr gj x1 = some v) : Met l yX4_count (.code yX4_count cX4_count 2 (some .int) :: kc_TB) rmX4_count (kc_Pre D cx (wX cx aX aH aI aS aT ak aC aD (aC 0) (aD 0) aG db dn ql qf qz qi sp s1 s2 s3 s4 s5 sP sC sH tl kl kf cv cc cm ch dv dc dm dh gw gh gk gq gr gj gR gT gC) [.ref (aX 0), .int x1] sz) (kc_Pi D (fun _ : Unit => (wX cx aX aH aI aS aT ak aC aD (aC 0) (aD 0) aG db dn ql qf qz qi sp s1 s2 s3 s4 s5 sP sC sH tl kl kf cv cc cm ch dv dc dm dh gw gh gk gq gr gj gR gT gC)) v (va_A (wX cx aX aH aI aS aT ak aC aD (aC 0) (aD 0) aG db dn ql qf qz qi sp s1 s2 s3 s4 s5 sP sC sH tl kl kf cv cc cm ch dv dc dm dh gw gh gk gq gr gj gR gT gC) sz)) 0 0 (va_A (wX cx aX aH aI aS aT ak aC aD (aC 0) (aD 0) aG db dn ql qf qz qi sp s1 s2 s3 s4 s5 sP sC sH tl kl kf cv cc cm ch dv dc dm dh gw gh gk gq gr gj gR gT gC) sz) := by
  refine kc_entry (Qc := fun A => (kc_Pi D (fun _ : Unit => (wX cx aX aH aI aS aT ak aC aD (aC 0) (aD 0) aG db dn ql qf qz qi sp s1 s2 s3 s4 s5 sP sC sH tl kl kf cv cc cm ch dv dc dm dh gw gh gk gq gr gj gR gT gC)) v A)) (by decide) (Nat.le_of_ble_eq_true rfl) ?_
  intro p e s m below meth c A hx hb hr hk hml hown hin hts hN hK hP hD hS hA ls hl
  have hown : s.vm.findClass RX4 = some m.cls := hown
  have hl : lv_has ls 2 [(0, .ref (aX 0)), (1, .int x1)] := hl
  unfold fX4_count at hf
  have hP : va_P D classes (wX cx aX aH aI aS aT ak aC aD (aC 0) (aD 0) aG db dn ql qf qz qi sp s1 s2 s3 s4 s5 sP sC sH tl kl kf cv cc cm ch dv dc dm dh gw gh gk gq gr gj gR gT gC) s.heap := hP
  obtain ⟨H, hH⟩ : ∃ H, H = s.heap := ⟨_, rfl⟩
  obtain ⟨locs, hL⟩ : ∃ locs : List Loc, locs = [] := ⟨_, rfl⟩
  have hS : va_S A s.heap H locs := by rw [hH, hL]; exact hS
  have hP : va_P D classes (wX cx aX aH aI aS aT ak aC aD (aC 0) (aD 0) aG db dn ql qf qz qi sp s1 s2 s3 s4 s5 sP sC sH tl kl kf cv cc cm ch dv dc dm dh gw gh gk gq gr gj gR gT gC) H := by rw [hH]; exact hP
  suffices hW : W p l e rmX4_count s m ([.ref (aX 0), .int x1] : List Value).toArray below meth c H locs 0 0 (MQ below (kc_Pi D (fun _ : Unit => (wX cx aX aH aI aS aT ak aC aD (aC 0) (aD 0) aG db dn ql qf qz qi sp s1 s2 s3 s4 s5 sP sC sH tl kl kf cv cc cm ch dv dc dm dh gw gh gk gq gr gj gR gT gC)) v A) ([.ref (aX 0), .int x1] : List Value).toArray s 0 0 A) (F0 m 0 ls []) by rw [hH, hL] at hW; exact hW
  clear hH hL
  refine lv_iload_n hx hb dX4_count_0 rfl (lv_at hl 1 rfl) ?_
  by_cases c10 : x1 = (0 : Int32)
  · replace hf := it_t c10 hf
    refine lv_tableIn (tgt := 44) (off := 43) hx hb dX4_count_1 (by rw [c10]; decide) (by rw [c10]; decide) (by rw [c10]; decide) (by decide) ?_
    refine lv_aload_n hx hb dX4_count_44 rfl (lv_at hl 0 rfl) ?_
    refine va_get (D := D) (ci := 4) (v := .ref (aG 0)) (C := RX4) (T := TX4) (N := 7) hx hb hts iX4 hown hK hP 0 rfl rfl 0 (by decide) (hts _ wd_226) (fun _ h9 => h9) rfl dX4_count_45 ?_
    refine va_get (D := D) (ci := 1) (v := .int gw) (C := RX1) (T := TX1) (N := 9) hx hb hts iX1 hown hK hP 29 rfl rfl 0 (by decide) (hts _ wd_67) (fun _ h9 => h9) rfl dX4_count_48 ?_
    obtain rfl := Option.some.inj hf
    exact kc_iret () hx hb hr hk hP hD hS rfl dX4_count_51
  · replace hf := it_f c10 hf
    by_cases c11 : x1 = (1 : Int32)
    · replace hf := it_t c11 hf
      refine lv_tableIn (tgt := 52) (off := 51) hx hb dX4_count_1 (by rw [c11]; decide) (by rw [c11]; decide) (by rw [c11]; decide) (by decide) ?_
      refine lv_aload_n hx hb dX4_count_52 rfl (lv_at hl 0 rfl) ?_
      refine va_get (D := D) (ci := 4) (v := .ref (aG 0)) (C := RX4) (T := TX4) (N := 7) hx hb hts iX4 hown hK hP 0 rfl rfl 0 (by decide) (hts _ wd_226) (fun _ h9 => h9) rfl dX4_count_53 ?_
      refine va_get (D := D) (ci := 1) (v := .int gh) (C := RX1) (T := TX1) (N := 9) hx hb hts iX1 hown hK hP 29 rfl rfl 1 (by decide) (hts _ wd_71) (fun _ h9 => h9) rfl dX4_count_56 ?_
      obtain rfl := Option.some.inj hf
      exact kc_iret () hx hb hr hk hP hD hS rfl dX4_count_59
    · replace hf := it_f c11 hf
      by_cases c12 : x1 = (2 : Int32)
      · replace hf := it_t c12 hf
        refine lv_tableIn (tgt := 60) (off := 59) hx hb dX4_count_1 (by rw [c12]; decide) (by rw [c12]; decide) (by rw [c12]; decide) (by decide) ?_
        refine lv_aload_n hx hb dX4_count_60 rfl (lv_at hl 0 rfl) ?_
        refine va_get (D := D) (ci := 4) (v := .ref (aG 0)) (C := RX4) (T := TX4) (N := 7) hx hb hts iX4 hown hK hP 0 rfl rfl 0 (by decide) (hts _ wd_226) (fun _ h9 => h9) rfl dX4_count_61 ?_
        refine va_get (D := D) (ci := 1) (v := .int gk) (C := RX1) (T := TX1) (N := 9) hx hb hts iX1 hown hK hP 29 rfl rfl 2 (by decide) (hts _ wd_73) (fun _ h9 => h9) rfl dX4_count_64 ?_
        obtain rfl := Option.some.inj hf
        exact kc_iret () hx hb hr hk hP hD hS rfl dX4_count_67
      · replace hf := it_f c12 hf
        by_cases c13 : x1 = (3 : Int32)
        · replace hf := it_t c13 hf
          refine lv_tableIn (tgt := 68) (off := 67) hx hb dX4_count_1 (by rw [c13]; decide) (by rw [c13]; decide) (by rw [c13]; decide) (by decide) ?_
          refine lv_aload_n hx hb dX4_count_68 rfl (lv_at hl 0 rfl) ?_
          refine va_get (D := D) (ci := 4) (v := .ref (aG 0)) (C := RX4) (T := TX4) (N := 7) hx hb hts iX4 hown hK hP 0 rfl rfl 0 (by decide) (hts _ wd_226) (fun _ h9 => h9) rfl dX4_count_69 ?_
          refine va_get (D := D) (ci := 1) (v := .int gj) (C := RX1) (T := TX1) (N := 9) hx hb hts iX1 hown hK hP 29 rfl rfl 5 (by decide) (hts _ wd_81) (fun _ h9 => h9) rfl dX4_count_72 ?_
          refine lv_if_eq (tgt := 82) hx hb dX4_count_75 (by decide) (fun c9 => ?_) (fun c9 => ?_)
          · replace hf := it_t c9 hf
            refine lv_iconst (v := (0 : Int32)) hx hb dX4_count_82 (by decide) ?_
            obtain rfl := Option.some.inj hf
            exact kc_iret () hx hb hr hk hP hD hS rfl dX4_count_83
          · replace hf := it_f c9 hf
            refine lv_iconst (v := (1 : Int32)) hx hb dX4_count_78 (by decide) ?_
            refine lv_goto (tgt := 83) hx hb dX4_count_79 (by decide) ?_
            obtain rfl := Option.some.inj hf
            exact kc_iret () hx hb hr hk hP hD hS rfl dX4_count_83
        · replace hf := it_f c13 hf
          by_cases c14 : x1 = (4 : Int32)
          · replace hf := it_t c14 hf
            refine lv_tableIn (tgt := 84) (off := 83) hx hb dX4_count_1 (by rw [c14]; decide) (by rw [c14]; decide) (by rw [c14]; decide) (by decide) ?_
            refine lv_aload_n hx hb dX4_count_84 rfl (lv_at hl 0 rfl) ?_
            refine va_get (D := D) (ci := 4) (v := .ref (aG 0)) (C := RX4) (T := TX4) (N := 7) hx hb hts iX4 hown hK hP 0 rfl rfl 0 (by decide) (hts _ wd_226) (fun _ h9 => h9) rfl dX4_count_85 ?_
            refine va_get (D := D) (ci := 1) (v := .int gr) (C := RX1) (T := TX1) (N := 9) hx hb hts iX1 hown hK hP 29 rfl rfl 4 (by decide) (hts _ wd_79) (fun _ h9 => h9) rfl dX4_count_88 ?_
            obtain rfl := Option.some.inj hf
            exact kc_iret () hx hb hr hk hP hD hS rfl dX4_count_91
          · replace hf := it_f c14 hf
            by_cases c15 : x1 = (5 : Int32)
            · replace hf := it_t c15 hf
              refine lv_tableIn (tgt := 92) (off := 91) hx hb dX4_count_1 (by rw [c15]; decide) (by rw [c15]; decide) (by rw [c15]; decide) (by decide) ?_
              refine lv_aload_n hx hb dX4_count_92 rfl (lv_at hl 0 rfl) ?_
              refine va_get (D := D) (ci := 4) (v := .ref (aG 0)) (C := RX4) (T := TX4) (N := 7) hx hb hts iX4 hown hK hP 0 rfl rfl 0 (by decide) (hts _ wd_226) (fun _ h9 => h9) rfl dX4_count_93 ?_
              refine va_get (D := D) (ci := 1) (v := .int gq) (C := RX1) (T := TX1) (N := 9) hx hb hts iX1 hown hK hP 29 rfl rfl 3 (by decide) (hts _ wd_75) (fun _ h9 => h9) rfl dX4_count_96 ?_
              obtain rfl := Option.some.inj hf
              exact kc_iret () hx hb hr hk hP hD hS rfl dX4_count_99
            · replace hf := it_f c15 hf
              by_cases c16 : x1 = (6 : Int32)
              · replace hf := it_t c16 hf
                refine lv_tableIn (tgt := 100) (off := 99) hx hb dX4_count_1 (by rw [c16]; decide) (by rw [c16]; decide) (by rw [c16]; decide) (by decide) ?_
                refine lv_aload_n hx hb dX4_count_100 rfl (lv_at hl 0 rfl) ?_
                refine va_get (D := D) (ci := 4) (v := .int dn) (C := RX4) (T := TX4) (N := 7) hx hb hts iX4 hown hK hP 0 rfl rfl 6 (by decide) (hts _ wd_232) (fun _ h9 => h9) rfl dX4_count_101 ?_
                obtain rfl := Option.some.inj hf
                exact kc_iret () hx hb hr hk hP hD hS rfl dX4_count_104
              · replace hf := it_f c16 hf
                refine lv_tableOut (tgt := 105) hx hb dX4_count_1 (sw_out6 c10 c11 c12 c13 c14 c15 c16) (by decide) ?_
                refine lv_sipush (v := (-200 : Int32)) hx hb dX4_count_105 (by decide) ?_
                obtain rfl := Option.some.inj hf
                exact kc_iret () hx hb hr hk hP hD hS rfl dX4_count_108
abbrev rmX4_digest : Room := { frames := 4, cells := 0, slots := 0, locals := 86 }
set_option maxHeartbeats 4000000 in
set_option maxRecDepth 100000 in
theorem metX4_digest (l : Launch) (D : va_G) (cx : Nat → ClassId) (aX : Nat → Nat) (aH : Nat → Nat) (aI : Nat → Nat) (aS : Nat → Nat) (aT : Nat → Nat) (ak : Nat) (aC : Nat → Nat) (aD : Nat → Nat) (aG : Nat → Nat) (db : Int32) (dn : Int32) (ql : Nat → Int32) (qf : Nat → Int32) (qz : Nat → Int32) (qi : Nat → Nat → Int32) (sp : Int32) (s1 : Int32) (s2 : Int32) (s3 : Int32) (s4 : Int32) (s5 : Int32) (sP : Nat → Int32) (sC : Nat → Int32) (sH : Nat → Int32) (tl : Nat → Nat → Int32) (kl : Nat) (kf : Nat → Int64) (cv : Int32) (cc : Nat → Int32) (cm : Nat → Int32) (ch : Nat → Int32) (dv : Int32) (dc : Nat → Int32) (dm : Nat → Int32) (dh : Nat → Int32) (gw : Int32) (gh : Int32) (gk : Int32) (gq : Int32) (gr : Int32) (gj : Int32) (gR : Nat → Int32) (gT : Nat → Int32) (gC : Nat → Int32)  (N : Nat) (sz : Nat) (v : Int64) (hf : fX4_digest N dn cv cc cm ch gw gh gk gq gr gj gR = some v) : Met l yX4_digest (.code yX4_digest cX4_digest 4 (some .long) :: kc_TB) rmX4_digest (kc_Pre D cx (wX cx aX aH aI aS aT ak aC aD (aC 0) (aD 0) aG db dn ql qf qz qi sp s1 s2 s3 s4 s5 sP sC sH tl kl kf cv cc cm ch dv dc dm dh gw gh gk gq gr gj gR gT gC) [.ref (aX 0)] sz) (kc_Pl D (fun _ : Unit => (wX cx aX aH aI aS aT ak aC aD (aC 0) (aD 0) aG db dn ql qf qz qi sp s1 s2 s3 s4 s5 sP sC sH tl kl kf cv cc cm ch dv dc dm dh gw gh gk gq gr gj gR gT gC)) v (va_A (wX cx aX aH aI aS aT ak aC aD (aC 0) (aD 0) aG db dn ql qf qz qi sp s1 s2 s3 s4 s5 sP sC sH tl kl kf cv cc cm ch dv dc dm dh gw gh gk gq gr gj gR gT gC) sz)) 0 0 (va_A (wX cx aX aH aI aS aT ak aC aD (aC 0) (aD 0) aG db dn ql qf qz qi sp s1 s2 s3 s4 s5 sP sC sH tl kl kf cv cc cm ch dv dc dm dh gw gh gk gq gr gj gR gT gC) sz) := by
  refine kc_entry (Qc := fun A => (kc_Pl D (fun _ : Unit => (wX cx aX aH aI aS aT ak aC aD (aC 0) (aD 0) aG db dn ql qf qz qi sp s1 s2 s3 s4 s5 sP sC sH tl kl kf cv cc cm ch dv dc dm dh gw gh gk gq gr gj gR gT gC)) v A)) (by decide) (Nat.le_of_ble_eq_true rfl) ?_
  intro p e s m below meth c A hx hb hr hk hml hown hin hts hN hK hP hD hS hA ls hl
  have hown : s.vm.findClass RX4 = some m.cls := hown
  have hl : lv_has ls 4 [(0, .ref (aX 0))] := hl
  unfold fX4_digest at hf
  have hP : va_P D classes (wX cx aX aH aI aS aT ak aC aD (aC 0) (aD 0) aG db dn ql qf qz qi sp s1 s2 s3 s4 s5 sP sC sH tl kl kf cv cc cm ch dv dc dm dh gw gh gk gq gr gj gR gT gC) s.heap := hP
  obtain ⟨H, hH⟩ : ∃ H, H = s.heap := ⟨_, rfl⟩
  obtain ⟨locs, hL⟩ : ∃ locs : List Loc, locs = [] := ⟨_, rfl⟩
  have hS : va_S A s.heap H locs := by rw [hH, hL]; exact hS
  have hP : va_P D classes (wX cx aX aH aI aS aT ak aC aD (aC 0) (aD 0) aG db dn ql qf qz qi sp s1 s2 s3 s4 s5 sP sC sH tl kl kf cv cc cm ch dv dc dm dh gw gh gk gq gr gj gR gT gC) H := by rw [hH]; exact hP
  suffices hW : W p l e rmX4_digest s m ([.ref (aX 0)] : List Value).toArray below meth c H locs 0 0 (MQ below (kc_Pl D (fun _ : Unit => (wX cx aX aH aI aS aT ak aC aD (aC 0) (aD 0) aG db dn ql qf qz qi sp s1 s2 s3 s4 s5 sP sC sH tl kl kf cv cc cm ch dv dc dm dh gw gh gk gq gr gj gR gT gC)) v A) ([.ref (aX 0)] : List Value).toArray s 0 0 A) (F0 m 0 ls []) by rw [hH, hL] at hW; exact hW
  clear hH hL
  refine lv_ldc2 hx hb hown (hts _ wd_562) dX4_digest_0 ?_
  refine lv_lstore_n (lv' := [(1, .long (17 : Int64)), (0, .ref (aX 0))]) hx hb dX4_digest_3 rfl hl (by decide) rfl (fun ls hl => ?_)
  refine lv_iconst (v := (0 : Int32)) hx hb dX4_digest_4 (by decide) ?_
  refine lv_istore_n (lv' := [(3, .int (0 : Int32)), (1, .long (17 : Int64)), (0, .ref (aX 0))]) hx hb dX4_digest_5 rfl hl (by decide) rfl (fun ls hl => ?_)
  have L6 : ∀ (ct : Nat) (x1 : Int64) (x3 : Int32) (v6 : Int64), fX4_digest_L6 N dn gw gh gk gq gr gj ct x1 x3 = some v6 → ∀ (H : Heap) (locs : List Loc) (ls : Array Slot), va_P D classes (wX cx aX aH aI aS aT ak aC aD (aC 0) (aD 0) aG db dn ql qf qz qi sp s1 s2 s3 s4 s5 sP sC sH tl kl kf cv cc cm ch dv dc dm dh gw gh gk gq gr gj gR gT gC) H → va_D A (wX cx aX aH aI aS aT ak aC aD (aC 0) (aD 0) aG db dn ql qf qz qi sp s1 s2 s3 s4 s5 sP sC sH tl kl kf cv cc cm ch dv dc dm dh gw gh gk gq gr gj gR gT gC) → va_S A s.heap H locs → lv_has ls 4 [(0, .ref (aX 0)), (1, .long x1), (3, .int x3)] → (∀ (H : Heap) (locs : List Loc) (ls : Array Slot), va_P D classes (wX cx aX aH aI aS aT ak aC aD (aC 0) (aD 0) aG db dn ql qf qz qi sp s1 s2 s3 s4 s5 sP sC sH tl kl kf cv cc cm ch dv dc dm dh gw gh gk gq gr gj gR gT gC) H → va_D A (wX cx aX aH aI aS aT ak aC aD (aC 0) (aD 0) aG db dn ql qf qz qi sp s1 s2 s3 s4 s5 sP sC sH tl kl kf cv cc cm ch dv dc dm dh gw gh gk gq gr gj gR gT gC) → va_S A s.heap H locs → lv_has ls 4 [(0, .ref (aX 0)), (1, .long v6)] → W p l e rmX4_digest s m ([.ref (aX 0)] : List Value).toArray below meth c H locs 0 0 (MQ below (kc_Pl D (fun _ : Unit => (wX cx aX aH aI aS aT ak aC aD (aC 0) (aD 0) aG db dn ql qf qz qi sp s1 s2 s3 s4 s5 sP sC sH tl kl kf cv cc cm ch dv dc dm dh gw gh gk gq gr gj gR gT gC)) v A) ([.ref (aX 0)] : List Value).toArray s 0 0 A) (F0 m 30 ls [])) → W p l e rmX4_digest s m ([.ref (aX 0)] : List Value).toArray below meth c H locs 0 0 (MQ below (kc_Pl D (fun _ : Unit => (wX cx aX aH aI aS aT ak aC aD (aC 0) (aD 0) aG db dn ql qf qz qi sp s1 s2 s3 s4 s5 sP sC sH tl kl kf cv cc cm ch dv dc dm dh gw gh gk gq gr gj gR gT gC)) v A) ([.ref (aX 0)] : List Value).toArray s 0 0 A) (F0 m 6 ls []) := by
    intro ct
    induction ct with
    | zero =>
      intro x1 x3 v6 hf
      exact absurd (show (none : Option (Int64)) = some v6 from hf) (fun q => by cases q)
    | succ ct ih =>
      intro x1 x3 v6 hf H locs ls hP hD hS hl hE
      rw [fX4_digest_L6] at hf
      refine lv_iload_n hx hb dX4_digest_6 rfl (lv_at hl 2 rfl) ?_
      refine lv_iconst (v := (5 : Int32)) hx hb dX4_digest_7 (by decide) ?_
      refine lv_icmp_gt (tgt := 30) hx hb dX4_digest_8 (by decide) (fun c10 => ?_) (fun c10 => ?_)
      · replace hf := it_t c10 hf
        obtain rfl := Option.some.inj hf
        exact hE H locs ls hP hD hS (lv_sub hl [0, 1] rfl)
      · replace hf := it_f c10 hf
        refine lv_ldc2 hx hb hown (hts _ wd_563) dX4_digest_11 ?_
        refine lv_lload_n hx hb dX4_digest_14 rfl (lv_at hl 1 rfl) ?_
        refine lv_lmul hx hb dX4_digest_15 ?_
        refine lv_aload_n hx hb dX4_digest_16 rfl (lv_at hl 0 rfl) ?_
        refine lv_iload_n hx hb dX4_digest_17 rfl (lv_at hl 2 rfl) ?_
        obtain ⟨u11, hg, hf⟩ := ob_s hf
        refine kc_calli (wn := fun _ => (wX cx aX aH aI aS aT ak aC aD (aC 0) (aD 0) aG db dn ql qf qz qi sp s1 s2 s3 s4 s5 sP sC sH tl kl kf cv cc cm ch dv dc dm dh gw gh gk gq gr gj gR gT gC)) (va_runV (As := [.int x3]) (rest := [.long ((31 : Int64) * x1)]) ⟨hx, hb, hml, hown, hts⟩ (metX4_count l D cx aX aH aI aS aT ak aC aD aG db dn ql qf qz qi sp s1 s2 s3 s4 s5 sP sC sH tl kl kf cv cc cm ch dv dc dm dh gw gh gk gq gr gj gR gT gC x3 N H.size u11 hg) ⟨callB_of 1 hts (kc_gI wd_557) rfl rfl rfl (hts _ wd_40) (hts _ wd_564) (by decide +kernel) ⟨Nat.le_of_ble_eq_true rfl, Nat.le_of_ble_eq_true rfl⟩, hts _ wd_555, hts _ wd_556⟩ ⟨kc_blind _ _ _ _ _, va_recv hK hP (ci := 4) (q0 := 0) rfl rfl, kc_pre _ hK hN (hP.sub [0, 1, 2, 3, 4, 5, 6, 7, 8, 9, 10, 11, 12, 13, 14, 15, 16, 17, 18, 19, 20, 21, 22, 23, 24, 25, 26, 27, 28, 29, 30, 31, 32] rfl) (hD.sub [0, 1, 2, 3, 4, 5, 6, 7, 8, 9, 10, 11, 12, 13, 14, 15, 16, 17, 18, 19, 20, 21, 22, 23, 24, 25, 26, 27, 28, 29, 30, 31, 32] (by decide) rfl)⟩ rfl rfl hl.1 rfl (lv_room (Nat.le_of_ble_eq_true rfl)) dX4_digest_18 ⟨Nat.zero_le _, Nat.zero_le _⟩) hP hD hS hA [0, 1, 2, 3, 4, 5, 6, 7, 8, 9, 10, 11, 12, 13, 14, 15, 16, 17, 18, 19, 20, 21, 22, 23, 24, 25, 26, 27, 28, 29, 30, 31, 32] [] [0, 1, 2, 3, 4, 5, 6, 7, 8, 9, 10, 11, 12, 13, 14, 15, 16, 17, 18, 19, 20, 21, 22, 23, 24, 25, 26, 27, 28, 29, 30, 31, 32] rfl rfl (by decide) (by decide) (fun _ => rfl) (by decide) (fun _ H locs hP hD hS => ?_)
        have hP : va_P D classes (wX cx aX aH aI aS aT ak aC aD (aC 0) (aD 0) aG db dn ql qf qz qi sp s1 s2 s3 s4 s5 sP sC sH tl kl kf cv cc cm ch dv dc dm dh gw gh gk gq gr gj gR gT gC) H := hP
        have hD : va_D A (wX cx aX aH aI aS aT ak aC aD (aC 0) (aD 0) aG db dn ql qf qz qi sp s1 s2 s3 s4 s5 sP sC sH tl kl kf cv cc cm ch dv dc dm dh gw gh gk gq gr gj gR gT gC) := hD
        refine lv_i2l hx hb dX4_digest_21 rfl ?_
        refine lv_ladd hx hb dX4_digest_22 ?_
        refine lv_lstore_n (lv' := [(1, .long (((31 : Int64) * x1) + u11.toInt64)), (0, .ref (aX 0)), (3, .int x3)]) hx hb dX4_digest_23 rfl hl (by decide) rfl (fun ls hl => ?_)
        refine lv_iinc (v := (x3 + (1 : Int32))) (lv' := [(3, .int (x3 + (1 : Int32))), (1, .long (((31 : Int64) * x1) + u11.toInt64)), (0, .ref (aX 0))]) hx hb dX4_digest_24 hl (k := 2) rfl rfl (by decide) rfl (fun ls hl => ?_)
        refine lv_goto (tgt := 6) hx hb dX4_digest_27 (by decide) ?_
        exact ih (((31 : Int64) * x1) + u11.toInt64) (x3 + (1 : Int32)) _ hf H locs ls hP hD hS (lv_sub hl [2, 1, 0] rfl) hE
  obtain ⟨u12, hg, hf⟩ := ob_s hf
  refine L6 _ (17 : Int64) (0 : Int32) u12 hg H locs ls hP hD hS (lv_sub hl [2, 1, 0] rfl) (fun H locs ls hP hD hS hl => ?_)
  refine lv_iconst (v := (0 : Int32)) hx hb dX4_digest_30 (by decide) ?_
  refine lv_istore_n (lv' := [(3, .int (0 : Int32)), (0, .ref (aX 0)), (1, .long u12)]) hx hb dX4_digest_31 rfl hl (by decide) rfl (fun ls hl => ?_)
  have L32 : ∀ (ct : Nat) (x1 : Int64) (x3 : Int32) (v32 : Int64), fX4_digest_L32 N cv cm ch gw gh gq gr gR ct x1 x3 = some v32 → ∀ (H : Heap) (locs : List Loc) (ls : Array Slot), va_P D classes (wX cx aX aH aI aS aT ak aC aD (aC 0) (aD 0) aG db dn ql qf qz qi sp s1 s2 s3 s4 s5 sP sC sH tl kl kf cv cc cm ch dv dc dm dh gw gh gk gq gr gj gR gT gC) H → va_D A (wX cx aX aH aI aS aT ak aC aD (aC 0) (aD 0) aG db dn ql qf qz qi sp s1 s2 s3 s4 s5 sP sC sH tl kl kf cv cc cm ch dv dc dm dh gw gh gk gq gr gj gR gT gC) → va_S A s.heap H locs → lv_has ls 4 [(0, .ref (aX 0)), (1, .long x1), (3, .int x3)] → (∀ (H : Heap) (locs : List Loc) (ls : Array Slot), va_P D classes (wX cx aX aH aI aS aT ak aC aD (aC 0) (aD 0) aG db dn ql qf qz qi sp s1 s2 s3 s4 s5 sP sC sH tl kl kf cv cc cm ch dv dc dm dh gw gh gk gq gr gj gR gT gC) H → va_D A (wX cx aX aH aI aS aT ak aC aD (aC 0) (aD 0) aG db dn ql qf qz qi sp s1 s2 s3 s4 s5 sP sC sH tl kl kf cv cc cm ch dv dc dm dh gw gh gk gq gr gj gR gT gC) → va_S A s.heap H locs → lv_has ls 4 [(0, .ref (aX 0)), (1, .long v32)] → W p l e rmX4_digest s m ([.ref (aX 0)] : List Value).toArray below meth c H locs 0 0 (MQ below (kc_Pl D (fun _ : Unit => (wX cx aX aH aI aS aT ak aC aD (aC 0) (aD 0) aG db dn ql qf qz qi sp s1 s2 s3 s4 s5 sP sC sH tl kl kf cv cc cm ch dv dc dm dh gw gh gk gq gr gj gR gT gC)) v A) ([.ref (aX 0)] : List Value).toArray s 0 0 A) (F0 m 56 ls [])) → W p l e rmX4_digest s m ([.ref (aX 0)] : List Value).toArray below meth c H locs 0 0 (MQ below (kc_Pl D (fun _ : Unit => (wX cx aX aH aI aS aT ak aC aD (aC 0) (aD 0) aG db dn ql qf qz qi sp s1 s2 s3 s4 s5 sP sC sH tl kl kf cv cc cm ch dv dc dm dh gw gh gk gq gr gj gR gT gC)) v A) ([.ref (aX 0)] : List Value).toArray s 0 0 A) (F0 m 32 ls []) := by
    intro ct
    induction ct with
    | zero =>
      intro x1 x3 v32 hf
      exact absurd (show (none : Option (Int64)) = some v32 from hf) (fun q => by cases q)
    | succ ct ih =>
      intro x1 x3 v32 hf H locs ls hP hD hS hl hE
      rw [fX4_digest_L32] at hf
      refine lv_iload_n hx hb dX4_digest_32 rfl (lv_at hl 2 rfl) ?_
      refine lv_iconst (v := (4 : Int32)) hx hb dX4_digest_33 (by decide) ?_
      refine lv_icmp_gt (tgt := 56) hx hb dX4_digest_34 (by decide) (fun c15 => ?_) (fun c15 => ?_)
      · replace hf := it_t c15 hf
        obtain rfl := Option.some.inj hf
        exact hE H locs ls hP hD hS (lv_sub hl [0, 1] rfl)
      · replace hf := it_f c15 hf
        refine lv_ldc2 hx hb hown (hts _ wd_563) dX4_digest_37 ?_
        refine lv_lload_n hx hb dX4_digest_40 rfl (lv_at hl 1 rfl) ?_
        refine lv_lmul hx hb dX4_digest_41 ?_
        refine lv_aload_n hx hb dX4_digest_42 rfl (lv_at hl 0 rfl) ?_
        refine lv_iload_n hx hb dX4_digest_43 rfl (lv_at hl 2 rfl) ?_
        obtain ⟨u16, hg, hf⟩ := ob_s hf
        refine kc_calli (wn := fun _ => (wX cx aX aH aI aS aT ak aC aD (aC 0) (aD 0) aG db dn ql qf qz qi sp s1 s2 s3 s4 s5 sP sC sH tl kl kf cv cc cm ch dv dc dm dh gw gh gk gq gr gj gR gT gC)) (va_runV (As := [.int x3]) (rest := [.long ((31 : Int64) * x1)]) ⟨hx, hb, hml, hown, hts⟩ (metX4_game l D cx aX aH aI aS aT ak aC aD aG db dn ql qf qz qi sp s1 s2 s3 s4 s5 sP sC sH tl kl kf cv cc cm ch dv dc dm dh gw gh gk gq gr gj gR gT gC x3 N H.size u16 hg) ⟨callB_of 1 hts (kc_gI wd_321) rfl rfl rfl (hts _ wd_40) (hts _ wd_565) (by decide +kernel) ⟨Nat.le_of_ble_eq_true rfl, Nat.le_of_ble_eq_true rfl⟩, hts _ wd_319, hts _ wd_320⟩ ⟨kc_blind _ _ _ _ _, va_recv hK hP (ci := 4) (q0 := 0) rfl rfl, kc_pre _ hK hN (hP.sub [0, 1, 2, 3, 4, 5, 6, 7, 8, 9, 10, 11, 12, 13, 14, 15, 16, 17, 18, 19, 20, 21, 22, 23, 24, 25, 26, 27, 28, 29, 30, 31, 32] rfl) (hD.sub [0, 1, 2, 3, 4, 5, 6, 7, 8, 9, 10, 11, 12, 13, 14, 15, 16, 17, 18, 19, 20, 21, 22, 23, 24, 25, 26, 27, 28, 29, 30, 31, 32] (by decide) rfl)⟩ rfl rfl hl.1 rfl (lv_room (Nat.le_of_ble_eq_true rfl)) dX4_digest_44 ⟨Nat.zero_le _, Nat.zero_le _⟩) hP hD hS hA [0, 1, 2, 3, 4, 5, 6, 7, 8, 9, 10, 11, 12, 13, 14, 15, 16, 17, 18, 19, 20, 21, 22, 23, 24, 25, 26, 27, 28, 29, 30, 31, 32] [] [0, 1, 2, 3, 4, 5, 6, 7, 8, 9, 10, 11, 12, 13, 14, 15, 16, 17, 18, 19, 20, 21, 22, 23, 24, 25, 26, 27, 28, 29, 30, 31, 32] rfl rfl (by decide) (by decide) (fun _ => rfl) (by decide) (fun _ H locs hP hD hS => ?_)
        have hP : va_P D classes (wX cx aX aH aI aS aT ak aC aD (aC 0) (aD 0) aG db dn ql qf qz qi sp s1 s2 s3 s4 s5 sP sC sH tl kl kf cv cc cm ch dv dc dm dh gw gh gk gq gr gj gR gT gC) H := hP
        have hD : va_D A (wX cx aX aH aI aS aT ak aC aD (aC 0) (aD 0) aG db dn ql qf qz qi sp s1 s2 s3 s4 s5 sP sC sH tl kl kf cv cc cm ch dv dc dm dh gw gh gk gq gr gj gR gT gC) := hD
        refine lv_i2l hx hb dX4_digest_47 rfl ?_
        refine lv_ladd hx hb dX4_digest_48 ?_
        refine lv_lstore_n (lv' := [(1, .long (((31 : Int64) * x1) + u16.toInt64)), (0, .ref (aX 0)), (3, .int x3)]) hx hb dX4_digest_49 rfl hl (by decide) rfl (fun ls hl => ?_)
        refine lv_iinc (v := (x3 + (1 : Int32))) (lv' := [(3, .int (x3 + (1 : Int32))), (1, .long (((31 : Int64) * x1) + u16.toInt64)), (0, .ref (aX 0))]) hx hb dX4_digest_50 hl (k := 2) rfl rfl (by decide) rfl (fun ls hl => ?_)
        refine lv_goto (tgt := 32) hx hb dX4_digest_53 (by decide) ?_
        exact ih (((31 : Int64) * x1) + u16.toInt64) (x3 + (1 : Int32)) _ hf H locs ls hP hD hS (lv_sub hl [2, 1, 0] rfl) hE
  obtain ⟨u17, hg, hf⟩ := ob_s hf
  refine L32 _ u12 (0 : Int32) u17 hg H locs ls hP hD hS (lv_sub hl [1, 2, 0] rfl) (fun H locs ls hP hD hS hl => ?_)
  refine lv_iconst (v := (0 : Int32)) hx hb dX4_digest_56 (by decide) ?_
  refine lv_istore_n (lv' := [(3, .int (0 : Int32)), (0, .ref (aX 0)), (1, .long u17)]) hx hb dX4_digest_57 rfl hl (by decide) rfl (fun ls hl => ?_)
  have L58 : ∀ (ct : Nat) (x1 : Int64) (x3 : Int32) (v58 : Int64), fX4_digest_L58 N cv cc ct x1 x3 = some v58 → ∀ (H : Heap) (locs : List Loc) (ls : Array Slot), va_P D classes (wX cx aX aH aI aS aT ak aC aD (aC 0) (aD 0) aG db dn ql qf qz qi sp s1 s2 s3 s4 s5 sP sC sH tl kl kf cv cc cm ch dv dc dm dh gw gh gk gq gr gj gR gT gC) H → va_D A (wX cx aX aH aI aS aT ak aC aD (aC 0) (aD 0) aG db dn ql qf qz qi sp s1 s2 s3 s4 s5 sP sC sH tl kl kf cv cc cm ch dv dc dm dh gw gh gk gq gr gj gR gT gC) → va_S A s.heap H locs → lv_has ls 4 [(0, .ref (aX 0)), (1, .long x1), (3, .int x3)] → (∀ (H : Heap) (locs : List Loc) (ls : Array Slot), va_P D classes (wX cx aX aH aI aS aT ak aC aD (aC 0) (aD 0) aG db dn ql qf qz qi sp s1 s2 s3 s4 s5 sP sC sH tl kl kf cv cc cm ch dv dc dm dh gw gh gk gq gr gj gR gT gC) H → va_D A (wX cx aX aH aI aS aT ak aC aD (aC 0) (aD 0) aG db dn ql qf qz qi sp s1 s2 s3 s4 s5 sP sC sH tl kl kf cv cc cm ch dv dc dm dh gw gh gk gq gr gj gR gT gC) → va_S A s.heap H locs → lv_has ls 4 [(0, .ref (aX 0)), (1, .long v58)] → W p l e rmX4_digest s m ([.ref (aX 0)] : List Value).toArray below meth c H locs 0 0 (MQ below (kc_Pl D (fun _ : Unit => (wX cx aX aH aI aS aT ak aC aD (aC 0) (aD 0) aG db dn ql qf qz qi sp s1 s2 s3 s4 s5 sP sC sH tl kl kf cv cc cm ch dv dc dm dh gw gh gk gq gr gj gR gT gC)) v A) ([.ref (aX 0)] : List Value).toArray s 0 0 A) (F0 m 92 ls [])) → W p l e rmX4_digest s m ([.ref (aX 0)] : List Value).toArray below meth c H locs 0 0 (MQ below (kc_Pl D (fun _ : Unit => (wX cx aX aH aI aS aT ak aC aD (aC 0) (aD 0) aG db dn ql qf qz qi sp s1 s2 s3 s4 s5 sP sC sH tl kl kf cv cc cm ch dv dc dm dh gw gh gk gq gr gj gR gT gC)) v A) ([.ref (aX 0)] : List Value).toArray s 0 0 A) (F0 m 58 ls []) := by
    intro ct
    induction ct with
    | zero =>
      intro x1 x3 v58 hf
      exact absurd (show (none : Option (Int64)) = some v58 from hf) (fun q => by cases q)
    | succ ct ih =>
      intro x1 x3 v58 hf H locs ls hP hD hS hl hE
      rw [fX4_digest_L58] at hf
      refine lv_iload_n hx hb dX4_digest_58 rfl (lv_at hl 2 rfl) ?_
      refine lv_aload_n hx hb dX4_digest_59 rfl (lv_at hl 0 rfl) ?_
      refine va_get (D := D) (ci := 4) (v := .ref (aC 0)) (C := RX4) (T := TX4) (N := 7) hx hb hts iX4 hown hK hP 0 rfl rfl 3 (by decide) (hts _ wd_229) (fun _ h9 => h9) rfl dX4_digest_60 ?_
      refine va_get (D := D) (ci := 0) (v := .int cv) (C := RX0) (T := TX0) (N := 5) hx hb hts iX0 hown hK hP 21 rfl rfl 4 (by decide) (hts _ wd_189) (fun _ h9 => h9) rfl dX4_digest_63 ?_
      refine lv_icmp_ge (tgt := 92) hx hb dX4_digest_66 (by decide) (fun c19 => ?_) (fun c19 => ?_)
      · replace hf := it_t c19 hf
        obtain rfl := Option.some.inj hf
        exact hE H locs ls hP hD hS (lv_sub hl [0, 1] rfl)
      · replace hf := it_f c19 hf
        refine lv_ldc2 hx hb hown (hts _ wd_563) dX4_digest_69 ?_
        refine lv_lload_n hx hb dX4_digest_72 rfl (lv_at hl 1 rfl) ?_
        refine lv_lmul hx hb dX4_digest_73 ?_
        refine lv_aload_n hx hb dX4_digest_74 rfl (lv_at hl 0 rfl) ?_
        refine va_get (D := D) (ci := 4) (v := .ref (aC 0)) (C := RX4) (T := TX4) (N := 7) hx hb hts iX4 hown hK hP 0 rfl rfl 3 (by decide) (hts _ wd_229) (fun _ h9 => h9) rfl dX4_digest_75 ?_
        refine va_get (D := D) (ci := 0) (v := .ref (aC 1)) (C := RX0) (T := TX0) (N := 5) hx hb hts iX0 hown hK hP 21 rfl rfl 1 (by decide) (hts _ wd_183) (fun _ h9 => h9) rfl dX4_digest_78 ?_
        refine lv_iload_n hx hb dX4_digest_81 rfl (lv_at hl 2 rfl) ?_
        obtain ⟨hz, hf⟩ := okb_s hf
        refine va_iald (D := D) hx hb hK hP 22 0 rfl rfl (inb_s hz) dX4_digest_82 ?_
        refine lv_i2l hx hb dX4_digest_83 rfl ?_
        refine lv_ladd hx hb dX4_digest_84 ?_
        refine lv_lstore_n (lv' := [(1, .long (((31 : Int64) * x1) + (cc x3.toNatClampNeg).toInt64)), (0, .ref (aX 0)), (3, .int x3)]) hx hb dX4_digest_85 rfl hl (by decide) rfl (fun ls hl => ?_)
        refine lv_iinc (v := (x3 + (1 : Int32))) (lv' := [(3, .int (x3 + (1 : Int32))), (1, .long (((31 : Int64) * x1) + (cc x3.toNatClampNeg).toInt64)), (0, .ref (aX 0))]) hx hb dX4_digest_86 hl (k := 2) rfl rfl (by decide) rfl (fun ls hl => ?_)
        refine lv_goto (tgt := 58) hx hb dX4_digest_89 (by decide) ?_
        exact ih (((31 : Int64) * x1) + (cc x3.toNatClampNeg).toInt64) (x3 + (1 : Int32)) _ hf H locs ls hP hD hS (lv_sub hl [2, 1, 0] rfl) hE
  obtain ⟨u20, hg, hf⟩ := ob_s hf
  refine L58 _ u17 (0 : Int32) u20 hg H locs ls hP hD hS (lv_sub hl [1, 2, 0] rfl) (fun H locs ls hP hD hS hl => ?_)
  refine lv_iconst (v := (0 : Int32)) hx hb dX4_digest_92 (by decide) ?_
  refine lv_istore_n (lv' := [(3, .int (0 : Int32)), (0, .ref (aX 0)), (1, .long u20)]) hx hb dX4_digest_93 rfl hl (by decide) rfl (fun ls hl => ?_)
  have L94 : ∀ (ct : Nat) (x1 : Int64) (x3 : Int32) (v94 : Int64), fX4_digest_L94 N cm gq ct x1 x3 = some v94 → ∀ (H : Heap) (locs : List Loc) (ls : Array Slot), va_P D classes (wX cx aX aH aI aS aT ak aC aD (aC 0) (aD 0) aG db dn ql qf qz qi sp s1 s2 s3 s4 s5 sP sC sH tl kl kf cv cc cm ch dv dc dm dh gw gh gk gq gr gj gR gT gC) H → va_D A (wX cx aX aH aI aS aT ak aC aD (aC 0) (aD 0) aG db dn ql qf qz qi sp s1 s2 s3 s4 s5 sP sC sH tl kl kf cv cc cm ch dv dc dm dh gw gh gk gq gr gj gR gT gC) → va_S A s.heap H locs → lv_has ls 4 [(0, .ref (aX 0)), (1, .long x1), (3, .int x3)] → (∀ (H : Heap) (locs : List Loc) (ls : Array Slot), va_P D classes (wX cx aX aH aI aS aT ak aC aD (aC 0) (aD 0) aG db dn ql qf qz qi sp s1 s2 s3 s4 s5 sP sC sH tl kl kf cv cc cm ch dv dc dm dh gw gh gk gq gr gj gR gT gC) H → va_D A (wX cx aX aH aI aS aT ak aC aD (aC 0) (aD 0) aG db dn ql qf qz qi sp s1 s2 s3 s4 s5 sP sC sH tl kl kf cv cc cm ch dv dc dm dh gw gh gk gq gr gj gR gT gC) → va_S A s.heap H locs → lv_has ls 4 [(1, .long v94)] → W p l e rmX4_digest s m ([.ref (aX 0)] : List Value).toArray below meth c H locs 0 0 (MQ below (kc_Pl D (fun _ : Unit => (wX cx aX aH aI aS aT ak aC aD (aC 0) (aD 0) aG db dn ql qf qz qi sp s1 s2 s3 s4 s5 sP sC sH tl kl kf cv cc cm ch dv dc dm dh gw gh gk gq gr gj gR gT gC)) v A) ([.ref (aX 0)] : List Value).toArray s 0 0 A) (F0 m 127 ls [])) → W p l e rmX4_digest s m ([.ref (aX 0)] : List Value).toArray below meth c H locs 0 0 (MQ below (kc_Pl D (fun _ : Unit => (wX cx aX aH aI aS aT ak aC aD (aC 0) (aD 0) aG db dn ql qf qz qi sp s1 s2 s3 s4 s5 sP sC sH tl kl kf cv cc cm ch dv dc dm dh gw gh gk gq gr gj gR gT gC)) v A) ([.ref (aX 0)] : List Value).toArray s 0 0 A) (F0 m 94 ls []) := by
    intro ct
    induction ct with
    | zero =>
      intro x1 x3 v94 hf
      exact absurd (show (none : Option (Int64)) = some v94 from hf) (fun q => by cases q)
    | succ ct ih =>
      intro x1 x3 v94 hf H locs ls hP hD hS hl hE
      rw [fX4_digest_L94] at hf
      refine lv_iload_n hx hb dX4_digest_94 rfl (lv_at hl 2 rfl) ?_
      refine lv_aload_n hx hb dX4_digest_95 rfl (lv_at hl 0 rfl) ?_
      refine va_get (D := D) (ci := 4) (v := .ref (aG 0)) (C := RX4) (T := TX4) (N := 7) hx hb hts iX4 hown hK hP 0 rfl rfl 0 (by decide) (hts _ wd_226) (fun _ h9 => h9) rfl dX4_digest_96 ?_
      refine va_get (D := D) (ci := 1) (v := .int gq) (C := RX1) (T := TX1) (N := 9) hx hb hts iX1 hown hK hP 29 rfl rfl 3 (by decide) (hts _ wd_75) (fun _ h9 => h9) rfl dX4_digest_99 ?_
      refine lv_icmp_ge (tgt := 127) hx hb dX4_digest_102 (by decide) (fun c23 => ?_) (fun c23 => ?_)
      · replace hf := it_t c23 hf
        obtain rfl := Option.some.inj hf
        exact hE H locs ls hP hD hS (lv_sub hl [1] rfl)
      · replace hf := it_f c23 hf
        refine lv_ldc2 hx hb hown (hts _ wd_563) dX4_digest_105 ?_
        refine lv_lload_n hx hb dX4_digest_108 rfl (lv_at hl 1 rfl) ?_
        refine lv_lmul hx hb dX4_digest_109 ?_
        refine lv_aload_n hx hb dX4_digest_110 rfl (lv_at hl 0 rfl) ?_
        refine va_get (D := D) (ci := 4) (v := .ref (aC 0)) (C := RX4) (T := TX4) (N := 7) hx hb hts iX4 hown hK hP 0 rfl rfl 3 (by decide) (hts _ wd_229) (fun _ h9 => h9) rfl dX4_digest_111 ?_
        refine lv_iload_n hx hb dX4_digest_114 rfl (lv_at hl 2 rfl) ?_
        obtain ⟨u24, hg, hf⟩ := ob_s hf
        refine kc_calli (wn := fun _ => (wX cx aX aH aI aS aT ak aC aD (aC 0) (aD 0) aG db dn ql qf qz qi sp s1 s2 s3 s4 s5 sP sC sH tl kl kf cv cc cm ch dv dc dm dh gw gh gk gq gr gj gR gT gC)) (va_runV (As := [.int x3]) (rest := [.long ((31 : Int64) * x1)]) ⟨hx, hb, hml, hown, hts⟩ (metX0_manOn l D cx aC aG cv cc cm ch gw gh gk gq gr gj gR gT gC x3 N H.size u24 hg) ⟨callB_of 1 hts (kc_gI wd_317) rfl rfl rfl (hts _ wd_44) (hts _ wd_314) (by decide +kernel) ⟨Nat.le_of_ble_eq_true rfl, Nat.le_of_ble_eq_true rfl⟩, hts _ wd_315, hts _ wd_316⟩ ⟨kc_blind _ _ _ _ _, va_recv hK hP (ci := 0) (q0 := 21) rfl rfl, kc_pre _ hK hN (hP.sub [21, 22, 23, 24, 29, 30, 31, 32] rfl) (hD.sub [21, 22, 23, 24, 29, 30, 31, 32] (by decide) rfl)⟩ rfl rfl hl.1 rfl (lv_room (Nat.le_of_ble_eq_true rfl)) dX4_digest_115 ⟨Nat.zero_le _, Nat.zero_le _⟩) hP hD hS hA [21, 22, 23, 24, 29, 30, 31, 32] [0, 1, 2, 3, 4, 5, 6, 7, 8, 9, 10, 11, 12, 13, 14, 15, 16, 17, 18, 19, 20, 25, 26, 27, 28] [0, 1, 2, 3, 4, 5, 6, 7, 8, 9, 10, 11, 12, 13, 14, 15, 16, 17, 18, 19, 20, 25, 26, 27, 28, 21, 22, 23, 24, 29, 30, 31, 32] rfl rfl (by decide) (by decide) (fun _ => rfl) (by decide) (fun _ H locs hP hD hS => ?_)
        have hP : va_P D classes (wX cx aX aH aI aS aT ak aC aD (aC 0) (aD 0) aG db dn ql qf qz qi sp s1 s2 s3 s4 s5 sP sC sH tl kl kf cv cc cm ch dv dc dm dh gw gh gk gq gr gj gR gT gC) H := hP
        have hD : va_D A (wX cx aX aH aI aS aT ak aC aD (aC 0) (aD 0) aG db dn ql qf qz qi sp s1 s2 s3 s4 s5 sP sC sH tl kl kf cv cc cm ch dv dc dm dh gw gh gk gq gr gj gR gT gC) := hD
        refine lv_i2l hx hb dX4_digest_118 rfl ?_
        refine lv_ladd hx hb dX4_digest_119 ?_
        refine lv_lstore_n (lv' := [(1, .long (((31 : Int64) * x1) + u24.toInt64)), (0, .ref (aX 0)), (3, .int x3)]) hx hb dX4_digest_120 rfl hl (by decide) rfl (fun ls hl => ?_)
        refine lv_iinc (v := (x3 + (1 : Int32))) (lv' := [(3, .int (x3 + (1 : Int32))), (1, .long (((31 : Int64) * x1) + u24.toInt64)), (0, .ref (aX 0))]) hx hb dX4_digest_121 hl (k := 2) rfl rfl (by decide) rfl (fun ls hl => ?_)
        refine lv_goto (tgt := 94) hx hb dX4_digest_124 (by decide) ?_
        exact ih (((31 : Int64) * x1) + u24.toInt64) (x3 + (1 : Int32)) _ hf H locs ls hP hD hS (lv_sub hl [2, 1, 0] rfl) hE
  obtain ⟨u25, hg, hf⟩ := ob_s hf
  refine L94 _ u20 (0 : Int32) u25 hg H locs ls hP hD hS (lv_sub hl [1, 2, 0] rfl) (fun H locs ls hP hD hS hl => ?_)
  refine lv_lload_n hx hb dX4_digest_127 rfl (lv_at hl 0 rfl) ?_
  obtain rfl := Option.some.inj hf
  exact kc_lret () hx hb hr hk hP hD hS rfl dX4_digest_128
