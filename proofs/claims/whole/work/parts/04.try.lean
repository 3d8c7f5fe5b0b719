theorem wd_78 : (Cond.fieldLink "DropRows$Grid" 38 "DropRows$Grid" "rowCount" "I") ∈ kc_TB := kc_in 78 (by decide +kernel) (by decide +kernel)
theorem wd_82 : (Cond.fieldLink "DropRows$Grid" 11 "DropRows$Grid" "rows" "[I") ∈ kc_TB := kc_in 82 (by decide +kernel) (by decide +kernel)
theorem iX0 : ∀ w ∈ wsX00, w ∈ kc_TB := fun w h => List.mem_filter.mpr ⟨(by decide +kernel : ∀ w ∈ wsX00, w ∈ lw_tbl) w h, (by decide +kernel : ∀ w ∈ wsX00, goodWord w = true) w h⟩
theorem iX1 : ∀ w ∈ wsX10, w ∈ kc_TB := fun w h => List.mem_filter.mpr ⟨(by decide +kernel : ∀ w ∈ wsX10, w ∈ lw_tbl) w h, (by decide +kernel : ∀ w ∈ wsX10, goodWord w = true) w h⟩
theorem iX2 : ∀ w ∈ wsX20, w ∈ kc_TB := fun w h => List.mem_filter.mpr ⟨(by decide +kernel : ∀ w ∈ wsX20, w ∈ lw_tbl) w h, (by decide +kernel : ∀ w ∈ wsX20, goodWord w = true) w h⟩
theorem iX3 : ∀ w ∈ wsX30, w ∈ kc_TB := fun w h => List.mem_filter.mpr ⟨(by decide +kernel : ∀ w ∈ wsX30, w ∈ lw_tbl) w h, (by decide +kernel : ∀ w ∈ wsX30, goodWord w = true) w h⟩
theorem iX4 : ∀ w ∈ wsX40, w ∈ kc_TB := fun w h => List.mem_filter.mpr ⟨(by decide +kernel : ∀ w ∈ wsX40, w ∈ lw_tbl) w h, (by decide +kernel : ∀ w ∈ wsX40, goodWord w = true) w h⟩
theorem iX5 : ∀ w ∈ wsX50, w ∈ kc_TB := fun w h => List.mem_filter.mpr ⟨(by decide +kernel : ∀ w ∈ wsX50, w ∈ lw_tbl) w h, (by decide +kernel : ∀ w ∈ wsX50, goodWord w = true) w h⟩
theorem dX1_hasRow_0 : decode cX1_hasRow 0 = .ok (.iconst 0, 1) := by decide +kernel
theorem dX1_hasRow_1 : decode cX1_hasRow 1 = .ok (.istore_n 2, 1) := by decide +kernel
theorem dX1_hasRow_2 : decode cX1_hasRow 2 = .ok (.iload_n 2, 1) := by decide +kernel
theorem dX1_hasRow_3 : decode cX1_hasRow 3 = .ok (.aload_n 0, 1) := by decide +kernel
theorem dX1_hasRow_4 : decode cX1_hasRow 4 = .ok (.getfield 38, 3) := by decide +kernel
theorem dX1_hasRow_7 : decode cX1_hasRow 7 = .ok (.if_icmp .ge 28, 3) := by decide +kernel
theorem dX1_hasRow_10 : decode cX1_hasRow 10 = .ok (.iload_n 1, 1) := by decide +kernel
theorem dX1_hasRow_11 : decode cX1_hasRow 11 = .ok (.aload_n 0, 1) := by decide +kernel
theorem dX1_hasRow_12 : decode cX1_hasRow 12 = .ok (.getfield 11, 3) := by decide +kernel
theorem dX1_hasRow_15 : decode cX1_hasRow 15 = .ok (.iload_n 2, 1) := by decide +kernel
theorem dX1_hasRow_16 : decode cX1_hasRow 16 = .ok (.iaload, 1) := by decide +kernel
theorem dX1_hasRow_17 : decode cX1_hasRow 17 = .ok (.iand, 1) := by decide +kernel
theorem dX1_hasRow_18 : decode cX1_hasRow 18 = .ok (.aload_n 0, 1) := by decide +kernel
theorem dX1_hasRow_19 : decode cX1_hasRow 19 = .ok (.getfield 11, 3) := by decide +kernel
theorem dX1_hasRow_22 : decode cX1_hasRow 22 = .ok (.iload_n 2, 1) := by decide +kernel
theorem dX1_hasRow_23 : decode cX1_hasRow 23 = .ok (.iaload, 1) := by decide +kernel
theorem dX1_hasRow_24 : decode cX1_hasRow 24 = .ok (.if_icmp .ne 5, 3) := by decide +kernel
theorem dX1_hasRow_27 : decode cX1_hasRow 27 = .ok (.iconst 1, 1) := by decide +kernel
theorem dX1_hasRow_28 : decode cX1_hasRow 28 = .ok (.ireturn, 1) := by decide +kernel
theorem dX1_hasRow_29 : decode cX1_hasRow 29 = .ok (.iinc 2 1, 3) := by decide +kernel
theorem dX1_hasRow_32 : decode cX1_hasRow 32 = .ok (.goto (-30), 3) := by decide +kernel
theorem dX1_hasRow_35 : decode cX1_hasRow 35 = .ok (.iconst 0, 1) := by decide +kernel
theorem dX1_hasRow_36 : decode cX1_hasRow 36 = .ok (.ireturn, 1) := by decide +kernel
theorem dX4_isWithin_0 : decode cX4_isWithin 0 = .ok (.iload_n 0, 1) := by decide +kernel
theorem dX4_isWithin_1 : decode cX4_isWithin 1 = .ok (.iload_n 1, 1) := by decide +kernel
theorem dX4_isWithin_2 : decode cX4_isWithin 2 = .ok (.if_icmp .lt 12, 3) := by decide +kernel
theorem dX4_isWithin_5 : decode cX4_isWithin 5 = .ok (.iload_n 0, 1) := by decide +kernel
theorem dX4_isWithin_6 : decode cX4_isWithin 6 = .ok (.iload_n 2, 1) := by decide +kernel
theorem dX4_isWithin_7 : decode cX4_isWithin 7 = .ok (.if_icmp .gt 7, 3) := by decide +kernel
theorem dX4_isWithin_10 : decode cX4_isWithin 10 = .ok (.iconst 1, 1) := by decide +kernel
theorem dX4_isWithin_11 : decode cX4_isWithin 11 = .ok (.goto 4, 3) := by decide +kernel
theorem dX4_isWithin_14 : decode cX4_isWithin 14 = .ok (.iconst 0, 1) := by decide +kernel
theorem dX4_isWithin_15 : decode cX4_isWithin 15 = .ok (.ireturn, 1) := by decide +kernel
def wG (cx : Nat → ClassId) (aG : Nat → Nat) (gw : Int32) (gh : Int32) (gk : Int32) (gq : Int32) (gr : Int32) (gj : Int32) (gR : Nat → Int32) (gT : Nat → Int32) (gC : Nat → Int32) : va_W := [(aG 0, .inr (1, [.int gw, .int gh, .int gk, .int gq, .int gr, .int gj, .ref (aG 1), .ref (aG 2), .ref (aG 3)])), (aG 1, .inl (cx 0, 64, .inl gR)), (aG 2, .inl (cx 0, 256, .inl gT)), (aG 3, .inl (cx 0, 16, .inl gC))]
def fX1_hasRow_L2 (N : Nat) (gr : Int32) (gR : Nat → Int32) (x1 : Int32) : Nat → Int32 → Option ((Int32) ⊕ (Unit))
  | 0, _ => none
  | ct + 1, x2 => if gr ≤ x2 then (some (.inr ())) else (okb (inb x2 64) (okb (inb x2 64) (if (x1 &&& (gR x2.toNatClampNeg)) = (gR x2.toNatClampNeg) then (some (.inl (1 : Int32))) else (fX1_hasRow_L2 N gr gR x1 ct (x2 + (1 : Int32))))))
def fX1_hasRow (N : Nat) (gr : Int32) (gR : Nat → Int32) (x1 : Int32) : Option (Int32) := Option.bind (fX1_hasRow_L2 N gr gR x1 N (0 : Int32)) (fun u7 => onS u7 (fun r9 => some r9) (fun e8 => some (0 : Int32)))
abbrev rmX1_hasRow : Room := { frames := 0, cells := 0, slots := 0, locals := 0 }
set_option maxHeartbeats 4000000 in
set_option maxRecDepth 100000 in
theorem metX1_hasRow (l : Launch) (D : va_G) (cx : Nat → ClassId) (aG : Nat → Nat) (gw : Int32) (gh : Int32) (gk : Int32) (gq : Int32) (gr : Int32) (gj : Int32) (gR : Nat → Int32) (gT : Nat → Int32) (gC : Nat → Int32) (x1 : Int32) (N sz : Nat) (v : Int32) (hf : fX1_hasRow N gr gR x1 = some v) : Met l yX1_hasRow (.code yX1_hasRow cX1_hasRow 3 (some .boolean) :: kc_TB) rmX1_hasRow (kc_Pre D cx (wG cx aG gw gh gk gq gr gj gR gT gC) [.ref (aG 0), .int x1] sz) (kc_Pi D (fun _ : Unit => (wG cx aG gw gh gk gq gr gj gR gT gC)) v (va_A (wG cx aG gw gh gk gq gr gj gR gT gC) sz)) 0 0 (va_A (wG cx aG gw gh gk gq gr gj gR gT gC) sz) := by
  refine kc_entry (Qc := fun A => (kc_Pi D (fun _ : Unit => (wG cx aG gw gh gk gq gr gj gR gT gC)) v A)) (by decide) (Nat.le_of_ble_eq_true rfl) ?_
  intro p e s m below meth c A hx hb hr hk hml hown hin hts hN hK hP hD hS hA ls hl
  have hown : s.vm.findClass RX1 = some m.cls := hown
  have hl : lv_has ls 3 [(0, .ref (aG 0)), (1, .int x1)] := hl
  unfold fX1_hasRow at hf
  have hP : va_P D classes (wG cx aG gw gh gk gq gr gj gR gT gC) s.heap := hP
  obtain ⟨H, hH⟩ : ∃ H, H = s.heap := ⟨_, rfl⟩
  obtain ⟨locs, hL⟩ : ∃ locs : List Loc, locs = [] := ⟨_, rfl⟩
  have hS : va_S A s.heap H locs := by rw [hH, hL]; exact hS
  have hP : va_P D classes (wG cx aG gw gh gk gq gr gj gR gT gC) H := by rw [hH]; exact hP
  suffices hW : W p l e rmX1_hasRow s m ([.ref (aG 0), .int x1] : List Value).toArray below meth c H locs 0 0 (MQ below (kc_Pi D (fun _ : Unit => (wG cx aG gw gh gk gq gr gj gR gT gC)) v A) ([.ref (aG 0), .int x1] : List Value).toArray s 0 0 A) (F0 m 0 ls []) by rw [hH, hL] at hW; exact hW
  clear hH hL
  refine lv_iconst (v := (0 : Int32)) hx hb dX1_hasRow_0 (by decide) ?_
  refine lv_istore_n (lv' := [(2, .int (0 : Int32)), (0, .ref (aG 0)), (1, .int x1)]) hx hb dX1_hasRow_1 rfl hl (by decide) rfl (fun ls hl => ?_)
  have L2 : ∀ (ct : Nat) (x2 : Int32) (v2 : (Int32) ⊕ (Unit)), fX1_hasRow_L2 N gr gR x1 ct x2 = some v2 → ∀ (H : Heap) (locs : List Loc) (ls : Array Slot), va_P D classes (wG cx aG gw gh gk gq gr gj gR gT gC) H → va_D A (wG cx aG gw gh gk gq gr gj gR gT gC) → va_S A s.heap H locs → lv_has ls 3 [(0, .ref (aG 0)), (1, .int x1), (2, .int x2)] → (∀ (e2 : Unit), v2 = .inr e2 → ∀ (H : Heap) (locs : List Loc) (ls : Array Slot), va_P D classes (wG cx aG gw gh gk gq gr gj gR gT gC) H → va_D A (wG cx aG gw gh gk gq gr gj gR gT gC) → va_S A s.heap H locs → lv_has ls 3 [] → W p l e rmX1_hasRow s m ([.ref (aG 0), .int x1] : List Value).toArray below meth c H locs 0 0 (MQ below (kc_Pi D (fun _ : Unit => (wG cx aG gw gh gk gq gr gj gR gT gC)) v A) ([.ref (aG 0), .int x1] : List Value).toArray s 0 0 A) (F0 m 35 ls [])) → (∀ (r2 : Int32), v2 = .inl r2 → ∀ (pc : Nat) (H : Heap) (locs : List Loc) (ls : Array Slot), narrow .boolean (.int r2) = .int r2 → va_P D classes (wG cx aG gw gh gk gq gr gj gR gT gC) H → va_D A (wG cx aG gw gh gk gq gr gj gR gT gC) → va_S A s.heap H locs → decode cX1_hasRow pc = .ok (.ireturn, 1) → W p l e rmX1_hasRow s m ([.ref (aG 0), .int x1] : List Value).toArray below meth c H locs 0 0 (MQ below (kc_Pi D (fun _ : Unit => (wG cx aG gw gh gk gq gr gj gR gT gC)) v A) ([.ref (aG 0), .int x1] : List Value).toArray s 0 0 A) (F0 m pc ls [.int r2])) → W p l e rmX1_hasRow s m ([.ref (aG 0), .int x1] : List Value).toArray below meth c H locs 0 0 (MQ below (kc_Pi D (fun _ : Unit => (wG cx aG gw gh gk gq gr gj gR gT gC)) v A) ([.ref (aG 0), .int x1] : List Value).toArray s 0 0 A) (F0 m 2 ls []) := by
    intro ct
    induction ct with
    | zero =>
      intro x2 v2 hf
      exact absurd (show (none : Option ((Int32) ⊕ (Unit))) = some v2 from hf) (fun q => by cases q)
    | succ ct ih =>
      intro x2 v2 hf H locs ls hP hD hS hl hE hR
      rw [fX1_hasRow_L2] at hf
      refine lv_iload_n hx hb dX1_hasRow_2 rfl (lv_at hl 2 rfl) ?_
      refine lv_aload_n hx hb dX1_hasRow_3 rfl (lv_at hl 0 rfl) ?_
      refine va_get (D := D) (ci := 1) (v := .int gr) (C := RX1) (T := TX1) (N := 9) hx hb hts iX1 hown hK hP 0 rfl rfl 4 (by decide) (hts _ wd_78) (fun _ h9 => h9) rfl dX1_hasRow_4 ?_
      refine lv_icmp_ge (tgt := 35) hx hb dX1_hasRow_7 (by decide) (fun c5 => ?_) (fun c5 => ?_)
      · replace hf := it_t c5 hf
        obtain rfl := Option.some.inj hf
        exact hE _ rfl H locs ls hP hD hS (lv_sub hl [] rfl)
      · replace hf := it_f c5 hf
        refine lv_iload_n hx hb dX1_hasRow_10 rfl (lv_at hl 1 rfl) ?_
        refine lv_aload_n hx hb dX1_hasRow_11 rfl (lv_at hl 0 rfl) ?_
        refine va_get (D := D) (ci := 1) (v := .ref (aG 1)) (C := RX1) (T := TX1) (N := 9) hx hb hts iX1 hown hK hP 0 rfl rfl 6 (by decide) (hts _ wd_82) (fun _ h9 => h9) rfl dX1_hasRow_12 ?_
        refine lv_iload_n hx hb dX1_hasRow_15 rfl (lv_at hl 2 rfl) ?_
        obtain ⟨hz, hf⟩ := okb_s hf
        refine va_iald (D := D) hx hb hK hP 1 0 rfl rfl (inb_s hz) dX1_hasRow_16 ?_
        refine lv_iand hx hb dX1_hasRow_17 ?_
        refine lv_aload_n hx hb dX1_hasRow_18 rfl (lv_at hl 0 rfl) ?_
        refine va_get (D := D) (ci := 1) (v := .ref (aG 1)) (C := RX1) (T := TX1) (N := 9) hx hb hts iX1 hown hK hP 0 rfl rfl 6 (by decide) (hts _ wd_82) (fun _ h9 => h9) rfl dX1_hasRow_19 ?_
        refine lv_iload_n hx hb dX1_hasRow_22 rfl (lv_at hl 2 rfl) ?_
        obtain ⟨hz, hf⟩ := okb_s hf
        refine va_iald (D := D) hx hb hK hP 1 0 rfl rfl (inb_s hz) dX1_hasRow_23 ?_
        refine lv_icmp_ne (tgt := 29) hx hb dX1_hasRow_24 (by decide) (fun c6 => ?_) (fun c6 => ?_)
        · replace hf := it_f c6 hf
          refine lv_iinc (v := (x2 + (1 : Int32))) (lv' := [(2, .int (x2 + (1 : Int32))), (0, .ref (aG 0)), (1, .int x1)]) hx hb dX1_hasRow_29 hl (k := 2) rfl rfl (by decide) rfl (fun ls hl => ?_)
          refine lv_goto (tgt := 2) hx hb dX1_hasRow_32 (by decide) ?_
          exact ih (x2 + (1 : Int32)) _ hf H locs ls hP hD hS (lv_sub hl [1, 2, 0] rfl) hE hR
        · replace hf := it_t c6 hf
          refine lv_iconst (v := (1 : Int32)) hx hb dX1_hasRow_27 (by decide) ?_
          obtain rfl := Option.some.inj hf
          exact hR _ rfl _ H locs ls rfl hP hD hS dX1_hasRow_28
  obtain ⟨u7, hg, hf⟩ := ob_s hf
  refine L2 _ (0 : Int32) u7 hg H locs ls hP hD hS (lv_sub hl [1, 2, 0] rfl) (fun e8 ee H locs ls hP hD hS hl => ?_) (fun r9 ee pc H locs ls hz hP hD hS hd => ?_)
  · subst ee
    replace hf := onS_r hf
    refine lv_iconst (v := (0 : Int32)) hx hb dX1_hasRow_35 (by decide) ?_
    obtain rfl := Option.some.inj hf
    exact kc_zret () hx hb hr hk hP hD hS rfl rfl dX1_hasRow_36
  · subst ee
    replace hf := onS_l hf
    obtain rfl := Option.some.inj hf
    exact kc_zret () hx hb hr hk hP hD hS rfl hz hd
def fX4_isWithin (N : Nat)  (x0 : Int32) (x1 : Int32) (x2 : Int32) : Option (Int32) := if x0 < x1 then (some (0 : Int32)) else (if x2 < x0 then (some (0 : Int32)) else (some (1 : Int32)))
abbrev rmX4_isWithin : Room := { frames := 0, cells := 0, slots := 0, locals := 0 }
set_option maxHeartbeats 4000000 in
set_option maxRecDepth 100000 in
theorem metX4_isWithin (l : Launch) (D : va_G) (cx : Nat → ClassId)   (x0 : Int32) (x1 : Int32) (x2 : Int32) (N sz : Nat) (v : Int32) (hf : fX4_isWithin N x0 x1 x2 = some v) : Met l yX4_isWithin (.code yX4_isWithin cX4_isWithin 3 (some .boolean) :: kc_TB) rmX4_isWithin (kc_Pre D cx ([] : va_W) [.int x0, .int x1, .int x2] sz) (kc_Pi D (fun _ : Unit => ([] : va_W)) v (va_A ([] : va_W) sz)) 0 0 (va_A ([] : va_W) sz) := by
  refine kc_entry (Qc := fun A => (kc_Pi D (fun _ : Unit => ([] : va_W)) v A)) (by decide) (Nat.le_of_ble_eq_true rfl) ?_
  intro p e s m below meth c A hx hb hr hk hml hown hin hts hN hK hP hD hS hA ls hl
  have hown : s.vm.findClass RX4 = some m.cls := hown
  have hl : lv_has ls 3 [(0, .int x0), (1, .int x1), (2, .int x2)] := hl
  unfold fX4_isWithin at hf
  have hP : va_P D classes ([] : va_W) s.heap := hP
  obtain ⟨H, hH⟩ : ∃ H, H = s.heap := ⟨_, rfl⟩
  obtain ⟨locs, hL⟩ : ∃ locs : List Loc, locs = [] := ⟨_, rfl⟩
  have hS : va_S A s.heap H locs := by rw [hH, hL]; exact hS
  have hP : va_P D classes ([] : va_W) H := by rw [hH]; exact hP
  suffices hW : W p l e rmX4_isWithin s m ([.int x0, .int x1, .int x2] : List Value).toArray below meth c H locs 0 0 (MQ below (kc_Pi D (fun _ : Unit => ([] : va_W)) v A) ([.int x0, .int x1, .int x2] : List Value).toArray s 0 0 A) (F0 m 0 ls []) by rw [hH, hL] at hW; exact hW
  clear hH hL
  refine lv_iload_n hx hb dX4_isWithin_0 rfl (lv_at hl 0 rfl) ?_
  refine lv_iload_n hx hb dX4_isWithin_1 rfl (lv_at hl 1 rfl) ?_
  refine lv_icmp_lt (tgt := 14) hx hb dX4_isWithin_2 (by decide) (fun c3 => ?_) (fun c3 => ?_)
  · replace hf := it_t c3 hf
    refine lv_iconst (v := (0 : Int32)) hx hb dX4_isWithin_14 (by decide) ?_
    obtain rfl := Option.some.inj hf
    exact kc_zret () hx hb hr hk hP hD hS rfl rfl dX4_isWithin_15
  · replace hf := it_f c3 hf
    refine lv_iload_n hx hb dX4_isWithin_5 rfl (lv_at hl 0 rfl) ?_
    refine lv_iload_n hx hb dX4_isWithin_6 rfl (lv_at hl 2 rfl) ?_
    refine lv_icmp_gt (tgt := 14) hx hb dX4_isWithin_7 (by decide) (fun c4 => ?_) (fun c4 => ?_)
    · replace hf := it_t c4 hf
      refine lv_iconst (v := (0 : Int32)) hx hb dX4_isWithin_14 (by decide) ?_
      obtain rfl := Option.some.inj hf
      exact kc_zret () hx hb hr hk hP hD hS rfl rfl dX4_isWithin_15
    · replace hf := it_f c4 hf
      refine lv_iconst (v := (1 : Int32)) hx hb dX4_isWithin_10 (by decide) ?_
      refine lv_goto (tgt := 15) hx hb dX4_isWithin_11 (by decide) ?_
      obtain rfl := Option.some.inj hf
      exact kc_zret () hx hb hr hk hP hD hS rfl rfl dX4_isWithin_15
