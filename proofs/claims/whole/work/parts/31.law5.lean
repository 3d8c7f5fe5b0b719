/-! the law, call by call -/
set_option maxHeartbeats 8000000 in
set_option maxRecDepth 100000 in
theorem lc_17 {p : Program} {l : Launch} {e : Env} {s : State} {m : MethodId} {below : List Frame} {meth : Method} {c : Code} {b L : Nat} {xs : Nat → Int32} {D : va_G} {cx : Nat → ClassId} {N : Nat} {x3 : Int32} (hx : p.tables.exec = Jvm.exec) (hb : c.code = code) (hml : c.maxLocals = 4) (hown : s.vm.findClass R_law = some m.cls) (htb : ∀ w ∈ kc_TB, w.before #[Value.ref b] s = true) (hNW : kc_NW s) (hK : va_K D classes (kc_TY cx) s) (hX : va_X b L xs s s.heap) (hbl : b < s.heap.size) (hNN : N = 4194304) (hin : ∀ j : Nat, j < 6 → vp_in (x3 + Int32.ofNat j) L) (hT : lw_G p l e s m below meth c b D cx N x3 921) : lw_G p l e s m below meth c b D cx N x3 557 := by
  intro aX aH aI aS aT ak aC aD aG aM db dn ql qf qz qi sp s1 s2 s3 s4 s5 sP sC sH tl kl kf cv cc cm ch dv dc dm dh gw gh gk gq gr gj gR gT gC xw xh xk xj xb xr xc xv xn xl yR yT yC yW yA yE yU yM yV yF yZ yI yD cl sl H locs ls hI hc1 hc2 hP hD hS hl
  have hA : ∀ q : Nat, s.heap.size ≤ q → (fun q : Nat => s.heap.size ≤ q) q := fun _ h => h
  have hbA : ¬ (fun q : Nat => s.heap.size ≤ q) b := Nat.not_le.mpr hbl
  refine lv_aload_n hx hb dL_law_557 rfl (lv_at hl 1 rfl) ?_
  refine lv_aload_n hx hb dL_law_558 rfl (lv_at hl 0 rfl) ?_
  refine lv_iload_n hx hb dL_law_559 rfl (lv_at hl 3 rfl) ?_
  refine lv_iconst (v := (1 : Int32)) hx hb dL_law_560 (by decide) ?_
  refine lv_iadd hx hb dL_law_561 ?_
  refine va_sld hx hb hX hbl hbA hS (hin 1 (by decide)) dL_law_562 ?_
  refine lv_aload_n hx hb dL_law_563 rfl (lv_at hl 0 rfl) ?_
  refine lv_iload_n hx hb dL_law_564 rfl (lv_at hl 3 rfl) ?_
  refine lv_iconst (v := (2 : Int32)) hx hb dL_law_565 (by decide) ?_
  refine lv_iadd hx hb dL_law_566 ?_
  refine va_sld hx hb hX hbl hbA hS (hin 2 (by decide)) dL_law_567 ?_
  obtain ⟨u, w, kk, hu, hw, he, hpt, hI⟩ := st_threat hNN hI (xs (x3 + (1 : Int32)).toNatClampNeg) (xs (x3 + (2 : Int32)).toNatClampNeg)
  refine tw_iA rfl rfl (fun _ => rfl) (va_runV (As := [.int (xs (x3 + (1 : Int32)).toNatClampNeg), .int (xs (x3 + (2 : Int32)).toNatClampNeg)]) (rest := []) ⟨hx, hb, hml, hown, htb⟩ (metX4_threat l D cx aX aH aI aS aT ak aC aD aG db dn ql qf qz qi sp s1 s2 s3 s4 s5 sP sC sH tl kl kf cv cc cm ch dv dc dm dh gw gh gk gq gr gj gR gT gC (xs (x3 + (1 : Int32)).toNatClampNeg) (xs (x3 + (2 : Int32)).toNatClampNeg) N H.size u hu) ⟨callB_of 2 htb (kc_gI wd_475) rfl rfl rfl (htb _ wd_40) (htb _ wd_472) (by decide +kernel) ⟨Nat.le_of_ble_eq_true rfl, Nat.le_of_ble_eq_true rfl⟩, htb _ wd_473, htb _ wd_474⟩ ⟨kc_blind _ _ _ _ _, va_recv hK (tw_PA hP) (ci := 4) (q0 := 0) rfl rfl, kc_pre _ hK hNW (tw_PA hP) (tw_DA rfl hD)⟩ rfl rfl hl.1 rfl (lv_room (Nat.le_of_ble_eq_true rfl)) dL_law_568 ⟨by show cl + 0 ≤ 600000; omega, by show sl + 0 ≤ 7302250; omega⟩) hP hD hS hA (fun _ H locs hP hD hS => ?_)
  have hP : va_P D classes ((wX cx aX aH aI aS aT ak aC aD (aC 0) (aD 0) aG db dn ql qf qz qi sp s1 s2 s3 s4 s5 sP sC sH tl kl kf cv cc cm ch dv dc dm dh gw gh gk gq gr gj gR gT gC) ++ (wM cx aM xw xh xk xj xb xr xc xv xn xl yR yT yC yW yA yE yU yM yV yF yZ yI yD)) H := hP
  have hD : va_D (fun q : Nat => s.heap.size ≤ q) ((wX cx aX aH aI aS aT ak aC aD (aC 0) (aD 0) aG db dn ql qf qz qi sp s1 s2 s3 s4 s5 sP sC sH tl kl kf cv cc cm ch dv dc dm dh gw gh gk gq gr gj gR gT gC) ++ (wM cx aM xw xh xk xj xb xr xc xv xn xl yR yT yC yW yA yE yU yM yV yF yZ yI yD)) := hD
  refine lv_aload_n hx hb dL_law_571 rfl (lv_at hl 2 rfl) ?_
  refine lv_aload_n hx hb dL_law_572 rfl (lv_at hl 0 rfl) ?_
  refine lv_iload_n hx hb dL_law_573 rfl (lv_at hl 3 rfl) ?_
  refine lv_iconst (v := (1 : Int32)) hx hb dL_law_574 (by decide) ?_
  refine lv_iadd hx hb dL_law_575 ?_
  refine va_sld hx hb hX hbl hbA hS (hin 1 (by decide)) dL_law_576 ?_
  refine lv_aload_n hx hb dL_law_577 rfl (lv_at hl 0 rfl) ?_
  refine lv_iload_n hx hb dL_law_578 rfl (lv_at hl 3 rfl) ?_
  refine lv_iconst (v := (2 : Int32)) hx hb dL_law_579 (by decide) ?_
  refine lv_iadd hx hb dL_law_580 ?_
  refine va_sld hx hb hX hbl hbA hS (hin 2 (by decide)) dL_law_581 ?_
  refine tw_iB rfl rfl (fun _ => rfl) (va_runV (As := [.int (xs (x3 + (1 : Int32)).toNatClampNeg), .int (xs (x3 + (2 : Int32)).toNatClampNeg)]) (rest := [.int u]) ⟨hx, hb, hml, hown, htb⟩ (metX5_threat l D cx aM xw xh xk xj xb xr xc xv xn xl yR yT yC yW yA yE yU yM yV yF yZ yI yD (xs (x3 + (1 : Int32)).toNatClampNeg) (xs (x3 + (2 : Int32)).toNatClampNeg) N H.size w hw) ⟨callB_of 2 htb (kc_gI wd_813) rfl rfl rfl (htb _ wd_46) (htb _ wd_810) (by decide +kernel) ⟨Nat.le_of_ble_eq_true rfl, Nat.le_of_ble_eq_true rfl⟩, htb _ wd_811, htb _ wd_812⟩ ⟨kc_blind _ _ _ _ _, va_recv hK (tw_PB hP) (ci := 5) (q0 := 0) rfl rfl, kc_pre _ hK hNW (tw_PB hP) (tw_DB rfl rfl hD)⟩ rfl rfl hl.1 rfl (lv_room (Nat.le_of_ble_eq_true rfl)) dL_law_582 ⟨by show cl + 0 + 0 ≤ 600000; omega, by show sl + 0 + 0 ≤ 7302250; omega⟩) hP hD hS hA (fun _ H locs hP hD hS => ?_)
  have hP : va_P D classes ((wX cx aX aH aI aS aT ak aC aD (aC 0) (aD 0) aG db dn ql qf qz qi sp s1 s2 s3 s4 s5 sP sC sH tl kl kf cv cc cm ch dv dc dm dh gw gh gk gq gr gj gR gT gC) ++ (wM cx aM xw xh xk xj xb xr w.2.1 xv xn xl yR yT yC yW yA yE yU w.2.2 yV yF yZ yI yD)) H := hP
  have hD : va_D (fun q : Nat => s.heap.size ≤ q) ((wX cx aX aH aI aS aT ak aC aD (aC 0) (aD 0) aG db dn ql qf qz qi sp s1 s2 s3 s4 s5 sP sC sH tl kl kf cv cc cm ch dv dc dm dh gw gh gk gq gr gj gR gT gC) ++ (wM cx aM xw xh xk xj xb xr w.2.1 xv xn xl yR yT yC yW yA yE yU w.2.2 yV yF yZ yI yD)) := hD
  refine lv_icmp_eq (tgt := 921) hx hb dL_law_585 (by decide) (fun _ => ?_) (fun q => absurd he q)
  exact hT aX aH aI aS aT ak aC aD aG aM db dn ql qf qz qi sp s1 s2 s3 s4 s5 sP sC sH tl kl kf cv cc cm ch dv dc dm dh gw gh gk gq gr gj gR gT gC xw xh xk xj xb xr w.2.1 xv xn xl yR yT yC yW yA yE yU w.2.2 yV yF yZ yI yD (cl + 0 + 0) (sl + 0 + 0) H locs ls hI (pot_cl0 hc1 hpt) (pot_sl0 hc2 hpt) hP hD hS hl
set_option maxHeartbeats 8000000 in
set_option maxRecDepth 100000 in
theorem lc_18 {p : Program} {l : Launch} {e : Env} {s : State} {m : MethodId} {below : List Frame} {meth : Method} {c : Code} {b L : Nat} {xs : Nat → Int32} {D : va_G} {cx : Nat → ClassId} {N : Nat} {x3 : Int32} (hx : p.tables.exec = Jvm.exec) (hb : c.code = code) (hml : c.maxLocals = 4) (hown : s.vm.findClass R_law = some m.cls) (htb : ∀ w ∈ kc_TB, w.before #[Value.ref b] s = true) (hNW : kc_NW s) (hK : va_K D classes (kc_TY cx) s) (hX : va_X b L xs s s.heap) (hbl : b < s.heap.size) (hNN : N = 4194304) (hin : ∀ j : Nat, j < 6 → vp_in (x3 + Int32.ofNat j) L) (hT : lw_G p l e s m below meth c b D cx N x3 921) : lw_G p l e s m below meth c b D cx N x3 590 := by
  intro aX aH aI aS aT ak aC aD aG aM db dn ql qf qz qi sp s1 s2 s3 s4 s5 sP sC sH tl kl kf cv cc cm ch dv dc dm dh gw gh gk gq gr gj gR gT gC xw xh xk xj xb xr xc xv xn xl yR yT yC yW yA yE yU yM yV yF yZ yI yD cl sl H locs ls hI hc1 hc2 hP hD hS hl
  have hA : ∀ q : Nat, s.heap.size ≤ q → (fun q : Nat => s.heap.size ≤ q) q := fun _ h => h
  have hbA : ¬ (fun q : Nat => s.heap.size ≤ q) b := Nat.not_le.mpr hbl
  refine lv_aload_n hx hb dL_law_590 rfl (lv_at hl 1 rfl) ?_
  obtain ⟨u, w, kk, hu, hw, he, hpt, hI⟩ := st_waiting hNN hI 
  refine tw_iA rfl rfl (fun _ => rfl) (va_runV (As := []) (rest := []) ⟨hx, hb, hml, hown, htb⟩ (metX4_waiting l D cx aX aH aI aS aT ak aC aD aG db dn ql qf qz qi sp s1 s2 s3 s4 s5 sP sC sH tl kl kf cv cc cm ch dv dc dm dh gw gh gk gq gr gj gR gT gC  N H.size u hu) ⟨callB_of 0 htb (kc_gI wd_479) rfl rfl rfl (htb _ wd_40) (htb _ wd_476) (by decide +kernel) ⟨Nat.le_of_ble_eq_true rfl, Nat.le_of_ble_eq_true rfl⟩, htb _ wd_477, htb _ wd_478⟩ ⟨kc_blind _ _ _ _ _, va_recv hK (tw_PA hP) (ci := 4) (q0 := 0) rfl rfl, kc_pre _ hK hNW (tw_PA hP) (tw_DA rfl hD)⟩ rfl rfl hl.1 rfl (lv_room (Nat.le_of_ble_eq_true rfl)) dL_law_591 ⟨by show cl + 0 ≤ 600000; omega, by show sl + 0 ≤ 7302250; omega⟩) hP hD hS hA (fun _ H locs hP hD hS => ?_)
  have hP : va_P D classes ((wX cx aX aH aI aS aT ak aC aD (aC 0) (aD 0) aG db dn ql qf qz qi sp s1 s2 s3 s4 s5 sP sC sH tl kl kf cv cc cm ch u.2.1 u.2.2.1 u.2.2.2.1 u.2.2.2.2 gw gh gk gq gr gj gR gT gC) ++ (wM cx aM xw xh xk xj xb xr xc xv xn xl yR yT yC yW yA yE yU yM yV yF yZ yI yD)) H := hP
  have hD : va_D (fun q : Nat => s.heap.size ≤ q) ((wX cx aX aH aI aS aT ak aC aD (aC 0) (aD 0) aG db dn ql qf qz qi sp s1 s2 s3 s4 s5 sP sC sH tl kl kf cv cc cm ch u.2.1 u.2.2.1 u.2.2.2.1 u.2.2.2.2 gw gh gk gq gr gj gR gT gC) ++ (wM cx aM xw xh xk xj xb xr xc xv xn xl yR yT yC yW yA yE yU yM yV yF yZ yI yD)) := hD
  refine lv_aload_n hx hb dL_law_594 rfl (lv_at hl 2 rfl) ?_
  refine tw_iB rfl rfl (fun _ => rfl) (va_runV (As := []) (rest := [.int u.1]) ⟨hx, hb, hml, hown, htb⟩ (metX5_waiting l D cx aM xw xh xk xj xb xr xc xv xn xl yR yT yC yW yA yE yU yM yV yF yZ yI yD  N H.size w hw) ⟨callB_of 0 htb (kc_gI wd_817) rfl rfl rfl (htb _ wd_46) (htb _ wd_814) (by decide +kernel) ⟨Nat.le_of_ble_eq_true rfl, Nat.le_of_ble_eq_true rfl⟩, htb _ wd_815, htb _ wd_816⟩ ⟨kc_blind _ _ _ _ _, va_recv hK (tw_PB hP) (ci := 5) (q0 := 0) rfl rfl, kc_pre _ hK hNW (tw_PB hP) (tw_DB rfl rfl hD)⟩ rfl rfl hl.1 rfl (lv_room (Nat.le_of_ble_eq_true rfl)) dL_law_595 ⟨by show cl + 0 + 0 ≤ 600000; omega, by show sl + 0 + 0 ≤ 7302250; omega⟩) hP hD hS hA (fun _ H locs hP hD hS => ?_)
  have hP : va_P D classes ((wX cx aX aH aI aS aT ak aC aD (aC 0) (aD 0) aG db dn ql qf qz qi sp s1 s2 s3 s4 s5 sP sC sH tl kl kf cv cc cm ch u.2.1 u.2.2.1 u.2.2.2.1 u.2.2.2.2 gw gh gk gq gr gj gR gT gC) ++ (wM cx aM xw xh xk xj xb xr w.2.1 xv xn xl yR yT yC yW yA yE yU w.2.2 yV yF yZ yI yD)) H := hP
  have hD : va_D (fun q : Nat => s.heap.size ≤ q) ((wX cx aX aH aI aS aT ak aC aD (aC 0) (aD 0) aG db dn ql qf qz qi sp s1 s2 s3 s4 s5 sP sC sH tl kl kf cv cc cm ch u.2.1 u.2.2.1 u.2.2.2.1 u.2.2.2.2 gw gh gk gq gr gj gR gT gC) ++ (wM cx aM xw xh xk xj xb xr w.2.1 xv xn xl yR yT yC yW yA yE yU w.2.2 yV yF yZ yI yD)) := hD
  refine lv_icmp_eq (tgt := 921) hx hb dL_law_598 (by decide) (fun _ => ?_) (fun q => absurd he q)
  exact hT aX aH aI aS aT ak aC aD aG aM db dn ql qf qz qi sp s1 s2 s3 s4 s5 sP sC sH tl kl kf cv cc cm ch u.2.1 u.2.2.1 u.2.2.2.1 u.2.2.2.2 gw gh gk gq gr gj gR gT gC xw xh xk xj xb xr w.2.1 xv xn xl yR yT yC yW yA yE yU w.2.2 yV yF yZ yI yD (cl + 0 + 0) (sl + 0 + 0) H locs ls hI (pot_cl0 hc1 hpt) (pot_sl0 hc2 hpt) hP hD hS hl
set_option maxHeartbeats 8000000 in
set_option maxRecDepth 100000 in
theorem lc_19 {p : Program} {l : Launch} {e : Env} {s : State} {m : MethodId} {below : List Frame} {meth : Method} {c : Code} {b L : Nat} {xs : Nat → Int32} {D : va_G} {cx : Nat → ClassId} {N : Nat} {x3 : Int32} (hx : p.tables.exec = Jvm.exec) (hb : c.code = code) (hml : c.maxLocals = 4) (hown : s.vm.findClass R_law = some m.cls) (htb : ∀ w ∈ kc_TB, w.before #[Value.ref b] s = true) (hNW : kc_NW s) (hK : va_K D classes (kc_TY cx) s) (hX : va_X b L xs s s.heap) (hbl : b < s.heap.size) (hNN : N = 4194304) (hin : ∀ j : Nat, j < 6 → vp_in (x3 + Int32.ofNat j) L) (hT : lw_G p l e s m below meth c b D cx N x3 921) : lw_G p l e s m below meth c b D cx N x3 603 := by
  intro aX aH aI aS aT ak aC aD aG aM db dn ql qf qz qi sp s1 s2 s3 s4 s5 sP sC sH tl kl kf cv cc cm ch dv dc dm dh gw gh gk gq gr gj gR gT gC xw xh xk xj xb xr xc xv xn xl yR yT yC yW yA yE yU yM yV yF yZ yI yD cl sl H locs ls hI hc1 hc2 hP hD hS hl
  have hA : ∀ q : Nat, s.heap.size ≤ q → (fun q : Nat => s.heap.size ≤ q) q := fun _ h => h
  have hbA : ¬ (fun q : Nat => s.heap.size ≤ q) b := Nat.not_le.mpr hbl
  refine lv_aload_n hx hb dL_law_603 rfl (lv_at hl 1 rfl) ?_
  refine lv_aload_n hx hb dL_law_604 rfl (lv_at hl 0 rfl) ?_
  refine lv_iload_n hx hb dL_law_605 rfl (lv_at hl 3 rfl) ?_
  refine lv_iconst (v := (1 : Int32)) hx hb dL_law_606 (by decide) ?_
  refine lv_iadd hx hb dL_law_607 ?_
  refine va_sld hx hb hX hbl hbA hS (hin 1 (by decide)) dL_law_608 ?_
  refine lv_aload_n hx hb dL_law_609 rfl (lv_at hl 0 rfl) ?_
  refine lv_iload_n hx hb dL_law_610 rfl (lv_at hl 3 rfl) ?_
  refine lv_iconst (v := (2 : Int32)) hx hb dL_law_611 (by decide) ?_
  refine lv_iadd hx hb dL_law_612 ?_
  refine va_sld hx hb hX hbl hbA hS (hin 2 (by decide)) dL_law_613 ?_
  refine lv_aload_n hx hb dL_law_614 rfl (lv_at hl 0 rfl) ?_
  refine lv_iload_n hx hb dL_law_615 rfl (lv_at hl 3 rfl) ?_
  refine lv_iconst (v := (3 : Int32)) hx hb dL_law_616 (by decide) ?_
  refine lv_iadd hx hb dL_law_617 ?_
  refine va_sld hx hb hX hbl hbA hS (hin 3 (by decide)) dL_law_618 ?_
  obtain ⟨u, w, kk, hu, hw, he, hpt, hI⟩ := st_sheet hNN hI (xs (x3 + (1 : Int32)).toNatClampNeg) (xs (x3 + (2 : Int32)).toNatClampNeg) (xs (x3 + (3 : Int32)).toNatClampNeg)
  refine tw_iA rfl rfl (fun _ => rfl) (va_runV (As := [.int (xs (x3 + (1 : Int32)).toNatClampNeg), .int (xs (x3 + (2 : Int32)).toNatClampNeg), .int (xs (x3 + (3 : Int32)).toNatClampNeg)]) (rest := []) ⟨hx, hb, hml, hown, htb⟩ (metX4_sheet l D cx aX aH aI aS aT ak aC aD aG db dn ql qf qz qi sp s1 s2 s3 s4 s5 sP sC sH tl kl kf cv cc cm ch dv dc dm dh gw gh gk gq gr gj gR gT gC (xs (x3 + (1 : Int32)).toNatClampNeg) (xs (x3 + (2 : Int32)).toNatClampNeg) (xs (x3 + (3 : Int32)).toNatClampNeg) N H.size u hu) ⟨callB_of 3 htb (kc_gI wd_497) rfl rfl rfl (htb _ wd_40) (htb _ wd_494) (by decide +kernel) ⟨Nat.le_of_ble_eq_true rfl, Nat.le_of_ble_eq_true rfl⟩, htb _ wd_495, htb _ wd_496⟩ ⟨kc_blind _ _ _ _ _, va_recv hK (tw_PA hP) (ci := 4) (q0 := 0) rfl rfl, kc_pre _ hK hNW (tw_PA hP) (tw_DA rfl hD)⟩ rfl rfl hl.1 rfl (lv_room (Nat.le_of_ble_eq_true rfl)) dL_law_619 ⟨by show cl + 0 ≤ 600000; omega, by show sl + 0 ≤ 7302250; omega⟩) hP hD hS hA (fun _ H locs hP hD hS => ?_)
  have hP : va_P D classes ((wX cx aX aH aI aS aT ak aC aD (aC 0) (aD 0) aG db u.2.1 u.2.2.1 u.2.2.2.1 u.2.2.2.2.1 u.2.2.2.2.2 sp s1 s2 s3 s4 s5 sP sC sH tl kl kf cv cc cm ch dv dc dm dh gw gh gk gq gr gj gR gT gC) ++ (wM cx aM xw xh xk xj xb xr xc xv xn xl yR yT yC yW yA yE yU yM yV yF yZ yI yD)) H := hP
  have hD : va_D (fun q : Nat => s.heap.size ≤ q) ((wX cx aX aH aI aS aT ak aC aD (aC 0) (aD 0) aG db u.2.1 u.2.2.1 u.2.2.2.1 u.2.2.2.2.1 u.2.2.2.2.2 sp s1 s2 s3 s4 s5 sP sC sH tl kl kf cv cc cm ch dv dc dm dh gw gh gk gq gr gj gR gT gC) ++ (wM cx aM xw xh xk xj xb xr xc xv xn xl yR yT yC yW yA yE yU yM yV yF yZ yI yD)) := hD
  refine lv_aload_n hx hb dL_law_622 rfl (lv_at hl 2 rfl) ?_
  refine lv_aload_n hx hb dL_law_623 rfl (lv_at hl 0 rfl) ?_
  refine lv_iload_n hx hb dL_law_624 rfl (lv_at hl 3 rfl) ?_
  refine lv_iconst (v := (1 : Int32)) hx hb dL_law_625 (by decide) ?_
  refine lv_iadd hx hb dL_law_626 ?_
  refine va_sld hx hb hX hbl hbA hS (hin 1 (by decide)) dL_law_627 ?_
  refine lv_aload_n hx hb dL_law_628 rfl (lv_at hl 0 rfl) ?_
  refine lv_iload_n hx hb dL_law_629 rfl (lv_at hl 3 rfl) ?_
  refine lv_iconst (v := (2 : Int32)) hx hb dL_law_630 (by decide) ?_
  refine lv_iadd hx hb dL_law_631 ?_
  refine va_sld hx hb hX hbl hbA hS (hin 2 (by decide)) dL_law_632 ?_
  refine lv_aload_n hx hb dL_law_633 rfl (lv_at hl 0 rfl) ?_
  refine lv_iload_n hx hb dL_law_634 rfl (lv_at hl 3 rfl) ?_
  refine lv_iconst (v := (3 : Int32)) hx hb dL_law_635 (by decide) ?_
  refine lv_iadd hx hb dL_law_636 ?_
  refine va_sld hx hb hX hbl hbA hS (hin 3 (by decide)) dL_law_637 ?_
  refine tw_iB rfl rfl (fun _ => rfl) (va_runV (As := [.int (xs (x3 + (1 : Int32)).toNatClampNeg), .int (xs (x3 + (2 : Int32)).toNatClampNeg), .int (xs (x3 + (3 : Int32)).toNatClampNeg)]) (rest := [.int u.1]) ⟨hx, hb, hml, hown, htb⟩ (metX5_sheet l D cx aM xw xh xk xj xb xr xc xv xn xl yR yT yC yW yA yE yU yM yV yF yZ yI yD (xs (x3 + (1 : Int32)).toNatClampNeg) (xs (x3 + (2 : Int32)).toNatClampNeg) (xs (x3 + (3 : Int32)).toNatClampNeg) N H.size w hw) ⟨callB_of 3 htb (kc_gI wd_825) rfl rfl rfl (htb _ wd_46) (htb _ wd_822) (by decide +kernel) ⟨Nat.le_of_ble_eq_true rfl, Nat.le_of_ble_eq_true rfl⟩, htb _ wd_823, htb _ wd_824⟩ ⟨kc_blind _ _ _ _ _, va_recv hK (tw_PB hP) (ci := 5) (q0 := 0) rfl rfl, kc_pre _ hK hNW (tw_PB hP) (tw_DB rfl rfl hD)⟩ rfl rfl hl.1 rfl (lv_room (Nat.le_of_ble_eq_true rfl)) dL_law_638 ⟨by show cl + 0 + 0 ≤ 600000; omega, by show sl + 0 + 0 ≤ 7302250; omega⟩) hP hD hS hA (fun _ H locs hP hD hS => ?_)
  have hP : va_P D classes ((wX cx aX aH aI aS aT ak aC aD (aC 0) (aD 0) aG db u.2.1 u.2.2.1 u.2.2.2.1 u.2.2.2.2.1 u.2.2.2.2.2 sp s1 s2 s3 s4 s5 sP sC sH tl kl kf cv cc cm ch dv dc dm dh gw gh gk gq gr gj gR gT gC) ++ (wM cx aM xw xh xk xj xb xr xc xv xn w.2.1 yR yT yC yW yA yE yU yM yV w.2.2.1 w.2.2.2.1 w.2.2.2.2 yD)) H := hP
  have hD : va_D (fun q : Nat => s.heap.size ≤ q) ((wX cx aX aH aI aS aT ak aC aD (aC 0) (aD 0) aG db u.2.1 u.2.2.1 u.2.2.2.1 u.2.2.2.2.1 u.2.2.2.2.2 sp s1 s2 s3 s4 s5 sP sC sH tl kl kf cv cc cm ch dv dc dm dh gw gh gk gq gr gj gR gT gC) ++ (wM cx aM xw xh xk xj xb xr xc xv xn w.2.1 yR yT yC yW yA yE yU yM yV w.2.2.1 w.2.2.2.1 w.2.2.2.2 yD)) := hD
  refine lv_icmp_eq (tgt := 921) hx hb dL_law_641 (by decide) (fun _ => ?_) (fun q => absurd he q)
  exact hT aX aH aI aS aT ak aC aD aG aM db u.2.1 u.2.2.1 u.2.2.2.1 u.2.2.2.2.1 u.2.2.2.2.2 sp s1 s2 s3 s4 s5 sP sC sH tl kl kf cv cc cm ch dv dc dm dh gw gh gk gq gr gj gR gT gC xw xh xk xj xb xr xc xv xn w.2.1 yR yT yC yW yA yE yU yM yV w.2.2.1 w.2.2.2.1 w.2.2.2.2 yD (cl + 0 + 0) (sl + 0 + 0) H locs ls hI (pot_cl0 hc1 hpt) (pot_sl0 hc2 hpt) hP hD hS hl
set_option maxHeartbeats 8000000 in
set_option maxRecDepth 100000 in
theorem lc_20 {p : Program} {l : Launch} {e : Env} {s : State} {m : MethodId} {below : List Frame} {meth : Method} {c : Code} {b L : Nat} {xs : Nat → Int32} {D : va_G} {cx : Nat → ClassId} {N : Nat} {x3 : Int32} (hx : p.tables.exec = Jvm.exec) (hb : c.code = code) (hml : c.maxLocals = 4) (hown : s.vm.findClass R_law = some m.cls) (htb : ∀ w ∈ kc_TB, w.before #[Value.ref b] s = true) (hNW : kc_NW s) (hK : va_K D classes (kc_TY cx) s) (hX : va_X b L xs s s.heap) (hbl : b < s.heap.size) (hNN : N = 4194304) (hin : ∀ j : Nat, j < 6 → vp_in (x3 + Int32.ofNat j) L) (hT : lw_G p l e s m below meth c b D cx N x3 921) : lw_G p l e s m below meth c b D cx N x3 646 := by
  intro aX aH aI aS aT ak aC aD aG aM db dn ql qf qz qi sp s1 s2 s3 s4 s5 sP sC sH tl kl kf cv cc cm ch dv dc dm dh gw gh gk gq gr gj gR gT gC xw xh xk xj xb xr xc xv xn xl yR yT yC yW yA yE yU yM yV yF yZ yI yD cl sl H locs ls hI hc1 hc2 hP hD hS hl
  have hA : ∀ q : Nat, s.heap.size ≤ q → (fun q : Nat => s.heap.size ≤ q) q := fun _ h => h
  have hbA : ¬ (fun q : Nat => s.heap.size ≤ q) b := Nat.not_le.mpr hbl
  refine lv_aload_n hx hb dL_law_646 rfl (lv_at hl 1 rfl) ?_
  refine lv_aload_n hx hb dL_law_647 rfl (lv_at hl 0 rfl) ?_
  refine lv_iload_n hx hb dL_law_648 rfl (lv_at hl 3 rfl) ?_
  refine lv_iconst (v := (1 : Int32)) hx hb dL_law_649 (by decide) ?_
  refine lv_iadd hx hb dL_law_650 ?_
  refine va_sld hx hb hX hbl hbA hS (hin 1 (by decide)) dL_law_651 ?_
  obtain ⟨u, w, kk, hu, hw, he, hpt, hI⟩ := st_lose hNN hI (xs (x3 + (1 : Int32)).toNatClampNeg)
  refine tw_iA rfl rfl (fun _ => rfl) (va_runV (As := [.int (xs (x3 + (1 : Int32)).toNatClampNeg)]) (rest := []) ⟨hx, hb, hml, hown, htb⟩ (metX4_lose l D cx aX aH aI aS aT ak aC aD aG db dn ql qf qz qi sp s1 s2 s3 s4 s5 sP sC sH tl kl kf cv cc cm ch dv dc dm dh gw gh gk gq gr gj gR gT gC (xs (x3 + (1 : Int32)).toNatClampNeg) N H.size u hu) ⟨callB_of 1 htb (kc_gI wd_516) rfl rfl rfl (htb _ wd_40) (htb _ wd_513) (by decide +kernel) ⟨Nat.le_of_ble_eq_true rfl, Nat.le_of_ble_eq_true rfl⟩, htb _ wd_514, htb _ wd_515⟩ ⟨kc_blind _ _ _ _ _, va_recv hK (tw_PA hP) (ci := 4) (q0 := 0) rfl rfl, kc_pre _ hK hNW (tw_PA hP) (tw_DA rfl hD)⟩ rfl rfl hl.1 rfl (lv_room (Nat.le_of_ble_eq_true rfl)) dL_law_652 ⟨by show cl + 0 ≤ 600000; omega, by show sl + 0 ≤ 7302250; omega⟩) hP hD hS hA (fun _ H locs hP hD hS => ?_)
  have hP : va_P D classes ((wX cx aX aH aI aS aT ak aC aD (aC 0) (aD 0) aG db u.2.1 u.2.2 qf qz qi sp s1 s2 s3 s4 s5 sP sC sH tl kl kf cv cc cm ch dv dc dm dh gw gh gk gq gr gj gR gT gC) ++ (wM cx aM xw xh xk xj xb xr xc xv xn xl yR yT yC yW yA yE yU yM yV yF yZ yI yD)) H := hP
  have hD : va_D (fun q : Nat => s.heap.size ≤ q) ((wX cx aX aH aI aS aT ak aC aD (aC 0) (aD 0) aG db u.2.1 u.2.2 qf qz qi sp s1 s2 s3 s4 s5 sP sC sH tl kl kf cv cc cm ch dv dc dm dh gw gh gk gq gr gj gR gT gC) ++ (wM cx aM xw xh xk xj xb xr xc xv xn xl yR yT yC yW yA yE yU yM yV yF yZ yI yD)) := hD
  refine lv_aload_n hx hb dL_law_655 rfl (lv_at hl 2 rfl) ?_
  refine lv_aload_n hx hb dL_law_656 rfl (lv_at hl 0 rfl) ?_
  refine lv_iload_n hx hb dL_law_657 rfl (lv_at hl 3 rfl) ?_
  refine lv_iconst (v := (1 : Int32)) hx hb dL_law_658 (by decide) ?_
  refine lv_iadd hx hb dL_law_659 ?_
  refine va_sld hx hb hX hbl hbA hS (hin 1 (by decide)) dL_law_660 ?_
  refine tw_iB rfl rfl (fun _ => rfl) (va_runV (As := [.int (xs (x3 + (1 : Int32)).toNatClampNeg)]) (rest := [.int u.1]) ⟨hx, hb, hml, hown, htb⟩ (metX5_lose l D cx aM xw xh xk xj xb xr xc xv xn xl yR yT yC yW yA yE yU yM yV yF yZ yI yD (xs (x3 + (1 : Int32)).toNatClampNeg) N H.size w hw) ⟨callB_of 1 htb (kc_gI wd_837) rfl rfl rfl (htb _ wd_46) (htb _ wd_834) (by decide +kernel) ⟨Nat.le_of_ble_eq_true rfl, Nat.le_of_ble_eq_true rfl⟩, htb _ wd_835, htb _ wd_836⟩ ⟨kc_blind _ _ _ _ _, va_recv hK (tw_PB hP) (ci := 5) (q0 := 0) rfl rfl, kc_pre _ hK hNW (tw_PB hP) (tw_DB rfl rfl hD)⟩ rfl rfl hl.1 rfl (lv_room (Nat.le_of_ble_eq_true rfl)) dL_law_661 ⟨by show cl + 0 + 0 ≤ 600000; omega, by show sl + 0 + 0 ≤ 7302250; omega⟩) hP hD hS hA (fun _ H locs hP hD hS => ?_)
  have hP : va_P D classes ((wX cx aX aH aI aS aT ak aC aD (aC 0) (aD 0) aG db u.2.1 u.2.2 qf qz qi sp s1 s2 s3 s4 s5 sP sC sH tl kl kf cv cc cm ch dv dc dm dh gw gh gk gq gr gj gR gT gC) ++ (wM cx aM xw xh xk xj xb xr xc xv xn w.2.1 yR yT yC yW yA yE yU yM yV w.2.2 yZ yI yD)) H := hP
  have hD : va_D (fun q : Nat => s.heap.size ≤ q) ((wX cx aX aH aI aS aT ak aC aD (aC 0) (aD 0) aG db u.2.1 u.2.2 qf qz qi sp s1 s2 s3 s4 s5 sP sC sH tl kl kf cv cc cm ch dv dc dm dh gw gh gk gq gr gj gR gT gC) ++ (wM cx aM xw xh xk xj xb xr xc xv xn w.2.1 yR yT yC yW yA yE yU yM yV w.2.2 yZ yI yD)) := hD
  refine lv_icmp_eq (tgt := 921) hx hb dL_law_664 (by decide) (fun _ => ?_) (fun q => absurd he q)
  exact hT aX aH aI aS aT ak aC aD aG aM db u.2.1 u.2.2 qf qz qi sp s1 s2 s3 s4 s5 sP sC sH tl kl kf cv cc cm ch dv dc dm dh gw gh gk gq gr gj gR gT gC xw xh xk xj xb xr xc xv xn w.2.1 yR yT yC yW yA yE yU yM yV w.2.2 yZ yI yD (cl + 0 + 0) (sl + 0 + 0) H locs ls hI (pot_cl0 hc1 hpt) (pot_sl0 hc2 hpt) hP hD hS hl
