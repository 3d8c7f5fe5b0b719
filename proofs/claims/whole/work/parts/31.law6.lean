/-! the law, call by call -/
set_option maxHeartbeats 8000000 in
set_option maxRecDepth 100000 in
theorem lc_21 {p : Program} {l : Launch} {e : Env} {s : State} {m : MethodId} {below : List Frame} {meth : Method} {c : Code} {b L : Nat} {xs : Nat → Int32} {D : va_G} {cx : Nat → ClassId} {N : Nat} {x3 : Int32} (hx : p.tables.exec = Jvm.exec) (hb : c.code = code) (hml : c.maxLocals = 4) (hown : s.vm.findClass R_law = some m.cls) (htb : ∀ w ∈ kc_TB, w.before #[Value.ref b] s = true) (hNW : kc_NW s) (hK : va_K D classes (kc_TY cx) s) (hX : va_X b L xs s s.heap) (hbl : b < s.heap.size) (hNN : N = 4194304) (hin : ∀ j : Nat, j < 6 → vp_in (x3 + Int32.ofNat j) L) (hT : lw_G p l e s m below meth c b D cx N x3 921) : lw_G p l e s m below meth c b D cx N x3 669 := by
  intro aX aH aI aS aT ak aC aD aG aM db dn ql qf qz qi sp s1 s2 s3 s4 s5 sP sC sH tl kl kf cv cc cm ch dv dc dm dh gw gh gk gq gr gj gR gT gC xw xh xk xj xb xr xc xv xn xl yR yT yC yW yA yE yU yM yV yF yZ yI yD cl sl H locs ls hI hc1 hc2 hP hD hS hl
  have hA : ∀ q : Nat, s.heap.size ≤ q → (fun q : Nat => s.heap.size ≤ q) q := fun _ h => h
  have hbA : ¬ (fun q : Nat => s.heap.size ≤ q) b := Nat.not_le.mpr hbl
  refine lv_aload_n hx hb dL_law_669 rfl (lv_at hl 1 rfl) ?_
  refine lv_aload_n hx hb dL_law_670 rfl (lv_at hl 0 rfl) ?_
  refine lv_iload_n hx hb dL_law_671 rfl (lv_at hl 3 rfl) ?_
  refine lv_iconst (v := (1 : Int32)) hx hb dL_law_672 (by decide) ?_
  refine lv_iadd hx hb dL_law_673 ?_
  refine va_sld hx hb hX hbl hbA hS (hin 1 (by decide)) dL_law_674 ?_
  refine lv_aload_n hx hb dL_law_675 rfl (lv_at hl 0 rfl) ?_
  refine lv_iload_n hx hb dL_law_676 rfl (lv_at hl 3 rfl) ?_
  refine lv_iconst (v := (2 : Int32)) hx hb dL_law_677 (by decide) ?_
  refine lv_iadd hx hb dL_law_678 ?_
  refine va_sld hx hb hX hbl hbA hS (hin 2 (by decide)) dL_law_679 ?_
  refine lv_aload_n hx hb dL_law_680 rfl (lv_at hl 0 rfl) ?_
  refine lv_iload_n hx hb dL_law_681 rfl (lv_at hl 3 rfl) ?_
  refine lv_iconst (v := (3 : Int32)) hx hb dL_law_682 (by decide) ?_
  refine lv_iadd hx hb dL_law_683 ?_
  refine va_sld hx hb hX hbl hbA hS (hin 3 (by decide)) dL_law_684 ?_
  refine lv_aload_n hx hb dL_law_685 rfl (lv_at hl 0 rfl) ?_
  refine lv_iload_n hx hb dL_law_686 rfl (lv_at hl 3 rfl) ?_
  refine lv_iconst (v := (4 : Int32)) hx hb dL_law_687 (by decide) ?_
  refine lv_iadd hx hb dL_law_688 ?_
  refine va_sld hx hb hX hbl hbA hS (hin 4 (by decide)) dL_law_689 ?_
  obtain ⟨u, w, kk, hu, hw, he, hpt, hI⟩ := st_put hNN hI (xs (x3 + (1 : Int32)).toNatClampNeg) (xs (x3 + (2 : Int32)).toNatClampNeg) (xs (x3 + (3 : Int32)).toNatClampNeg) (xs (x3 + (4 : Int32)).toNatClampNeg)
  refine tw_iA rfl rfl (fun _ => rfl) (va_runV (As := [.int (xs (x3 + (1 : Int32)).toNatClampNeg), .int (xs (x3 + (2 : Int32)).toNatClampNeg), .int (xs (x3 + (3 : Int32)).toNatClampNeg), .int (xs (x3 + (4 : Int32)).toNatClampNeg)]) (rest := []) ⟨hx, hb, hml, hown, htb⟩ (metX4_put l D cx aX aH aI aS aT ak aC aD aG db dn ql qf qz qi sp s1 s2 s3 s4 s5 sP sC sH tl kl kf cv cc cm ch dv dc dm dh gw gh gk gq gr gj gR gT gC (xs (x3 + (1 : Int32)).toNatClampNeg) (xs (x3 + (2 : Int32)).toNatClampNeg) (xs (x3 + (3 : Int32)).toNatClampNeg) (xs (x3 + (4 : Int32)).toNatClampNeg) N H.size u hu) ⟨callB_of 4 htb (kc_gI wd_520) rfl rfl rfl (htb _ wd_40) (htb _ wd_517) (by decide +kernel) ⟨Nat.le_of_ble_eq_true rfl, Nat.le_of_ble_eq_true rfl⟩, htb _ wd_518, htb _ wd_519⟩ ⟨kc_blind _ _ _ _ _, va_recv hK (tw_PA hP) (ci := 4) (q0 := 0) rfl rfl, kc_pre _ hK hNW (tw_PA hP) (tw_DA rfl hD)⟩ rfl rfl hl.1 rfl (lv_room (Nat.le_of_ble_eq_true rfl)) dL_law_690 ⟨by show cl + 0 ≤ 600000; omega, by show sl + 0 ≤ 7302250; omega⟩) hP hD hS hA (fun _ H locs hP hD hS => ?_)
  have hP : va_P D classes ((wX cx aX aH aI aS aT ak aC aD (aC 0) (aD 0) aG db u.2.1 ql qf qz u.2.2 sp s1 s2 s3 s4 s5 sP sC sH tl kl kf cv cc cm ch dv dc dm dh gw gh gk gq gr gj gR gT gC) ++ (wM cx aM xw xh xk xj xb xr xc xv xn xl yR yT yC yW yA yE yU yM yV yF yZ yI yD)) H := hP
  have hD : va_D (fun q : Nat => s.heap.size ≤ q) ((wX cx aX aH aI aS aT ak aC aD (aC 0) (aD 0) aG db u.2.1 ql qf qz u.2.2 sp s1 s2 s3 s4 s5 sP sC sH tl kl kf cv cc cm ch dv dc dm dh gw gh gk gq gr gj gR gT gC) ++ (wM cx aM xw xh xk xj xb xr xc xv xn xl yR yT yC yW yA yE yU yM yV yF yZ yI yD)) := hD
  refine lv_aload_n hx hb dL_law_693 rfl (lv_at hl 2 rfl) ?_
  refine lv_aload_n hx hb dL_law_694 rfl (lv_at hl 0 rfl) ?_
  refine lv_iload_n hx hb dL_law_695 rfl (lv_at hl 3 rfl) ?_
  refine lv_iconst (v := (1 : Int32)) hx hb dL_law_696 (by decide) ?_
  refine lv_iadd hx hb dL_law_697 ?_
  refine va_sld hx hb hX hbl hbA hS (hin 1 (by decide)) dL_law_698 ?_
  refine lv_aload_n hx hb dL_law_699 rfl (lv_at hl 0 rfl) ?_
  refine lv_iload_n hx hb dL_law_700 rfl (lv_at hl 3 rfl) ?_
  refine lv_iconst (v := (2 : Int32)) hx hb dL_law_701 (by decide) ?_
  refine lv_iadd hx hb dL_law_702 ?_
  refine va_sld hx hb hX hbl hbA hS (hin 2 (by decide)) dL_law_703 ?_
  refine lv_aload_n hx hb dL_law_704 rfl (lv_at hl 0 rfl) ?_
  refine lv_iload_n hx hb dL_law_705 rfl (lv_at hl 3 rfl) ?_
  refine lv_iconst (v := (3 : Int32)) hx hb dL_law_706 (by decide) ?_
  refine lv_iadd hx hb dL_law_707 ?_
  refine va_sld hx hb hX hbl hbA hS (hin 3 (by decide)) dL_law_708 ?_
  refine lv_aload_n hx hb dL_law_709 rfl (lv_at hl 0 rfl) ?_
  refine lv_iload_n hx hb dL_law_710 rfl (lv_at hl 3 rfl) ?_
  refine lv_iconst (v := (4 : Int32)) hx hb dL_law_711 (by decide) ?_
  refine lv_iadd hx hb dL_law_712 ?_
  refine va_sld hx hb hX hbl hbA hS (hin 4 (by decide)) dL_law_713 ?_
  refine tw_iB rfl rfl (fun _ => rfl) (va_runV (As := [.int (xs (x3 + (1 : Int32)).toNatClampNeg), .int (xs (x3 + (2 : Int32)).toNatClampNeg), .int (xs (x3 + (3 : Int32)).toNatClampNeg), .int (xs (x3 + (4 : Int32)).toNatClampNeg)]) (rest := [.int u.1]) ⟨hx, hb, hml, hown, htb⟩ (metX5_put l D cx aM xw xh xk xj xb xr xc xv xn xl yR yT yC yW yA yE yU yM yV yF yZ yI yD (xs (x3 + (1 : Int32)).toNatClampNeg) (xs (x3 + (2 : Int32)).toNatClampNeg) (xs (x3 + (3 : Int32)).toNatClampNeg) (xs (x3 + (4 : Int32)).toNatClampNeg) N H.size w hw) ⟨callB_of 4 htb (kc_gI wd_841) rfl rfl rfl (htb _ wd_46) (htb _ wd_838) (by decide +kernel) ⟨Nat.le_of_ble_eq_true rfl, Nat.le_of_ble_eq_true rfl⟩, htb _ wd_839, htb _ wd_840⟩ ⟨kc_blind _ _ _ _ _, va_recv hK (tw_PB hP) (ci := 5) (q0 := 0) rfl rfl, kc_pre _ hK hNW (tw_PB hP) (tw_DB rfl rfl hD)⟩ rfl rfl hl.1 rfl (lv_room (Nat.le_of_ble_eq_true rfl)) dL_law_714 ⟨by show cl + 0 + 0 ≤ 600000; omega, by show sl + 0 + 0 ≤ 7302250; omega⟩) hP hD hS hA (fun _ H locs hP hD hS => ?_)
  have hP : va_P D classes ((wX cx aX aH aI aS aT ak aC aD (aC 0) (aD 0) aG db u.2.1 ql qf qz u.2.2 sp s1 s2 s3 s4 s5 sP sC sH tl kl kf cv cc cm ch dv dc dm dh gw gh gk gq gr gj gR gT gC) ++ (wM cx aM xw xh xk xj xb xr xc xv xn w.2.1 yR yT yC yW yA yE yU yM yV yF yZ w.2.2 yD)) H := hP
  have hD : va_D (fun q : Nat => s.heap.size ≤ q) ((wX cx aX aH aI aS aT ak aC aD (aC 0) (aD 0) aG db u.2.1 ql qf qz u.2.2 sp s1 s2 s3 s4 s5 sP sC sH tl kl kf cv cc cm ch dv dc dm dh gw gh gk gq gr gj gR gT gC) ++ (wM cx aM xw xh xk xj xb xr xc xv xn w.2.1 yR yT yC yW yA yE yU yM yV yF yZ w.2.2 yD)) := hD
  refine lv_icmp_eq (tgt := 921) hx hb dL_law_717 (by decide) (fun _ => ?_) (fun q => absurd he q)
  exact hT aX aH aI aS aT ak aC aD aG aM db u.2.1 ql qf qz u.2.2 sp s1 s2 s3 s4 s5 sP sC sH tl kl kf cv cc cm ch dv dc dm dh gw gh gk gq gr gj gR gT gC xw xh xk xj xb xr xc xv xn w.2.1 yR yT yC yW yA yE yU yM yV yF yZ w.2.2 yD (cl + 0 + 0) (sl + 0 + 0) H locs ls hI (pot_cl0 hc1 hpt) (pot_sl0 hc2 hpt) hP hD hS hl
set_option maxHeartbeats 8000000 in
set_option maxRecDepth 100000 in
theorem lc_22 {p : Program} {l : Launch} {e : Env} {s : State} {m : MethodId} {below : List Frame} {meth : Method} {c : Code} {b L : Nat} {xs : Nat → Int32} {D : va_G} {cx : Nat → ClassId} {N : Nat} {x3 : Int32} (hx : p.tables.exec = Jvm.exec) (hb : c.code = code) (hml : c.maxLocals = 4) (hown : s.vm.findClass R_law = some m.cls) (htb : ∀ w ∈ kc_TB, w.before #[Value.ref b] s = true) (hNW : kc_NW s) (hK : va_K D classes (kc_TY cx) s) (hX : va_X b L xs s s.heap) (hbl : b < s.heap.size) (hNN : N = 4194304) (hin : ∀ j : Nat, j < 6 → vp_in (x3 + Int32.ofNat j) L) (hT : lw_G p l e s m below meth c b D cx N x3 921) : lw_G p l e s m below meth c b D cx N x3 722 := by
  intro aX aH aI aS aT ak aC aD aG aM db dn ql qf qz qi sp s1 s2 s3 s4 s5 sP sC sH tl kl kf cv cc cm ch dv dc dm dh gw gh gk gq gr gj gR gT gC xw xh xk xj xb xr xc xv xn xl yR yT yC yW yA yE yU yM yV yF yZ yI yD cl sl H locs ls hI hc1 hc2 hP hD hS hl
  have hA : ∀ q : Nat, s.heap.size ≤ q → (fun q : Nat => s.heap.size ≤ q) q := fun _ h => h
  have hbA : ¬ (fun q : Nat => s.heap.size ≤ q) b := Nat.not_le.mpr hbl
  refine lv_aload_n hx hb dL_law_722 rfl (lv_at hl 1 rfl) ?_
  refine lv_aload_n hx hb dL_law_723 rfl (lv_at hl 0 rfl) ?_
  refine lv_iload_n hx hb dL_law_724 rfl (lv_at hl 3 rfl) ?_
  refine lv_iconst (v := (1 : Int32)) hx hb dL_law_725 (by decide) ?_
  refine lv_iadd hx hb dL_law_726 ?_
  refine va_sld hx hb hX hbl hbA hS (hin 1 (by decide)) dL_law_727 ?_
  refine lv_aload_n hx hb dL_law_728 rfl (lv_at hl 0 rfl) ?_
  refine lv_iload_n hx hb dL_law_729 rfl (lv_at hl 3 rfl) ?_
  refine lv_iconst (v := (2 : Int32)) hx hb dL_law_730 (by decide) ?_
  refine lv_iadd hx hb dL_law_731 ?_
  refine va_sld hx hb hX hbl hbA hS (hin 2 (by decide)) dL_law_732 ?_
  refine lv_aload_n hx hb dL_law_733 rfl (lv_at hl 0 rfl) ?_
  refine lv_iload_n hx hb dL_law_734 rfl (lv_at hl 3 rfl) ?_
  refine lv_iconst (v := (3 : Int32)) hx hb dL_law_735 (by decide) ?_
  refine lv_iadd hx hb dL_law_736 ?_
  refine va_sld hx hb hX hbl hbA hS (hin 3 (by decide)) dL_law_737 ?_
  obtain ⟨u, w, kk, hu, hw, he, hpt, hI⟩ := st_get hNN hI (xs (x3 + (1 : Int32)).toNatClampNeg) (xs (x3 + (2 : Int32)).toNatClampNeg) (xs (x3 + (3 : Int32)).toNatClampNeg)
  refine tw_iA rfl rfl (fun _ => rfl) (va_runV (As := [.int (xs (x3 + (1 : Int32)).toNatClampNeg), .int (xs (x3 + (2 : Int32)).toNatClampNeg), .int (xs (x3 + (3 : Int32)).toNatClampNeg)]) (rest := []) ⟨hx, hb, hml, hown, htb⟩ (metX4_get l D cx aX aH aI aS aT ak aC aD aG db dn ql qf qz qi sp s1 s2 s3 s4 s5 sP sC sH tl kl kf cv cc cm ch dv dc dm dh gw gh gk gq gr gj gR gT gC (xs (x3 + (1 : Int32)).toNatClampNeg) (xs (x3 + (2 : Int32)).toNatClampNeg) (xs (x3 + (3 : Int32)).toNatClampNeg) N H.size u hu) ⟨callB_of 3 htb (kc_gI wd_533) rfl rfl rfl (htb _ wd_40) (htb _ wd_530) (by decide +kernel) ⟨Nat.le_of_ble_eq_true rfl, Nat.le_of_ble_eq_true rfl⟩, htb _ wd_531, htb _ wd_532⟩ ⟨kc_blind _ _ _ _ _, va_recv hK (tw_PA hP) (ci := 4) (q0 := 0) rfl rfl, kc_pre _ hK hNW (tw_PA hP) (tw_DA rfl hD)⟩ rfl rfl hl.1 rfl (lv_room (Nat.le_of_ble_eq_true rfl)) dL_law_738 ⟨by show cl + 0 ≤ 600000; omega, by show sl + 0 ≤ 7302250; omega⟩) hP hD hS hA (fun _ H locs hP hD hS => ?_)
  have hP : va_P D classes ((wX cx aX aH aI aS aT ak aC aD (aC 0) (aD 0) aG db u.2 ql qf qz qi sp s1 s2 s3 s4 s5 sP sC sH tl kl kf cv cc cm ch dv dc dm dh gw gh gk gq gr gj gR gT gC) ++ (wM cx aM xw xh xk xj xb xr xc xv xn xl yR yT yC yW yA yE yU yM yV yF yZ yI yD)) H := hP
  have hD : va_D (fun q : Nat => s.heap.size ≤ q) ((wX cx aX aH aI aS aT ak aC aD (aC 0) (aD 0) aG db u.2 ql qf qz qi sp s1 s2 s3 s4 s5 sP sC sH tl kl kf cv cc cm ch dv dc dm dh gw gh gk gq gr gj gR gT gC) ++ (wM cx aM xw xh xk xj xb xr xc xv xn xl yR yT yC yW yA yE yU yM yV yF yZ yI yD)) := hD
  refine lv_aload_n hx hb dL_law_741 rfl (lv_at hl 2 rfl) ?_
  refine lv_aload_n hx hb dL_law_742 rfl (lv_at hl 0 rfl) ?_
  refine lv_iload_n hx hb dL_law_743 rfl (lv_at hl 3 rfl) ?_
  refine lv_iconst (v := (1 : Int32)) hx hb dL_law_744 (by decide) ?_
  refine lv_iadd hx hb dL_law_745 ?_
  refine va_sld hx hb hX hbl hbA hS (hin 1 (by decide)) dL_law_746 ?_
  refine lv_aload_n hx hb dL_law_747 rfl (lv_at hl 0 rfl) ?_
  refine lv_iload_n hx hb dL_law_748 rfl (lv_at hl 3 rfl) ?_
  refine lv_iconst (v := (2 : Int32)) hx hb dL_law_749 (by decide) ?_
  refine lv_iadd hx hb dL_law_750 ?_
  refine va_sld hx hb hX hbl hbA hS (hin 2 (by decide)) dL_law_751 ?_
  refine lv_aload_n hx hb dL_law_752 rfl (lv_at hl 0 rfl) ?_
  refine lv_iload_n hx hb dL_law_753 rfl (lv_at hl 3 rfl) ?_
  refine lv_iconst (v := (3 : Int32)) hx hb dL_law_754 (by decide) ?_
  refine lv_iadd hx hb dL_law_755 ?_
  refine va_sld hx hb hX hbl hbA hS (hin 3 (by decide)) dL_law_756 ?_
  refine tw_iB rfl rfl (fun _ => rfl) (va_runV (As := [.int (xs (x3 + (1 : Int32)).toNatClampNeg), .int (xs (x3 + (2 : Int32)).toNatClampNeg), .int (xs (x3 + (3 : Int32)).toNatClampNeg)]) (rest := [.int u.1]) ⟨hx, hb, hml, hown, htb⟩ (metX5_get l D cx aM xw xh xk xj xb xr xc xv xn xl yR yT yC yW yA yE yU yM yV yF yZ yI yD (xs (x3 + (1 : Int32)).toNatClampNeg) (xs (x3 + (2 : Int32)).toNatClampNeg) (xs (x3 + (3 : Int32)).toNatClampNeg) N H.size w hw) ⟨callB_of 3 htb (kc_gI wd_852) rfl rfl rfl (htb _ wd_46) (htb _ wd_849) (by decide +kernel) ⟨Nat.le_of_ble_eq_true rfl, Nat.le_of_ble_eq_true rfl⟩, htb _ wd_850, htb _ wd_851⟩ ⟨kc_blind _ _ _ _ _, va_recv hK (tw_PB hP) (ci := 5) (q0 := 0) rfl rfl, kc_pre _ hK hNW (tw_PB hP) (tw_DB rfl rfl hD)⟩ rfl rfl hl.1 rfl (lv_room (Nat.le_of_ble_eq_true rfl)) dL_law_757 ⟨by show cl + 0 + 0 ≤ 600000; omega, by show sl + 0 + 0 ≤ 7302250; omega⟩) hP hD hS hA (fun _ H locs hP hD hS => ?_)
  have hP : va_P D classes ((wX cx aX aH aI aS aT ak aC aD (aC 0) (aD 0) aG db u.2 ql qf qz qi sp s1 s2 s3 s4 s5 sP sC sH tl kl kf cv cc cm ch dv dc dm dh gw gh gk gq gr gj gR gT gC) ++ (wM cx aM xw xh xk xj xb xr xc xv xn w.2 yR yT yC yW yA yE yU yM yV yF yZ yI yD)) H := hP
  have hD : va_D (fun q : Nat => s.heap.size ≤ q) ((wX cx aX aH aI aS aT ak aC aD (aC 0) (aD 0) aG db u.2 ql qf qz qi sp s1 s2 s3 s4 s5 sP sC sH tl kl kf cv cc cm ch dv dc dm dh gw gh gk gq gr gj gR gT gC) ++ (wM cx aM xw xh xk xj xb xr xc xv xn w.2 yR yT yC yW yA yE yU yM yV yF yZ yI yD)) := hD
  refine lv_icmp_eq (tgt := 921) hx hb dL_law_760 (by decide) (fun _ => ?_) (fun q => absurd he q)
  exact hT aX aH aI aS aT ak aC aD aG aM db u.2 ql qf qz qi sp s1 s2 s3 s4 s5 sP sC sH tl kl kf cv cc cm ch dv dc dm dh gw gh gk gq gr gj gR gT gC xw xh xk xj xb xr xc xv xn w.2 yR yT yC yW yA yE yU yM yV yF yZ yI yD (cl + 0 + 0) (sl + 0 + 0) H locs ls hI (pot_cl0 hc1 hpt) (pot_sl0 hc2 hpt) hP hD hS hl
set_option maxHeartbeats 8000000 in
set_option maxRecDepth 100000 in
theorem lc_23 {p : Program} {l : Launch} {e : Env} {s : State} {m : MethodId} {below : List Frame} {meth : Method} {c : Code} {b L : Nat} {xs : Nat → Int32} {D : va_G} {cx : Nat → ClassId} {N : Nat} {x3 : Int32} (hx : p.tables.exec = Jvm.exec) (hb : c.code = code) (hml : c.maxLocals = 4) (hown : s.vm.findClass R_law = some m.cls) (htb : ∀ w ∈ kc_TB, w.before #[Value.ref b] s = true) (hNW : kc_NW s) (hK : va_K D classes (kc_TY cx) s) (hX : va_X b L xs s s.heap) (hbl : b < s.heap.size) (hNN : N = 4194304) (hin : ∀ j : Nat, j < 6 → vp_in (x3 + Int32.ofNat j) L) (hT : lw_G p l e s m below meth c b D cx N x3 921) : lw_G p l e s m below meth c b D cx N x3 765 := by
  intro aX aH aI aS aT ak aC aD aG aM db dn ql qf qz qi sp s1 s2 s3 s4 s5 sP sC sH tl kl kf cv cc cm ch dv dc dm dh gw gh gk gq gr gj gR gT gC xw xh xk xj xb xr xc xv xn xl yR yT yC yW yA yE yU yM yV yF yZ yI yD cl sl H locs ls hI hc1 hc2 hP hD hS hl
  have hA : ∀ q : Nat, s.heap.size ≤ q → (fun q : Nat => s.heap.size ≤ q) q := fun _ h => h
  have hbA : ¬ (fun q : Nat => s.heap.size ≤ q) b := Nat.not_le.mpr hbl
  refine lv_aload_n hx hb dL_law_765 rfl (lv_at hl 1 rfl) ?_
  refine lv_aload_n hx hb dL_law_766 rfl (lv_at hl 0 rfl) ?_
  refine lv_iload_n hx hb dL_law_767 rfl (lv_at hl 3 rfl) ?_
  refine lv_iconst (v := (1 : Int32)) hx hb dL_law_768 (by decide) ?_
  refine lv_iadd hx hb dL_law_769 ?_
  refine va_sld hx hb hX hbl hbA hS (hin 1 (by decide)) dL_law_770 ?_
  refine lv_aload_n hx hb dL_law_771 rfl (lv_at hl 0 rfl) ?_
  refine lv_iload_n hx hb dL_law_772 rfl (lv_at hl 3 rfl) ?_
  refine lv_iconst (v := (2 : Int32)) hx hb dL_law_773 (by decide) ?_
  refine lv_iadd hx hb dL_law_774 ?_
  refine va_sld hx hb hX hbl hbA hS (hin 2 (by decide)) dL_law_775 ?_
  refine lv_aload_n hx hb dL_law_776 rfl (lv_at hl 0 rfl) ?_
  refine lv_iload_n hx hb dL_law_777 rfl (lv_at hl 3 rfl) ?_
  refine lv_iconst (v := (3 : Int32)) hx hb dL_law_778 (by decide) ?_
  refine lv_iadd hx hb dL_law_779 ?_
  refine va_sld hx hb hX hbl hbA hS (hin 3 (by decide)) dL_law_780 ?_
  refine lv_aload_n hx hb dL_law_781 rfl (lv_at hl 0 rfl) ?_
  refine lv_iload_n hx hb dL_law_782 rfl (lv_at hl 3 rfl) ?_
  refine lv_iconst (v := (4 : Int32)) hx hb dL_law_783 (by decide) ?_
  refine lv_iadd hx hb dL_law_784 ?_
  refine va_sld hx hb hX hbl hbA hS (hin 4 (by decide)) dL_law_785 ?_
  refine lv_aload_n hx hb dL_law_786 rfl (lv_at hl 0 rfl) ?_
  refine lv_iload_n hx hb dL_law_787 rfl (lv_at hl 3 rfl) ?_
  refine lv_iconst (v := (5 : Int32)) hx hb dL_law_788 (by decide) ?_
  refine lv_iadd hx hb dL_law_789 ?_
  refine va_sld hx hb hX hbl hbA hS (hin 5 (by decide)) dL_law_790 ?_
  obtain ⟨u, w, kk, hu, hw, he, hpt, hI⟩ := st_copy hNN hI (xs (x3 + (1 : Int32)).toNatClampNeg) (xs (x3 + (2 : Int32)).toNatClampNeg) (xs (x3 + (3 : Int32)).toNatClampNeg) (xs (x3 + (4 : Int32)).toNatClampNeg) (xs (x3 + (5 : Int32)).toNatClampNeg)
  refine tw_iA rfl rfl (fun _ => rfl) (va_runV (As := [.int (xs (x3 + (1 : Int32)).toNatClampNeg), .int (xs (x3 + (2 : Int32)).toNatClampNeg), .int (xs (x3 + (3 : Int32)).toNatClampNeg), .int (xs (x3 + (4 : Int32)).toNatClampNeg), .int (xs (x3 + (5 : Int32)).toNatClampNeg)]) (rest := []) ⟨hx, hb, hml, hown, htb⟩ (metX4_copy l D cx aX aH aI aS aT ak aC aD aG db dn ql qf qz qi sp s1 s2 s3 s4 s5 sP sC sH tl kl kf cv cc cm ch dv dc dm dh gw gh gk gq gr gj gR gT gC (xs (x3 + (1 : Int32)).toNatClampNeg) (xs (x3 + (2 : Int32)).toNatClampNeg) (xs (x3 + (3 : Int32)).toNatClampNeg) (xs (x3 + (4 : Int32)).toNatClampNeg) (xs (x3 + (5 : Int32)).toNatClampNeg) N H.size u hu) ⟨callB_of 5 htb (kc_gI wd_538) rfl rfl rfl (htb _ wd_40) (htb _ wd_535) (by decide +kernel) ⟨Nat.le_of_ble_eq_true rfl, Nat.le_of_ble_eq_true rfl⟩, htb _ wd_536, htb _ wd_537⟩ ⟨kc_blind _ _ _ _ _, va_recv hK (tw_PA hP) (ci := 4) (q0 := 0) rfl rfl, kc_pre _ hK hNW (tw_PA hP) (tw_DA rfl hD)⟩ rfl rfl hl.1 rfl (lv_room (Nat.le_of_ble_eq_true rfl)) dL_law_791 ⟨by show cl + 0 ≤ 600000; omega, by show sl + 0 ≤ 7302250; omega⟩) hP hD hS hA (fun _ H locs hP hD hS => ?_)
  have hP : va_P D classes ((wX cx aX aH aI aS aT ak aC aD (aC 0) (aD 0) aG db u.2.1 ql qf qz u.2.2 sp s1 s2 s3 s4 s5 sP sC sH tl kl kf cv cc cm ch dv dc dm dh gw gh gk gq gr gj gR gT gC) ++ (wM cx aM xw xh xk xj xb xr xc xv xn xl yR yT yC yW yA yE yU yM yV yF yZ yI yD)) H := hP
  have hD : va_D (fun q : Nat => s.heap.size ≤ q) ((wX cx aX aH aI aS aT ak aC aD (aC 0) (aD 0) aG db u.2.1 ql qf qz u.2.2 sp s1 s2 s3 s4 s5 sP sC sH tl kl kf cv cc cm ch dv dc dm dh gw gh gk gq gr gj gR gT gC) ++ (wM cx aM xw xh xk xj xb xr xc xv xn xl yR yT yC yW yA yE yU yM yV yF yZ yI yD)) := hD
  refine lv_aload_n hx hb dL_law_794 rfl (lv_at hl 2 rfl) ?_
  refine lv_aload_n hx hb dL_law_795 rfl (lv_at hl 0 rfl) ?_
  refine lv_iload_n hx hb dL_law_796 rfl (lv_at hl 3 rfl) ?_
  refine lv_iconst (v := (1 : Int32)) hx hb dL_law_797 (by decide) ?_
  refine lv_iadd hx hb dL_law_798 ?_
  refine va_sld hx hb hX hbl hbA hS (hin 1 (by decide)) dL_law_799 ?_
  refine lv_aload_n hx hb dL_law_800 rfl (lv_at hl 0 rfl) ?_
  refine lv_iload_n hx hb dL_law_801 rfl (lv_at hl 3 rfl) ?_
  refine lv_iconst (v := (2 : Int32)) hx hb dL_law_802 (by decide) ?_
  refine lv_iadd hx hb dL_law_803 ?_
  refine va_sld hx hb hX hbl hbA hS (hin 2 (by decide)) dL_law_804 ?_
  refine lv_aload_n hx hb dL_law_805 rfl (lv_at hl 0 rfl) ?_
  refine lv_iload_n hx hb dL_law_806 rfl (lv_at hl 3 rfl) ?_
  refine lv_iconst (v := (3 : Int32)) hx hb dL_law_807 (by decide) ?_
  refine lv_iadd hx hb dL_law_808 ?_
  refine va_sld hx hb hX hbl hbA hS (hin 3 (by decide)) dL_law_809 ?_
  refine lv_aload_n hx hb dL_law_810 rfl (lv_at hl 0 rfl) ?_
  refine lv_iload_n hx hb dL_law_811 rfl (lv_at hl 3 rfl) ?_
  refine lv_iconst (v := (4 : Int32)) hx hb dL_law_812 (by decide) ?_
  refine lv_iadd hx hb dL_law_813 ?_
  refine va_sld hx hb hX hbl hbA hS (hin 4 (by decide)) dL_law_814 ?_
  refine lv_aload_n hx hb dL_law_815 rfl (lv_at hl 0 rfl) ?_
  refine lv_iload_n hx hb dL_law_816 rfl (lv_at hl 3 rfl) ?_
  refine lv_iconst (v := (5 : Int32)) hx hb dL_law_817 (by decide) ?_
  refine lv_iadd hx hb dL_law_818 ?_
  refine va_sld hx hb hX hbl hbA hS (hin 5 (by decide)) dL_law_819 ?_
  refine tw_iB rfl rfl (fun _ => rfl) (va_runV (As := [.int (xs (x3 + (1 : Int32)).toNatClampNeg), .int (xs (x3 + (2 : Int32)).toNatClampNeg), .int (xs (x3 + (3 : Int32)).toNatClampNeg), .int (xs (x3 + (4 : Int32)).toNatClampNeg), .int (xs (x3 + (5 : Int32)).toNatClampNeg)]) (rest := [.int u.1]) ⟨hx, hb, hml, hown, htb⟩ (metX5_copy l D cx aM xw xh xk xj xb xr xc xv xn xl yR yT yC yW yA yE yU yM yV yF yZ yI yD (xs (x3 + (1 : Int32)).toNatClampNeg) (xs (x3 + (2 : Int32)).toNatClampNeg) (xs (x3 + (3 : Int32)).toNatClampNeg) (xs (x3 + (4 : Int32)).toNatClampNeg) (xs (x3 + (5 : Int32)).toNatClampNeg) N H.size w hw) ⟨callB_of 5 htb (kc_gI wd_857) rfl rfl rfl (htb _ wd_46) (htb _ wd_854) (by decide +kernel) ⟨Nat.le_of_ble_eq_true rfl, Nat.le_of_ble_eq_true rfl⟩, htb _ wd_855, htb _ wd_856⟩ ⟨kc_blind _ _ _ _ _, va_recv hK (tw_PB hP) (ci := 5) (q0 := 0) rfl rfl, kc_pre _ hK hNW (tw_PB hP) (tw_DB rfl rfl hD)⟩ rfl rfl hl.1 rfl (lv_room (Nat.le_of_ble_eq_true rfl)) dL_law_820 ⟨by show cl + 0 + 0 ≤ 600000; omega, by show sl + 0 + 0 ≤ 7302250; omega⟩) hP hD hS hA (fun _ H locs hP hD hS => ?_)
  have hP : va_P D classes ((wX cx aX aH aI aS aT ak aC aD (aC 0) (aD 0) aG db u.2.1 ql qf qz u.2.2 sp s1 s2 s3 s4 s5 sP sC sH tl kl kf cv cc cm ch dv dc dm dh gw gh gk gq gr gj gR gT gC) ++ (wM cx aM xw xh xk xj xb xr xc xv xn w.2.1 yR yT yC yW yA yE yU yM yV yF yZ w.2.2.1 w.2.2.2)) H := hP
  have hD : va_D (fun q : Nat => s.heap.size ≤ q) ((wX cx aX aH aI aS aT ak aC aD (aC 0) (aD 0) aG db u.2.1 ql qf qz u.2.2 sp s1 s2 s3 s4 s5 sP sC sH tl kl kf cv cc cm ch dv dc dm dh gw gh gk gq gr gj gR gT gC) ++ (wM cx aM xw xh xk xj xb xr xc xv xn w.2.1 yR yT yC yW yA yE yU yM yV yF yZ w.2.2.1 w.2.2.2)) := hD
  refine lv_icmp_eq (tgt := 921) hx hb dL_law_823 (by decide) (fun _ => ?_) (fun q => absurd he q)
  exact hT aX aH aI aS aT ak aC aD aG aM db u.2.1 ql qf qz u.2.2 sp s1 s2 s3 s4 s5 sP sC sH tl kl kf cv cc cm ch dv dc dm dh gw gh gk gq gr gj gR gT gC xw xh xk xj xb xr xc xv xn w.2.1 yR yT yC yW yA yE yU yM yV yF yZ w.2.2.1 w.2.2.2 (cl + 0 + 0) (sl + 0 + 0) H locs ls hI (pot_cl0 hc1 hpt) (pot_sl0 hc2 hpt) hP hD hS hl
