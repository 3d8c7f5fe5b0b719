/-! the law, call by call -/
set_option maxHeartbeats 8000000 in
set_option maxRecDepth 100000 in
theorem lc_24 {p : Program} {l : Launch} {e : Env} {s : State} {m : MethodId} {below : List Frame} {meth : Method} {c : Code} {b L : Nat} {xs : Nat → Int32} {D : va_G} {cx : Nat → ClassId} {N : Nat} {x3 : Int32} (hx : p.tables.exec = Jvm.exec) (hb : c.code = code) (hml : c.maxLocals = 4) (hown : s.vm.findClass R_law = some m.cls) (htb : ∀ w ∈ kc_TB, w.before #[Value.ref b] s = true) (hNW : kc_NW s) (hK : va_K D classes (kc_TY cx) s) (hX : va_X b L xs s s.heap) (hbl : b < s.heap.size) (hNN : N = 4194304) (hin : ∀ j : Nat, j < 6 → vp_in (x3 + Int32.ofNat j) L) (hT : lw_G p l e s m below meth c b D cx N x3 921) : lw_G p l e s m below meth c b D cx N x3 828 := by
  intro aX aH aI aS aT ak aC aD aG aM db dn ql qf qz qi sp s1 s2 s3 s4 s5 sP sC sH tl kl kf cv cc cm ch dv dc dm dh gw gh gk gq gr gj gR gT gC xw xh xk xj xb xr xc xv xn xl yR yT yC yW yA yE yU yM yV yF yZ yI yD cl sl H locs ls hI hc1 hc2 hP hD hS hl
  have hA : ∀ q : Nat, s.heap.size ≤ q → (fun q : Nat => s.heap.size ≤ q) q := fun _ h => h
  have hbA : ¬ (fun q : Nat => s.heap.size ≤ q) b := Nat.not_le.mpr hbl
  refine lv_aload_n hx hb dL_law_828 rfl (lv_at hl 1 rfl) ?_
  refine lv_aload_n hx hb dL_law_829 rfl (lv_at hl 0 rfl) ?_
  refine lv_iload_n hx hb dL_law_830 rfl (lv_at hl 3 rfl) ?_
  refine lv_iconst (v := (1 : Int32)) hx hb dL_law_831 (by decide) ?_
  refine lv_iadd hx hb dL_law_832 ?_
  refine va_sld hx hb hX hbl hbA hS (hin 1 (by decide)) dL_law_833 ?_
  refine lv_aload_n hx hb dL_law_834 rfl (lv_at hl 0 rfl) ?_
  refine lv_iload_n hx hb dL_law_835 rfl (lv_at hl 3 rfl) ?_
  refine lv_iconst (v := (2 : Int32)) hx hb dL_law_836 (by decide) ?_
  refine lv_iadd hx hb dL_law_837 ?_
  refine va_sld hx hb hX hbl hbA hS (hin 2 (by decide)) dL_law_838 ?_
  obtain ⟨u, w, kk, hu, hw, he, hpt, hI⟩ := st_take hNN hI (xs (x3 + (1 : Int32)).toNatClampNeg) (xs (x3 + (2 : Int32)).toNatClampNeg)
  refine tw_iA rfl rfl (fun _ => rfl) (va_runV (As := [.int (xs (x3 + (1 : Int32)).toNatClampNeg), .int (xs (x3 + (2 : Int32)).toNatClampNeg)]) (rest := []) ⟨hx, hb, hml, hown, htb⟩ (metX4_take l D cx aX aH aI aS aT ak aC aD aG db dn ql qf qz qi sp s1 s2 s3 s4 s5 sP sC sH tl kl kf cv cc cm ch dv dc dm dh gw gh gk gq gr gj gR gT gC (xs (x3 + (1 : Int32)).toNatClampNeg) (xs (x3 + (2 : Int32)).toNatClampNeg) N H.size u hu) ⟨callB_of 2 htb (kc_gI wd_549) rfl rfl rfl (htb _ wd_40) (htb _ wd_546) (by decide +kernel) ⟨Nat.le_of_ble_eq_true rfl, Nat.le_of_ble_eq_true rfl⟩, htb _ wd_547, htb _ wd_548⟩ ⟨kc_blind _ _ _ _ _, va_recv hK (tw_PA hP) (ci := 4) (q0 := 0) rfl rfl, kc_pre _ hK hNW (tw_PA hP) (tw_DA rfl hD)⟩ rfl rfl hl.1 rfl (lv_room (Nat.le_of_ble_eq_true rfl)) dL_law_839 ⟨by show cl + 0 ≤ 600000; omega, by show sl + 0 ≤ 7302250; omega⟩) hP hD hS hA (fun ua H locs hP hD hS => ?_)
  have hP : va_P D classes ((wX cx aX aH aI aS aT ak ua.1 ua.2 (ua.1 0) (ua.2 0) aG db u.2.1 ql qf qz qi sp s1 s2 s3 s4 s5 sP sC sH tl kl kf u.2.2.1 u.2.2.2.1 u.2.2.2.2.1 u.2.2.2.2.2.1 u.2.2.2.2.2.2.1 u.2.2.2.2.2.2.2.1 u.2.2.2.2.2.2.2.2.1 u.2.2.2.2.2.2.2.2.2 gw gh gk gq gr gj gR gT gC) ++ (wM cx aM xw xh xk xj xb xr xc xv xn xl yR yT yC yW yA yE yU yM yV yF yZ yI yD)) H := hP
  have hD : va_D (fun q : Nat => s.heap.size ≤ q) ((wX cx aX aH aI aS aT ak ua.1 ua.2 (ua.1 0) (ua.2 0) aG db u.2.1 ql qf qz qi sp s1 s2 s3 s4 s5 sP sC sH tl kl kf u.2.2.1 u.2.2.2.1 u.2.2.2.2.1 u.2.2.2.2.2.1 u.2.2.2.2.2.2.1 u.2.2.2.2.2.2.2.1 u.2.2.2.2.2.2.2.2.1 u.2.2.2.2.2.2.2.2.2 gw gh gk gq gr gj gR gT gC) ++ (wM cx aM xw xh xk xj xb xr xc xv xn xl yR yT yC yW yA yE yU yM yV yF yZ yI yD)) := hD
  refine lv_aload_n hx hb dL_law_842 rfl (lv_at hl 2 rfl) ?_
  refine lv_aload_n hx hb dL_law_843 rfl (lv_at hl 0 rfl) ?_
  refine lv_iload_n hx hb dL_law_844 rfl (lv_at hl 3 rfl) ?_
  refine lv_iconst (v := (1 : Int32)) hx hb dL_law_845 (by decide) ?_
  refine lv_iadd hx hb dL_law_846 ?_
  refine va_sld hx hb hX hbl hbA hS (hin 1 (by decide)) dL_law_847 ?_
  refine lv_aload_n hx hb dL_law_848 rfl (lv_at hl 0 rfl) ?_
  refine lv_iload_n hx hb dL_law_849 rfl (lv_at hl 3 rfl) ?_
  refine lv_iconst (v := (2 : Int32)) hx hb dL_law_850 (by decide) ?_
  refine lv_iadd hx hb dL_law_851 ?_
  refine va_sld hx hb hX hbl hbA hS (hin 2 (by decide)) dL_law_852 ?_
  refine tw_iB rfl rfl (fun _ => rfl) (va_runV (As := [.int (xs (x3 + (1 : Int32)).toNatClampNeg), .int (xs (x3 + (2 : Int32)).toNatClampNeg)]) (rest := [.int u.1]) ⟨hx, hb, hml, hown, htb⟩ (metX5_take l D cx aM xw xh xk xj xb xr xc xv xn xl yR yT yC yW yA yE yU yM yV yF yZ yI yD (xs (x3 + (1 : Int32)).toNatClampNeg) (xs (x3 + (2 : Int32)).toNatClampNeg) N H.size w hw) ⟨callB_of 2 htb (kc_gI wd_861) rfl rfl rfl (htb _ wd_46) (htb _ wd_858) (by decide +kernel) ⟨Nat.le_of_ble_eq_true rfl, Nat.le_of_ble_eq_true rfl⟩, htb _ wd_859, htb _ wd_860⟩ ⟨kc_blind _ _ _ _ _, va_recv hK (tw_PB hP) (ci := 5) (q0 := 0) rfl rfl, kc_pre _ hK hNW (tw_PB hP) (tw_DB rfl rfl hD)⟩ rfl rfl hl.1 rfl (lv_room (Nat.le_of_ble_eq_true rfl)) dL_law_853 ⟨by show cl + 0 + 0 ≤ 600000; omega, by show sl + 0 + 0 ≤ 7302250; omega⟩) hP hD hS hA (fun _ H locs hP hD hS => ?_)
  have hP : va_P D classes ((wX cx aX aH aI aS aT ak ua.1 ua.2 (ua.1 0) (ua.2 0) aG db u.2.1 ql qf qz qi sp s1 s2 s3 s4 s5 sP sC sH tl kl kf u.2.2.1 u.2.2.2.1 u.2.2.2.2.1 u.2.2.2.2.2.1 u.2.2.2.2.2.2.1 u.2.2.2.2.2.2.2.1 u.2.2.2.2.2.2.2.2.1 u.2.2.2.2.2.2.2.2.2 gw gh gk gq gr gj gR gT gC) ++ (wM cx aM xw xh xk xj xb xr w.2.1 w.2.2.1 w.2.2.2.1 w.2.2.2.2.1 yR yT yC yW yA yE yU w.2.2.2.2.2.1 w.2.2.2.2.2.2 yF yZ yI yD)) H := hP
  have hD : va_D (fun q : Nat => s.heap.size ≤ q) ((wX cx aX aH aI aS aT ak ua.1 ua.2 (ua.1 0) (ua.2 0) aG db u.2.1 ql qf qz qi sp s1 s2 s3 s4 s5 sP sC sH tl kl kf u.2.2.1 u.2.2.2.1 u.2.2.2.2.1 u.2.2.2.2.2.1 u.2.2.2.2.2.2.1 u.2.2.2.2.2.2.2.1 u.2.2.2.2.2.2.2.2.1 u.2.2.2.2.2.2.2.2.2 gw gh gk gq gr gj gR gT gC) ++ (wM cx aM xw xh xk xj xb xr w.2.1 w.2.2.1 w.2.2.2.1 w.2.2.2.2.1 yR yT yC yW yA yE yU w.2.2.2.2.2.1 w.2.2.2.2.2.2 yF yZ yI yD)) := hD
  refine lv_icmp_eq (tgt := 921) hx hb dL_law_856 (by decide) (fun _ => ?_) (fun q => absurd he q)
  exact hT aX aH aI aS aT ak ua.1 ua.2 aG aM db u.2.1 ql qf qz qi sp s1 s2 s3 s4 s5 sP sC sH tl kl kf u.2.2.1 u.2.2.2.1 u.2.2.2.2.1 u.2.2.2.2.2.1 u.2.2.2.2.2.2.1 u.2.2.2.2.2.2.2.1 u.2.2.2.2.2.2.2.2.1 u.2.2.2.2.2.2.2.2.2 gw gh gk gq gr gj gR gT gC xw xh xk xj xb xr w.2.1 w.2.2.1 w.2.2.2.1 w.2.2.2.2.1 yR yT yC yW yA yE yU w.2.2.2.2.2.1 w.2.2.2.2.2.2 yF yZ yI yD (cl + 0 + 0) (sl + 0 + 0) H locs ls hI (pot_cl0 hc1 hpt) (pot_sl0 hc2 hpt) hP hD hS hl
set_option maxHeartbeats 8000000 in
set_option maxRecDepth 100000 in
theorem lc_25 {p : Program} {l : Launch} {e : Env} {s : State} {m : MethodId} {below : List Frame} {meth : Method} {c : Code} {b L : Nat} {xs : Nat → Int32} {D : va_G} {cx : Nat → ClassId} {N : Nat} {x3 : Int32} (hx : p.tables.exec = Jvm.exec) (hb : c.code = code) (hml : c.maxLocals = 4) (hown : s.vm.findClass R_law = some m.cls) (htb : ∀ w ∈ kc_TB, w.before #[Value.ref b] s = true) (hNW : kc_NW s) (hK : va_K D classes (kc_TY cx) s) (hX : va_X b L xs s s.heap) (hbl : b < s.heap.size) (hNN : N = 4194304) (hin : ∀ j : Nat, j < 6 → vp_in (x3 + Int32.ofNat j) L) (hT : lw_G p l e s m below meth c b D cx N x3 921) : lw_G p l e s m below meth c b D cx N x3 861 := by
  intro aX aH aI aS aT ak aC aD aG aM db dn ql qf qz qi sp s1 s2 s3 s4 s5 sP sC sH tl kl kf cv cc cm ch dv dc dm dh gw gh gk gq gr gj gR gT gC xw xh xk xj xb xr xc xv xn xl yR yT yC yW yA yE yU yM yV yF yZ yI yD cl sl H locs ls hI hc1 hc2 hP hD hS hl
  have hA : ∀ q : Nat, s.heap.size ≤ q → (fun q : Nat => s.heap.size ≤ q) q := fun _ h => h
  have hbA : ¬ (fun q : Nat => s.heap.size ≤ q) b := Nat.not_le.mpr hbl
  refine lv_aload_n hx hb dL_law_861 rfl (lv_at hl 1 rfl) ?_
  refine lv_aload_n hx hb dL_law_862 rfl (lv_at hl 0 rfl) ?_
  refine lv_iload_n hx hb dL_law_863 rfl (lv_at hl 3 rfl) ?_
  refine lv_iconst (v := (1 : Int32)) hx hb dL_law_864 (by decide) ?_
  refine lv_iadd hx hb dL_law_865 ?_
  refine va_sld hx hb hX hbl hbA hS (hin 1 (by decide)) dL_law_866 ?_
  obtain ⟨u, w, kk, hu, hw, he, hpt, hI⟩ := st_write hNN hI (xs (x3 + (1 : Int32)).toNatClampNeg)
  refine tw_iA rfl rfl (fun _ => rfl) (va_runV (As := [.int (xs (x3 + (1 : Int32)).toNatClampNeg)]) (rest := []) ⟨hx, hb, hml, hown, htb⟩ (metX4_write l D cx aX aH aI aS aT ak aC aD aG db dn ql qf qz qi sp s1 s2 s3 s4 s5 sP sC sH tl kl kf cv cc cm ch dv dc dm dh gw gh gk gq gr gj gR gT gC (xs (x3 + (1 : Int32)).toNatClampNeg) N H.size u hu) ⟨callB_of 1 htb (kc_gI wd_553) rfl rfl rfl (htb _ wd_40) (htb _ wd_550) (by decide +kernel) ⟨Nat.le_of_ble_eq_true rfl, Nat.le_of_ble_eq_true rfl⟩, htb _ wd_551, htb _ wd_552⟩ ⟨kc_blind _ _ _ _ _, va_recv hK (tw_PA hP) (ci := 4) (q0 := 0) rfl rfl, kc_pre _ hK hNW (tw_PA hP) (tw_DA rfl hD)⟩ rfl rfl hl.1 rfl (lv_room (Nat.le_of_ble_eq_true rfl)) dL_law_867 ⟨by show cl + 0 ≤ 600000; omega, by show sl + 0 ≤ 7302250; omega⟩) hP hD hS hA (fun _ H locs hP hD hS => ?_)
  have hP : va_P D classes ((wX cx aX aH aI aS aT ak aC aD (aC 0) (aD 0) aG db u.2.1 ql qf qz u.2.2 sp s1 s2 s3 s4 s5 sP sC sH tl kl kf cv cc cm ch dv dc dm dh gw gh gk gq gr gj gR gT gC) ++ (wM cx aM xw xh xk xj xb xr xc xv xn xl yR yT yC yW yA yE yU yM yV yF yZ yI yD)) H := hP
  have hD : va_D (fun q : Nat => s.heap.size ≤ q) ((wX cx aX aH aI aS aT ak aC aD (aC 0) (aD 0) aG db u.2.1 ql qf qz u.2.2 sp s1 s2 s3 s4 s5 sP sC sH tl kl kf cv cc cm ch dv dc dm dh gw gh gk gq gr gj gR gT gC) ++ (wM cx aM xw xh xk xj xb xr xc xv xn xl yR yT yC yW yA yE yU yM yV yF yZ yI yD)) := hD
  refine lv_aload_n hx hb dL_law_870 rfl (lv_at hl 2 rfl) ?_
  refine lv_aload_n hx hb dL_law_871 rfl (lv_at hl 0 rfl) ?_
  refine lv_iload_n hx hb dL_law_872 rfl (lv_at hl 3 rfl) ?_
  refine lv_iconst (v := (1 : Int32)) hx hb dL_law_873 (by decide) ?_
  refine lv_iadd hx hb dL_law_874 ?_
  refine va_sld hx hb hX hbl hbA hS (hin 1 (by decide)) dL_law_875 ?_
  refine tw_iB rfl rfl (fun _ => rfl) (va_runV (As := [.int (xs (x3 + (1 : Int32)).toNatClampNeg)]) (rest := [.int u.1]) ⟨hx, hb, hml, hown, htb⟩ (metX5_write l D cx aM xw xh xk xj xb xr xc xv xn xl yR yT yC yW yA yE yU yM yV yF yZ yI yD (xs (x3 + (1 : Int32)).toNatClampNeg) N H.size w hw) ⟨callB_of 1 htb (kc_gI wd_867) rfl rfl rfl (htb _ wd_46) (htb _ wd_864) (by decide +kernel) ⟨Nat.le_of_ble_eq_true rfl, Nat.le_of_ble_eq_true rfl⟩, htb _ wd_865, htb _ wd_866⟩ ⟨kc_blind _ _ _ _ _, va_recv hK (tw_PB hP) (ci := 5) (q0 := 0) rfl rfl, kc_pre _ hK hNW (tw_PB hP) (tw_DB rfl rfl hD)⟩ rfl rfl hl.1 rfl (lv_room (Nat.le_of_ble_eq_true rfl)) dL_law_876 ⟨by show cl + 0 + 0 ≤ 600000; omega, by show sl + 0 + 0 ≤ 7302250; omega⟩) hP hD hS hA (fun _ H locs hP hD hS => ?_)
  have hP : va_P D classes ((wX cx aX aH aI aS aT ak aC aD (aC 0) (aD 0) aG db u.2.1 ql qf qz u.2.2 sp s1 s2 s3 s4 s5 sP sC sH tl kl kf cv cc cm ch dv dc dm dh gw gh gk gq gr gj gR gT gC) ++ (wM cx aM xw xh xk xj xb xr xc xv xn w.2.1 yR yT yC yW yA yE yU yM yV yF yZ w.2.2 yD)) H := hP
  have hD : va_D (fun q : Nat => s.heap.size ≤ q) ((wX cx aX aH aI aS aT ak aC aD (aC 0) (aD 0) aG db u.2.1 ql qf qz u.2.2 sp s1 s2 s3 s4 s5 sP sC sH tl kl kf cv cc cm ch dv dc dm dh gw gh gk gq gr gj gR gT gC) ++ (wM cx aM xw xh xk xj xb xr xc xv xn w.2.1 yR yT yC yW yA yE yU yM yV yF yZ w.2.2 yD)) := hD
  refine lv_icmp_eq (tgt := 921) hx hb dL_law_879 (by decide) (fun _ => ?_) (fun q => absurd he q)
  exact hT aX aH aI aS aT ak aC aD aG aM db u.2.1 ql qf qz u.2.2 sp s1 s2 s3 s4 s5 sP sC sH tl kl kf cv cc cm ch dv dc dm dh gw gh gk gq gr gj gR gT gC xw xh xk xj xb xr xc xv xn w.2.1 yR yT yC yW yA yE yU yM yV yF yZ w.2.2 yD (cl + 0 + 0) (sl + 0 + 0) H locs ls hI (pot_cl0 hc1 hpt) (pot_sl0 hc2 hpt) hP hD hS hl
set_option maxHeartbeats 8000000 in
set_option maxRecDepth 100000 in
theorem lc_26 {p : Program} {l : Launch} {e : Env} {s : State} {m : MethodId} {below : List Frame} {meth : Method} {c : Code} {b L : Nat} {xs : Nat → Int32} {D : va_G} {cx : Nat → ClassId} {N : Nat} {x3 : Int32} (hx : p.tables.exec = Jvm.exec) (hb : c.code = code) (hml : c.maxLocals = 4) (hown : s.vm.findClass R_law = some m.cls) (htb : ∀ w ∈ kc_TB, w.before #[Value.ref b] s = true) (hNW : kc_NW s) (hK : va_K D classes (kc_TY cx) s) (hX : va_X b L xs s s.heap) (hbl : b < s.heap.size) (hNN : N = 4194304) (hin : ∀ j : Nat, j < 6 → vp_in (x3 + Int32.ofNat j) L) (hT : lw_G p l e s m below meth c b D cx N x3 921) : lw_G p l e s m below meth c b D cx N x3 884 := by
  intro aX aH aI aS aT ak aC aD aG aM db dn ql qf qz qi sp s1 s2 s3 s4 s5 sP sC sH tl kl kf cv cc cm ch dv dc dm dh gw gh gk gq gr gj gR gT gC xw xh xk xj xb xr xc xv xn xl yR yT yC yW yA yE yU yM yV yF yZ yI yD cl sl H locs ls hI hc1 hc2 hP hD hS hl
  have hA : ∀ q : Nat, s.heap.size ≤ q → (fun q : Nat => s.heap.size ≤ q) q := fun _ h => h
  have hbA : ¬ (fun q : Nat => s.heap.size ≤ q) b := Nat.not_le.mpr hbl
  refine lv_aload_n hx hb dL_law_884 rfl (lv_at hl 1 rfl) ?_
  refine lv_aload_n hx hb dL_law_885 rfl (lv_at hl 0 rfl) ?_
  refine lv_iload_n hx hb dL_law_886 rfl (lv_at hl 3 rfl) ?_
  refine lv_iconst (v := (1 : Int32)) hx hb dL_law_887 (by decide) ?_
  refine lv_iadd hx hb dL_law_888 ?_
  refine va_sld hx hb hX hbl hbA hS (hin 1 (by decide)) dL_law_889 ?_
  obtain ⟨u, w, kk, hu, hw, he, hpt, hI⟩ := st_count hNN hI (xs (x3 + (1 : Int32)).toNatClampNeg)
  refine tw_iA rfl rfl (fun _ => rfl) (va_runV (As := [.int (xs (x3 + (1 : Int32)).toNatClampNeg)]) (rest := []) ⟨hx, hb, hml, hown, htb⟩ (metX4_count l D cx aX aH aI aS aT ak aC aD aG db dn ql qf qz qi sp s1 s2 s3 s4 s5 sP sC sH tl kl kf cv cc cm ch dv dc dm dh gw gh gk gq gr gj gR gT gC (xs (x3 + (1 : Int32)).toNatClampNeg) N H.size u hu) ⟨callB_of 1 htb (kc_gI wd_557) rfl rfl rfl (htb _ wd_40) (htb _ wd_554) (by decide +kernel) ⟨Nat.le_of_ble_eq_true rfl, Nat.le_of_ble_eq_true rfl⟩, htb _ wd_555, htb _ wd_556⟩ ⟨kc_blind _ _ _ _ _, va_recv hK (tw_PA hP) (ci := 4) (q0 := 0) rfl rfl, kc_pre _ hK hNW (tw_PA hP) (tw_DA rfl hD)⟩ rfl rfl hl.1 rfl (lv_room (Nat.le_of_ble_eq_true rfl)) dL_law_890 ⟨by show cl + 0 ≤ 600000; omega, by show sl + 0 ≤ 7302250; omega⟩) hP hD hS hA (fun _ H locs hP hD hS => ?_)
  have hP : va_P D classes ((wX cx aX aH aI aS aT ak aC aD (aC 0) (aD 0) aG db dn ql qf qz qi sp s1 s2 s3 s4 s5 sP sC sH tl kl kf cv cc cm ch dv dc dm dh gw gh gk gq gr gj gR gT gC) ++ (wM cx aM xw xh xk xj xb xr xc xv xn xl yR yT yC yW yA yE yU yM yV yF yZ yI yD)) H := hP
  have hD : va_D (fun q : Nat => s.heap.size ≤ q) ((wX cx aX aH aI aS aT ak aC aD (aC 0) (aD 0) aG db dn ql qf qz qi sp s1 s2 s3 s4 s5 sP sC sH tl kl kf cv cc cm ch dv dc dm dh gw gh gk gq gr gj gR gT gC) ++ (wM cx aM xw xh xk xj xb xr xc xv xn xl yR yT yC yW yA yE yU yM yV yF yZ yI yD)) := hD
  refine lv_aload_n hx hb dL_law_893 rfl (lv_at hl 2 rfl) ?_
  refine lv_aload_n hx hb dL_law_894 rfl (lv_at hl 0 rfl) ?_
  refine lv_iload_n hx hb dL_law_895 rfl (lv_at hl 3 rfl) ?_
  refine lv_iconst (v := (1 : Int32)) hx hb dL_law_896 (by decide) ?_
  refine lv_iadd hx hb dL_law_897 ?_
  refine va_sld hx hb hX hbl hbA hS (hin 1 (by decide)) dL_law_898 ?_
  refine tw_iB rfl rfl (fun _ => rfl) (va_runV (As := [.int (xs (x3 + (1 : Int32)).toNatClampNeg)]) (rest := [.int u]) ⟨hx, hb, hml, hown, htb⟩ (metX5_count l D cx aM xw xh xk xj xb xr xc xv xn xl yR yT yC yW yA yE yU yM yV yF yZ yI yD (xs (x3 + (1 : Int32)).toNatClampNeg) N H.size w hw) ⟨callB_of 1 htb (kc_gI wd_871) rfl rfl rfl (htb _ wd_46) (htb _ wd_868) (by decide +kernel) ⟨Nat.le_of_ble_eq_true rfl, Nat.le_of_ble_eq_true rfl⟩, htb _ wd_869, htb _ wd_870⟩ ⟨kc_blind _ _ _ _ _, va_recv hK (tw_PB hP) (ci := 5) (q0 := 0) rfl rfl, kc_pre _ hK hNW (tw_PB hP) (tw_DB rfl rfl hD)⟩ rfl rfl hl.1 rfl (lv_room (Nat.le_of_ble_eq_true rfl)) dL_law_899 ⟨by show cl + 0 + 0 ≤ 600000; omega, by show sl + 0 + 0 ≤ 7302250; omega⟩) hP hD hS hA (fun _ H locs hP hD hS => ?_)
  have hP : va_P D classes ((wX cx aX aH aI aS aT ak aC aD (aC 0) (aD 0) aG db dn ql qf qz qi sp s1 s2 s3 s4 s5 sP sC sH tl kl kf cv cc cm ch dv dc dm dh gw gh gk gq gr gj gR gT gC) ++ (wM cx aM xw xh xk xj xb xr xc xv xn xl yR yT yC yW yA yE yU yM yV yF yZ yI yD)) H := hP
  have hD : va_D (fun q : Nat => s.heap.size ≤ q) ((wX cx aX aH aI aS aT ak aC aD (aC 0) (aD 0) aG db dn ql qf qz qi sp s1 s2 s3 s4 s5 sP sC sH tl kl kf cv cc cm ch dv dc dm dh gw gh gk gq gr gj gR gT gC) ++ (wM cx aM xw xh xk xj xb xr xc xv xn xl yR yT yC yW yA yE yU yM yV yF yZ yI yD)) := hD
  refine lv_icmp_eq (tgt := 921) hx hb dL_law_902 (by decide) (fun _ => ?_) (fun q => absurd he q)
  exact hT aX aH aI aS aT ak aC aD aG aM db dn ql qf qz qi sp s1 s2 s3 s4 s5 sP sC sH tl kl kf cv cc cm ch dv dc dm dh gw gh gk gq gr gj gR gT gC xw xh xk xj xb xr xc xv xn xl yR yT yC yW yA yE yU yM yV yF yZ yI yD (cl + 0 + 0) (sl + 0 + 0) H locs ls hI (pot_cl0 hc1 hpt) (pot_sl0 hc2 hpt) hP hD hS hl
set_option maxHeartbeats 8000000 in
set_option maxRecDepth 100000 in
theorem lc_27 {p : Program} {l : Launch} {e : Env} {s : State} {m : MethodId} {below : List Frame} {meth : Method} {c : Code} {b L : Nat} {xs : Nat → Int32} {D : va_G} {cx : Nat → ClassId} {N : Nat} {x3 : Int32} (hx : p.tables.exec = Jvm.exec) (hb : c.code = code) (hml : c.maxLocals = 4) (hown : s.vm.findClass R_law = some m.cls) (htb : ∀ w ∈ kc_TB, w.before #[Value.ref b] s = true) (hNW : kc_NW s) (hK : va_K D classes (kc_TY cx) s) (hX : va_X b L xs s s.heap) (hbl : b < s.heap.size) (hNN : N = 4194304) (hin : ∀ j : Nat, j < 6 → vp_in (x3 + Int32.ofNat j) L) (hT : lw_G p l e s m below meth c b D cx N x3 921) : lw_G p l e s m below meth c b D cx N x3 907 := by
  intro aX aH aI aS aT ak aC aD aG aM db dn ql qf qz qi sp s1 s2 s3 s4 s5 sP sC sH tl kl kf cv cc cm ch dv dc dm dh gw gh gk gq gr gj gR gT gC xw xh xk xj xb xr xc xv xn xl yR yT yC yW yA yE yU yM yV yF yZ yI yD cl sl H locs ls hI hc1 hc2 hP hD hS hl
  have hA : ∀ q : Nat, s.heap.size ≤ q → (fun q : Nat => s.heap.size ≤ q) q := fun _ h => h
  have hbA : ¬ (fun q : Nat => s.heap.size ≤ q) b := Nat.not_le.mpr hbl
  refine lv_aload_n hx hb dL_law_907 rfl (lv_at hl 1 rfl) ?_
  obtain ⟨u, w, kk, hu, hw, he, hpt, hI⟩ := st_digest hNN hI 
  refine tw_lA rfl rfl (fun _ => rfl) (va_runV (As := []) (rest := []) ⟨hx, hb, hml, hown, htb⟩ (metX4_digest l D cx aX aH aI aS aT ak aC aD aG db dn ql qf qz qi sp s1 s2 s3 s4 s5 sP sC sH tl kl kf cv cc cm ch dv dc dm dh gw gh gk gq gr gj gR gT gC  N H.size u hu) ⟨callB_of 0 htb (kc_gI wd_561) rfl rfl rfl (htb _ wd_40) (htb _ wd_558) (by decide +kernel) ⟨Nat.le_of_ble_eq_true rfl, Nat.le_of_ble_eq_true rfl⟩, htb _ wd_559, htb _ wd_560⟩ ⟨kc_blind _ _ _ _ _, va_recv hK (tw_PA hP) (ci := 4) (q0 := 0) rfl rfl, kc_pre _ hK hNW (tw_PA hP) (tw_DA rfl hD)⟩ rfl rfl hl.1 rfl (lv_room (Nat.le_of_ble_eq_true rfl)) dL_law_908 ⟨by show cl + 0 ≤ 600000; omega, by show sl + 0 ≤ 7302250; omega⟩) hP hD hS hA (fun _ H locs hP hD hS => ?_)
  have hP : va_P D classes ((wX cx aX aH aI aS aT ak aC aD (aC 0) (aD 0) aG db dn ql qf qz qi sp s1 s2 s3 s4 s5 sP sC sH tl kl kf cv cc cm ch dv dc dm dh gw gh gk gq gr gj gR gT gC) ++ (wM cx aM xw xh xk xj xb xr xc xv xn xl yR yT yC yW yA yE yU yM yV yF yZ yI yD)) H := hP
  have hD : va_D (fun q : Nat => s.heap.size ≤ q) ((wX cx aX aH aI aS aT ak aC aD (aC 0) (aD 0) aG db dn ql qf qz qi sp s1 s2 s3 s4 s5 sP sC sH tl kl kf cv cc cm ch dv dc dm dh gw gh gk gq gr gj gR gT gC) ++ (wM cx aM xw xh xk xj xb xr xc xv xn xl yR yT yC yW yA yE yU yM yV yF yZ yI yD)) := hD
  refine lv_aload_n hx hb dL_law_911 rfl (lv_at hl 2 rfl) ?_
  refine tw_lB rfl rfl (fun _ => rfl) (va_runV (As := []) (rest := [.long u]) ⟨hx, hb, hml, hown, htb⟩ (metX5_digest l D cx aM xw xh xk xj xb xr xc xv xn xl yR yT yC yW yA yE yU yM yV yF yZ yI yD  N H.size w hw) ⟨callB_of 0 htb (kc_gI wd_875) rfl rfl rfl (htb _ wd_46) (htb _ wd_872) (by decide +kernel) ⟨Nat.le_of_ble_eq_true rfl, Nat.le_of_ble_eq_true rfl⟩, htb _ wd_873, htb _ wd_874⟩ ⟨kc_blind _ _ _ _ _, va_recv hK (tw_PB hP) (ci := 5) (q0 := 0) rfl rfl, kc_pre _ hK hNW (tw_PB hP) (tw_DB rfl rfl hD)⟩ rfl rfl hl.1 rfl (lv_room (Nat.le_of_ble_eq_true rfl)) dL_law_912 ⟨by show cl + 0 + 0 ≤ 600000; omega, by show sl + 0 + 0 ≤ 7302250; omega⟩) hP hD hS hA (fun _ H locs hP hD hS => ?_)
  have hP : va_P D classes ((wX cx aX aH aI aS aT ak aC aD (aC 0) (aD 0) aG db dn ql qf qz qi sp s1 s2 s3 s4 s5 sP sC sH tl kl kf cv cc cm ch dv dc dm dh gw gh gk gq gr gj gR gT gC) ++ (wM cx aM xw xh xk xj xb xr w.2.1 xv xn xl yR yT yC yW yA yE yU w.2.2 yV yF yZ yI yD)) H := hP
  have hD : va_D (fun q : Nat => s.heap.size ≤ q) ((wX cx aX aH aI aS aT ak aC aD (aC 0) (aD 0) aG db dn ql qf qz qi sp s1 s2 s3 s4 s5 sP sC sH tl kl kf cv cc cm ch dv dc dm dh gw gh gk gq gr gj gR gT gC) ++ (wM cx aM xw xh xk xj xb xr w.2.1 xv xn xl yR yT yC yW yA yE yU w.2.2 yV yF yZ yI yD)) := hD
  refine W.lcmp hx hb dL_law_915 ?_
  refine lv_if_eq (tgt := 921) hx hb dL_law_916 (by decide) (fun _ => ?_) (fun q => absurd (by rw [he]; exact lg_self _) q)
  exact hT aX aH aI aS aT ak aC aD aG aM db dn ql qf qz qi sp s1 s2 s3 s4 s5 sP sC sH tl kl kf cv cc cm ch dv dc dm dh gw gh gk gq gr gj gR gT gC xw xh xk xj xb xr w.2.1 xv xn xl yR yT yC yW yA yE yU w.2.2 yV yF yZ yI yD (cl + 0 + 0) (sl + 0 + 0) H locs ls hI (pot_cl0 hc1 hpt) (pot_sl0 hc2 hpt) hP hD hS hl
