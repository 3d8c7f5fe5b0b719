/-! the law, call by call -/
set_option maxHeartbeats 8000000 in
set_option maxRecDepth 100000 in
theorem lc_1 {p : Program} {l : Launch} {e : Env} {s : State} {m : MethodId} {below : List Frame} {meth : Method} {c : Code} {b L : Nat} {xs : Nat → Int32} {D : va_G} {cx : Nat → ClassId} {N : Nat} {x3 : Int32} (hx : p.tables.exec = Jvm.exec) (hb : c.code = code) (hml : c.maxLocals = 4) (hown : s.vm.findClass R_law = some m.cls) (htb : ∀ w ∈ kc_TB, w.before #[Value.ref b] s = true) (hNW : kc_NW s) (hK : va_K D classes (kc_TY cx) s) (hX : va_X b L xs s s.heap) (hbl : b < s.heap.size) (hNN : N = 4194304) (hin : ∀ j : Nat, j < 6 → vp_in (x3 + Int32.ofNat j) L) (hT : lw_G p l e s m below meth c b D cx N x3 921) : lw_G p l e s m below meth c b D cx N x3 229 := by
  intro aX aH aI aS aT ak aC aD aG aM db dn ql qf qz qi sp s1 s2 s3 s4 s5 sP sC sH tl kl kf cv cc cm ch dv dc dm dh gw gh gk gq gr gj gR gT gC xw xh xk xj xb xr xc xv xn xl yR yT yC yW yA yE yU yM yV yF yZ yI yD cl sl H locs ls hI hc1 hc2 hP hD hS hl
  have hA : ∀ q : Nat, s.heap.size ≤ q → (fun q : Nat => s.heap.size ≤ q) q := fun _ h => h
  have hbA : ¬ (fun q : Nat => s.heap.size ≤ q) b := Nat.not_le.mpr hbl
  refine lv_aload_n hx hb dL_law_229 rfl (lv_at hl 1 rfl) ?_
  refine lv_aload_n hx hb dL_law_230 rfl (lv_at hl 0 rfl) ?_
  refine lv_iload_n hx hb dL_law_231 rfl (lv_at hl 3 rfl) ?_
  refine lv_iconst (v := (1 : Int32)) hx hb dL_law_232 (by decide) ?_
  refine lv_iadd hx hb dL_law_233 ?_
  refine va_sld hx hb hX hbl hbA hS (hin 1 (by decide)) dL_law_234 ?_
  obtain ⟨u, w, kk, hu, hw, he, hpt, hI⟩ := st_drop hNN hI (xs (x3 + (1 : Int32)).toNatClampNeg)
  refine tw_iA rfl rfl (fun _ => rfl) (va_runV (As := [.int (xs (x3 + (1 : Int32)).toNatClampNeg)]) (rest := []) ⟨hx, hb, hml, hown, htb⟩ (metX4_drop l D cx aX aH aI aS aT ak aC aD aG db dn ql qf qz qi sp s1 s2 s3 s4 s5 sP sC sH tl kl kf cv cc cm ch dv dc dm dh gw gh gk gq gr gj gR gT gC (xs (x3 + (1 : Int32)).toNatClampNeg) N H.size u hu) ⟨callB_of 1 htb (kc_gI wd_267) rfl rfl rfl (htb _ wd_40) (htb _ wd_264) (by decide +kernel) ⟨Nat.le_of_ble_eq_true rfl, Nat.le_of_ble_eq_true rfl⟩, htb _ wd_265, htb _ wd_266⟩ ⟨kc_blind _ _ _ _ _, va_recv hK (tw_PA hP) (ci := 4) (q0 := 0) rfl rfl, kc_pre _ hK hNW (tw_PA hP) (tw_DA rfl hD)⟩ rfl rfl hl.1 rfl (lv_room (Nat.le_of_ble_eq_true rfl)) dL_law_235 ⟨by show cl + 0 ≤ 600000; omega, by show sl + 0 ≤ 7302250; omega⟩) hP hD hS hA (fun _ H locs hP hD hS => ?_)
  have hP : va_P D classes ((wX cx aX aH aI aS aT ak aC aD (aC 0) (aD 0) aG db dn ql qf qz qi sp s1 s2 s3 s4 s5 sP sC sH tl kl kf u.2.1 u.2.2.1 u.2.2.2.1 u.2.2.2.2 dv dc dm dh gw gh gk gq gr gj gR gT gC) ++ (wM cx aM xw xh xk xj xb xr xc xv xn xl yR yT yC yW yA yE yU yM yV yF yZ yI yD)) H := hP
  have hD : va_D (fun q : Nat => s.heap.size ≤ q) ((wX cx aX aH aI aS aT ak aC aD (aC 0) (aD 0) aG db dn ql qf qz qi sp s1 s2 s3 s4 s5 sP sC sH tl kl kf u.2.1 u.2.2.1 u.2.2.2.1 u.2.2.2.2 dv dc dm dh gw gh gk gq gr gj gR gT gC) ++ (wM cx aM xw xh xk xj xb xr xc xv xn xl yR yT yC yW yA yE yU yM yV yF yZ yI yD)) := hD
  refine lv_aload_n hx hb dL_law_238 rfl (lv_at hl 2 rfl) ?_
  refine lv_aload_n hx hb dL_law_239 rfl (lv_at hl 0 rfl) ?_
  refine lv_iload_n hx hb dL_law_240 rfl (lv_at hl 3 rfl) ?_
  refine lv_iconst (v := (1 : Int32)) hx hb dL_law_241 (by decide) ?_
  refine lv_iadd hx hb dL_law_242 ?_
  refine va_sld hx hb hX hbl hbA hS (hin 1 (by decide)) dL_law_243 ?_
  refine tw_iB rfl rfl (fun _ => rfl) (va_runV (As := [.int (xs (x3 + (1 : Int32)).toNatClampNeg)]) (rest := [.int u.1]) ⟨hx, hb, hml, hown, htb⟩ (metX5_drop l D cx aM xw xh xk xj xb xr xc xv xn xl yR yT yC yW yA yE yU yM yV yF yZ yI yD (xs (x3 + (1 : Int32)).toNatClampNeg) N H.size w hw) ⟨callB_of 1 htb (kc_gI wd_722) rfl rfl rfl (htb _ wd_46) (htb _ wd_719) (by decide +kernel) ⟨Nat.le_of_ble_eq_true rfl, Nat.le_of_ble_eq_true rfl⟩, htb _ wd_720, htb _ wd_721⟩ ⟨kc_blind _ _ _ _ _, va_recv hK (tw_PB hP) (ci := 5) (q0 := 0) rfl rfl, kc_pre _ hK hNW (tw_PB hP) (tw_DB rfl rfl hD)⟩ rfl rfl hl.1 rfl (lv_room (Nat.le_of_ble_eq_true rfl)) dL_law_244 ⟨by show cl + 0 + 0 ≤ 600000; omega, by show sl + 0 + 0 ≤ 7302250; omega⟩) hP hD hS hA (fun _ H locs hP hD hS => ?_)
  have hP : va_P D classes ((wX cx aX aH aI aS aT ak aC aD (aC 0) (aD 0) aG db dn ql qf qz qi sp s1 s2 s3 s4 s5 sP sC sH tl kl kf u.2.1 u.2.2.1 u.2.2.2.1 u.2.2.2.2 dv dc dm dh gw gh gk gq gr gj gR gT gC) ++ (wM cx aM xw xh xk xj xb xr xc w.2.1 w.2.2.1 xl yR yT yC yW yA yE yU yM w.2.2.2 yF yZ yI yD)) H := hP
  have hD : va_D (fun q : Nat => s.heap.size ≤ q) ((wX cx aX aH aI aS aT ak aC aD (aC 0) (aD 0) aG db dn ql qf qz qi sp s1 s2 s3 s4 s5 sP sC sH tl kl kf u.2.1 u.2.2.1 u.2.2.2.1 u.2.2.2.2 dv dc dm dh gw gh gk gq gr gj gR gT gC) ++ (wM cx aM xw xh xk xj xb xr xc w.2.1 w.2.2.1 xl yR yT yC yW yA yE yU yM w.2.2.2 yF yZ yI yD)) := hD
  refine lv_icmp_eq (tgt := 921) hx hb dL_law_247 (by decide) (fun _ => ?_) (fun q => absurd he q)
  exact hT aX aH aI aS aT ak aC aD aG aM db dn ql qf qz qi sp s1 s2 s3 s4 s5 sP sC sH tl kl kf u.2.1 u.2.2.1 u.2.2.2.1 u.2.2.2.2 dv dc dm dh gw gh gk gq gr gj gR gT gC xw xh xk xj xb xr xc w.2.1 w.2.2.1 xl yR yT yC yW yA yE yU yM w.2.2.2 yF yZ yI yD (cl + 0 + 0) (sl + 0 + 0) H locs ls hI (pot_cl0 hc1 hpt) (pot_sl0 hc2 hpt) hP hD hS hl
set_option maxHeartbeats 8000000 in
set_option maxRecDepth 100000 in
theorem lc_2 {p : Program} {l : Launch} {e : Env} {s : State} {m : MethodId} {below : List Frame} {meth : Method} {c : Code} {b L : Nat} {xs : Nat → Int32} {D : va_G} {cx : Nat → ClassId} {N : Nat} {x3 : Int32} (hx : p.tables.exec = Jvm.exec) (hb : c.code = code) (hml : c.maxLocals = 4) (hown : s.vm.findClass R_law = some m.cls) (htb : ∀ w ∈ kc_TB, w.before #[Value.ref b] s = true) (hNW : kc_NW s) (hK : va_K D classes (kc_TY cx) s) (hX : va_X b L xs s s.heap) (hbl : b < s.heap.size) (hNN : N = 4194304) (hin : ∀ j : Nat, j < 6 → vp_in (x3 + Int32.ofNat j) L) (hT : lw_G p l e s m below meth c b D cx N x3 921) : lw_G p l e s m below meth c b D cx N x3 252 := by
  intro aX aH aI aS aT ak aC aD aG aM db dn ql qf qz qi sp s1 s2 s3 s4 s5 sP sC sH tl kl kf cv cc cm ch dv dc dm dh gw gh gk gq gr gj gR gT gC xw xh xk xj xb xr xc xv xn xl yR yT yC yW yA yE yU yM yV yF yZ yI yD cl sl H locs ls hI hc1 hc2 hP hD hS hl
  have hA : ∀ q : Nat, s.heap.size ≤ q → (fun q : Nat => s.heap.size ≤ q) q := fun _ h => h
  have hbA : ¬ (fun q : Nat => s.heap.size ≤ q) b := Nat.not_le.mpr hbl
  refine lv_aload_n hx hb dL_law_252 rfl (lv_at hl 1 rfl) ?_
  refine lv_aload_n hx hb dL_law_253 rfl (lv_at hl 0 rfl) ?_
  refine lv_iload_n hx hb dL_law_254 rfl (lv_at hl 3 rfl) ?_
  refine lv_iconst (v := (1 : Int32)) hx hb dL_law_255 (by decide) ?_
  refine lv_iadd hx hb dL_law_256 ?_
  refine va_sld hx hb hX hbl hbA hS (hin 1 (by decide)) dL_law_257 ?_
  obtain ⟨u, w, kk, hu, hw, he, hpt, hI⟩ := st_back hNN hI (xs (x3 + (1 : Int32)).toNatClampNeg)
  refine tw_iA rfl rfl (fun _ => rfl) (va_runV (As := [.int (xs (x3 + (1 : Int32)).toNatClampNeg)]) (rest := []) ⟨hx, hb, hml, hown, htb⟩ (metX4_back l D cx aX aH aI aS aT ak aC aD aG db dn ql qf qz qi sp s1 s2 s3 s4 s5 sP sC sH tl kl kf cv cc cm ch dv dc dm dh gw gh gk gq gr gj gR gT gC (xs (x3 + (1 : Int32)).toNatClampNeg) N H.size u hu) ⟨callB_of 1 htb (kc_gI wd_301) rfl rfl rfl (htb _ wd_40) (htb _ wd_298) (by decide +kernel) ⟨Nat.le_of_ble_eq_true rfl, Nat.le_of_ble_eq_true rfl⟩, htb _ wd_299, htb _ wd_300⟩ ⟨kc_blind _ _ _ _ _, va_recv hK (tw_PA hP) (ci := 4) (q0 := 0) rfl rfl, kc_pre _ hK hNW (tw_PA hP) (tw_DA rfl hD)⟩ rfl rfl hl.1 rfl (lv_room (Nat.le_of_ble_eq_true rfl)) dL_law_258 ⟨by show cl + 0 ≤ 600000; omega, by show sl + 0 ≤ 7302250; omega⟩) hP hD hS hA (fun _ H locs hP hD hS => ?_)
  have hP : va_P D classes ((wX cx aX aH aI aS aT ak aC aD (aC 0) (aD 0) aG db dn ql qf qz qi sp s1 s2 s3 s4 s5 sP sC sH tl kl kf u.2.1 cc u.2.2.1 u.2.2.2 dv dc dm dh gw gh gk gq gr gj gR gT gC) ++ (wM cx aM xw xh xk xj xb xr xc xv xn xl yR yT yC yW yA yE yU yM yV yF yZ yI yD)) H := hP
  have hD : va_D (fun q : Nat => s.heap.size ≤ q) ((wX cx aX aH aI aS aT ak aC aD (aC 0) (aD 0) aG db dn ql qf qz qi sp s1 s2 s3 s4 s5 sP sC sH tl kl kf u.2.1 cc u.2.2.1 u.2.2.2 dv dc dm dh gw gh gk gq gr gj gR gT gC) ++ (wM cx aM xw xh xk xj xb xr xc xv xn xl yR yT yC yW yA yE yU yM yV yF yZ yI yD)) := hD
  refine lv_aload_n hx hb dL_law_261 rfl (lv_at hl 2 rfl) ?_
  refine lv_aload_n hx hb dL_law_262 rfl (lv_at hl 0 rfl) ?_
  refine lv_iload_n hx hb dL_law_263 rfl (lv_at hl 3 rfl) ?_
  refine lv_iconst (v := (1 : Int32)) hx hb dL_law_264 (by decide) ?_
  refine lv_iadd hx hb dL_law_265 ?_
  refine va_sld hx hb hX hbl hbA hS (hin 1 (by decide)) dL_law_266 ?_
  refine tw_iB rfl rfl (fun _ => rfl) (va_runV (As := [.int (xs (x3 + (1 : Int32)).toNatClampNeg)]) (rest := [.int u.1]) ⟨hx, hb, hml, hown, htb⟩ (metX5_back l D cx aM xw xh xk xj xb xr xc xv xn xl yR yT yC yW yA yE yU yM yV yF yZ yI yD (xs (x3 + (1 : Int32)).toNatClampNeg) N H.size w hw) ⟨callB_of 1 htb (kc_gI wd_738) rfl rfl rfl (htb _ wd_46) (htb _ wd_735) (by decide +kernel) ⟨Nat.le_of_ble_eq_true rfl, Nat.le_of_ble_eq_true rfl⟩, htb _ wd_736, htb _ wd_737⟩ ⟨kc_blind _ _ _ _ _, va_recv hK (tw_PB hP) (ci := 5) (q0 := 0) rfl rfl, kc_pre _ hK hNW (tw_PB hP) (tw_DB rfl rfl hD)⟩ rfl rfl hl.1 rfl (lv_room (Nat.le_of_ble_eq_true rfl)) dL_law_267 ⟨by show cl + 0 + 0 ≤ 600000; omega, by show sl + 0 + 0 ≤ 7302250; omega⟩) hP hD hS hA (fun _ H locs hP hD hS => ?_)
  have hP : va_P D classes ((wX cx aX aH aI aS aT ak aC aD (aC 0) (aD 0) aG db dn ql qf qz qi sp s1 s2 s3 s4 s5 sP sC sH tl kl kf u.2.1 cc u.2.2.1 u.2.2.2 dv dc dm dh gw gh gk gq gr gj gR gT gC) ++ (wM cx aM xw xh xk xj xb xr xc w.2.1 w.2.2 xl yR yT yC yW yA yE yU yM yV yF yZ yI yD)) H := hP
  have hD : va_D (fun q : Nat => s.heap.size ≤ q) ((wX cx aX aH aI aS aT ak aC aD (aC 0) (aD 0) aG db dn ql qf qz qi sp s1 s2 s3 s4 s5 sP sC sH tl kl kf u.2.1 cc u.2.2.1 u.2.2.2 dv dc dm dh gw gh gk gq gr gj gR gT gC) ++ (wM cx aM xw xh xk xj xb xr xc w.2.1 w.2.2 xl yR yT yC yW yA yE yU yM yV yF yZ yI yD)) := hD
  refine lv_icmp_eq (tgt := 921) hx hb dL_law_270 (by decide) (fun _ => ?_) (fun q => absurd he q)
  exact hT aX aH aI aS aT ak aC aD aG aM db dn ql qf qz qi sp s1 s2 s3 s4 s5 sP sC sH tl kl kf u.2.1 cc u.2.2.1 u.2.2.2 dv dc dm dh gw gh gk gq gr gj gR gT gC xw xh xk xj xb xr xc w.2.1 w.2.2 xl yR yT yC yW yA yE yU yM yV yF yZ yI yD (cl + 0 + 0) (sl + 0 + 0) H locs ls hI (pot_cl0 hc1 hpt) (pot_sl0 hc2 hpt) hP hD hS hl
set_option maxHeartbeats 8000000 in
set_option maxRecDepth 100000 in
theorem lc_3 {p : Program} {l : Launch} {e : Env} {s : State} {m : MethodId} {below : List Frame} {meth : Method} {c : Code} {b L : Nat} {xs : Nat → Int32} {D : va_G} {cx : Nat → ClassId} {N : Nat} {x3 : Int32} (hx : p.tables.exec = Jvm.exec) (hb : c.code = code) (hml : c.maxLocals = 4) (hown : s.vm.findClass R_law = some m.cls) (htb : ∀ w ∈ kc_TB, w.before #[Value.ref b] s = true) (hNW : kc_NW s) (hK : va_K D classes (kc_TY cx) s) (hX : va_X b L xs s s.heap) (hbl : b < s.heap.size) (hNN : N = 4194304) (hin : ∀ j : Nat, j < 6 → vp_in (x3 + Int32.ofNat j) L) (hT : lw_G p l e s m below meth c b D cx N x3 921) : lw_G p l e s m below meth c b D cx N x3 275 := by
  intro aX aH aI aS aT ak aC aD aG aM db dn ql qf qz qi sp s1 s2 s3 s4 s5 sP sC sH tl kl kf cv cc cm ch dv dc dm dh gw gh gk gq gr gj gR gT gC xw xh xk xj xb xr xc xv xn xl yR yT yC yW yA yE yU yM yV yF yZ yI yD cl sl H locs ls hI hc1 hc2 hP hD hS hl
  have hA : ∀ q : Nat, s.heap.size ≤ q → (fun q : Nat => s.heap.size ≤ q) q := fun _ h => h
  have hbA : ¬ (fun q : Nat => s.heap.size ≤ q) b := Nat.not_le.mpr hbl
  refine lv_aload_n hx hb dL_law_275 rfl (lv_at hl 1 rfl) ?_
  refine lv_aload_n hx hb dL_law_276 rfl (lv_at hl 0 rfl) ?_
  refine lv_iload_n hx hb dL_law_277 rfl (lv_at hl 3 rfl) ?_
  refine lv_iconst (v := (1 : Int32)) hx hb dL_law_278 (by decide) ?_
  refine lv_iadd hx hb dL_law_279 ?_
  refine va_sld hx hb hX hbl hbA hS (hin 1 (by decide)) dL_law_280 ?_
  obtain ⟨u, w, kk, hu, hw, he, hpt, hI⟩ := st_move hNN hI (xs (x3 + (1 : Int32)).toNatClampNeg)
  refine tw_iA rfl rfl (fun _ => rfl) (va_runV (As := [.int (xs (x3 + (1 : Int32)).toNatClampNeg)]) (rest := []) ⟨hx, hb, hml, hown, htb⟩ (metX4_move l D cx aX aH aI aS aT ak aC aD aG db dn ql qf qz qi sp s1 s2 s3 s4 s5 sP sC sH tl kl kf cv cc cm ch dv dc dm dh gw gh gk gq gr gj gR gT gC (xs (x3 + (1 : Int32)).toNatClampNeg) N H.size u hu) ⟨callB_of 1 htb (kc_gI wd_309) rfl rfl rfl (htb _ wd_40) (htb _ wd_306) (by decide +kernel) ⟨Nat.le_of_ble_eq_true rfl, Nat.le_of_ble_eq_true rfl⟩, htb _ wd_307, htb _ wd_308⟩ ⟨kc_blind _ _ _ _ _, va_recv hK (tw_PA hP) (ci := 4) (q0 := 0) rfl rfl, kc_pre _ hK hNW (tw_PA hP) (tw_DA rfl hD)⟩ rfl rfl hl.1 rfl (lv_room (Nat.le_of_ble_eq_true rfl)) dL_law_281 ⟨by show cl + 0 ≤ 600000; omega, by show sl + 0 ≤ 7302250; omega⟩) hP hD hS hA (fun _ H locs hP hD hS => ?_)
  have hP : va_P D classes ((wX cx aX aH aI aS aT ak aC aD (aC 0) (aD 0) aG db dn ql qf qz qi sp s1 s2 s3 s4 s5 sP sC sH tl kl kf cv cc cm ch dv dc dm dh gw gh gk gq gr gj gR gT gC) ++ (wM cx aM xw xh xk xj xb xr xc xv xn xl yR yT yC yW yA yE yU yM yV yF yZ yI yD)) H := hP
  have hD : va_D (fun q : Nat => s.heap.size ≤ q) ((wX cx aX aH aI aS aT ak aC aD (aC 0) (aD 0) aG db dn ql qf qz qi sp s1 s2 s3 s4 s5 sP sC sH tl kl kf cv cc cm ch dv dc dm dh gw gh gk gq gr gj gR gT gC) ++ (wM cx aM xw xh xk xj xb xr xc xv xn xl yR yT yC yW yA yE yU yM yV yF yZ yI yD)) := hD
  refine lv_aload_n hx hb dL_law_284 rfl (lv_at hl 2 rfl) ?_
  refine lv_aload_n hx hb dL_law_285 rfl (lv_at hl 0 rfl) ?_
  refine lv_iload_n hx hb dL_law_286 rfl (lv_at hl 3 rfl) ?_
  refine lv_iconst (v := (1 : Int32)) hx hb dL_law_287 (by decide) ?_
  refine lv_iadd hx hb dL_law_288 ?_
  refine va_sld hx hb hX hbl hbA hS (hin 1 (by decide)) dL_law_289 ?_
  refine tw_iB rfl rfl (fun _ => rfl) (va_runV (As := [.int (xs (x3 + (1 : Int32)).toNatClampNeg)]) (rest := [.int u]) ⟨hx, hb, hml, hown, htb⟩ (metX5_move l D cx aM xw xh xk xj xb xr xc xv xn xl yR yT yC yW yA yE yU yM yV yF yZ yI yD (xs (x3 + (1 : Int32)).toNatClampNeg) N H.size w hw) ⟨callB_of 1 htb (kc_gI wd_742) rfl rfl rfl (htb _ wd_46) (htb _ wd_739) (by decide +kernel) ⟨Nat.le_of_ble_eq_true rfl, Nat.le_of_ble_eq_true rfl⟩, htb _ wd_740, htb _ wd_741⟩ ⟨kc_blind _ _ _ _ _, va_recv hK (tw_PB hP) (ci := 5) (q0 := 0) rfl rfl, kc_pre _ hK hNW (tw_PB hP) (tw_DB rfl rfl hD)⟩ rfl rfl hl.1 rfl (lv_room (Nat.le_of_ble_eq_true rfl)) dL_law_290 ⟨by show cl + 0 + 0 ≤ 600000; omega, by show sl + 0 + 0 ≤ 7302250; omega⟩) hP hD hS hA (fun _ H locs hP hD hS => ?_)
  have hP : va_P D classes ((wX cx aX aH aI aS aT ak aC aD (aC 0) (aD 0) aG db dn ql qf qz qi sp s1 s2 s3 s4 s5 sP sC sH tl kl kf cv cc cm ch dv dc dm dh gw gh gk gq gr gj gR gT gC) ++ (wM cx aM xw xh xk xj xb xr xc xv xn xl yR yT yC yW yA yE yU yM yV yF yZ yI yD)) H := hP
  have hD : va_D (fun q : Nat => s.heap.size ≤ q) ((wX cx aX aH aI aS aT ak aC aD (aC 0) (aD 0) aG db dn ql qf qz qi sp s1 s2 s3 s4 s5 sP sC sH tl kl kf cv cc cm ch dv dc dm dh gw gh gk gq gr gj gR gT gC) ++ (wM cx aM xw xh xk xj xb xr xc xv xn xl yR yT yC yW yA yE yU yM yV yF yZ yI yD)) := hD
  refine lv_icmp_eq (tgt := 921) hx hb dL_law_293 (by decide) (fun _ => ?_) (fun q => absurd he q)
  exact hT aX aH aI aS aT ak aC aD aG aM db dn ql qf qz qi sp s1 s2 s3 s4 s5 sP sC sH tl kl kf cv cc cm ch dv dc dm dh gw gh gk gq gr gj gR gT gC xw xh xk xj xb xr xc xv xn xl yR yT yC yW yA yE yU yM yV yF yZ yI yD (cl + 0 + 0) (sl + 0 + 0) H locs ls hI (pot_cl0 hc1 hpt) (pot_sl0 hc2 hpt) hP hD hS hl
set_option maxHeartbeats 8000000 in
set_option maxRecDepth 100000 in
theorem lc_4 {p : Program} {l : Launch} {e : Env} {s : State} {m : MethodId} {below : List Frame} {meth : Method} {c : Code} {b L : Nat} {xs : Nat → Int32} {D : va_G} {cx : Nat → ClassId} {N : Nat} {x3 : Int32} (hx : p.tables.exec = Jvm.exec) (hb : c.code = code) (hml : c.maxLocals = 4) (hown : s.vm.findClass R_law = some m.cls) (htb : ∀ w ∈ kc_TB, w.before #[Value.ref b] s = true) (hNW : kc_NW s) (hK : va_K D classes (kc_TY cx) s) (hX : va_X b L xs s s.heap) (hbl : b < s.heap.size) (hNN : N = 4194304) (hin : ∀ j : Nat, j < 6 → vp_in (x3 + Int32.ofNat j) L) (hT : lw_G p l e s m below meth c b D cx N x3 921) : lw_G p l e s m below meth c b D cx N x3 298 := by
  intro aX aH aI aS aT ak aC aD aG aM db dn ql qf qz qi sp s1 s2 s3 s4 s5 sP sC sH tl kl kf cv cc cm ch dv dc dm dh gw gh gk gq gr gj gR gT gC xw xh xk xj xb xr xc xv xn xl yR yT yC yW yA yE yU yM yV yF yZ yI yD cl sl H locs ls hI hc1 hc2 hP hD hS hl
  have hA : ∀ q : Nat, s.heap.size ≤ q → (fun q : Nat => s.heap.size ≤ q) q := fun _ h => h
  have hbA : ¬ (fun q : Nat => s.heap.size ≤ q) b := Nat.not_le.mpr hbl
  refine lv_aload_n hx hb dL_law_298 rfl (lv_at hl 1 rfl) ?_
  refine lv_aload_n hx hb dL_law_299 rfl (lv_at hl 0 rfl) ?_
  refine lv_iload_n hx hb dL_law_300 rfl (lv_at hl 3 rfl) ?_
  refine lv_iconst (v := (1 : Int32)) hx hb dL_law_301 (by decide) ?_
  refine lv_iadd hx hb dL_law_302 ?_
  refine va_sld hx hb hX hbl hbA hS (hin 1 (by decide)) dL_law_303 ?_
  obtain ⟨u, w, kk, hu, hw, he, hpt, hI⟩ := st_at hNN hI (xs (x3 + (1 : Int32)).toNatClampNeg)
  refine tw_iA rfl rfl (fun _ => rfl) (va_runV (As := [.int (xs (x3 + (1 : Int32)).toNatClampNeg)]) (rest := []) ⟨hx, hb, hml, hown, htb⟩ (metX4_at l D cx aX aH aI aS aT ak aC aD aG db dn ql qf qz qi sp s1 s2 s3 s4 s5 sP sC sH tl kl kf cv cc cm ch dv dc dm dh gw gh gk gq gr gj gR gT gC (xs (x3 + (1 : Int32)).toNatClampNeg) N H.size u hu) ⟨callB_of 1 htb (kc_gI wd_313) rfl rfl rfl (htb _ wd_40) (htb _ wd_310) (by decide +kernel) ⟨Nat.le_of_ble_eq_true rfl, Nat.le_of_ble_eq_true rfl⟩, htb _ wd_311, htb _ wd_312⟩ ⟨kc_blind _ _ _ _ _, va_recv hK (tw_PA hP) (ci := 4) (q0 := 0) rfl rfl, kc_pre _ hK hNW (tw_PA hP) (tw_DA rfl hD)⟩ rfl rfl hl.1 rfl (lv_room (Nat.le_of_ble_eq_true rfl)) dL_law_304 ⟨by show cl + 0 ≤ 600000; omega, by show sl + 0 ≤ 7302250; omega⟩) hP hD hS hA (fun _ H locs hP hD hS => ?_)
  have hP : va_P D classes ((wX cx aX aH aI aS aT ak aC aD (aC 0) (aD 0) aG db dn ql qf qz qi sp s1 s2 s3 s4 s5 sP sC sH tl kl kf cv cc cm ch dv dc dm dh gw gh gk gq gr gj gR gT gC) ++ (wM cx aM xw xh xk xj xb xr xc xv xn xl yR yT yC yW yA yE yU yM yV yF yZ yI yD)) H := hP
  have hD : va_D (fun q : Nat => s.heap.size ≤ q) ((wX cx aX aH aI aS aT ak aC aD (aC 0) (aD 0) aG db dn ql qf qz qi sp s1 s2 s3 s4 s5 sP sC sH tl kl kf cv cc cm ch dv dc dm dh gw gh gk gq gr gj gR gT gC) ++ (wM cx aM xw xh xk xj xb xr xc xv xn xl yR yT yC yW yA yE yU yM yV yF yZ yI yD)) := hD
  refine lv_aload_n hx hb dL_law_307 rfl (lv_at hl 2 rfl) ?_
  refine lv_aload_n hx hb dL_law_308 rfl (lv_at hl 0 rfl) ?_
  refine lv_iload_n hx hb dL_law_309 rfl (lv_at hl 3 rfl) ?_
  refine lv_iconst (v := (1 : Int32)) hx hb dL_law_310 (by decide) ?_
  refine lv_iadd hx hb dL_law_311 ?_
  refine va_sld hx hb hX hbl hbA hS (hin 1 (by decide)) dL_law_312 ?_
  refine tw_iB rfl rfl (fun _ => rfl) (va_runV (As := [.int (xs (x3 + (1 : Int32)).toNatClampNeg)]) (rest := [.int u]) ⟨hx, hb, hml, hown, htb⟩ (metX5_at l D cx aM xw xh xk xj xb xr xc xv xn xl yR yT yC yW yA yE yU yM yV yF yZ yI yD (xs (x3 + (1 : Int32)).toNatClampNeg) N H.size w hw) ⟨callB_of 1 htb (kc_gI wd_746) rfl rfl rfl (htb _ wd_46) (htb _ wd_743) (by decide +kernel) ⟨Nat.le_of_ble_eq_true rfl, Nat.le_of_ble_eq_true rfl⟩, htb _ wd_744, htb _ wd_745⟩ ⟨kc_blind _ _ _ _ _, va_recv hK (tw_PB hP) (ci := 5) (q0 := 0) rfl rfl, kc_pre _ hK hNW (tw_PB hP) (tw_DB rfl rfl hD)⟩ rfl rfl hl.1 rfl (lv_room (Nat.le_of_ble_eq_true rfl)) dL_law_313 ⟨by show cl + 0 + 0 ≤ 600000; omega, by show sl + 0 + 0 ≤ 7302250; omega⟩) hP hD hS hA (fun _ H locs hP hD hS => ?_)
  have hP : va_P D classes ((wX cx aX aH aI aS aT ak aC aD (aC 0) (aD 0) aG db dn ql qf qz qi sp s1 s2 s3 s4 s5 sP sC sH tl kl kf cv cc cm ch dv dc dm dh gw gh gk gq gr gj gR gT gC) ++ (wM cx aM xw xh xk xj xb xr w.2.1 xv xn xl yR yT yC yW yA yE yU w.2.2 yV yF yZ yI yD)) H := hP
  have hD : va_D (fun q : Nat => s.heap.size ≤ q) ((wX cx aX aH aI aS aT ak aC aD (aC 0) (aD 0) aG db dn ql qf qz qi sp s1 s2 s3 s4 s5 sP sC sH tl kl kf cv cc cm ch dv dc dm dh gw gh gk gq gr gj gR gT gC) ++ (wM cx aM xw xh xk xj xb xr w.2.1 xv xn xl yR yT yC yW yA yE yU w.2.2 yV yF yZ yI yD)) := hD
  refine lv_icmp_eq (tgt := 921) hx hb dL_law_316 (by decide) (fun _ => ?_) (fun q => absurd he q)
  exact hT aX aH aI aS aT ak aC aD aG aM db dn ql qf qz qi sp s1 s2 s3 s4 s5 sP sC sH tl kl kf cv cc cm ch dv dc dm dh gw gh gk gq gr gj gR gT gC xw xh xk xj xb xr w.2.1 xv xn xl yR yT yC yW yA yE yU w.2.2 yV yF yZ yI yD (cl + 0 + 0) (sl + 0 + 0) H locs ls hI (pot_cl0 hc1 hpt) (pot_sl0 hc2 hpt) hP hD hS hl
