/-! the law's switch, and its loop whole -/
set_option maxHeartbeats 8000000 in
set_option maxRecDepth 100000 in
theorem lw_step {p : Program} {l : Launch} {e : Env} {s : State} {m : MethodId} {below : List Frame} {meth : Method} {c : Code} {b L : Nat} {xs : Nat → Int32} {D : va_G} {cx : Nat → ClassId} {N : Nat} (hx : p.tables.exec = Jvm.exec) (hb : c.code = code) (hml : c.maxLocals = 4) (hown : s.vm.findClass R_law = some m.cls) (htb : ∀ w ∈ kc_TB, w.before #[Value.ref b] s = true) (hNW : kc_NW s) (hK : va_K D classes (kc_TY cx) s) (hX : va_X b L xs s s.heap) (hbl : b < s.heap.size) (hNN : N = 4194304) (hL : L ≤ 3072) {i : Nat} (h6 : i + 6 ≤ L) (hn : lw_G p l e s m below meth c b D cx N (nI (i + 6)) 18) : lw_G p l e s m below meth c b D cx N (nI i) 18 := by
  have hT : lw_G p l e s m below meth c b D cx N (nI i) 921 := lw_tail hx hb hml hown htb hNW hK hX hbl hNN hn
  have hin : ∀ j : Nat, j < 6 → vp_in (nI i + Int32.ofNat j) L := fun j hj => by
    rw [show Int32.ofNat j = nI j from rfl, nI_add]
    exact vp_in_nI (by omega) (by omega)
  have c_0 := lc_0 hx hb hml hown htb hNW hK hX hbl hNN hin hT
  have c_1 := lc_1 hx hb hml hown htb hNW hK hX hbl hNN hin hT
  have c_2 := lc_2 hx hb hml hown htb hNW hK hX hbl hNN hin hT
  have c_3 := lc_3 hx hb hml hown htb hNW hK hX hbl hNN hin hT
  have c_4 := lc_4 hx hb hml hown htb hNW hK hX hbl hNN hin hT
  have c_5 := lc_5 hx hb hml hown htb hNW hK hX hbl hNN hin hT
  have c_6 := lc_6 hx hb hml hown htb hNW hK hX hbl hNN hin hT
  have c_7 := lc_7 hx hb hml hown htb hNW hK hX hbl hNN hin hT
  have c_8 := lc_8 hx hb hml hown htb hNW hK hX hbl hNN hin hT
  have c_9 := lc_9 hx hb hml hown htb hNW hK hX hbl hNN hin hT
  have c_10 := lc_10 hx hb hml hown htb hNW hK hX hbl hNN hin hT
  have c_11 := lc_11 hx hb hml hown htb hNW hK hX hbl hNN hin hT
  have c_12 := lc_12 hx hb hml hown htb hNW hK hX hbl hNN hin hT
  have c_13 := lc_13 hx hb hml hown htb hNW hK hX hbl hNN hin hT
  have c_14 := lc_14 hx hb hml hown htb hNW hK hX hbl hNN hin hT
  have c_15 := lc_15 hx hb hml hown htb hNW hK hX hbl hNN hin hT
  have c_16 := lc_16 hx hb hml hown htb hNW hK hX hbl hNN hin hT
  have c_17 := lc_17 hx hb hml hown htb hNW hK hX hbl hNN hin hT
  have c_18 := lc_18 hx hb hml hown htb hNW hK hX hbl hNN hin hT
  have c_19 := lc_19 hx hb hml hown htb hNW hK hX hbl hNN hin hT
  have c_20 := lc_20 hx hb hml hown htb hNW hK hX hbl hNN hin hT
  have c_21 := lc_21 hx hb hml hown htb hNW hK hX hbl hNN hin hT
  have c_22 := lc_22 hx hb hml hown htb hNW hK hX hbl hNN hin hT
  have c_23 := lc_23 hx hb hml hown htb hNW hK hX hbl hNN hin hT
  have c_24 := lc_24 hx hb hml hown htb hNW hK hX hbl hNN hin hT
  have c_25 := lc_25 hx hb hml hown htb hNW hK hX hbl hNN hin hT
  have c_26 := lc_26 hx hb hml hown htb hNW hK hX hbl hNN hin hT
  have c_27 := lc_27 hx hb hml hown htb hNW hK hX hbl hNN hin hT
  intro aX aH aI aS aT ak aC aD aG aM db dn ql qf qz qi sp s1 s2 s3 s4 s5 sP sC sH tl kl kf cv cc cm ch dv dc dm dh gw gh gk gq gr gj gR gT gC xw xh xk xj xb xr xc xv xn xl yR yT yC yW yA yE yU yM yV yF yZ yI yD cl sl H locs ls hI hc1 hc2 hP hD hS hl
  have hA : ∀ q : Nat, s.heap.size ≤ q → (fun q : Nat => s.heap.size ≤ q) q := fun _ h => h
  have hbA : ¬ (fun q : Nat => s.heap.size ≤ q) b := Nat.not_le.mpr hbl
  refine lv_iload_n hx hb dL_law_18 rfl (lv_at hl 3 rfl) ?_
  refine lv_aload_n hx hb dL_law_19 rfl (lv_at hl 0 rfl) ?_
  refine va_slen hx hb hX hbl hbA hS dL_law_20 ?_
  refine lv_bipush (v := (6 : Int32)) hx hb dL_law_21 (by decide) ?_
  refine lv_isub hx hb dL_law_23 ?_
  refine lv_icmp_gt (tgt := 927) hx hb dL_law_24 (by decide) (fun cz => absurd h6 ((lp_cmp hL (by omega)).mp cz)) (fun _ => ?_)
  refine lv_aload_n hx hb dL_law_27 rfl (lv_at hl 0 rfl) ?_
  refine lv_iload_n hx hb dL_law_28 rfl (lv_at hl 3 rfl) ?_
  refine va_sld hx hb hX hbl hbA hS (vp_in_nI (show i < L by omega) (by omega)) dL_law_29 ?_
  refine lv_bipush (v := (31 : Int32)) hx hb dL_law_30 (by decide) ?_
  refine lv_iand hx hb dL_law_32 ?_
  generalize xs (nI i).toNatClampNeg &&& (31 : Int32) = sw
  by_cases h0 : sw = (0 : Int32)
  · refine lv_tableIn (tgt := 160) (off := 127) hx hb dL_law_33 (by rw [h0]; decide) (by rw [h0]; decide) (by rw [h0]; decide) (by decide) ?_
    exact c_0 aX aH aI aS aT ak aC aD aG aM db dn ql qf qz qi sp s1 s2 s3 s4 s5 sP sC sH tl kl kf cv cc cm ch dv dc dm dh gw gh gk gq gr gj gR gT gC xw xh xk xj xb xr xc xv xn xl yR yT yC yW yA yE yU yM yV yF yZ yI yD cl sl H locs ls hI hc1 hc2 hP hD hS hl
  by_cases h1 : sw = (1 : Int32)
  · refine lv_tableIn (tgt := 229) (off := 196) hx hb dL_law_33 (by rw [h1]; decide) (by rw [h1]; decide) (by rw [h1]; decide) (by decide) ?_
    exact c_1 aX aH aI aS aT ak aC aD aG aM db dn ql qf qz qi sp s1 s2 s3 s4 s5 sP sC sH tl kl kf cv cc cm ch dv dc dm dh gw gh gk gq gr gj gR gT gC xw xh xk xj xb xr xc xv xn xl yR yT yC yW yA yE yU yM yV yF yZ yI yD cl sl H locs ls hI hc1 hc2 hP hD hS hl
  by_cases h2 : sw = (2 : Int32)
  · refine lv_tableIn (tgt := 252) (off := 219) hx hb dL_law_33 (by rw [h2]; decide) (by rw [h2]; decide) (by rw [h2]; decide) (by decide) ?_
    exact c_2 aX aH aI aS aT ak aC aD aG aM db dn ql qf qz qi sp s1 s2 s3 s4 s5 sP sC sH tl kl kf cv cc cm ch dv dc dm dh gw gh gk gq gr gj gR gT gC xw xh xk xj xb xr xc xv xn xl yR yT yC yW yA yE yU yM yV yF yZ yI yD cl sl H locs ls hI hc1 hc2 hP hD hS hl
  by_cases h3 : sw = (3 : Int32)
  · refine lv_tableIn (tgt := 275) (off := 242) hx hb dL_law_33 (by rw [h3]; decide) (by rw [h3]; decide) (by rw [h3]; decide) (by decide) ?_
    exact c_3 aX aH aI aS aT ak aC aD aG aM db dn ql qf qz qi sp s1 s2 s3 s4 s5 sP sC sH tl kl kf cv cc cm ch dv dc dm dh gw gh gk gq gr gj gR gT gC xw xh xk xj xb xr xc xv xn xl yR yT yC yW yA yE yU yM yV yF yZ yI yD cl sl H locs ls hI hc1 hc2 hP hD hS hl
  by_cases h4 : sw = (4 : Int32)
  · refine lv_tableIn (tgt := 298) (off := 265) hx hb dL_law_33 (by rw [h4]; decide) (by rw [h4]; decide) (by rw [h4]; decide) (by decide) ?_
    exact c_4 aX aH aI aS aT ak aC aD aG aM db dn ql qf qz qi sp s1 s2 s3 s4 s5 sP sC sH tl kl kf cv cc cm ch dv dc dm dh gw gh gk gq gr gj gR gT gC xw xh xk xj xb xr xc xv xn xl yR yT yC yW yA yE yU yM yV yF yZ yI yD cl sl H locs ls hI hc1 hc2 hP hD hS hl
  by_cases h5 : sw = (5 : Int32)
  · refine lv_tableIn (tgt := 321) (off := 288) hx hb dL_law_33 (by rw [h5]; decide) (by rw [h5]; decide) (by rw [h5]; decide) (by decide) ?_
    exact c_5 aX aH aI aS aT ak aC aD aG aM db dn ql qf qz qi sp s1 s2 s3 s4 s5 sP sC sH tl kl kf cv cc cm ch dv dc dm dh gw gh gk gq gr gj gR gT gC xw xh xk xj xb xr xc xv xn xl yR yT yC yW yA yE yU yM yV yF yZ yI yD cl sl H locs ls hI hc1 hc2 hP hD hS hl
  by_cases h6 : sw = (6 : Int32)
  · refine lv_tableIn (tgt := 344) (off := 311) hx hb dL_law_33 (by rw [h6]; decide) (by rw [h6]; decide) (by rw [h6]; decide) (by decide) ?_
    exact c_6 aX aH aI aS aT ak aC aD aG aM db dn ql qf qz qi sp s1 s2 s3 s4 s5 sP sC sH tl kl kf cv cc cm ch dv dc dm dh gw gh gk gq gr gj gR gT gC xw xh xk xj xb xr xc xv xn xl yR yT yC yW yA yE yU yM yV yF yZ yI yD cl sl H locs ls hI hc1 hc2 hP hD hS hl
  by_cases h7 : sw = (7 : Int32)
  · refine lv_tableIn (tgt := 367) (off := 334) hx hb dL_law_33 (by rw [h7]; decide) (by rw [h7]; decide) (by rw [h7]; decide) (by decide) ?_
    exact c_7 aX aH aI aS aT ak aC aD aG aM db dn ql qf qz qi sp s1 s2 s3 s4 s5 sP sC sH tl kl kf cv cc cm ch dv dc dm dh gw gh gk gq gr gj gR gT gC xw xh xk xj xb xr xc xv xn xl yR yT yC yW yA yE yU yM yV yF yZ yI yD cl sl H locs ls hI hc1 hc2 hP hD hS hl
  by_cases h8 : sw = (8 : Int32)
  · refine lv_tableIn (tgt := 380) (off := 347) hx hb dL_law_33 (by rw [h8]; decide) (by rw [h8]; decide) (by rw [h8]; decide) (by decide) ?_
    exact c_8 aX aH aI aS aT ak aC aD aG aM db dn ql qf qz qi sp s1 s2 s3 s4 s5 sP sC sH tl kl kf cv cc cm ch dv dc dm dh gw gh gk gq gr gj gR gT gC xw xh xk xj xb xr xc xv xn xl yR yT yC yW yA yE yU yM yV yF yZ yI yD cl sl H locs ls hI hc1 hc2 hP hD hS hl
  by_cases h9 : sw = (9 : Int32)
  · refine lv_tableIn (tgt := 403) (off := 370) hx hb dL_law_33 (by rw [h9]; decide) (by rw [h9]; decide) (by rw [h9]; decide) (by decide) ?_
    exact c_9 aX aH aI aS aT ak aC aD aG aM db dn ql qf qz qi sp s1 s2 s3 s4 s5 sP sC sH tl kl kf cv cc cm ch dv dc dm dh gw gh gk gq gr gj gR gT gC xw xh xk xj xb xr xc xv xn xl yR yT yC yW yA yE yU yM yV yF yZ yI yD cl sl H locs ls hI hc1 hc2 hP hD hS hl
  by_cases h10 : sw = (10 : Int32)
  · refine lv_tableIn (tgt := 416) (off := 383) hx hb dL_law_33 (by rw [h10]; decide) (by rw [h10]; decide) (by rw [h10]; decide) (by decide) ?_
    exact c_10 aX aH aI aS aT ak aC aD aG aM db dn ql qf qz qi sp s1 s2 s3 s4 s5 sP sC sH tl kl kf cv cc cm ch dv dc dm dh gw gh gk gq gr gj gR gT gC xw xh xk xj xb xr xc xv xn xl yR yT yC yW yA yE yU yM yV yF yZ yI yD cl sl H locs ls hI hc1 hc2 hP hD hS hl
  by_cases h11 : sw = (11 : Int32)
  · refine lv_tableIn (tgt := 429) (off := 396) hx hb dL_law_33 (by rw [h11]; decide) (by rw [h11]; decide) (by rw [h11]; decide) (by decide) ?_
    exact c_11 aX aH aI aS aT ak aC aD aG aM db dn ql qf qz qi sp s1 s2 s3 s4 s5 sP sC sH tl kl kf cv cc cm ch dv dc dm dh gw gh gk gq gr gj gR gT gC xw xh xk xj xb xr xc xv xn xl yR yT yC yW yA yE yU yM yV yF yZ yI yD cl sl H locs ls hI hc1 hc2 hP hD hS hl
  by_cases h12 : sw = (12 : Int32)
  · refine lv_tableIn (tgt := 442) (off := 409) hx hb dL_law_33 (by rw [h12]; decide) (by rw [h12]; decide) (by rw [h12]; decide) (by decide) ?_
    exact c_12 aX aH aI aS aT ak aC aD aG aM db dn ql qf qz qi sp s1 s2 s3 s4 s5 sP sC sH tl kl kf cv cc cm ch dv dc dm dh gw gh gk gq gr gj gR gT gC xw xh xk xj xb xr xc xv xn xl yR yT yC yW yA yE yU yM yV yF yZ yI yD cl sl H locs ls hI hc1 hc2 hP hD hS hl
  by_cases h13 : sw = (13 : Int32)
  · refine lv_tableIn (tgt := 465) (off := 432) hx hb dL_law_33 (by rw [h13]; decide) (by rw [h13]; decide) (by rw [h13]; decide) (by decide) ?_
    exact c_13 aX aH aI aS aT ak aC aD aG aM db dn ql qf qz qi sp s1 s2 s3 s4 s5 sP sC sH tl kl kf cv cc cm ch dv dc dm dh gw gh gk gq gr gj gR gT gC xw xh xk xj xb xr xc xv xn xl yR yT yC yW yA yE yU yM yV yF yZ yI yD cl sl H locs ls hI hc1 hc2 hP hD hS hl
  by_cases h14 : sw = (14 : Int32)
  · refine lv_tableIn (tgt := 488) (off := 455) hx hb dL_law_33 (by rw [h14]; decide) (by rw [h14]; decide) (by rw [h14]; decide) (by decide) ?_
    exact c_14 aX aH aI aS aT ak aC aD aG aM db dn ql qf qz qi sp s1 s2 s3 s4 s5 sP sC sH tl kl kf cv cc cm ch dv dc dm dh gw gh gk gq gr gj gR gT gC xw xh xk xj xb xr xc xv xn xl yR yT yC yW yA yE yU yM yV yF yZ yI yD cl sl H locs ls hI hc1 hc2 hP hD hS hl
  by_cases h15 : sw = (15 : Int32)
  · refine lv_tableIn (tgt := 521) (off := 488) hx hb dL_law_33 (by rw [h15]; decide) (by rw [h15]; decide) (by rw [h15]; decide) (by decide) ?_
    exact c_15 aX aH aI aS aT ak aC aD aG aM db dn ql qf qz qi sp s1 s2 s3 s4 s5 sP sC sH tl kl kf cv cc cm ch dv dc dm dh gw gh gk gq gr gj gR gT gC xw xh xk xj xb xr xc xv xn xl yR yT yC yW yA yE yU yM yV yF yZ yI yD cl sl H locs ls hI hc1 hc2 hP hD hS hl
  by_cases h16 : sw = (16 : Int32)
  · refine lv_tableIn (tgt := 534) (off := 501) hx hb dL_law_33 (by rw [h16]; decide) (by rw [h16]; decide) (by rw [h16]; decide) (by decide) ?_
    exact c_16 aX aH aI aS aT ak aC aD aG aM db dn ql qf qz qi sp s1 s2 s3 s4 s5 sP sC sH tl kl kf cv cc cm ch dv dc dm dh gw gh gk gq gr gj gR gT gC xw xh xk xj xb xr xc xv xn xl yR yT yC yW yA yE yU yM yV yF yZ yI yD cl sl H locs ls hI hc1 hc2 hP hD hS hl
  by_cases h17 : sw = (17 : Int32)
  · refine lv_tableIn (tgt := 557) (off := 524) hx hb dL_law_33 (by rw [h17]; decide) (by rw [h17]; decide) (by rw [h17]; decide) (by decide) ?_
    exact c_17 aX aH aI aS aT ak aC aD aG aM db dn ql qf qz qi sp s1 s2 s3 s4 s5 sP sC sH tl kl kf cv cc cm ch dv dc dm dh gw gh gk gq gr gj gR gT gC xw xh xk xj xb xr xc xv xn xl yR yT yC yW yA yE yU yM yV yF yZ yI yD cl sl H locs ls hI hc1 hc2 hP hD hS hl
  by_cases h18 : sw = (18 : Int32)
  · refine lv_tableIn (tgt := 590) (off := 557) hx hb dL_law_33 (by rw [h18]; decide) (by rw [h18]; decide) (by rw [h18]; decide) (by decide) ?_
    exact c_18 aX aH aI aS aT ak aC aD aG aM db dn ql qf qz qi sp s1 s2 s3 s4 s5 sP sC sH tl kl kf cv cc cm ch dv dc dm dh gw gh gk gq gr gj gR gT gC xw xh xk xj xb xr xc xv xn xl yR yT yC yW yA yE yU yM yV yF yZ yI yD cl sl H locs ls hI hc1 hc2 hP hD hS hl
  by_cases h19 : sw = (19 : Int32)
  · refine lv_tableIn (tgt := 603) (off := 570) hx hb dL_law_33 (by rw [h19]; decide) (by rw [h19]; decide) (by rw [h19]; decide) (by decide) ?_
    exact c_19 aX aH aI aS aT ak aC aD aG aM db dn ql qf qz qi sp s1 s2 s3 s4 s5 sP sC sH tl kl kf cv cc cm ch dv dc dm dh gw gh gk gq gr gj gR gT gC xw xh xk xj xb xr xc xv xn xl yR yT yC yW yA yE yU yM yV yF yZ yI yD cl sl H locs ls hI hc1 hc2 hP hD hS hl
  by_cases h20 : sw = (20 : Int32)
  · refine lv_tableIn (tgt := 646) (off := 613) hx hb dL_law_33 (by rw [h20]; decide) (by rw [h20]; decide) (by rw [h20]; decide) (by decide) ?_
    exact c_20 aX aH aI aS aT ak aC aD aG aM db dn ql qf qz qi sp s1 s2 s3 s4 s5 sP sC sH tl kl kf cv cc cm ch dv dc dm dh gw gh gk gq gr gj gR gT gC xw xh xk xj xb xr xc xv xn xl yR yT yC yW yA yE yU yM yV yF yZ yI yD cl sl H locs ls hI hc1 hc2 hP hD hS hl
  by_cases h21 : sw = (21 : Int32)
  · refine lv_tableIn (tgt := 669) (off := 636) hx hb dL_law_33 (by rw [h21]; decide) (by rw [h21]; decide) (by rw [h21]; decide) (by decide) ?_
    exact c_21 aX aH aI aS aT ak aC aD aG aM db dn ql qf qz qi sp s1 s2 s3 s4 s5 sP sC sH tl kl kf cv cc cm ch dv dc dm dh gw gh gk gq gr gj gR gT gC xw xh xk xj xb xr xc xv xn xl yR yT yC yW yA yE yU yM yV yF yZ yI yD cl sl H locs ls hI hc1 hc2 hP hD hS hl
  by_cases h22 : sw = (22 : Int32)
  · refine lv_tableIn (tgt := 722) (off := 689) hx hb dL_law_33 (by rw [h22]; decide) (by rw [h22]; decide) (by rw [h22]; decide) (by decide) ?_
    exact c_22 aX aH aI aS aT ak aC aD aG aM db dn ql qf qz qi sp s1 s2 s3 s4 s5 sP sC sH tl kl kf cv cc cm ch dv dc dm dh gw gh gk gq gr gj gR gT gC xw xh xk xj xb xr xc xv xn xl yR yT yC yW yA yE yU yM yV yF yZ yI yD cl sl H locs ls hI hc1 hc2 hP hD hS hl
  by_cases h23 : sw = (23 : Int32)
  · refine lv_tableIn (tgt := 765) (off := 732) hx hb dL_law_33 (by rw [h23]; decide) (by rw [h23]; decide) (by rw [h23]; decide) (by decide) ?_
    exact c_23 aX aH aI aS aT ak aC aD aG aM db dn ql qf qz qi sp s1 s2 s3 s4 s5 sP sC sH tl kl kf cv cc cm ch dv dc dm dh gw gh gk gq gr gj gR gT gC xw xh xk xj xb xr xc xv xn xl yR yT yC yW yA yE yU yM yV yF yZ yI yD cl sl H locs ls hI hc1 hc2 hP hD hS hl
  by_cases h24 : sw = (24 : Int32)
  · refine lv_tableIn (tgt := 828) (off := 795) hx hb dL_law_33 (by rw [h24]; decide) (by rw [h24]; decide) (by rw [h24]; decide) (by decide) ?_
    exact c_24 aX aH aI aS aT ak aC aD aG aM db dn ql qf qz qi sp s1 s2 s3 s4 s5 sP sC sH tl kl kf cv cc cm ch dv dc dm dh gw gh gk gq gr gj gR gT gC xw xh xk xj xb xr xc xv xn xl yR yT yC yW yA yE yU yM yV yF yZ yI yD cl sl H locs ls hI hc1 hc2 hP hD hS hl
  by_cases h25 : sw = (25 : Int32)
  · refine lv_tableIn (tgt := 861) (off := 828) hx hb dL_law_33 (by rw [h25]; decide) (by rw [h25]; decide) (by rw [h25]; decide) (by decide) ?_
    exact c_25 aX aH aI aS aT ak aC aD aG aM db dn ql qf qz qi sp s1 s2 s3 s4 s5 sP sC sH tl kl kf cv cc cm ch dv dc dm dh gw gh gk gq gr gj gR gT gC xw xh xk xj xb xr xc xv xn xl yR yT yC yW yA yE yU yM yV yF yZ yI yD cl sl H locs ls hI hc1 hc2 hP hD hS hl
  by_cases h26 : sw = (26 : Int32)
  · refine lv_tableIn (tgt := 884) (off := 851) hx hb dL_law_33 (by rw [h26]; decide) (by rw [h26]; decide) (by rw [h26]; decide) (by decide) ?_
    exact c_26 aX aH aI aS aT ak aC aD aG aM db dn ql qf qz qi sp s1 s2 s3 s4 s5 sP sC sH tl kl kf cv cc cm ch dv dc dm dh gw gh gk gq gr gj gR gT gC xw xh xk xj xb xr xc xv xn xl yR yT yC yW yA yE yU yM yV yF yZ yI yD cl sl H locs ls hI hc1 hc2 hP hD hS hl
  by_cases h27 : sw = (27 : Int32)
  · refine lv_tableIn (tgt := 907) (off := 874) hx hb dL_law_33 (by rw [h27]; decide) (by rw [h27]; decide) (by rw [h27]; decide) (by decide) ?_
    exact c_27 aX aH aI aS aT ak aC aD aG aM db dn ql qf qz qi sp s1 s2 s3 s4 s5 sP sC sH tl kl kf cv cc cm ch dv dc dm dh gw gh gk gq gr gj gR gT gC xw xh xk xj xb xr xc xv xn xl yR yT yC yW yA yE yU yM yV yF yZ yI yD cl sl H locs ls hI hc1 hc2 hP hD hS hl
  refine lv_tableOut (tgt := 921) hx hb dL_law_33 (sw_out27 h0 h1 h2 h3 h4 h5 h6 h7 h8 h9 h10 h11 h12 h13 h14 h15 h16 h17 h18 h19 h20 h21 h22 h23 h24 h25 h26 h27) (by decide) ?_
  exact hT aX aH aI aS aT ak aC aD aG aM db dn ql qf qz qi sp s1 s2 s3 s4 s5 sP sC sH tl kl kf cv cc cm ch dv dc dm dh gw gh gk gq gr gj gR gT gC xw xh xk xj xb xr xc xv xn xl yR yT yC yW yA yE yU yM yV yF yZ yI yD cl sl H locs ls hI hc1 hc2 hP hD hS hl
theorem lw_loop {p : Program} {l : Launch} {e : Env} {s : State} {m : MethodId} {below : List Frame} {meth : Method} {c : Code} {b L : Nat} {xs : Nat → Int32} {D : va_G} {cx : Nat → ClassId} {N : Nat} (hx : p.tables.exec = Jvm.exec) (hb : c.code = code) (hml : c.maxLocals = 4) (hown : s.vm.findClass R_law = some m.cls) (htb : ∀ w ∈ kc_TB, w.before #[Value.ref b] s = true) (hNW : kc_NW s) (hK : va_K D classes (kc_TY cx) s) (hX : va_X b L xs s s.heap) (hbl : b < s.heap.size) (hNN : N = 4194304) (hr : meth.sig.returnType = ret) (hlocks : meth.locks = false) (hL : L ≤ 3072) : ∀ (f i : Nat), i ≤ L + 6 → L + 1 ≤ i + f → lw_G p l e s m below meth c b D cx N (nI i) 18 := by
  intro f
  induction f with
  | zero =>
    intro i hi hf
    exact lw_exit hx hb hml hown htb hNW hK hX hbl hNN hr hlocks hL hi (by omega)
  | succ f ih =>
    intro i hi hf
    by_cases h6 : i + 6 ≤ L
    · exact lw_step hx hb hml hown htb hNW hK hX hbl hNN hL h6 (ih (i + 6) (by omega) (by omega))
    · exact lw_exit hx hb hml hown htb hNW hK hX hbl hNN hr hlocks hL hi h6
