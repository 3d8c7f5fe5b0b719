/-! the law, call by call -/
set_option maxHeartbeats 8000000 in
set_option maxRecDepth 100000 in
theorem lc_0 {p : Program} {l : Launch} {e : Env} {s : State} {m : MethodId} {below : List Frame} {meth : Method} {c : Code} {b L : Nat} {xs : Nat → Int32} {D : va_G} {cx : Nat → ClassId} {N : Nat} {x3 : Int32} (hx : p.tables.exec = Jvm.exec) (hb : c.code = code) (hml : c.maxLocals = 4) (hown : s.vm.findClass R_law = some m.cls) (htb : ∀ w ∈ kc_TB, w.before #[Value.ref b] s = true) (hNW : kc_NW s) (hK : va_K D classes (kc_TY cx) s) (hX : va_X b L xs s s.heap) (hbl : b < s.heap.size) (hNN : N = 4194304) (hin : ∀ j : Nat, j < 6 → vp_in (x3 + Int32.ofNat j) L) (hT : lw_G p l e s m below meth c b D cx N x3 921) : lw_G p l e s m below meth c b D cx N x3 160 := by
  intro aX aH aI aS aT ak aC aD aG aM db dn ql qf qz qi sp s1 s2 s3 s4 s5 sP sC sH tl kl kf cv cc cm ch dv dc dm dh gw gh gk gq gr gj gR gT gC xw xh xk xj xb xr xc xv xn xl yR yT yC yW yA yE yU yM yV yF yZ yI yD cl sl H locs ls hI hc1 hc2 hP hD hS hl
  have hA : ∀ q : Nat, s.heap.size ≤ q → (fun q : Nat => s.heap.size ≤ q) q := fun _ h => h
  have hbA : ¬ (fun q : Nat => s.heap.size ≤ q) b := Nat.not_le.mpr hbl
  refine lv_aload_n hx hb dL_law_160 rfl (lv_at hl 1 rfl) ?_
  refine lv_aload_n hx hb dL_law_161 rfl (lv_at hl 0 rfl) ?_
  refine lv_iload_n hx hb dL_law_162 rfl (lv_at hl 3 rfl) ?_
  refine lv_iconst (v := (1 : Int32)) hx hb dL_law_163 (by decide) ?_
  refine lv_iadd hx hb dL_law_164 ?_
  refine va_sld hx hb hX hbl hbA hS (hin 1 (by decide)) dL_law_165 ?_
  refine lv_aload_n hx hb dL_law_166 rfl (lv_at hl 0 rfl) ?_
  refine lv_iload_n hx hb dL_law_167 rfl (lv_at hl 3 rfl) ?_
  refine lv_iconst (v := (2 : Int32)) hx hb dL_law_168 (by decide) ?_
  refine lv_iadd hx hb dL_law_169 ?_
  refine va_sld hx hb hX hbl hbA hS (hin 2 (by decide)) dL_law_170 ?_
  refine lv_aload_n hx hb dL_law_171 rfl (lv_at hl 0 rfl) ?_
  refine lv_iload_n hx hb dL_law_172 rfl (lv_at hl 3 rfl) ?_
  refine lv_iconst (v := (3 : Int32)) hx hb dL_law_173 (by decide) ?_
  refine lv_iadd hx hb dL_law_174 ?_
  refine va_sld hx hb hX hbl hbA hS (hin 3 (by decide)) dL_law_175 ?_
  refine lv_aload_n hx hb dL_law_176 rfl (lv_at hl 0 rfl) ?_
  refine lv_iload_n hx hb dL_law_177 rfl (lv_at hl 3 rfl) ?_
  refine lv_iconst (v := (4 : Int32)) hx hb dL_law_178 (by decide) ?_
  refine lv_iadd hx hb dL_law_179 ?_
  refine va_sld hx hb hX hbl hbA hS (hin 4 (by decide)) dL_law_180 ?_
  refine lv_if_eq (tgt := 188) hx hb dL_law_181 (by decide) (fun cz0 => ?_) (fun cz0 => ?_)
  · refine lv_iconst (v := (0 : Int32)) hx hb dL_law_188 (by decide) ?_
    obtain ⟨u, w, kk, hu, hw, he, hpt, hI⟩ := st_board hNN hI (xs (x3 + (1 : Int32)).toNatClampNeg) (xs (x3 + (2 : Int32)).toNatClampNeg) (xs (x3 + (3 : Int32)).toNatClampNeg) (0 : Int32) (Or.inl rfl)
    refine tw_iA rfl rfl (fun _ => rfl) (va_runV (As := [.int (xs (x3 + (1 : Int32)).toNatClampNeg), .int (xs (x3 + (2 : Int32)).toNatClampNeg), .int (xs (x3 + (3 : Int32)).toNatClampNeg), .int (0 : Int32)]) (rest := []) ⟨hx, hb, hml, hown, htb⟩ (metX4_board l D cx aX aH aI aS aT ak aC aD aG db dn ql qf qz qi sp s1 s2 s3 s4 s5 sP sC sH tl kl kf cv cc cm ch dv dc dm dh gw gh gk gq gr gj gR gT gC (xs (x3 + (1 : Int32)).toNatClampNeg) (xs (x3 + (2 : Int32)).toNatClampNeg) (xs (x3 + (3 : Int32)).toNatClampNeg) (0 : Int32) N H.size u hu) ⟨callB_of 4 htb (kc_gI wd_251) rfl rfl rfl (htb _ wd_40) (htb _ wd_248) (by decide +kernel) ⟨Nat.le_of_ble_eq_true rfl, Nat.le_of_ble_eq_true rfl⟩, htb _ wd_249, htb _ wd_250⟩ ⟨kc_blind _ _ _ _ _, va_recv hK (tw_PA hP) (ci := 4) (q0 := 0) rfl rfl, kc_pre _ hK hNW (tw_PA hP) (tw_DA rfl hD)⟩ rfl rfl hl.1 rfl (lv_room (Nat.le_of_ble_eq_true rfl)) dL_law_189 ⟨by show cl + 0 ≤ 600000; omega, by show sl + 0 ≤ 7302250; omega⟩) hP hD hS hA (fun _ H locs hP hD hS => ?_)
    have hP : va_P D classes ((wX cx aX aH aI aS aT ak aC aD (aC 0) (aD 0) aG u.2.1 dn ql qf qz qi u.2.2.1 s1 s2 s3 s4 s5 sP sC sH tl kl kf u.2.2.2.1 cc u.2.2.2.2.1 u.2.2.2.2.2.1 dv dc dm dh u.2.2.2.2.2.2.1 u.2.2.2.2.2.2.2.1 u.2.2.2.2.2.2.2.2.1 u.2.2.2.2.2.2.2.2.2.1 u.2.2.2.2.2.2.2.2.2.2.1 u.2.2.2.2.2.2.2.2.2.2.2.1 u.2.2.2.2.2.2.2.2.2.2.2.2.1 u.2.2.2.2.2.2.2.2.2.2.2.2.2.1 u.2.2.2.2.2.2.2.2.2.2.2.2.2.2) ++ (wM cx aM xw xh xk xj xb xr xc xv xn xl yR yT yC yW yA yE yU yM yV yF yZ yI yD)) H := hP
    have hD : va_D (fun q : Nat => s.heap.size ≤ q) ((wX cx aX aH aI aS aT ak aC aD (aC 0) (aD 0) aG u.2.1 dn ql qf qz qi u.2.2.1 s1 s2 s3 s4 s5 sP sC sH tl kl kf u.2.2.2.1 cc u.2.2.2.2.1 u.2.2.2.2.2.1 dv dc dm dh u.2.2.2.2.2.2.1 u.2.2.2.2.2.2.2.1 u.2.2.2.2.2.2.2.2.1 u.2.2.2.2.2.2.2.2.2.1 u.2.2.2.2.2.2.2.2.2.2.1 u.2.2.2.2.2.2.2.2.2.2.2.1 u.2.2.2.2.2.2.2.2.2.2.2.2.1 u.2.2.2.2.2.2.2.2.2.2.2.2.2.1 u.2.2.2.2.2.2.2.2.2.2.2.2.2.2) ++ (wM cx aM xw xh xk xj xb xr xc xv xn xl yR yT yC yW yA yE yU yM yV yF yZ yI yD)) := hD
    refine lv_aload_n hx hb dL_law_192 rfl (lv_at hl 2 rfl) ?_
    refine lv_aload_n hx hb dL_law_193 rfl (lv_at hl 0 rfl) ?_
    refine lv_iload_n hx hb dL_law_194 rfl (lv_at hl 3 rfl) ?_
    refine lv_iconst (v := (1 : Int32)) hx hb dL_law_195 (by decide) ?_
    refine lv_iadd hx hb dL_law_196 ?_
    refine va_sld hx hb hX hbl hbA hS (hin 1 (by decide)) dL_law_197 ?_
    refine lv_aload_n hx hb dL_law_198 rfl (lv_at hl 0 rfl) ?_
    refine lv_iload_n hx hb dL_law_199 rfl (lv_at hl 3 rfl) ?_
    refine lv_iconst (v := (2 : Int32)) hx hb dL_law_200 (by decide) ?_
    refine lv_iadd hx hb dL_law_201 ?_
    refine va_sld hx hb hX hbl hbA hS (hin 2 (by decide)) dL_law_202 ?_
    refine lv_aload_n hx hb dL_law_203 rfl (lv_at hl 0 rfl) ?_
    refine lv_iload_n hx hb dL_law_204 rfl (lv_at hl 3 rfl) ?_
    refine lv_iconst (v := (3 : Int32)) hx hb dL_law_205 (by decide) ?_
    refine lv_iadd hx hb dL_law_206 ?_
    refine va_sld hx hb hX hbl hbA hS (hin 3 (by decide)) dL_law_207 ?_
    refine lv_aload_n hx hb dL_law_208 rfl (lv_at hl 0 rfl) ?_
    refine lv_iload_n hx hb dL_law_209 rfl (lv_at hl 3 rfl) ?_
    refine lv_iconst (v := (4 : Int32)) hx hb dL_law_210 (by decide) ?_
    refine lv_iadd hx hb dL_law_211 ?_
    refine va_sld hx hb hX hbl hbA hS (hin 4 (by decide)) dL_law_212 ?_
    refine lv_if_eq (tgt := 220) hx hb dL_law_213 (by decide) (fun _ => ?_) (fun q => absurd cz0 q)
    refine lv_iconst (v := (0 : Int32)) hx hb dL_law_220 (by decide) ?_
    refine tw_iB rfl rfl (fun _ => rfl) (va_runV (As := [.int (xs (x3 + (1 : Int32)).toNatClampNeg), .int (xs (x3 + (2 : Int32)).toNatClampNeg), .int (xs (x3 + (3 : Int32)).toNatClampNeg), .int (0 : Int32)]) (rest := [.int u.1]) ⟨hx, hb, hml, hown, htb⟩ (metX5_board l D cx aM xw xh xk xj xb xr xc xv xn xl yR yT yC yW yA yE yU yM yV yF yZ yI yD (xs (x3 + (1 : Int32)).toNatClampNeg) (xs (x3 + (2 : Int32)).toNatClampNeg) (xs (x3 + (3 : Int32)).toNatClampNeg) (0 : Int32) N H.size w hw) ⟨callB_of 4 htb (kc_gI wd_714) rfl rfl rfl (htb _ wd_46) (htb _ wd_711) (by decide +kernel) ⟨Nat.le_of_ble_eq_true rfl, Nat.le_of_ble_eq_true rfl⟩, htb _ wd_712, htb _ wd_713⟩ ⟨kc_blind _ _ _ _ _, va_recv hK (tw_PB hP) (ci := 5) (q0 := 0) rfl rfl, kc_pre _ hK hNW (tw_PB hP) (tw_DB rfl rfl hD)⟩ rfl rfl hl.1 rfl (lv_room (Nat.le_of_ble_eq_true rfl)) dL_law_221 ⟨by show cl + 0 + 0 ≤ 600000; omega, by show sl + 0 + 0 ≤ 7302250; omega⟩) hP hD hS hA (fun _ H locs hP hD hS => ?_)
    have hP : va_P D classes ((wX cx aX aH aI aS aT ak aC aD (aC 0) (aD 0) aG u.2.1 dn ql qf qz qi u.2.2.1 s1 s2 s3 s4 s5 sP sC sH tl kl kf u.2.2.2.1 cc u.2.2.2.2.1 u.2.2.2.2.2.1 dv dc dm dh u.2.2.2.2.2.2.1 u.2.2.2.2.2.2.2.1 u.2.2.2.2.2.2.2.2.1 u.2.2.2.2.2.2.2.2.2.1 u.2.2.2.2.2.2.2.2.2.2.1 u.2.2.2.2.2.2.2.2.2.2.2.1 u.2.2.2.2.2.2.2.2.2.2.2.2.1 u.2.2.2.2.2.2.2.2.2.2.2.2.2.1 u.2.2.2.2.2.2.2.2.2.2.2.2.2.2) ++ (wM cx aM w.2.1 w.2.2.1 w.2.2.2.1 w.2.2.2.2.1 w.2.2.2.2.2.1 w.2.2.2.2.2.2.1 w.2.2.2.2.2.2.2.1 w.2.2.2.2.2.2.2.2.1 w.2.2.2.2.2.2.2.2.2.1 xl w.2.2.2.2.2.2.2.2.2.2.1 w.2.2.2.2.2.2.2.2.2.2.2.1 w.2.2.2.2.2.2.2.2.2.2.2.2.1 w.2.2.2.2.2.2.2.2.2.2.2.2.2.1 w.2.2.2.2.2.2.2.2.2.2.2.2.2.2.1 w.2.2.2.2.2.2.2.2.2.2.2.2.2.2.2.1 w.2.2.2.2.2.2.2.2.2.2.2.2.2.2.2.2.1 w.2.2.2.2.2.2.2.2.2.2.2.2.2.2.2.2.2 yV yF yZ yI yD)) H := hP
    have hD : va_D (fun q : Nat => s.heap.size ≤ q) ((wX cx aX aH aI aS aT ak aC aD (aC 0) (aD 0) aG u.2.1 dn ql qf qz qi u.2.2.1 s1 s2 s3 s4 s5 sP sC sH tl kl kf u.2.2.2.1 cc u.2.2.2.2.1 u.2.2.2.2.2.1 dv dc dm dh u.2.2.2.2.2.2.1 u.2.2.2.2.2.2.2.1 u.2.2.2.2.2.2.2.2.1 u.2.2.2.2.2.2.2.2.2.1 u.2.2.2.2.2.2.2.2.2.2.1 u.2.2.2.2.2.2.2.2.2.2.2.1 u.2.2.2.2.2.2.2.2.2.2.2.2.1 u.2.2.2.2.2.2.2.2.2.2.2.2.2.1 u.2.2.2.2.2.2.2.2.2.2.2.2.2.2) ++ (wM cx aM w.2.1 w.2.2.1 w.2.2.2.1 w.2.2.2.2.1 w.2.2.2.2.2.1 w.2.2.2.2.2.2.1 w.2.2.2.2.2.2.2.1 w.2.2.2.2.2.2.2.2.1 w.2.2.2.2.2.2.2.2.2.1 xl w.2.2.2.2.2.2.2.2.2.2.1 w.2.2.2.2.2.2.2.2.2.2.2.1 w.2.2.2.2.2.2.2.2.2.2.2.2.1 w.2.2.2.2.2.2.2.2.2.2.2.2.2.1 w.2.2.2.2.2.2.2.2.2.2.2.2.2.2.1 w.2.2.2.2.2.2.2.2.2.2.2.2.2.2.2.1 w.2.2.2.2.2.2.2.2.2.2.2.2.2.2.2.2.1 w.2.2.2.2.2.2.2.2.2.2.2.2.2.2.2.2.2 yV yF yZ yI yD)) := hD
    refine lv_icmp_eq (tgt := 921) hx hb dL_law_224 (by decide) (fun _ => ?_) (fun q => absurd he q)
    exact hT aX aH aI aS aT ak aC aD aG aM u.2.1 dn ql qf qz qi u.2.2.1 s1 s2 s3 s4 s5 sP sC sH tl kl kf u.2.2.2.1 cc u.2.2.2.2.1 u.2.2.2.2.2.1 dv dc dm dh u.2.2.2.2.2.2.1 u.2.2.2.2.2.2.2.1 u.2.2.2.2.2.2.2.2.1 u.2.2.2.2.2.2.2.2.2.1 u.2.2.2.2.2.2.2.2.2.2.1 u.2.2.2.2.2.2.2.2.2.2.2.1 u.2.2.2.2.2.2.2.2.2.2.2.2.1 u.2.2.2.2.2.2.2.2.2.2.2.2.2.1 u.2.2.2.2.2.2.2.2.2.2.2.2.2.2 w.2.1 w.2.2.1 w.2.2.2.1 w.2.2.2.2.1 w.2.2.2.2.2.1 w.2.2.2.2.2.2.1 w.2.2.2.2.2.2.2.1 w.2.2.2.2.2.2.2.2.1 w.2.2.2.2.2.2.2.2.2.1 xl w.2.2.2.2.2.2.2.2.2.2.1 w.2.2.2.2.2.2.2.2.2.2.2.1 w.2.2.2.2.2.2.2.2.2.2.2.2.1 w.2.2.2.2.2.2.2.2.2.2.2.2.2.1 w.2.2.2.2.2.2.2.2.2.2.2.2.2.2.1 w.2.2.2.2.2.2.2.2.2.2.2.2.2.2.2.1 w.2.2.2.2.2.2.2.2.2.2.2.2.2.2.2.2.1 w.2.2.2.2.2.2.2.2.2.2.2.2.2.2.2.2.2 yV yF yZ yI yD (cl + 0 + 0) (sl + 0 + 0) H locs ls hI (pot_cl0 hc1 hpt) (pot_sl0 hc2 hpt) hP hD hS hl
  · refine lv_iconst (v := (1 : Int32)) hx hb dL_law_184 (by decide) ?_
    refine lv_goto (tgt := 189) hx hb dL_law_185 (by decide) ?_
    obtain ⟨u, w, kk, hu, hw, he, hpt, hI⟩ := st_board hNN hI (xs (x3 + (1 : Int32)).toNatClampNeg) (xs (x3 + (2 : Int32)).toNatClampNeg) (xs (x3 + (3 : Int32)).toNatClampNeg) (1 : Int32) (Or.inr rfl)
    refine tw_iA rfl rfl (fun _ => rfl) (va_runV (As := [.int (xs (x3 + (1 : Int32)).toNatClampNeg), .int (xs (x3 + (2 : Int32)).toNatClampNeg), .int (xs (x3 + (3 : Int32)).toNatClampNeg), .int (1 : Int32)]) (rest := []) ⟨hx, hb, hml, hown, htb⟩ (metX4_board l D cx aX aH aI aS aT ak aC aD aG db dn ql qf qz qi sp s1 s2 s3 s4 s5 sP sC sH tl kl kf cv cc cm ch dv dc dm dh gw gh gk gq gr gj gR gT gC (xs (x3 + (1 : Int32)).toNatClampNeg) (xs (x3 + (2 : Int32)).toNatClampNeg) (xs (x3 + (3 : Int32)).toNatClampNeg) (1 : Int32) N H.size u hu) ⟨callB_of 4 htb (kc_gI wd_251) rfl rfl rfl (htb _ wd_40) (htb _ wd_248) (by decide +kernel) ⟨Nat.le_of_ble_eq_true rfl, Nat.le_of_ble_eq_true rfl⟩, htb _ wd_249, htb _ wd_250⟩ ⟨kc_blind _ _ _ _ _, va_recv hK (tw_PA hP) (ci := 4) (q0 := 0) rfl rfl, kc_pre _ hK hNW (tw_PA hP) (tw_DA rfl hD)⟩ rfl rfl hl.1 rfl (lv_room (Nat.le_of_ble_eq_true rfl)) dL_law_189 ⟨by show cl + 0 ≤ 600000; omega, by show sl + 0 ≤ 7302250; omega⟩) hP hD hS hA (fun _ H locs hP hD hS => ?_)
    have hP : va_P D classes ((wX cx aX aH aI aS aT ak aC aD (aC 0) (aD 0) aG u.2.1 dn ql qf qz qi u.2.2.1 s1 s2 s3 s4 s5 sP sC sH tl kl kf u.2.2.2.1 cc u.2.2.2.2.1 u.2.2.2.2.2.1 dv dc dm dh u.2.2.2.2.2.2.1 u.2.2.2.2.2.2.2.1 u.2.2.2.2.2.2.2.2.1 u.2.2.2.2.2.2.2.2.2.1 u.2.2.2.2.2.2.2.2.2.2.1 u.2.2.2.2.2.2.2.2.2.2.2.1 u.2.2.2.2.2.2.2.2.2.2.2.2.1 u.2.2.2.2.2.2.2.2.2.2.2.2.2.1 u.2.2.2.2.2.2.2.2.2.2.2.2.2.2) ++ (wM cx aM xw xh xk xj xb xr xc xv xn xl yR yT yC yW yA yE yU yM yV yF yZ yI yD)) H := hP
    have hD : va_D (fun q : Nat => s.heap.size ≤ q) ((wX cx aX aH aI aS aT ak aC aD (aC 0) (aD 0) aG u.2.1 dn ql qf qz qi u.2.2.1 s1 s2 s3 s4 s5 sP sC sH tl kl kf u.2.2.2.1 cc u.2.2.2.2.1 u.2.2.2.2.2.1 dv dc dm dh u.2.2.2.2.2.2.1 u.2.2.2.2.2.2.2.1 u.2.2.2.2.2.2.2.2.1 u.2.2.2.2.2.2.2.2.2.1 u.2.2.2.2.2.2.2.2.2.2.1 u.2.2.2.2.2.2.2.2.2.2.2.1 u.2.2.2.2.2.2.2.2.2.2.2.2.1 u.2.2.2.2.2.2.2.2.2.2.2.2.2.1 u.2.2.2.2.2.2.2.2.2.2.2.2.2.2) ++ (wM cx aM xw xh xk xj xb xr xc xv xn xl yR yT yC yW yA yE yU yM yV yF yZ yI yD)) := hD
    refine lv_aload_n hx hb dL_law_192 rfl (lv_at hl 2 rfl) ?_
    refine lv_aload_n hx hb dL_law_193 rfl (lv_at hl 0 rfl) ?_
    refine lv_iload_n hx hb dL_law_194 rfl (lv_at hl 3 rfl) ?_
    refine lv_iconst (v := (1 : Int32)) hx hb dL_law_195 (by decide) ?_
    refine lv_iadd hx hb dL_law_196 ?_
    refine va_sld hx hb hX hbl hbA hS (hin 1 (by decide)) dL_law_197 ?_
    refine lv_aload_n hx hb dL_law_198 rfl (lv_at hl 0 rfl) ?_
    refine lv_iload_n hx hb dL_law_199 rfl (lv_at hl 3 rfl) ?_
    refine lv_iconst (v := (2 : Int32)) hx hb dL_law_200 (by decide) ?_
    refine lv_iadd hx hb dL_law_201 ?_
    refine va_sld hx hb hX hbl hbA hS (hin 2 (by decide)) dL_law_202 ?_
    refine lv_aload_n hx hb dL_law_203 rfl (lv_at hl 0 rfl) ?_
    refine lv_iload_n hx hb dL_law_204 rfl (lv_at hl 3 rfl) ?_
    refine lv_iconst (v := (3 : Int32)) hx hb dL_law_205 (by decide) ?_
    refine lv_iadd hx hb dL_law_206 ?_
    refine va_sld hx hb hX hbl hbA hS (hin 3 (by decide)) dL_law_207 ?_
    refine lv_aload_n hx hb dL_law_208 rfl (lv_at hl 0 rfl) ?_
    refine lv_iload_n hx hb dL_law_209 rfl (lv_at hl 3 rfl) ?_
    refine lv_iconst (v := (4 : Int32)) hx hb dL_law_210 (by decide) ?_
    refine lv_iadd hx hb dL_law_211 ?_
    refine va_sld hx hb hX hbl hbA hS (hin 4 (by decide)) dL_law_212 ?_
    refine lv_if_eq (tgt := 220) hx hb dL_law_213 (by decide) (fun q => absurd q cz0) (fun _ => ?_)
    refine lv_iconst (v := (1 : Int32)) hx hb dL_law_216 (by decide) ?_
    refine lv_goto (tgt := 221) hx hb dL_law_217 (by decide) ?_
    refine tw_iB rfl rfl (fun _ => rfl) (va_runV (As := [.int (xs (x3 + (1 : Int32)).toNatClampNeg), .int (xs (x3 + (2 : Int32)).toNatClampNeg), .int (xs (x3 + (3 : Int32)).toNatClampNeg), .int (1 : Int32)]) (rest := [.int u.1]) ⟨hx, hb, hml, hown, htb⟩ (metX5_board l D cx aM xw xh xk xj xb xr xc xv xn xl yR yT yC yW yA yE yU yM yV yF yZ yI yD (xs (x3 + (1 : Int32)).toNatClampNeg) (xs (x3 + (2 : Int32)).toNatClampNeg) (xs (x3 + (3 : Int32)).toNatClampNeg) (1 : Int32) N H.size w hw) ⟨callB_of 4 htb (kc_gI wd_714) rfl rfl rfl (htb _ wd_46) (htb _ wd_711) (by decide +kernel) ⟨Nat.le_of_ble_eq_true rfl, Nat.le_of_ble_eq_true rfl⟩, htb _ wd_712, htb _ wd_713⟩ ⟨kc_blind _ _ _ _ _, va_recv hK (tw_PB hP) (ci := 5) (q0 := 0) rfl rfl, kc_pre _ hK hNW (tw_PB hP) (tw_DB rfl rfl hD)⟩ rfl rfl hl.1 rfl (lv_room (Nat.le_of_ble_eq_true rfl)) dL_law_221 ⟨by show cl + 0 + 0 ≤ 600000; omega, by show sl + 0 + 0 ≤ 7302250; omega⟩) hP hD hS hA (fun _ H locs hP hD hS => ?_)
    have hP : va_P D classes ((wX cx aX aH aI aS aT ak aC aD (aC 0) (aD 0) aG u.2.1 dn ql qf qz qi u.2.2.1 s1 s2 s3 s4 s5 sP sC sH tl kl kf u.2.2.2.1 cc u.2.2.2.2.1 u.2.2.2.2.2.1 dv dc dm dh u.2.2.2.2.2.2.1 u.2.2.2.2.2.2.2.1 u.2.2.2.2.2.2.2.2.1 u.2.2.2.2.2.2.2.2.2.1 u.2.2.2.2.2.2.2.2.2.2.1 u.2.2.2.2.2.2.2.2.2.2.2.1 u.2.2.2.2.2.2.2.2.2.2.2.2.1 u.2.2.2.2.2.2.2.2.2.2.2.2.2.1 u.2.2.2.2.2.2.2.2.2.2.2.2.2.2) ++ (wM cx aM w.2.1 w.2.2.1 w.2.2.2.1 w.2.2.2.2.1 w.2.2.2.2.2.1 w.2.2.2.2.2.2.1 w.2.2.2.2.2.2.2.1 w.2.2.2.2.2.2.2.2.1 w.2.2.2.2.2.2.2.2.2.1 xl w.2.2.2.2.2.2.2.2.2.2.1 w.2.2.2.2.2.2.2.2.2.2.2.1 w.2.2.2.2.2.2.2.2.2.2.2.2.1 w.2.2.2.2.2.2.2.2.2.2.2.2.2.1 w.2.2.2.2.2.2.2.2.2.2.2.2.2.2.1 w.2.2.2.2.2.2.2.2.2.2.2.2.2.2.2.1 w.2.2.2.2.2.2.2.2.2.2.2.2.2.2.2.2.1 w.2.2.2.2.2.2.2.2.2.2.2.2.2.2.2.2.2 yV yF yZ yI yD)) H := hP
    have hD : va_D (fun q : Nat => s.heap.size ≤ q) ((wX cx aX aH aI aS aT ak aC aD (aC 0) (aD 0) aG u.2.1 dn ql qf qz qi u.2.2.1 s1 s2 s3 s4 s5 sP sC sH tl kl kf u.2.2.2.1 cc u.2.2.2.2.1 u.2.2.2.2.2.1 dv dc dm dh u.2.2.2.2.2.2.1 u.2.2.2.2.2.2.2.1 u.2.2.2.2.2.2.2.2.1 u.2.2.2.2.2.2.2.2.2.1 u.2.2.2.2.2.2.2.2.2.2.1 u.2.2.2.2.2.2.2.2.2.2.2.1 u.2.2.2.2.2.2.2.2.2.2.2.2.1 u.2.2.2.2.2.2.2.2.2.2.2.2.2.1 u.2.2.2.2.2.2.2.2.2.2.2.2.2.2) ++ (wM cx aM w.2.1 w.2.2.1 w.2.2.2.1 w.2.2.2.2.1 w.2.2.2.2.2.1 w.2.2.2.2.2.2.1 w.2.2.2.2.2.2.2.1 w.2.2.2.2.2.2.2.2.1 w.2.2.2.2.2.2.2.2.2.1 xl w.2.2.2.2.2.2.2.2.2.2.1 w.2.2.2.2.2.2.2.2.2.2.2.1 w.2.2.2.2.2.2.2.2.2.2.2.2.1 w.2.2.2.2.2.2.2.2.2.2.2.2.2.1 w.2.2.2.2.2.2.2.2.2.2.2.2.2.2.1 w.2.2.2.2.2.2.2.2.2.2.2.2.2.2.2.1 w.2.2.2.2.2.2.2.2.2.2.2.2.2.2.2.2.1 w.2.2.2.2.2.2.2.2.2.2.2.2.2.2.2.2.2 yV yF yZ yI yD)) := hD
    refine lv_icmp_eq (tgt := 921) hx hb dL_law_224 (by decide) (fun _ => ?_) (fun q => absurd he q)
    exact hT aX aH aI aS aT ak aC aD aG aM u.2.1 dn ql qf qz qi u.2.2.1 s1 s2 s3 s4 s5 sP sC sH tl kl kf u.2.2.2.1 cc u.2.2.2.2.1 u.2.2.2.2.2.1 dv dc dm dh u.2.2.2.2.2.2.1 u.2.2.2.2.2.2.2.1 u.2.2.2.2.2.2.2.2.1 u.2.2.2.2.2.2.2.2.2.1 u.2.2.2.2.2.2.2.2.2.2.1 u.2.2.2.2.2.2.2.2.2.2.2.1 u.2.2.2.2.2.2.2.2.2.2.2.2.1 u.2.2.2.2.2.2.2.2.2.2.2.2.2.1 u.2.2.2.2.2.2.2.2.2.2.2.2.2.2 w.2.1 w.2.2.1 w.2.2.2.1 w.2.2.2.2.1 w.2.2.2.2.2.1 w.2.2.2.2.2.2.1 w.2.2.2.2.2.2.2.1 w.2.2.2.2.2.2.2.2.1 w.2.2.2.2.2.2.2.2.2.1 xl w.2.2.2.2.2.2.2.2.2.2.1 w.2.2.2.2.2.2.2.2.2.2.2.1 w.2.2.2.2.2.2.2.2.2.2.2.2.1 w.2.2.2.2.2.2.2.2.2.2.2.2.2.1 w.2.2.2.2.2.2.2.2.2.2.2.2.2.2.1 w.2.2.2.2.2.2.2.2.2.2.2.2.2.2.2.1 w.2.2.2.2.2.2.2.2.2.2.2.2.2.2.2.2.1 w.2.2.2.2.2.2.2.2.2.2.2.2.2.2.2.2.2 yV yF yZ yI yD (cl + 0 + 0) (sl + 0 + 0) H locs ls hI (pot_cl0 hc1 hpt) (pot_sl0 hc2 hpt) hP hD hS hl
