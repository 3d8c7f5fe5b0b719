/-! two cells that are chosen by an index: a sheet and its items -/
def sh2 (x y : Nat) : Nat → Nat
  | 0 => x
  | _ => y
theorem kc_P2 {D : va_G} {ws : va_W} {H : Heap} {q r : Nat} {x y : Nat × va_E} (hP : va_P D classes ws H) (hq : ws[q]? = some x) (hr : ws[r]? = some y) : va_P D classes [x, y] H := fun k z hz => by
  match k, hz with
  | 0, hz => rw [← Option.some.inj hz]; exact hP q x hq
  | 1, hz => rw [← Option.some.inj hz]; exact hP r y hr
  | k + 2, hz => cases hz
theorem kc_D2 {A : Nat → Prop} {ws : va_W} {q r : Nat} {x y : Nat × va_E} (hD : va_D A ws) (hq : ws[q]? = some x) (hr : ws[r]? = some y) (hn : q ≠ r) : va_D A [x, y] := by
  refine ⟨fun i j a b ha hb hab => ?_, fun k z hz => ?_⟩
  · match i, j, ha, hb with
    | 0, 0, _, _ => rfl
    | 1, 1, _, _ => rfl
    | 0, 1, ha, hb => cases ha; cases hb; exact absurd (hD.1 q r x y hq hr hab) hn
    | 1, 0, ha, hb => cases ha; cases hb; exact absurd (hD.1 r q y x hr hq hab).symm hn
    | 0, j + 2, _, hb => cases hb
    | 1, j + 2, _, hb => cases hb
    | i + 2, _, ha, _ => cases ha
  · match k, hz with
    | 0, hz => rw [← Option.some.inj hz]; exact hD.2 q x hq
    | 1, hz => rw [← Option.some.inj hz]; exact hD.2 r y hr
    | k + 2, hz => cases hz
section KF
variable {p : Program} {l : Launch} {e : Env} {R : Room} {s : State} {m : MethodId} {args : Array Value} {below : List Frame} {meth : Method} {c : Code} {H H0 : Heap} {locs : List Loc} {cells slots mc ms : Nat} {Q : State → Prop} {D : va_G} {A0 : Nat → Prop} {pc : Nat} {ls : Array Slot} {st0 rest : List Value} {a : Array Value} {S : Type} {ws wc : va_W} {x y q r : Nat} {e1 e2 : va_E}
theorem kc_two {g1 g2 : va_E} {H1 : Heap} (hP : va_P D classes ws H) (hD : va_D A0 ws) (hq : ws[q]? = some (x, e1)) (hr : ws[r]? = some (y, e2)) (hn : q ≠ r) (hk : ∀ z : Nat, z < H.size → ¬ va_A [(x, e1), (y, e2)] H.size z → H1[z]? = H[z]?) (hP1 : va_P D classes [(x, g1), (y, g2)] H1) : va_P D classes ((ws.set q (x, g1)).set r (y, g2)) H1 ∧ va_D A0 ((ws.set q (x, g1)).set r (y, g2)) := by
  have hr' : (ws.set q (x, g1))[r]? = some (y, e2) := by rw [List.getElem?_set_ne hn]; exact hr
  refine ⟨fun k z hz => ?_, (hD.set hq).set hr'⟩
  by_cases er : r = k
  · subst er
    have hl : r < (ws.set q (x, g1)).length := by
      rcases Nat.lt_or_ge r (ws.set q (x, g1)).length with h | h
      · exact h
      · rw [List.getElem?_eq_none h] at hr'; cases hr'
    rw [List.getElem?_set_self hl] at hz
    rw [← Option.some.inj hz]
    exact hP1 1 _ rfl
  · rw [List.getElem?_set_ne er] at hz
    by_cases eq : q = k
    · subst eq
      have hl : q < ws.length := by
        rcases Nat.lt_or_ge q ws.length with h | h
        · exact h
        · rw [List.getElem?_eq_none h] at hq; cases hq
      rw [List.getElem?_set_self hl] at hz
      rw [← Option.some.inj hz]
      exact hP1 0 _ rfl
    · rw [List.getElem?_set_ne eq] at hz
      have h1 := hP k z hz
      refine h1.kept (hk z.1 h1.lt (fun h => ?_))
      rcases h with ⟨k2, e2', h⟩ | h
      · match k2, h with
        | 0, h =>
          have h2 := (Prod.mk.inj (Option.some.inj h)).1
          exact eq (hD.1 q k (x, e1) z hq hz h2)
        | 1, h =>
          have h2 := (Prod.mk.inj (Option.some.inj h)).1
          exact er (hD.1 r k (y, e2) z hr hz h2)
        | k2 + 2, h => cases h
      · have := h1.lt
        omega
theorem kc_calli2 {r1 : Int32} {w1 : S → va_W} {f1 f2 : S → va_E} (hr : va_Run p l e R s m args below meth c H locs cells slots mc ms (F0 m pc ls st0) rest (kc_Pi D w1 r1 (va_A wc H.size) a) (va_A wc H.size)) (hP : va_P D classes ws H) (hD : va_D A0 ws) (hS : va_S A0 H0 H locs) (hA : ∀ q, H0.size ≤ q → A0 q) (hq : ws[q]? = some (x, e1)) (hy : ws[r]? = some (y, e2)) (hn : q ≠ r) (hc : wc = [(x, e1), (y, e2)]) (hw : ∀ u, w1 u = [(x, f1 u), (y, f2 u)])
    (kk : ∀ (u : S) (H1 : Heap) (locs1 : List Loc), va_P D classes ((ws.set q (x, f1 u)).set r (y, f2 u)) H1 → va_D A0 ((ws.set q (x, f1 u)).set r (y, f2 u)) → va_S A0 H0 H1 locs1 → W p l e R s m args below meth c H1 locs1 (cells + mc) (slots + ms) Q (F0 m (pc + 3) ls (.int r1 :: rest))) : W p l e R s m args below meth c H locs cells slots Q (F0 m pc ls st0) := by
  subst hc
  have hFc : ∀ z, va_A [(x, e1), (y, e2)] H.size z → A0 z := va_free (wc := [(x, e1), (y, e2)]) hD hS hA [q, r] (by show [ws[q]?, ws[r]?] = _; rw [hq, hy]; rfl)
  refine va_calli hr hS (fun q _ h => hFc q h) hFc (fun r2 u t H1 locs1 ht _ hv hB _ hk1 hS1 => ?_)
  obtain ⟨hP1, hD1⟩ := hB
  rw [ht, hw u] at hP1
  subst hv
  obtain ⟨hP2, hD2⟩ := kc_two hP hD hq hy hn hk1 hP1
  exact kk u H1 locs1 hP2 hD2 hS1
theorem kc_callv2 {w1 : S → va_W} {f1 f2 : S → va_E} (hr : va_Run p l e R s m args below meth c H locs cells slots mc ms (F0 m pc ls st0) rest (kc_Pv D w1 (va_A wc H.size) a) (va_A wc H.size)) (hP : va_P D classes ws H) (hD : va_D A0 ws) (hS : va_S A0 H0 H locs) (hA : ∀ q, H0.size ≤ q → A0 q) (hq : ws[q]? = some (x, e1)) (hy : ws[r]? = some (y, e2)) (hn : q ≠ r) (hc : wc = [(x, e1), (y, e2)]) (hw : ∀ u, w1 u = [(x, f1 u), (y, f2 u)])
    (kk : ∀ (u : S) (H1 : Heap) (locs1 : List Loc), va_P D classes ((ws.set q (x, f1 u)).set r (y, f2 u)) H1 → va_D A0 ((ws.set q (x, f1 u)).set r (y, f2 u)) → va_S A0 H0 H1 locs1 → W p l e R s m args below meth c H1 locs1 (cells + mc) (slots + ms) Q (F0 m (pc + 3) ls rest)) : W p l e R s m args below meth c H locs cells slots Q (F0 m pc ls st0) := by
  subst hc
  have hFc : ∀ z, va_A [(x, e1), (y, e2)] H.size z → A0 z := va_free (wc := [(x, e1), (y, e2)]) hD hS hA [q, r] (by show [ws[q]?, ws[r]?] = _; rw [hq, hy]; rfl)
  refine va_callv hr hS (fun q _ h => hFc q h) hFc (fun u t H1 locs1 ht _ hv hB _ hk1 hS1 => ?_)
  obtain ⟨hP1, hD1⟩ := hB
  rw [ht, hw u] at hP1
  obtain ⟨hP2, hD2⟩ := kc_two hP hD hq hy hn hk1 hP1
  exact kk u H1 locs1 hP2 hD2 hS1
end KF
def wX (cx : Nat → ClassId) (aX : Nat → Nat) (aH : Nat → Nat) (aI : Nat → Nat) (aS : Nat → Nat) (aT : Nat → Nat) (ak : Nat) (aC : Nat → Nat) (aD : Nat → Nat) (fc : Nat) (fd : Nat) (aG : Nat → Nat) (db : Int32) (dn : Int32) (ql : Nat → Int32) (qf : Nat → Int32) (qz : Nat → Int32) (qi : Nat → Nat → Int32) (sp : Int32) (s1 : Int32) (s2 : Int32) (s3 : Int32) (s4 : Int32) (s5 : Int32) (sP : Nat → Int32) (sC : Nat → Int32) (sH : Nat → Int32) (tl : Nat → Nat → Int32) (kl : Nat) (kf : Nat → Int64) (cv : Int32) (cc : Nat → Int32) (cm : Nat → Int32) (ch : Nat → Int32) (dv : Int32) (dc : Nat → Int32) (dm : Nat → Int32) (dh : Nat → Int32) (gw : Int32) (gh : Int32) (gk : Int32) (gq : Int32) (gr : Int32) (gj : Int32) (gR : Nat → Int32) (gT : Nat → Int32) (gC : Nat → Int32) : va_W := [(aX 0, .inr (4, [.ref (aG 0), .ref (aS 0), .ref (aX 1), .ref (fc), .ref (fd), .int db, .int dn])), (aX 1, .inl (cx 3, 4, .inr (.inr (.inr (.inr (fun i => if i < 4 then some (aH i) else none)))))), (aH 0, .inr (2, [.int (ql 0), .int (qf 0), .int (qz 0), .ref (aI 0)])), (aI 0, .inl (cx 0, 20, .inl (qi 0))), (aH 1, .inr (2, [.int (ql 1), .int (qf 1), .int (qz 1), .ref (aI 1)])), (aI 1, .inl (cx 0, 20, .inl (qi 1))), (aH 2, .inr (2, [.int (ql 2), .int (qf 2), .int (qz 2), .ref (aI 2)])), (aI 2, .inl (cx 0, 20, .inl (qi 2))), (aH 3, .inr (2, [.int (ql 3), .int (qf 3), .int (qz 3), .ref (aI 3)])), (aI 3, .inl (cx 0, 20, .inl (qi 3))), (aS 0, .inr (3, [.ref (aG 0), .ref (aS 1), .ref (aS 2), .ref (aS 3), .ref (aS 4), .ref (ak), .int sp, .int s1, .int s2, .int s3, .int s4, .int s5])), (aS 1, .inl (cx 0, 7, .inl sP)), (aS 2, .inl (cx 0, 7, .inl sC)), (aS 3, .inl (cx 0, 7, .inl sH)), (aS 4, .inl (cx 4, 5, .inr (.inr (.inr (.inr (fun i => if i < 5 then some (aT i) else none)))))), (aT 0, .inl (cx 0, 17, .inl (tl 0))), (aT 1, .inl (cx 0, 17, .inl (tl 1))), (aT 2, .inl (cx 0, 17, .inl (tl 2))), (aT 3, .inl (cx 0, 17, .inl (tl 3))), (aT 4, .inl (cx 0, 17, .inl (tl 4))), (ak, .inl (cx 2, kl, .inr (.inl kf))), (aC 0, .inr (0, [.ref (aG 0), .ref (aC 1), .ref (aC 2), .ref (aC 3), .int cv])), (aC 1, .inl (cx 0, 16, .inl cc)), (aC 2, .inl (cx 0, 2, .inl cm)), (aC 3, .inl (cx 0, 7, .inl ch)), (aD 0, .inr (0, [.ref (aG 0), .ref (aD 1), .ref (aD 2), .ref (aD 3), .int dv])), (aD 1, .inl (cx 0, 16, .inl dc)), (aD 2, .inl (cx 0, 2, .inl dm)), (aD 3, .inl (cx 0, 7, .inl dh)), (aG 0, .inr (1, [.int gw, .int gh, .int gk, .int gq, .int gr, .int gj, .ref (aG 1), .ref (aG 2), .ref (aG 3)])), (aG 1, .inl (cx 0, 64, .inl gR)), (aG 2, .inl (cx 0, 256, .inl gT)), (aG 3, .inl (cx 0, 16, .inl gC))]
theorem wX_get_row {cx : Nat → ClassId} {aX : Nat → Nat} {aH : Nat → Nat} {aI : Nat → Nat} {aS : Nat → Nat} {aT : Nat → Nat} {ak : Nat} {aC : Nat → Nat} {aD : Nat → Nat} {fc : Nat} {fd : Nat} {aG : Nat → Nat} {db : Int32} {dn : Int32} {ql : Nat → Int32} {qf : Nat → Int32} {qz : Nat → Int32} {qi : Nat → Nat → Int32} {sp : Int32} {s1 : Int32} {s2 : Int32} {s3 : Int32} {s4 : Int32} {s5 : Int32} {sP : Nat → Int32} {sC : Nat → Int32} {sH : Nat → Int32} {tl : Nat → Nat → Int32} {kl : Nat} {kf : Nat → Int64} {cv : Int32} {cc : Nat → Int32} {cm : Nat → Int32} {ch : Nat → Int32} {dv : Int32} {dc : Nat → Int32} {dm : Nat → Int32} {dh : Nat → Int32} {gw : Int32} {gh : Int32} {gk : Int32} {gq : Int32} {gr : Int32} {gj : Int32} {gR : Nat → Int32} {gT : Nat → Int32} {gC : Nat → Int32} {j : Nat} (hj : j < 5) : ((wX cx aX aH aI aS aT ak aC aD fc fd aG db dn ql qf qz qi sp s1 s2 s3 s4 s5 sP sC sH tl kl kf cv cc cm ch dv dc dm dh gw gh gk gq gr gj gR gT gC))[15 + j]? = some (aT j, .inl (cx 0, 17, .inl (tl j))) := by
  match j, hj with
  | 0, _ => rfl
  | 1, _ => rfl
  | 2, _ => rfl
  | 3, _ => rfl
  | 4, _ => rfl
theorem wX_get_sheet {cx : Nat → ClassId} {aX : Nat → Nat} {aH : Nat → Nat} {aI : Nat → Nat} {aS : Nat → Nat} {aT : Nat → Nat} {ak : Nat} {aC : Nat → Nat} {aD : Nat → Nat} {fc : Nat} {fd : Nat} {aG : Nat → Nat} {db : Int32} {dn : Int32} {ql : Nat → Int32} {qf : Nat → Int32} {qz : Nat → Int32} {qi : Nat → Nat → Int32} {sp : Int32} {s1 : Int32} {s2 : Int32} {s3 : Int32} {s4 : Int32} {s5 : Int32} {sP : Nat → Int32} {sC : Nat → Int32} {sH : Nat → Int32} {tl : Nat → Nat → Int32} {kl : Nat} {kf : Nat → Int64} {cv : Int32} {cc : Nat → Int32} {cm : Nat → Int32} {ch : Nat → Int32} {dv : Int32} {dc : Nat → Int32} {dm : Nat → Int32} {dh : Nat → Int32} {gw : Int32} {gh : Int32} {gk : Int32} {gq : Int32} {gr : Int32} {gj : Int32} {gR : Nat → Int32} {gT : Nat → Int32} {gC : Nat → Int32} {j : Nat} (hj : j < 4) : ((wX cx aX aH aI aS aT ak aC aD fc fd aG db dn ql qf qz qi sp s1 s2 s3 s4 s5 sP sC sH tl kl kf cv cc cm ch dv dc dm dh gw gh gk gq gr gj gR gT gC))[2 + 2 * j]? = some (aH j, .inr (2, [.int (ql j), .int (qf j), .int (qz j), .ref (aI j)])) := by
  match j, hj with
  | 0, _ => rfl
  | 1, _ => rfl
  | 2, _ => rfl
  | 3, _ => rfl
theorem wX_get_item {cx : Nat → ClassId} {aX : Nat → Nat} {aH : Nat → Nat} {aI : Nat → Nat} {aS : Nat → Nat} {aT : Nat → Nat} {ak : Nat} {aC : Nat → Nat} {aD : Nat → Nat} {fc : Nat} {fd : Nat} {aG : Nat → Nat} {db : Int32} {dn : Int32} {ql : Nat → Int32} {qf : Nat → Int32} {qz : Nat → Int32} {qi : Nat → Nat → Int32} {sp : Int32} {s1 : Int32} {s2 : Int32} {s3 : Int32} {s4 : Int32} {s5 : Int32} {sP : Nat → Int32} {sC : Nat → Int32} {sH : Nat → Int32} {tl : Nat → Nat → Int32} {kl : Nat} {kf : Nat → Int64} {cv : Int32} {cc : Nat → Int32} {cm : Nat → Int32} {ch : Nat → Int32} {dv : Int32} {dc : Nat → Int32} {dm : Nat → Int32} {dh : Nat → Int32} {gw : Int32} {gh : Int32} {gk : Int32} {gq : Int32} {gr : Int32} {gj : Int32} {gR : Nat → Int32} {gT : Nat → Int32} {gC : Nat → Int32} {j : Nat} (hj : j < 4) : ((wX cx aX aH aI aS aT ak aC aD fc fd aG db dn ql qf qz qi sp s1 s2 s3 s4 s5 sP sC sH tl kl kf cv cc cm ch dv dc dm dh gw gh gk gq gr gj gR gT gC))[3 + 2 * j]? = some (aI j, .inl (cx 0, 20, .inl (qi j))) := by
  match j, hj with
  | 0, _ => rfl
  | 1, _ => rfl
  | 2, _ => rfl
  | 3, _ => rfl
theorem wX_set_item {cx : Nat → ClassId} {aX : Nat → Nat} {aH : Nat → Nat} {aI : Nat → Nat} {aS : Nat → Nat} {aT : Nat → Nat} {ak : Nat} {aC : Nat → Nat} {aD : Nat → Nat} {fc : Nat} {fd : Nat} {aG : Nat → Nat} {db : Int32} {dn : Int32} {ql : Nat → Int32} {qf : Nat → Int32} {qz : Nat → Int32} {qi : Nat → Nat → Int32} {sp : Int32} {s1 : Int32} {s2 : Int32} {s3 : Int32} {s4 : Int32} {s5 : Int32} {sP : Nat → Int32} {sC : Nat → Int32} {sH : Nat → Int32} {tl : Nat → Nat → Int32} {kl : Nat} {kf : Nat → Int64} {cv : Int32} {cc : Nat → Int32} {cm : Nat → Int32} {ch : Nat → Int32} {dv : Int32} {dc : Nat → Int32} {dm : Nat → Int32} {dh : Nat → Int32} {gw : Int32} {gh : Int32} {gk : Int32} {gq : Int32} {gr : Int32} {gj : Int32} {gR : Nat → Int32} {gT : Nat → Int32} {gC : Nat → Int32} {j : Nat} {f : Nat → Int32} (hj : j < 4) : ((wX cx aX aH aI aS aT ak aC aD fc fd aG db dn ql qf qz qi sp s1 s2 s3 s4 s5 sP sC sH tl kl kf cv cc cm ch dv dc dm dh gw gh gk gq gr gj gR gT gC)).set (3 + 2 * j) (aI j, .inl (cx 0, 20, .inl f)) = (wX cx aX aH aI aS aT ak aC aD fc fd aG db dn ql qf qz (upT qi j f) sp s1 s2 s3 s4 s5 sP sC sH tl kl kf cv cc cm ch dv dc dm dh gw gh gk gq gr gj gR gT gC) := by
  match j, hj with
  | 0, _ => rfl
  | 1, _ => rfl
  | 2, _ => rfl
  | 3, _ => rfl
theorem wX_set_lost {cx : Nat → ClassId} {aX : Nat → Nat} {aH : Nat → Nat} {aI : Nat → Nat} {aS : Nat → Nat} {aT : Nat → Nat} {ak : Nat} {aC : Nat → Nat} {aD : Nat → Nat} {fc : Nat} {fd : Nat} {aG : Nat → Nat} {db : Int32} {dn : Int32} {ql : Nat → Int32} {qf : Nat → Int32} {qz : Nat → Int32} {qi : Nat → Nat → Int32} {sp : Int32} {s1 : Int32} {s2 : Int32} {s3 : Int32} {s4 : Int32} {s5 : Int32} {sP : Nat → Int32} {sC : Nat → Int32} {sH : Nat → Int32} {tl : Nat → Nat → Int32} {kl : Nat} {kf : Nat → Int64} {cv : Int32} {cc : Nat → Int32} {cm : Nat → Int32} {ch : Nat → Int32} {dv : Int32} {dc : Nat → Int32} {dm : Nat → Int32} {dh : Nat → Int32} {gw : Int32} {gh : Int32} {gk : Int32} {gq : Int32} {gr : Int32} {gj : Int32} {gR : Nat → Int32} {gT : Nat → Int32} {gC : Nat → Int32} {j : Nat} {a : Int32} (hj : j < 4) : ((wX cx aX aH aI aS aT ak aC aD fc fd aG db dn ql qf qz qi sp s1 s2 s3 s4 s5 sP sC sH tl kl kf cv cc cm ch dv dc dm dh gw gh gk gq gr gj gR gT gC)).set (2 + 2 * j) (aH j, .inr (2, [.int a, .int (qf j), .int (qz j), .ref (aI j)])) = (wX cx aX aH aI aS aT ak aC aD fc fd aG db dn (upd ql j a) qf qz qi sp s1 s2 s3 s4 s5 sP sC sH tl kl kf cv cc cm ch dv dc dm dh gw gh gk gq gr gj gR gT gC) := by
  match j, hj with
  | 0, _ => rfl
  | 1, _ => rfl
  | 2, _ => rfl
  | 3, _ => rfl
theorem wX_two_same {cx : Nat → ClassId} {aX : Nat → Nat} {aH : Nat → Nat} {aI : Nat → Nat} {aS : Nat → Nat} {aT : Nat → Nat} {ak : Nat} {aC : Nat → Nat} {aD : Nat → Nat} {fc : Nat} {fd : Nat} {aG : Nat → Nat} {db : Int32} {dn : Int32} {ql : Nat → Int32} {qf : Nat → Int32} {qz : Nat → Int32} {qi : Nat → Nat → Int32} {sp : Int32} {s1 : Int32} {s2 : Int32} {s3 : Int32} {s4 : Int32} {s5 : Int32} {sP : Nat → Int32} {sC : Nat → Int32} {sH : Nat → Int32} {tl : Nat → Nat → Int32} {kl : Nat} {kf : Nat → Int64} {cv : Int32} {cc : Nat → Int32} {cm : Nat → Int32} {ch : Nat → Int32} {dv : Int32} {dc : Nat → Int32} {dm : Nat → Int32} {dh : Nat → Int32} {gw : Int32} {gh : Int32} {gk : Int32} {gq : Int32} {gr : Int32} {gj : Int32} {gR : Nat → Int32} {gT : Nat → Int32} {gC : Nat → Int32} {j : Nat} (hj : j < 4) : (((wX cx aX aH aI aS aT ak aC aD fc fd aG db dn ql qf qz qi sp s1 s2 s3 s4 s5 sP sC sH tl kl kf cv cc cm ch dv dc dm dh gw gh gk gq gr gj gR gT gC)).set (2 + 2 * j) (aH j, .inr (2, [.int (ql j), .int (qf j), .int (qz j), .ref (aI j)]))).set (3 + 2 * j) (aI j, .inl (cx 0, 20, .inl (qi j))) = (wX cx aX aH aI aS aT ak aC aD fc fd aG db dn ql qf qz qi sp s1 s2 s3 s4 s5 sP sC sH tl kl kf cv cc cm ch dv dc dm dh gw gh gk gq gr gj gR gT gC) := by
  match j, hj with
  | 0, _ => rfl
  | 1, _ => rfl
  | 2, _ => rfl
  | 3, _ => rfl
theorem wX_two_items {cx : Nat → ClassId} {aX : Nat → Nat} {aH : Nat → Nat} {aI : Nat → Nat} {aS : Nat → Nat} {aT : Nat → Nat} {ak : Nat} {aC : Nat → Nat} {aD : Nat → Nat} {fc : Nat} {fd : Nat} {aG : Nat → Nat} {db : Int32} {dn : Int32} {ql : Nat → Int32} {qf : Nat → Int32} {qz : Nat → Int32} {qi : Nat → Nat → Int32} {sp : Int32} {s1 : Int32} {s2 : Int32} {s3 : Int32} {s4 : Int32} {s5 : Int32} {sP : Nat → Int32} {sC : Nat → Int32} {sH : Nat → Int32} {tl : Nat → Nat → Int32} {kl : Nat} {kf : Nat → Int64} {cv : Int32} {cc : Nat → Int32} {cm : Nat → Int32} {ch : Nat → Int32} {dv : Int32} {dc : Nat → Int32} {dm : Nat → Int32} {dh : Nat → Int32} {gw : Int32} {gh : Int32} {gk : Int32} {gq : Int32} {gr : Int32} {gj : Int32} {gR : Nat → Int32} {gT : Nat → Int32} {gC : Nat → Int32} {j : Nat} {f : Nat → Int32} (hj : j < 4) : (((wX cx aX aH aI aS aT ak aC aD fc fd aG db dn ql qf qz qi sp s1 s2 s3 s4 s5 sP sC sH tl kl kf cv cc cm ch dv dc dm dh gw gh gk gq gr gj gR gT gC)).set (2 + 2 * j) (aH j, .inr (2, [.int (ql j), .int (qf j), .int (qz j), .ref (aI j)]))).set (3 + 2 * j) (aI j, .inl (cx 0, 20, .inl f)) = (wX cx aX aH aI aS aT ak aC aD fc fd aG db dn ql qf qz (upT qi j f) sp s1 s2 s3 s4 s5 sP sC sH tl kl kf cv cc cm ch dv dc dm dh gw gh gk gq gr gj gR gT gC) := by
  match j, hj with
  | 0, _ => rfl
  | 1, _ => rfl
  | 2, _ => rfl
  | 3, _ => rfl
theorem wX_two_all {cx : Nat → ClassId} {aX : Nat → Nat} {aH : Nat → Nat} {aI : Nat → Nat} {aS : Nat → Nat} {aT : Nat → Nat} {ak : Nat} {aC : Nat → Nat} {aD : Nat → Nat} {fc : Nat} {fd : Nat} {aG : Nat → Nat} {db : Int32} {dn : Int32} {ql : Nat → Int32} {qf : Nat → Int32} {qz : Nat → Int32} {qi : Nat → Nat → Int32} {sp : Int32} {s1 : Int32} {s2 : Int32} {s3 : Int32} {s4 : Int32} {s5 : Int32} {sP : Nat → Int32} {sC : Nat → Int32} {sH : Nat → Int32} {tl : Nat → Nat → Int32} {kl : Nat} {kf : Nat → Int64} {cv : Int32} {cc : Nat → Int32} {cm : Nat → Int32} {ch : Nat → Int32} {dv : Int32} {dc : Nat → Int32} {dm : Nat → Int32} {dh : Nat → Int32} {gw : Int32} {gh : Int32} {gk : Int32} {gq : Int32} {gr : Int32} {gj : Int32} {gR : Nat → Int32} {gT : Nat → Int32} {gC : Nat → Int32} {j : Nat} {a b d : Int32} {f : Nat → Int32} (hj : j < 4) : (((wX cx aX aH aI aS aT ak aC aD fc fd aG db dn ql qf qz qi sp s1 s2 s3 s4 s5 sP sC sH tl kl kf cv cc cm ch dv dc dm dh gw gh gk gq gr gj gR gT gC)).set (2 + 2 * j) (aH j, .inr (2, [.int a, .int b, .int d, .ref (aI j)]))).set (3 + 2 * j) (aI j, .inl (cx 0, 20, .inl f)) = (wX cx aX aH aI aS aT ak aC aD fc fd aG db dn (upd ql j a) (upd qf j b) (upd qz j d) (upT qi j f) sp s1 s2 s3 s4 s5 sP sC sH tl kl kf cv cc cm ch dv dc dm dh gw gh gk gq gr gj gR gT gC) := by
  match j, hj with
  | 0, _ => rfl
  | 1, _ => rfl
  | 2, _ => rfl
  | 3, _ => rfl
