/-! rows and sheets that are chosen by an index; a call on one cell; a new long[] -/
def upT (f : Nat → Nat → Int32) (j : Nat) (x : Nat → Int32) : Nat → Nat → Int32 := fun i => if i = j then x else f i
def az (sp : Int32) : Nat := if sp = 0 then 1 else 0
def azs (sp : Int32) : Nat := if sp = 0 then 115441 else 0
theorem azs_0 {sp : Int32} (h : sp = 0) : azs sp = 115441 := if_pos h
theorem azs_1 {sp : Int32} (h : ¬ sp = 0) : azs sp = 0 := if_neg h
theorem az_0 {sp : Int32} (h : sp = 0) : az sp = 1 := if_pos h
theorem az_1 {sp : Int32} (h : ¬ sp = 0) : az sp = 0 := if_neg h
theorem inb_lt {i : Int32} {n : Nat} (h : inb i n = true) : i.toNatClampNeg < n := Nat.not_le.mp (fun q => inb_s h (Or.inr q))
section KE
variable {p : Program} {l : Launch} {e : Env} {R : Room} {s : State} {m : MethodId} {args : Array Value} {below : List Frame} {meth : Method} {c : Code} {H H0 : Heap} {locs : List Loc} {cells slots mc ms : Nat} {Q : State → Prop} {D : va_G} {A0 : Nat → Prop} {pc : Nat} {ls : Array Slot} {st0 rest : List Value} {a : Array Value} {S : Type} {ws : va_W} {cc : ByteArray} {cl : List vw_C} {tys : List (ClassId × FieldType)} {ar : Nat}
theorem va_aldA (hexec : p.tables.exec = Jvm.exec) (hb : c.code = cc) (hK : va_K D cl tys s) (hP : va_P D cl ws H) (q0 t0 : Nat) {cA : ClassId} {ty : FieldType} {n : Nat} {f : Nat → Option Nat} (ha : ws[q0]? = some (ar, .inl (cA, n, .inr (.inr (.inr (.inr f)))))) (ht : tys[t0]? = some (cA, .array ty)) {i : Int32} (hin : vp_in i n) (hdg : decode cc pc = .ok (.aaload, 1))
    (kk : W p l e R s m args below meth c H locs cells slots Q (F0 m (pc + 1) ls (va_rf (f i.toNatClampNeg) :: rest))) : W p l e R s m args below meth c H locs cells slots Q (F0 m pc ls (.int i :: .ref ar :: rest)) := by
  have hlt : i.toNatClampNeg < n := Nat.not_le.mp fun q => hin (Or.inr q)
  exact W.aald (v := va_rf (f i.toNatClampNeg)) (ty := .array ty) hexec hb (hP q0 _ ha) ((hK.2 t0 _ ht).1 n (fun j => va_rf (f j))) rfl (fun q => by cases q) (by show ¬ (i < 0 ∨ (arrV _ _ _).slots.size ≤ _); rw [arrV_size]; exact hin) (by show (arrV _ _ _).slots[_]? = _; rw [arrV_read _ _ hlt]) rfl rfl hdg kk
theorem kc_one {e0 e1 : va_E} {q : Nat} {H1 : Heap} (hP : va_P D classes ws H) (hD : va_D A0 ws) (hq : ws[q]? = some (ar, e0)) (hk : ∀ q : Nat, q < H.size → ¬ va_A [(ar, e0)] H.size q → H1[q]? = H[q]?) (hP1 : va_P D classes [(ar, e1)] H1) : va_P D classes (ws.set q (ar, e1)) H1 ∧ va_D A0 (ws.set q (ar, e1)) := by
  refine ⟨fun k x hx => ?_, hD.set hq⟩
  rw [List.getElem?_set] at hx
  by_cases e : q = k
  · rw [if_pos e] at hx
    by_cases hl : q < ws.length
    · rw [if_pos hl] at hx
      rw [← Option.some.inj hx]
      exact hP1 0 _ rfl
    · rw [if_neg hl] at hx; cases hx
  · rw [if_neg e] at hx
    have h1 := hP k x hx
    refine h1.kept (hk x.1 h1.lt (fun h => ?_))
    rcases h with ⟨k2, e2, h⟩ | h
    · match k2, h with
      | 0, h =>
        have h2 := (Prod.mk.inj (Option.some.inj h)).1
        exact e (hD.1 q k (ar, e0) x hq hx h2)
      | k2 + 1, h => cases h
    · have := h1.lt
      omega
theorem kc_callv1 {e0 : va_E} {e1 : S → va_E} (hr : va_Run p l e R s m args below meth c H locs cells slots mc ms (F0 m pc ls st0) rest (kc_Pv D (fun u => [(ar, e1 u)]) (va_A [(ar, e0)] H.size) a) (va_A [(ar, e0)] H.size)) (hP : va_P D classes ws H) (hD : va_D A0 ws) (hS : va_S A0 H0 H locs) (hA : ∀ q, H0.size ≤ q → A0 q) (q : Nat) (hq : ws[q]? = some (ar, e0))
    (kk : ∀ (u : S) (H1 : Heap) (locs1 : List Loc), va_P D classes (ws.set q (ar, e1 u)) H1 → va_D A0 (ws.set q (ar, e1 u)) → va_S A0 H0 H1 locs1 → W p l e R s m args below meth c H1 locs1 (cells + mc) (slots + ms) Q (F0 m (pc + 3) ls rest)) : W p l e R s m args below meth c H locs cells slots Q (F0 m pc ls st0) := by
  have hFc : ∀ x, va_A [(ar, e0)] H.size x → A0 x := va_free (wc := [(ar, e0)]) hD hS hA [q] (by show [ws[q]?] = _; rw [hq]; rfl)
  refine va_callv hr hS (fun q _ h => hFc q h) hFc (fun u t H1 locs1 ht _ hw hB _ hk1 hS1 => ?_)
  obtain ⟨hP1, hD1⟩ := hB
  rw [ht] at hP1
  obtain ⟨hP2, hD2⟩ := kc_one hP hD hq hk1 hP1
  exact kk u H1 locs1 hP2 hD2 hS1
theorem kc_newl (cx : Nat → ClassId) (hexec : p.tables.exec = Jvm.exec) (hb : c.code = cc) (harr : (Cond.arrayClass .long).before args s = true) (hK : va_K D classes (kc_TY cx) s) (hP : va_P D classes ws H) (hD : va_D A0 ws) (hS : va_S A0 H0 H locs) (hA : ∀ q, H0.size ≤ q → A0 q) {n : Int32} (hn : ¬ n < 0) (hbytes : n.toNatClampNeg * 8 ≤ 536870912) (hcells : cells + 1 ≤ R.cells) (hslots : slots + n.toNatClampNeg ≤ R.slots) (hdg : decode cc pc = .ok (.newarray .long, 2))
    (kk : ∀ (q : Nat) (H1 : Heap), va_P D classes (ws ++ [(q, .inl (cx 2, n.toNatClampNeg, .inr (.inl (fun _ => 0))))]) H1 → va_D A0 (ws ++ [(q, .inl (cx 2, n.toNatClampNeg, .inr (.inl (fun _ => 0))))]) → va_S A0 H0 H1 locs → W p l e R s m args below meth c H1 locs (cells + 1) (slots + n.toNatClampNeg) Q (F0 m (pc + 2) ls (.ref q :: rest))) : W p l e R s m args below meth c H locs cells slots Q (F0 m pc ls (.int n :: rest)) := by
  refine va_newa (atype := .long) (ty := .long) (a0 := (n.toNatClampNeg, .inr (.inl (fun _ => 0)))) hexec hb harr rfl hK hP hD hS hA (fun cA => rfl) hn rfl hbytes hcells hslots hdg (fun q cA H1 hK1 hP1 hD1 hS1 => ?_)
  have e1 : s.vm.findClass ("[" ++ FieldType.long.toString) = some cA := (hK1.2 5 (cA, .long) rfl).2
  have e2 : s.vm.findClass ("[" ++ FieldType.long.toString) = some (cx 2) := (hK.2 2 (cx 2, .long) rfl).2
  have e3 : cA = cx 2 := Option.some.inj (e1.symm.trans e2)
  subst e3
  exact kk q H1 hP1 hD1 hS1
end KE
def wS (cx : Nat → ClassId) (aS : Nat → Nat) (aT : Nat → Nat) (ak : Nat) (aG : Nat → Nat) (sp : Int32) (s1 : Int32) (s2 : Int32) (s3 : Int32) (s4 : Int32) (s5 : Int32) (sP : Nat → Int32) (sC : Nat → Int32) (sH : Nat → Int32) (tl : Nat → Nat → Int32) (kl : Nat) (kf : Nat → Int64) (gw : Int32) (gh : Int32) (gk : Int32) (gq : Int32) (gr : Int32) (gj : Int32) (gR : Nat → Int32) (gT : Nat → Int32) (gC : Nat → Int32) : va_W := [(aS 0, .inr (3, [.ref (aG 0), .ref (aS 1), .ref (aS 2), .ref (aS 3), .ref (aS 4), .ref (ak), .int sp, .int s1, .int s2, .int s3, .int s4, .int s5])), (aS 1, .inl (cx 0, 7, .inl sP)), (aS 2, .inl (cx 0, 7, .inl sC)), (aS 3, .inl (cx 0, 7, .inl sH)), (aS 4, .inl (cx 4, 5, .inr (.inr (.inr (.inr (fun i => if i < 5 then some (aT i) else none)))))), (aT 0, .inl (cx 0, 17, .inl (tl 0))), (aT 1, .inl (cx 0, 17, .inl (tl 1))), (aT 2, .inl (cx 0, 17, .inl (tl 2))), (aT 3, .inl (cx 0, 17, .inl (tl 3))), (aT 4, .inl (cx 0, 17, .inl (tl 4))), (ak, .inl (cx 2, kl, .inr (.inl kf))), (aG 0, .inr (1, [.int gw, .int gh, .int gk, .int gq, .int gr, .int gj, .ref (aG 1), .ref (aG 2), .ref (aG 3)])), (aG 1, .inl (cx 0, 64, .inl gR)), (aG 2, .inl (cx 0, 256, .inl gT)), (aG 3, .inl (cx 0, 16, .inl gC))]
def wSA (cx : Nat → ClassId) (aS : Nat → Nat) (aT : Nat → Nat) (ak : Nat) (aA : Nat → Nat) (aG : Nat → Nat) (sp : Int32) (s1 : Int32) (s2 : Int32) (s3 : Int32) (s4 : Int32) (s5 : Int32) (sP : Nat → Int32) (sC : Nat → Int32) (sH : Nat → Int32) (tl : Nat → Nat → Int32) (kl : Nat) (kf : Nat → Int64) (mv : Int32) (mc : Nat → Int32) (mm : Nat → Int32) (mh : Nat → Int32) (gw : Int32) (gh : Int32) (gk : Int32) (gq : Int32) (gr : Int32) (gj : Int32) (gR : Nat → Int32) (gT : Nat → Int32) (gC : Nat → Int32) : va_W := [(aS 0, .inr (3, [.ref (aG 0), .ref (aS 1), .ref (aS 2), .ref (aS 3), .ref (aS 4), .ref (ak), .int sp, .int s1, .int s2, .int s3, .int s4, .int s5])), (aS 1, .inl (cx 0, 7, .inl sP)), (aS 2, .inl (cx 0, 7, .inl sC)), (aS 3, .inl (cx 0, 7, .inl sH)), (aS 4, .inl (cx 4, 5, .inr (.inr (.inr (.inr (fun i => if i < 5 then some (aT i) else none)))))), (aT 0, .inl (cx 0, 17, .inl (tl 0))), (aT 1, .inl (cx 0, 17, .inl (tl 1))), (aT 2, .inl (cx 0, 17, .inl (tl 2))), (aT 3, .inl (cx 0, 17, .inl (tl 3))), (aT 4, .inl (cx 0, 17, .inl (tl 4))), (ak, .inl (cx 2, kl, .inr (.inl kf))), (aA 0, .inr (0, [.ref (aG 0), .ref (aA 1), .ref (aA 2), .ref (aA 3), .int mv])), (aA 1, .inl (cx 0, 16, .inl mc)), (aA 2, .inl (cx 0, 2, .inl mm)), (aA 3, .inl (cx 0, 7, .inl mh)), (aG 0, .inr (1, [.int gw, .int gh, .int gk, .int gq, .int gr, .int gj, .ref (aG 1), .ref (aG 2), .ref (aG 3)])), (aG 1, .inl (cx 0, 64, .inl gR)), (aG 2, .inl (cx 0, 256, .inl gT)), (aG 3, .inl (cx 0, 16, .inl gC))]
def wJ (cx : Nat → ClassId) (a1 : Nat) (fn : Nat) (ff : Nat → Int64) : va_W := [(a1, .inl (cx 2, fn, .inr (.inl ff)))]
theorem wS_get_row {cx : Nat → ClassId} {aS : Nat → Nat} {aT : Nat → Nat} {ak : Nat} {aG : Nat → Nat} {sp : Int32} {s1 : Int32} {s2 : Int32} {s3 : Int32} {s4 : Int32} {s5 : Int32} {sP : Nat → Int32} {sC : Nat → Int32} {sH : Nat → Int32} {tl : Nat → Nat → Int32} {kl : Nat} {kf : Nat → Int64} {gw : Int32} {gh : Int32} {gk : Int32} {gq : Int32} {gr : Int32} {gj : Int32} {gR : Nat → Int32} {gT : Nat → Int32} {gC : Nat → Int32} {j : Nat} (hj : j < 5) : ((wS cx aS aT ak aG sp s1 s2 s3 s4 s5 sP sC sH tl kl kf gw gh gk gq gr gj gR gT gC))[5 + j]? = some (aT j, .inl (cx 0, 17, .inl (tl j))) := by
  match j, hj with
  | 0, _ => rfl
  | 1, _ => rfl
  | 2, _ => rfl
  | 3, _ => rfl
  | 4, _ => rfl
theorem wS_set_row {cx : Nat → ClassId} {aS : Nat → Nat} {aT : Nat → Nat} {ak : Nat} {aG : Nat → Nat} {sp : Int32} {s1 : Int32} {s2 : Int32} {s3 : Int32} {s4 : Int32} {s5 : Int32} {sP : Nat → Int32} {sC : Nat → Int32} {sH : Nat → Int32} {tl : Nat → Nat → Int32} {kl : Nat} {kf : Nat → Int64} {gw : Int32} {gh : Int32} {gk : Int32} {gq : Int32} {gr : Int32} {gj : Int32} {gR : Nat → Int32} {gT : Nat → Int32} {gC : Nat → Int32} {j : Nat} {f : Nat → Int32} (hj : j < 5) : ((wS cx aS aT ak aG sp s1 s2 s3 s4 s5 sP sC sH tl kl kf gw gh gk gq gr gj gR gT gC)).set (5 + j) (aT j, .inl (cx 0, 17, .inl f)) = (wS cx aS aT ak aG sp s1 s2 s3 s4 s5 sP sC sH (upT tl j f) kl kf gw gh gk gq gr gj gR gT gC) := by
  match j, hj with
  | 0, _ => rfl
  | 1, _ => rfl
  | 2, _ => rfl
  | 3, _ => rfl
  | 4, _ => rfl
theorem wSA_get_row {cx : Nat → ClassId} {aS : Nat → Nat} {aT : Nat → Nat} {ak : Nat} {aA : Nat → Nat} {aG : Nat → Nat} {sp : Int32} {s1 : Int32} {s2 : Int32} {s3 : Int32} {s4 : Int32} {s5 : Int32} {sP : Nat → Int32} {sC : Nat → Int32} {sH : Nat → Int32} {tl : Nat → Nat → Int32} {kl : Nat} {kf : Nat → Int64} {mv : Int32} {mc : Nat → Int32} {mm : Nat → Int32} {mh : Nat → Int32} {gw : Int32} {gh : Int32} {gk : Int32} {gq : Int32} {gr : Int32} {gj : Int32} {gR : Nat → Int32} {gT : Nat → Int32} {gC : Nat → Int32} {j : Nat} (hj : j < 5) : ((wSA cx aS aT ak aA aG sp s1 s2 s3 s4 s5 sP sC sH tl kl kf mv mc mm mh gw gh gk gq gr gj gR gT gC))[5 + j]? = some (aT j, .inl (cx 0, 17, .inl (tl j))) := by
  match j, hj with
  | 0, _ => rfl
  | 1, _ => rfl
  | 2, _ => rfl
  | 3, _ => rfl
  | 4, _ => rfl
theorem wSA_set_row {cx : Nat → ClassId} {aS : Nat → Nat} {aT : Nat → Nat} {ak : Nat} {aA : Nat → Nat} {aG : Nat → Nat} {sp : Int32} {s1 : Int32} {s2 : Int32} {s3 : Int32} {s4 : Int32} {s5 : Int32} {sP : Nat → Int32} {sC : Nat → Int32} {sH : Nat → Int32} {tl : Nat → Nat → Int32} {kl : Nat} {kf : Nat → Int64} {mv : Int32} {mc : Nat → Int32} {mm : Nat → Int32} {mh : Nat → Int32} {gw : Int32} {gh : Int32} {gk : Int32} {gq : Int32} {gr : Int32} {gj : Int32} {gR : Nat → Int32} {gT : Nat → Int32} {gC : Nat → Int32} {j : Nat} {f : Nat → Int32} (hj : j < 5) : ((wSA cx aS aT ak aA aG sp s1 s2 s3 s4 s5 sP sC sH tl kl kf mv mc mm mh gw gh gk gq gr gj gR gT gC)).set (5 + j) (aT j, .inl (cx 0, 17, .inl f)) = (wSA cx aS aT ak aA aG sp s1 s2 s3 s4 s5 sP sC sH (upT tl j f) kl kf mv mc mm mh gw gh gk gq gr gj gR gT gC) := by
  match j, hj with
  | 0, _ => rfl
  | 1, _ => rfl
  | 2, _ => rfl
  | 3, _ => rfl
  | 4, _ => rfl
theorem kc_P1 {D : va_G} {ws : va_W} {H : Heap} {q : Nat} {x : Nat × va_E} (hP : va_P D classes ws H) (hq : ws[q]? = some x) : va_P D classes [x] H := fun k y hy => by
  match k, hy with
  | 0, hy => rw [← Option.some.inj hy]; exact hP q x hq
  | k + 1, hy => cases hy
theorem kc_D1 {A : Nat → Prop} {ws : va_W} {q : Nat} {x : Nat × va_E} (hD : va_D A ws) (hq : ws[q]? = some x) : va_D A [x] := by
  refine ⟨fun i j a b ha hb _ => ?_, fun k y hy => ?_⟩
  · match i, j, ha, hb with
    | 0, 0, _, _ => rfl
    | 0, j + 1, _, hb => cases hb
    | i + 1, _, ha, _ => cases ha
  · match k, hy with
    | 0, hy => rw [← Option.some.inj hy]; exact hD.2 q x hq
    | k + 1, hy => cases hy
