/-! static calls over one or two cells of a larger world, rows of arrays of arrays, natives -/
section CALLS2
variable {p : Program} {l : Launch} {e : Env} {R : Room} {s : State} {m : MethodId} {args : Array Value} {below : List Frame} {meth : Method} {c : Code} {H : Heap} {locs : List Loc} {cells slots : Nat} {Q : State → Prop}
variable {cc : ByteArray} {pc : Nat} {ls : Array Slot} {rest st0 : List Value} {D : va_G} {A : Nat → Prop} {ws : va_W} {cy : Nat → ClassId} {own : String}
variable {is : List Nat} {y : MethodName} {bytes : ByteArray} {maxL n nL idx : Nat} {ret : Option FieldType} {rm : Room} {As : List Value}
theorem set_back {r : Nat} {e0 e1 : va_E} {w0 : va_W} {k : Nat} {H1 : Heap} (hP : va_P D vwCl ws H) (hD : va_D A ws) (hk : ws[k]? = some (r, e0)) (hw : ∀ q ∈ w0, q ∈ ws) (hq : ∀ q : Nat, q < H.size → ¬ va_A (w0 ++ [(r, e0)]) H.size q → H1[q]? = H[q]?) (hP1 : va_P D vwCl (w0 ++ [(r, e1)]) H1) : va_P D vwCl (ws.set k (r, e1)) H1 := by
  have hlt : k < ws.length := (List.getElem?_eq_some_iff.mp hk).1
  intro i x hx
  by_cases hi : k = i
  · subst hi
    rw [List.getElem?_set_self hlt] at hx
    cases hx
    exact hP1 w0.length (r, e1) (by simp)
  · rw [List.getElem?_set_ne hi] at hx
    by_cases hm : x ∈ w0
    · obtain ⟨j, hj⟩ := List.getElem?_of_mem hm
      exact hP1 j x (by rw [List.getElem?_append_left (List.getElem?_eq_some_iff.mp hj).1]; exact hj)
    · refine (hP i x hx).kept (hq x.1 (hP i x hx).lt (fun h => ?_))
      rcases h with ⟨j, e9, h⟩ | h
      · rcases List.mem_append.mp (List.mem_of_getElem? h) with h2 | h2
        · obtain ⟨i2, hi2⟩ := List.getElem?_of_mem (hw _ h2)
          have e2 := hD.1 i i2 x (x.1, e9) hx hi2 rfl
          subst e2
          have e3 : x = (x.1, e9) := Option.some.inj (hx.symm.trans hi2)
          exact hm (by rw [e3]; exact h2)
        · have e4 : (x.1, e9) = (r, e0) := List.mem_singleton.mp h2
          have e5 : x.1 = r := congrArg Prod.fst e4
          exact hi (hD.1 k i (r, e0) x hk hx e5.symm)
      · exact absurd (hP i x hx).lt (Nat.not_lt.mpr h)
theorem crs1 {r : Nat} {e0 e1 : va_E} {wsn : va_W} {k : Nat} (CX : Cx p s m c args cc own) (hml : c.maxLocals = nL) (hM : Met l y (.code y bytes maxL ret :: lw_all) rm (va_Pc As (sW D cy [(r, e0)] H.size)) (qV D [(r, e1)] (va_A [(r, e0)] H.size)) 0 0 (va_A [(r, e0)] H.size)) (hk : lkS own idx y bytes maxL ret n is = true) (hrc : rm.cells = 0) (hrs : rm.slots = 0) (hR : rm.frames + 1 ≤ R.frames ∧ 8 + (maxL + 11) + rm.locals ≤ R.locals) (hP : va_P D vwCl ws H) (hD : va_D A ws) (hS : va_S A s.heap H locs) (hA : ∀ q, s.heap.size ≤ q → A q) (hK : va_K D vwCl (tyA cy) s) (hN : nst s) (h1 : ws[k]? = some (r, e0)) (hset : ws.set k (r, e1) = wsn) (hn : As.length = n) (hsz : ls.size = nL) (hst : st0 = As.reverse ++ rest) (hW : (rest.map fun v => v.category).sum ≤ 8) (hcs : cells ≤ R.cells ∧ slots ≤ R.slots) (hdg : decode cc pc = .ok (.invokestatic idx, 3)) (kk : ∀ (H1 : Heap) (locs1 : List Loc), va_P D vwCl wsn H1 → va_D A wsn → va_S A s.heap H1 locs1 → W p l e R s m args below meth c H1 locs1 cells slots Q (F0 m (pc + 3) ls rest)) : W p l e R s m args below meth c H locs cells slots Q (F0 m pc ls st0) := by
  have hPc : va_P D vwCl [(r, e0)] H := fun i x hx => by
    have h0 : i < 1 := (List.getElem?_eq_some_iff.mp hx).1
    rw [show i = 0 by omega] at hx
    cases hx
    exact hP k _ h1
  have hDc : va_D A [(r, e0)] := ⟨fun i j x y hi hj _ => by
    have h0 : i < 1 := (List.getElem?_eq_some_iff.mp hi).1
    have h2 : j < 1 := (List.getElem?_eq_some_iff.mp hj).1
    omega, fun i x hx => by
    have h0 : i < 1 := (List.getElem?_eq_some_iff.mp hx).1
    rw [show i = 0 by omega] at hx
    cases hx
    exact hD.2 k _ h1⟩
  have hFc := fc_of hDc hS hA
  exact va_callv (va_runS (As := As) (rest := rest) ⟨CX.1, CX.2.1, hml, CX.2.2.2, CX.2.2.1⟩ hM (lkS_cw hk CX.2.2.1 hrc hrs hR) ⟨sW_blind _ _ _ _ _, sW_at hPc hDc hK hN⟩ rfl hn hsz hst (lv_room hW) hdg hcs) hS (fun q _ h => hFc q h) hFc (fun u t H1 locs1 ht hvm hw hB hz1 hk1 hS1 => by
    have h := set_back (w0 := []) hP hD h1 (by simp) hk1 (by rw [← ht]; exact hB.1)
    rw [hset] at h
    exact kk H1 locs1 h (hset ▸ hD.set h1) hS1)
theorem crs2 {r1 r2 : Nat} {e1 e2 e3 : va_E} {wsn : va_W} {k1 k2 : Nat} (CX : Cx p s m c args cc own) (hml : c.maxLocals = nL) (hM : Met l y (.code y bytes maxL ret :: lw_all) rm (va_Pc As (sW D cy [(r1, e1), (r2, e2)] H.size)) (qV D [(r1, e1), (r2, e3)] (va_A [(r1, e1), (r2, e2)] H.size)) 0 0 (va_A [(r1, e1), (r2, e2)] H.size)) (hk : lkS own idx y bytes maxL ret n is = true) (hrc : rm.cells = 0) (hrs : rm.slots = 0) (hR : rm.frames + 1 ≤ R.frames ∧ 8 + (maxL + 11) + rm.locals ≤ R.locals) (hP : va_P D vwCl ws H) (hD : va_D A ws) (hS : va_S A s.heap H locs) (hA : ∀ q, s.heap.size ≤ q → A q) (hK : va_K D vwCl (tyA cy) s) (hN : nst s) (h1 : ws[k1]? = some (r1, e1)) (h2 : ws[k2]? = some (r2, e2)) (hne : k1 ≠ k2) (hset : ws.set k2 (r2, e3) = wsn) (hn : As.length = n) (hsz : ls.size = nL) (hst : st0 = As.reverse ++ rest) (hW : (rest.map fun v => v.category).sum ≤ 8) (hcs : cells ≤ R.cells ∧ slots ≤ R.slots) (hdg : decode cc pc = .ok (.invokestatic idx, 3)) (kk : ∀ (H1 : Heap) (locs1 : List Loc), va_P D vwCl wsn H1 → va_D A wsn → va_S A s.heap H1 locs1 → W p l e R s m args below meth c H1 locs1 cells slots Q (F0 m (pc + 3) ls rest)) : W p l e R s m args below meth c H locs cells slots Q (F0 m pc ls st0) := by
  have hcase : ∀ (i : Nat) (x : Nat × va_E), [(r1, e1), (r2, e2)][i]? = some x → (i = 0 ∧ x = (r1, e1)) ∨ (i = 1 ∧ x = (r2, e2)) := fun i x hx => by
    have h0 : i < 2 := (List.getElem?_eq_some_iff.mp hx).1
    rcases (show i = 0 ∨ i = 1 by omega) with h | h
    · subst h; exact Or.inl ⟨rfl, (Option.some.inj hx).symm⟩
    · subst h; exact Or.inr ⟨rfl, (Option.some.inj hx).symm⟩
  have hPc : va_P D vwCl [(r1, e1), (r2, e2)] H := fun i x hx => by
    rcases hcase i x hx with ⟨-, h⟩ | ⟨-, h⟩
    · rw [h]; exact hP k1 _ h1
    · rw [h]; exact hP k2 _ h2
  have hDc : va_D A [(r1, e1), (r2, e2)] := ⟨fun i j x y hi hj hxy => by
    rcases hcase i x hi with ⟨g, h⟩ | ⟨g, h⟩ <;> rcases hcase j y hj with ⟨g2, h3⟩ | ⟨g2, h3⟩
    · omega
    · rw [h, h3] at hxy; exact absurd (hD.1 k1 k2 _ _ h1 h2 hxy) hne
    · rw [h, h3] at hxy; exact absurd (hD.1 k1 k2 _ _ h1 h2 hxy.symm) hne
    · omega, fun i x hx => by
    rcases hcase i x hx with ⟨-, h⟩ | ⟨-, h⟩
    · rw [h]; exact hD.2 k1 _ h1
    · rw [h]; exact hD.2 k2 _ h2⟩
  have hFc := fc_of hDc hS hA
  exact va_callv (va_runS (As := As) (rest := rest) ⟨CX.1, CX.2.1, hml, CX.2.2.2, CX.2.2.1⟩ hM (lkS_cw hk CX.2.2.1 hrc hrs hR) ⟨sW_blind _ _ _ _ _, sW_at hPc hDc hK hN⟩ rfl hn hsz hst (lv_room hW) hdg hcs) hS (fun q _ h => hFc q h) hFc (fun u t H1 locs1 ht hvm hw hB hz1 hk1 hS1 => by
    have h := set_back (w0 := [(r1, e1)]) hP hD h2 (fun q hq => by rw [List.mem_singleton.mp hq]; exact List.mem_of_getElem? h1) hk1 (by rw [← ht]; exact hB.1)
    rw [hset] at h
    exact kk H1 locs1 h (hset ▸ hD.set h2) hS1)
theorem va_aldA {cell : Unit} {a : Nat} {cl : List vw_C} {tys : List (ClassId × FieldType)} (hexec : p.tables.exec = Jvm.exec) (hb : c.code = cc) (hK : va_K D cl tys s) (hP : va_P D cl ws H) (q0 t0 : Nat) {cA : ClassId} {ty : FieldType} {n : Nat} {f : Nat → Option Nat} (ha : ws[q0]? = some (a, .inl (cA, n, .inr (.inr (.inr (.inr f)))))) (ht : tys[t0]? = some (cA, .array ty)) {i : Int32} (hin : vp_in i n) (hdg : decode cc pc = .ok (.aaload, 1))
    (kk : W p l e R s m args below meth c H locs cells slots Q (F0 m (pc + 1) ls (va_rf (f i.toNatClampNeg) :: rest))) : W p l e R s m args below meth c H locs cells slots Q (F0 m pc ls (.int i :: .ref a :: rest)) := by
  have hlt : i.toNatClampNeg < n := Nat.not_le.mp fun q => hin (Or.inr q)
  exact W.aald (v := va_rf (f i.toNatClampNeg)) (ty := .array ty) hexec hb (hP q0 _ ha) ((hK.2 t0 _ ht).1 n (fun j => va_rf (f j))) rfl (fun q => by cases q) (by show ¬ (i < 0 ∨ (arrV _ _ _).slots.size ≤ _); rw [arrV_size]; exact hin) (by show (arrV _ _ _).slots[_]? = _; rw [arrV_read _ _ hlt]) rfl rfl hdg kk
end CALLS2
/-- the natives of Float and Double -/
def nmF2i : MethodName := ⟨"java/lang/Float", "floatToRawIntBits", "(F)I"⟩
def nmI2f : MethodName := ⟨"java/lang/Float", "intBitsToFloat", "(I)F"⟩
def nmD2l : MethodName := ⟨"java/lang/Double", "doubleToRawLongBits", "(D)J"⟩
theorem mNat {w : Cond} (h : w ∈ ([.native nmF2i, .static nmF2i, .initialized "java/lang/Float", .native nmI2f, .static nmI2f, .native nmD2l, .static nmD2l, .initialized "java/lang/Double", .native arraycopyName, .static arraycopyName, .initialized "java/lang/System"] : List Cond)) : w ∈ lw_all := lw_ats [819, 818, 40, 881, 880, 1027, 1026, 47, 327, 326, 35] (by decide +kernel) w h
def okI (b : Int32) : Bool := !(vn_sni2f b)
theorem okI_in {b : Int32} (h : okI b = true) : vn_sni2f b = false := by
  unfold okI at h
  cases hh : vn_sni2f b with
  | false => rfl
  | true => rw [hh] at h; cases h
theorem inb_lt {i : Int32} {n : Nat} (h : inb i n = true) : i.toNatClampNeg < n := Nat.not_le.mp fun q => inb_in h (Or.inr q)
