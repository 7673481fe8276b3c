-- making: new cells come behind those that were there
theorem cls_eq {D : va_G} {tys : List (ClassId × FieldType)} {cA c0 : ClassId} {ty : FieldType} {s : State} {k : Nat} (hK : va_K D vwCl (tys ++ [(cA, ty)]) s) (h : tys[k]? = some (c0, ty)) (hp : ∀ c : ClassId, va_RA s c ty → s.vm.findClass ("[" ++ ty.toString) = some c) : cA = c0 := by
  have h1 := hp _ (hK.2 tys.length (cA, ty) (by simp)).2
  have h2 := hp _ (hK.2 k (c0, ty) (by rw [List.getElem?_append_left (List.getElem?_eq_some_iff.mp h).1]; exact h)).2
  rw [h1] at h2
  exact Option.some.inj h2
theorem K_back {D : va_G} {tys t2 : List (ClassId × FieldType)} {s : State} (hK : va_K D vwCl (tys ++ t2) s) : va_K D vwCl tys s := ⟨hK.1, fun k q h => hK.2 k q (by rw [List.getElem?_append_left (List.getElem?_eq_some_iff.mp h).1]; exact h)⟩
theorem rep_joinN {A0 : Nat → Prop} {D : va_G} {cl : List vw_C} {ws wc c1 n1 : va_W} {H H1 : Heap} (hP : va_P D cl ws H) (hD : va_D A0 ws) (isC : List Nat) (hC : isC.map (fun i => ws[i]?) = wc.map some) (hn : isC.Nodup) (ha : c1.map Prod.fst = wc.map Prod.fst)
    (hk : ∀ q : Nat, q < H.size → ¬ va_A wc H.size q → H1[q]? = H[q]?) (hF : ∀ q, va_A wc H.size q → A0 q) (hP1 : va_P D cl (c1 ++ n1) H1) (hD1 : va_D (va_A wc H.size) (c1 ++ n1)) : va_P D cl (rep ws isC c1 ++ n1) H1 ∧ va_D A0 (rep ws isC c1 ++ n1) := by
  have hPc : va_P D cl c1 H1 := fun k q h => hP1 k q (by rw [List.getElem?_append_left (List.getElem?_eq_some_iff.mp h).1]; exact h)
  have hPn : va_P D cl n1 H1 := fun k q h => hP1 (c1.length + k) q (by rw [List.getElem?_append_right (by omega), Nat.add_sub_cancel_left]; exact h)
  obtain ⟨g1, g2⟩ := rep_join hP hD isC hC hn ha hk hPc
  have hlen : isC.length = c1.length := by
    have h1 := congrArg List.length hC
    have h2 := congrArg List.length ha
    simp at h1 h2
    omega
  have hlt := isC_lt hC
  have low : ∀ (k : Nat) (q : Nat × va_E), (rep ws isC c1)[k]? = some q → q.1 < H.size := by
    intro k q h
    rcases rep_get isC c1 ws hlen hn hlt k q h with ⟨j, h1, h2⟩ | ⟨_, h2⟩
    · have e1 : (c1.map Prod.fst)[j]? = some q.1 := by rw [List.getElem?_map, h2]; rfl
      rw [ha, List.getElem?_map] at e1
      cases hw : wc[j]? with
      | none => rw [hw] at e1; cases e1
      | some q0 =>
        rw [hw] at e1
        have e2 : (wc.map some)[j]? = some (some q0) := by rw [List.getElem?_map, hw]; rfl
        rw [← hC, List.getElem?_map, h1] at e2
        have e3 : ws[k]? = some q0 := Option.some.inj e2
        have e4 := (hP k q0 e3).lt
        have e5 : q0.1 = q.1 := Option.some.inj e1
        omega
    · exact (hP k q h2).lt
  have high : ∀ (k : Nat) (q : Nat × va_E), n1[k]? = some q → H.size ≤ q.1 := by
    intro k q h
    have hq : (c1 ++ n1)[c1.length + k]? = some q := by rw [List.getElem?_append_right (by omega), Nat.add_sub_cancel_left]; exact h
    rcases hD1.2 _ q hq with ⟨j, e, hj⟩ | h1
    · exfalso
      have e1 : (wc.map Prod.fst)[j]? = some q.1 := by rw [List.getElem?_map, hj]; rfl
      rw [← ha, List.getElem?_map] at e1
      cases hw : c1[j]? with
      | none => rw [hw] at e1; cases e1
      | some q0 =>
        rw [hw] at e1
        have hj2 : j < c1.length := (List.getElem?_eq_some_iff.mp hw).1
        have := hD1.1 j (c1.length + k) q0 q (by rw [List.getElem?_append_left hj2]; exact hw) hq (Option.some.inj e1)
        omega
    · exact h1
  refine ⟨va_P.app g1 hPn, va_D.app g2 ⟨fun i j x y hx hy hxy => ?_, fun k q h => ?_⟩ (fun i j x y hx hy hxy => ?_)⟩
  · have := hD1.1 (c1.length + i) (c1.length + j) x y (by rw [List.getElem?_append_right (by omega), Nat.add_sub_cancel_left]; exact hx) (by rw [List.getElem?_append_right (by omega), Nat.add_sub_cancel_left]; exact hy) hxy
    omega
  · exact hF q.1 (Or.inr (high k q h))
  · have h1 := low i x hx
    have h2 := high j y hy
    omega
/-- what a making needs of the tables beside the words: the array class of Kept, and the links to private constructors of nest mates -/
def NX (U : State) : Prop := va_AO "StepMachine$Kept" U ∧ va_Nw (.methodLinkNest "StepMachine" 9 y_Memo_init "StepMachine") U ∧ va_Nw (.methodLinkNest "StepMachine" 18 y_Guar_init "StepMachine") U ∧ va_Nw (.methodLinkNest "StepMachine" 25 y_Halt_init "StepMachine") U ∧ va_Nw (.methodLinkNest "StepMachine" 32 y_Port_init "StepMachine") U ∧ va_Nw (.methodLinkNest "StepMachine$Core" 11 y_Word_init "StepMachine") U ∧ va_Nw (.methodLinkNest "StepMachine$Trail" 15 y_Kept_init "StepMachine") U
theorem NX.warm {s U : State} (hW : s.WarmedH U.vm) (h : NX s) : NX U := by
  obtain ⟨h0, h1, h2, h3, h4, h5, h6⟩ := h
  exact ⟨h0.moved hW.alike, va_Nw.warmM hW h1, va_Nw.warmM hW h2, va_Nw.warmM hW h3, va_Nw.warmM hW h4, va_Nw.warmM hW h5, va_Nw.warmM hW h6⟩
theorem NX.same {u U : State} (hvm : u.vm = U.vm) (h : NX u) : NX U := by
  obtain ⟨h0, h1, h2, h3, h4, h5, h6⟩ := h
  exact ⟨h0.moved (by rw [hvm]; exact Vm.Alike.refl _), va_Nw.same rfl hvm h1, va_Nw.same rfl hvm h2, va_Nw.same rfl hvm h3, va_Nw.same rfl hvm h4, va_Nw.same rfl hvm h5, va_Nw.same rfl hvm h6⟩
def PwN (D : va_G) (tc : Nat → ClassId) (tb : Nat → Nat) (z0 : Nat) (w : va_W) (sz : Nat) (U : State) : Prop := Pw D tc tb z0 w sz U ∧ NX U
theorem PwN_blind (av : List Value) (D : va_G) (tc : Nat → ClassId) (tb : Nat → Nat) (z0 : Nat) (w : va_W) (sz : Nat) : FrameBlind (va_Pc av (PwN D tc tb z0 w sz)) := fun a U g mk q => by
  obtain ⟨q0, q1, q2⟩ := q
  exact ⟨q0, (Pw_blind av D tc tb z0 w sz a U g mk ⟨q0, q1⟩).2, q2.same rfl⟩
section CALLSN
variable {p : Program} {l : Launch} {e : Env} {R : Room} {s : State} {m : MethodId} {args : Array Value} {below : List Frame} {meth : Method} {c : Code} {H : Heap} {locs : List Loc} {cells slots : Nat} {Q : State → Prop}
variable {y : MethodName} {bytes cc : ByteArray} {maxL nL n index mc ms : Nat} {ws : List Cond} {rm : Room} {Ts : List Cond} {own host : String} {b : Addr} {As rest st0 : List Value} {ls : Array Slot} {pc : Nat}
variable {D : va_G} {tc : Nat → ClassId} {tb : Nat → Nat} {z0 : Nat} {w0 wl : va_W} {A0 : Nat → Prop} {H0 : Heap}
theorem wIN {T : Type} {w1 c1 n1 : T → va_W} (S : CallFix p m c cc nL s args Ts own) (hM : Met l y ws rm (va_Pc (.ref b :: As) (PwN D tc tb z0 w0 H.size)) (va_Qv (fun _ : T => True) (Bw D tc (va_A w0 H.size) w1) (va_A w0 H.size)) mc ms (va_A w0 H.size)) (cw : va_CN R s args own index y host bytes maxL none ws rm mc ms n ∧ y.name = "<init>" ∧ (Cond.instanceMethod y).before args s = true)
    (hP : va_P D vwCl wl H) (hD : va_D A0 wl) (hS : va_S A0 H0 H locs) (hA : ∀ q, H0.size ≤ q → A0 q) (hZ : ∀ q, A0 q → z0 ≤ q) (hK : va_K D vwCl (tyT tc) s) (hB : Tbl tb z0 s H0) (hN : NX s) (isC : List Nat) (hC : isC.map (fun i => wl[i]?) = w0.map some) (hnd : va_nd isC = true ∧ isC.Nodup) (ha : ∀ u, (c1 u).map Prod.fst = w0.map Prod.fst) (hw1 : ∀ u, w1 u = c1 u ++ n1 u)
    (hn : As.length = n) (hsize : ls.size = nL) (hst : st0 = As.reverse ++ .ref b :: rest) (hW : (rest.map fun v => v.category).sum ≤ 8) (hdg : decode cc pc = .ok (.invokespecial index, 3)) (hf : cells + mc ≤ R.cells ∧ slots + ms ≤ R.slots)
    (kk : ∀ (u : T) (H1 : Heap) (locs1 : List Loc), va_P D vwCl (rep wl isC (c1 u) ++ n1 u) H1 → va_D A0 (rep wl isC (c1 u) ++ n1 u) → va_S A0 H0 H1 locs1 → W p l e R s m args below meth c H1 locs1 (cells + mc) (slots + ms) Q (F0 m (pc + 3) ls rest)) : W p l e R s m args below meth c H locs cells slots Q (F0 m pc ls st0) := by
  have hFc := va_free (wc := w0) hD hS hA isC hC
  have hPc : va_P D vwCl w0 H := hP.sub isC (fm_of_map hC)
  have hDc : va_D A0 w0 := hD.sub isC hnd.1 hC
  refine va_callv (rest := rest) (va_runIN (rest := rest) S hM cw ⟨PwN_blind _ _ _ _ _ _ _, fun U hU hW => ⟨rfl, ⟨by rw [hU], by rw [hU]; exact hPc, va_K.moved hW.alike hK, by rw [hU]; exact (hB.kept hS hZ).moved hW.alike, hDc.weaken (fun _ _ _ _ => trivial), fun q h => hZ q (hFc q h)⟩, hN.warm hW⟩⟩ rfl hn hsize hst (lv_room hW) hdg hf) hS (fun q _ h => hFc q h) hFc (fun u t H1 locs1 ht hvm hw hB hz1 hk1 hS1 => ?_)
  obtain ⟨hP1, -, hD1⟩ := hB
  rw [ht] at hP1
  rw [hw1] at hP1 hD1
  obtain ⟨h1, h2⟩ := rep_joinN hP hD isC hC hnd.2 (ha u) hk1 hFc hP1 hD1
  exact kk u H1 locs1 h1 h2 hS1
theorem wI {T : Type} {w1 c1 n1 : T → va_W} (S : CallFix p m c cc nL s args Ts own) (hM : Met l y ws rm (va_Pc (.ref b :: As) (PwN D tc tb z0 w0 H.size)) (va_Qv (fun _ : T => True) (Bw D tc (va_A w0 H.size) w1) (va_A w0 H.size)) mc ms (va_A w0 H.size)) (cw : CallB R s args own index y bytes maxL none ws rm mc ms n ∧ y.name = "<init>" ∧ (Cond.instanceMethod y).before args s = true)
    (hP : va_P D vwCl wl H) (hD : va_D A0 wl) (hS : va_S A0 H0 H locs) (hA : ∀ q, H0.size ≤ q → A0 q) (hZ : ∀ q, A0 q → z0 ≤ q) (hK : va_K D vwCl (tyT tc) s) (hB : Tbl tb z0 s H0) (hN : NX s) (isC : List Nat) (hC : isC.map (fun i => wl[i]?) = w0.map some) (hnd : va_nd isC = true ∧ isC.Nodup) (ha : ∀ u, (c1 u).map Prod.fst = w0.map Prod.fst) (hw1 : ∀ u, w1 u = c1 u ++ n1 u)
    (hn : As.length = n) (hsize : ls.size = nL) (hst : st0 = As.reverse ++ .ref b :: rest) (hW : (rest.map fun v => v.category).sum ≤ 8) (hdg : decode cc pc = .ok (.invokespecial index, 3)) (hf : cells + mc ≤ R.cells ∧ slots + ms ≤ R.slots)
    (kk : ∀ (u : T) (H1 : Heap) (locs1 : List Loc), va_P D vwCl (rep wl isC (c1 u) ++ n1 u) H1 → va_D A0 (rep wl isC (c1 u) ++ n1 u) → va_S A0 H0 H1 locs1 → W p l e R s m args below meth c H1 locs1 (cells + mc) (slots + ms) Q (F0 m (pc + 3) ls rest)) : W p l e R s m args below meth c H locs cells slots Q (F0 m pc ls st0) := by
  have hFc := va_free (wc := w0) hD hS hA isC hC
  have hPc : va_P D vwCl w0 H := hP.sub isC (fm_of_map hC)
  have hDc : va_D A0 w0 := hD.sub isC hnd.1 hC
  refine va_callv (rest := rest) (va_runI (rest := rest) S hM cw ⟨PwN_blind _ _ _ _ _ _ _, fun U hU hW => ⟨rfl, ⟨by rw [hU], by rw [hU]; exact hPc, va_K.moved hW.alike hK, by rw [hU]; exact (hB.kept hS hZ).moved hW.alike, hDc.weaken (fun _ _ _ _ => trivial), fun q h => hZ q (hFc q h)⟩, hN.warm hW⟩⟩ rfl hn hsize hst (lv_room hW) hdg hf) hS (fun q _ h => hFc q h) hFc (fun u t H1 locs1 ht hvm hw hB hz1 hk1 hS1 => ?_)
  obtain ⟨hP1, -, hD1⟩ := hB
  rw [ht] at hP1
  rw [hw1] at hP1 hD1
  obtain ⟨h1, h2⟩ := rep_joinN hP hD isC hC hnd.2 (ha u) hk1 hFc hP1 hD1
  exact kk u H1 locs1 h1 h2 hS1
end CALLSN

theorem cell0_i (n : Nat) (cA : ClassId) : vp_cell cA (n, .inl (fun _ => 0)) = arrV cA n (fun _ => defaultValue .int) := rfl
theorem cell0_b (n : Nat) (cA : ClassId) : vp_cell cA (n, .inl (fun _ => 0)) = arrV cA n (fun _ => defaultValue .byte) := rfl
theorem cell0_z (n : Nat) (cA : ClassId) : vp_cell cA (n, .inl (fun _ => 0)) = arrV cA n (fun _ => defaultValue .boolean) := rfl
