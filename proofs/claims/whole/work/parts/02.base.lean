-- the tables of StepMachine$LongForm
def tn_N : Nat := 7
def tn_c : Nat → String := fun _ => "StepMachine$LongForm"
def tn_f : Nat → String := fun k => match k with
  | 0 => "BRANCHES"
  | 1 => "LOADS"
  | 2 => "STORES"
  | 3 => "IMMEDIATES"
  | 4 => "PLAIN"
  | 5 => "OTHER"
  | _ => "PRODUCTS"
def tn_l : Nat → Nat := fun _ => 8
def tn_t : List (List Int32) := [[4, 5, -1, -1, 6, 7, 8, 9], [10, 11, 12, -1, 13, 14, -1, -1], [15, 16, 17, -1, -1, -1, -1, -1], [18, -1, 19, 20, 21, -1, 22, 23], [27, 29, 30, 31, 32, 33, 35, 36], [28, -1, -1, -1, -1, 34, -1, -1], [37, 38, 39, 40, 41, 42, 43, 44]]
def tn_v (k j : Nat) : Int32 := (tn_t.getD k []).getD j 0
theorem tn_small (k : Nat) (_ : k < tn_N) : tn_l k < 2 ^ 31 := show (8 : Nat) < 2 ^ 31 by decide
-- the words of the state's pictures, and the calls, each as one row
def j_ushr (x y : Int32) : Int32 := (x.toUInt32 >>> (y.toUInt32 &&& Int32.toUInt32 31)).toInt32
def j_lushr (x : Int64) (y : Int32) : Int64 := (x.toUInt64 >>> (y.toInt64.toUInt64 &&& Int64.toUInt64 63)).toInt64
def j_lshl (x : Int64) (y : Int32) : Int64 := x <<< (y.toInt64 &&& 63)
def j_lshr (x : Int64) (y : Int32) : Int64 := x >>> (y.toInt64 &&& 63)
abbrev tyT (tc : Nat → ClassId) : List (ClassId × FieldType) := [(tc 0, .int), (tc 1, .byte), (tc 2, .boolean), (tc 3, .int), (tc 4, .object "StepMachine$Kept")]
/-- the tables that static fields hold: their addresses tb, below z0, where no cell of a world lies -/
def Tbl (tb : Nat → Nat) (z0 : Nat) (U : State) (H : Heap) : Prop := ∀ k : Nat, k < tn_N → va_Z (tn_c k) (tn_f k) "[I" (.ref (tb k)) (fun q => z0 ≤ q) U H ∧ va_T .int (tb k) (tn_l k) (fun j => .int (tn_v k j)) (fun q => z0 ≤ q) U H
theorem Tbl.moved {tb : Nat → Nat} {z0 : Nat} {u U : State} {H : Heap} (hvm : u.vm.Alike U.vm) (h : Tbl tb z0 u H) : Tbl tb z0 U H := fun k hk => ⟨(h k hk).1.moved hvm, (h k hk).2.moved hvm⟩
theorem Tbl.kept {tb : Nat → Nat} {z0 : Nat} {U : State} {A : Nat → Prop} {H H1 : Heap} {locs : List Loc} (h : Tbl tb z0 U H) (hS : va_S A H H1 locs) (hZ : ∀ q, A q → z0 ≤ q) : Tbl tb z0 U H1 := fun k hk => ⟨(h k hk).1.kept (fun a h1 h2 => hS.2.1 a h1 (fun z => h2 (hZ a z))), (h k hk).2.kept (fun a h1 h2 => hS.2.1 a h1 (fun z => h2 (hZ a z)))⟩
def Pr (D : va_G) (tc : Nat → ClassId) (tb : Nat → Nat) (z0 : Nat) (w : va_W) (U : State) : Prop := va_P D vwCl w U.heap ∧ va_K D vwCl (tyT tc) U ∧ Tbl tb z0 U U.heap
def Pw (D : va_G) (tc : Nat → ClassId) (tb : Nat → Nat) (z0 : Nat) (w : va_W) (sz : Nat) (U : State) : Prop := U.heap.size = sz ∧ va_P D vwCl w U.heap ∧ va_K D vwCl (tyT tc) U ∧ Tbl tb z0 U U.heap ∧ va_D (fun _ => True) w ∧ ∀ q, va_A w sz q → z0 ≤ q
def Bw {S : Type} (D : va_G) (tc : Nat → ClassId) (A : Nat → Prop) (w : S → va_W) (u : S) (t : State) : Prop := va_P D vwCl (w u) t.heap ∧ va_K D vwCl (tyT tc) t ∧ va_D A (w u)
theorem Pr_blind (av : List Value) (D : va_G) (tc : Nat → ClassId) (tb : Nat → Nat) (z0 : Nat) (w : va_W) : FrameBlind (va_Pc av (Pr D tc tb z0 w)) := fun a U g mk q => by
  obtain ⟨q0, qP, qK, qB⟩ := q
  exact ⟨q0, qP, va_K.moved (u := U) (U := U.calling g mk a) (Vm.Alike.refl U.vm) qK, Tbl.moved (u := U) (U := U.calling g mk a) (Vm.Alike.refl U.vm) qB⟩
theorem Pw_blind (av : List Value) (D : va_G) (tc : Nat → ClassId) (tb : Nat → Nat) (z0 : Nat) (w : va_W) (sz : Nat) : FrameBlind (va_Pc av (Pw D tc tb z0 w sz)) := fun a U g mk q => by
  obtain ⟨q0, q1, qP, qK, qB, qD⟩ := q
  exact ⟨q0, q1, qP, va_K.moved (u := U) (U := U.calling g mk a) (Vm.Alike.refl U.vm) qK, Tbl.moved (u := U) (U := U.calling g mk a) (Vm.Alike.refl U.vm) qB, qD⟩
theorem fm_of_map {α β : Type} {f : α → Option β} {l : List α} {r : List β} (h : l.map f = r.map some) : l.filterMap f = r := by
  induction l generalizing r with
  | nil => cases r <;> simp_all
  | cons a l ih =>
    cases r with
    | nil => simp at h
    | cons b r =>
      simp only [List.map_cons, List.cons.injEq] at h
      rw [List.filterMap_cons, h.1, ih h.2]
/-- cells put back to their places -/
def rep : va_W → List Nat → va_W → va_W
  | ws, i :: is, x :: xs => rep (ws.set i x) is xs
  | ws, _, _ => ws
theorem rep_get : ∀ (is : List Nat) (xs ws : va_W), is.length = xs.length → is.Nodup → (∀ i ∈ is, i < ws.length) → ∀ (k : Nat) (q : Nat × va_E), (rep ws is xs)[k]? = some q → (∃ j : Nat, is[j]? = some k ∧ xs[j]? = some q) ∨ (k ∉ is ∧ ws[k]? = some q) := by
  intro is
  induction is with
  | nil => intro xs ws _ _ _ k q h; right; exact ⟨List.not_mem_nil, by cases xs <;> simpa [rep] using h⟩
  | cons i is ih =>
    intro xs ws hl hn hb k q h
    cases xs with
    | nil => simp at hl
    | cons x xs =>
      rw [rep] at h
      have hn' := List.nodup_cons.mp hn
      rcases ih xs (ws.set i x) (by simpa using hl) hn'.2 (fun j hj => by rw [List.length_set]; exact hb j (List.mem_cons_of_mem _ hj)) k q h with ⟨j, h1, h2⟩ | ⟨h1, h2⟩
      · exact Or.inl ⟨j + 1, by simpa using h1, by simpa using h2⟩
      · by_cases hk : k = i
        · subst hk
          rw [List.getElem?_set_self (hb k List.mem_cons_self)] at h2
          exact Or.inl ⟨0, rfl, by simpa using h2⟩
        · rw [List.getElem?_set_ne (Ne.symm hk)] at h2
          exact Or.inr ⟨by simp [hk, h1], h2⟩
theorem rep_join {A0 : Nat → Prop} {D : va_G} {cl : List vw_C} {ws wc w1 : va_W} {H H1 : Heap} (hP : va_P D cl ws H) (hD : va_D A0 ws) (isC : List Nat) (hC : isC.map (fun i => ws[i]?) = wc.map some) (hn : isC.Nodup) (ha : w1.map Prod.fst = wc.map Prod.fst)
    (hk : ∀ q : Nat, q < H.size → ¬ va_A wc H.size q → H1[q]? = H[q]?) (hP1 : va_P D cl w1 H1) : va_P D cl (rep ws isC w1) H1 ∧ va_D A0 (rep ws isC w1) := by
  have hlen : isC.length = w1.length := by
    have h1 := congrArg List.length hC
    have h2 := congrArg List.length ha
    simp at h1 h2
    omega
  have at' : ∀ (j i : Nat), isC[j]? = some i → ∃ q, wc[j]? = some q ∧ ws[i]? = some q := by
    intro j i hj
    have h1 : (isC.map (fun i => ws[i]?))[j]? = some (ws[i]?) := by rw [List.getElem?_map, hj]; rfl
    rw [hC, List.getElem?_map] at h1
    cases hw : wc[j]? with
    | none => rw [hw] at h1; cases h1
    | some q => rw [hw] at h1; exact ⟨q, rfl, (Option.some.inj h1).symm⟩
  have hb : ∀ i ∈ isC, i < ws.length := by
    intro i hi
    obtain ⟨j, hj⟩ := List.getElem?_of_mem hi
    obtain ⟨q, _, h2⟩ := at' j i hj
    exact (List.getElem?_eq_some_iff.mp h2).1
  have adr : ∀ (j : Nat) (q : Nat × va_E), w1[j]? = some q → ∃ q0, wc[j]? = some q0 ∧ q0.1 = q.1 := by
    intro j q hq
    have h1 : (w1.map Prod.fst)[j]? = some q.1 := by rw [List.getElem?_map, hq]; rfl
    rw [ha, List.getElem?_map] at h1
    cases hw : wc[j]? with
    | none => rw [hw] at h1; cases h1
    | some q0 => rw [hw] at h1; exact ⟨q0, rfl, Option.some.inj h1⟩
  have same : ∀ (k : Nat) (q : Nat × va_E), (rep ws isC w1)[k]? = some q → ∃ q0, ws[k]? = some q0 ∧ q0.1 = q.1 := by
    intro k q h
    rcases rep_get isC w1 ws hlen hn hb k q h with ⟨j, h1, h2⟩ | ⟨_, h2⟩
    · obtain ⟨q0, h3, h4⟩ := adr j q h2
      obtain ⟨q1, h5, h6⟩ := at' j k h1
      rw [h3] at h5
      cases h5
      exact ⟨q0, h6, h4⟩
    · exact ⟨q, h2, rfl⟩
  refine ⟨fun k q h => ?_, fun i j x y hx hy hxy => ?_, fun k q h => ?_⟩
  · rcases rep_get isC w1 ws hlen hn hb k q h with ⟨j, _, h2⟩ | ⟨h1, h2⟩
    · exact hP1 j q h2
    · have hl := (hP k q h2).lt
      refine (hP k q h2).kept (hk q.1 hl fun hA => ?_)
      rcases hA with ⟨j, e, hj⟩ | hA
      · have h3 : (wc.map some)[j]? = some (some (q.1, e)) := by rw [List.getElem?_map, hj]; rfl
        rw [← hC, List.getElem?_map] at h3
        cases hi : isC[j]? with
        | none => rw [hi] at h3; cases h3
        | some i =>
          rw [hi] at h3
          have h4 : ws[i]? = some (q.1, e) := Option.some.inj h3
          have := hD.1 k i q (q.1, e) h2 h4 rfl
          subst this
          exact h1 (List.mem_of_getElem? hi)
      · omega
  · obtain ⟨x0, h1, h2⟩ := same i x hx
    obtain ⟨y0, h3, h4⟩ := same j y hy
    exact hD.1 i j x0 y0 h1 h3 (by rw [h2, h4, hxy])
  · obtain ⟨q0, h1, h2⟩ := same k q h
    rw [← h2]
    exact hD.2 k q0 h1
theorem va_nd_of : ∀ {l : List Nat}, l.Nodup → va_nd l = true
  | [], _ => rfl
  | a :: l, h => by
    have h1 := List.nodup_cons.mp h
    simp only [va_nd, Bool.and_eq_true, decide_eq_true_eq]
    exact ⟨h1.1, va_nd_of h1.2⟩
section CALLS
variable {p : Program} {l : Launch} {e : Env} {R : Room} {s : State} {m : MethodId} {args : Array Value} {below : List Frame} {meth : Method} {c : Code} {H : Heap} {locs : List Loc} {cells slots : Nat} {Q : State → Prop}
variable {y : MethodName} {bytes cc : ByteArray} {maxL nL n index : Nat} {ret : Option FieldType} {ws : List Cond} {rm : Room} {Ts : List Cond} {own C : String} {b : Addr} {As rest st0 : List Value} {ls : Array Slot} {pc : Nat}
variable {D : va_G} {tc : Nat → ClassId} {tb : Nat → Nat} {z0 : Nat} {w0 wl : va_W} {A0 : Nat → Prop} {H0 : Heap}
theorem roSi {v : Int32} (S : CallFix p m c cc nL s args Ts own) (hM : Met l y ws rm (va_Pc As (Pr D tc tb z0 w0)) (vp_Si (fun r => r = v)) 0 0 (fun _ => False)) (cw : CallB R s args own index y bytes maxL ret ws rm 0 0 n ∧ (Cond.static y).before args s = true)
    (hP : va_P D vwCl w0 H) (hK : va_K D vwCl (tyT tc) s) (hB : Tbl tb z0 s H) (hn : As.length = n) (hsize : ls.size = nL) (hst : st0 = As.reverse ++ rest) (hW : (rest.map fun v => v.category).sum ≤ 8) (hdg : decode cc pc = .ok (.invokestatic index, 3)) (hf : cells ≤ R.cells ∧ slots ≤ R.slots)
    (kk : W p l e R s m args below meth c H locs cells slots Q (F0 m (pc + 3) ls (.int v :: rest))) : W p l e R s m args below meth c H locs cells slots Q (F0 m pc ls st0) := by
  refine vp_callSi (rest := rest) (va_runS (rest := rest) S hM cw ⟨Pr_blind _ _ _ _ _ _, fun U hU hW => ⟨rfl, by rw [hU]; exact hP, va_K.moved hW.alike hK, by rw [hU]; exact hB.moved hW.alike⟩⟩ rfl hn hsize hst (lv_room hW) hdg hf).run ?_
  intro r hr
  subst hr
  exact kk
theorem roVi {v : Int32} {ci N : Nat} {T : u_T} {fs : List Value} (S : CallFix p m c cc nL s args Ts own) (hM : Met l y ws rm (va_Pc (.ref b :: As) (Pr D tc tb z0 w0)) (vp_Si (fun r => r = v)) 0 0 (fun _ => False)) (cw : CallW R s args own C index y bytes maxL ret ws rm 0 0 n)
    (hP : va_P D vwCl w0 H) (hK : va_K D vwCl (tyT tc) s) (hB : Tbl tb z0 s H) (hw : w0[0]? = some (b, .inr (ci, fs))) (hc : vwCl[ci]? = some (C, T, N)) (hn : As.length = n) (hsize : ls.size = nL) (hst : st0 = As.reverse ++ .ref b :: rest) (hW : (rest.map fun v => v.category).sum ≤ 8) (hdg : decode cc pc = .ok (.invokevirtual index, 3)) (hf : cells ≤ R.cells ∧ slots ≤ R.slots)
    (kk : W p l e R s m args below meth c H locs cells slots Q (F0 m (pc + 3) ls (.int v :: rest))) : W p l e R s m args below meth c H locs cells slots Q (F0 m pc ls st0) := by
  refine vp_callSi (rest := rest) (va_runV (rest := rest) S hM cw ⟨Pr_blind _ _ _ _ _ _, va_recv hK hP hc hw, fun U hU hW => ⟨rfl, by rw [hU]; exact hP, va_K.moved hW.alike hK, by rw [hU]; exact hB.moved hW.alike⟩⟩ rfl hn hsize hst (lv_room hW) hdg hf).run ?_
  intro r hr
  subst hr
  exact kk
theorem wSi {T : Type} {q F : Int32 × T} {w1 : T → va_W} (hq : q = F) (S : CallFix p m c cc nL s args Ts own) (hM : Met l y ws rm (va_Pc As (Pw D tc tb z0 w0 H.size)) (va_Qi (fun (r : Int32) (u : T) => (r, u) = F) (Bw D tc (va_A w0 H.size) w1) (va_A w0 H.size)) 0 0 (va_A w0 H.size)) (cw : CallB R s args own index y bytes maxL ret ws rm 0 0 n ∧ (Cond.static y).before args s = true)
    (hP : va_P D vwCl wl H) (hD : va_D A0 wl) (hS : va_S A0 H0 H locs) (hA : ∀ q, H0.size ≤ q → A0 q) (hZ : ∀ q, A0 q → z0 ≤ q) (hK : va_K D vwCl (tyT tc) s) (hB : Tbl tb z0 s H0) (isC : List Nat) (hC : isC.map (fun i => wl[i]?) = w0.map some) (hnd : va_nd isC = true ∧ isC.Nodup) (ha : ∀ u, (w1 u).map Prod.fst = w0.map Prod.fst)
    (hn : As.length = n) (hsize : ls.size = nL) (hst : st0 = As.reverse ++ rest) (hW : (rest.map fun v => v.category).sum ≤ 8) (hdg : decode cc pc = .ok (.invokestatic index, 3)) (hf : cells ≤ R.cells ∧ slots ≤ R.slots)
    (kk : ∀ (H1 : Heap) (locs1 : List Loc), va_P D vwCl (rep wl isC (w1 q.2)) H1 → va_D A0 (rep wl isC (w1 q.2)) → va_S A0 H0 H1 locs1 → W p l e R s m args below meth c H1 locs1 cells slots Q (F0 m (pc + 3) ls (.int q.1 :: rest))) : W p l e R s m args below meth c H locs cells slots Q (F0 m pc ls st0) := by
  have hFc := va_free (wc := w0) hD hS hA isC hC
  have hPc : va_P D vwCl w0 H := hP.sub isC (fm_of_map hC)
  have hDc : va_D A0 w0 := hD.sub isC hnd.1 hC
  refine va_calli (rest := rest) (va_runS (rest := rest) S hM cw ⟨Pw_blind _ _ _ _ _ _ _, fun U hU hW => ⟨rfl, by rw [hU], by rw [hU]; exact hPc, va_K.moved hW.alike hK, by rw [hU]; exact (hB.kept hS hZ).moved hW.alike, hDc.weaken (fun _ _ _ _ => trivial), fun q h => hZ q (hFc q h)⟩⟩ rfl hn hsize hst (lv_room hW) hdg hf) hS (fun q _ h => hFc q h) hFc (fun r u t H1 locs1 ht hvm hw hB hz1 hk1 hS1 => ?_)
  obtain ⟨hP1, -, -⟩ := hB
  rw [ht] at hP1
  rw [← hq] at hw
  subst hw
  obtain ⟨h1, h2⟩ := rep_join hP hD isC hC hnd.2 (ha u) hk1 hP1
  exact kk H1 locs1 h1 h2 hS1
theorem wSv {T : Type} {q F : T} {w1 : T → va_W} (hq : q = F) (S : CallFix p m c cc nL s args Ts own) (hM : Met l y ws rm (va_Pc As (Pw D tc tb z0 w0 H.size)) (va_Qv (fun (u : T) => u = F) (Bw D tc (va_A w0 H.size) w1) (va_A w0 H.size)) 0 0 (va_A w0 H.size)) (cw : CallB R s args own index y bytes maxL ret ws rm 0 0 n ∧ (Cond.static y).before args s = true)
    (hP : va_P D vwCl wl H) (hD : va_D A0 wl) (hS : va_S A0 H0 H locs) (hA : ∀ q, H0.size ≤ q → A0 q) (hZ : ∀ q, A0 q → z0 ≤ q) (hK : va_K D vwCl (tyT tc) s) (hB : Tbl tb z0 s H0) (isC : List Nat) (hC : isC.map (fun i => wl[i]?) = w0.map some) (hnd : va_nd isC = true ∧ isC.Nodup) (ha : ∀ u, (w1 u).map Prod.fst = w0.map Prod.fst)
    (hn : As.length = n) (hsize : ls.size = nL) (hst : st0 = As.reverse ++ rest) (hW : (rest.map fun v => v.category).sum ≤ 8) (hdg : decode cc pc = .ok (.invokestatic index, 3)) (hf : cells ≤ R.cells ∧ slots ≤ R.slots)
    (kk : ∀ (H1 : Heap) (locs1 : List Loc), va_P D vwCl (rep wl isC (w1 q)) H1 → va_D A0 (rep wl isC (w1 q)) → va_S A0 H0 H1 locs1 → W p l e R s m args below meth c H1 locs1 cells slots Q (F0 m (pc + 3) ls rest)) : W p l e R s m args below meth c H locs cells slots Q (F0 m pc ls st0) := by
  have hFc := va_free (wc := w0) hD hS hA isC hC
  have hPc : va_P D vwCl w0 H := hP.sub isC (fm_of_map hC)
  have hDc : va_D A0 w0 := hD.sub isC hnd.1 hC
  refine va_callv (rest := rest) (va_runS (rest := rest) S hM cw ⟨Pw_blind _ _ _ _ _ _ _, fun U hU hW => ⟨rfl, by rw [hU], by rw [hU]; exact hPc, va_K.moved hW.alike hK, by rw [hU]; exact (hB.kept hS hZ).moved hW.alike, hDc.weaken (fun _ _ _ _ => trivial), fun q h => hZ q (hFc q h)⟩⟩ rfl hn hsize hst (lv_room hW) hdg hf) hS (fun q _ h => hFc q h) hFc (fun u t H1 locs1 ht hvm hw hB hz1 hk1 hS1 => ?_)
  obtain ⟨hP1, -, -⟩ := hB
  rw [ht] at hP1
  rw [← hq] at hw
  subst hw
  obtain ⟨h1, h2⟩ := rep_join hP hD isC hC hnd.2 (ha u) hk1 hP1
  exact kk H1 locs1 h1 h2 hS1
theorem wVi {T : Type} {q F : Int32 × T} {w1 : T → va_W} {ci N : Nat} {Tf : u_T} {fs : List Value} (hq : q = F) (S : CallFix p m c cc nL s args Ts own) (hM : Met l y ws rm (va_Pc (.ref b :: As) (Pw D tc tb z0 w0 H.size)) (va_Qi (fun (r : Int32) (u : T) => (r, u) = F) (Bw D tc (va_A w0 H.size) w1) (va_A w0 H.size)) 0 0 (va_A w0 H.size)) (cw : CallW R s args own C index y bytes maxL ret ws rm 0 0 n)
    (hP : va_P D vwCl wl H) (hD : va_D A0 wl) (hS : va_S A0 H0 H locs) (hA : ∀ q, H0.size ≤ q → A0 q) (hZ : ∀ q, A0 q → z0 ≤ q) (hK : va_K D vwCl (tyT tc) s) (hB : Tbl tb z0 s H0) (isC : List Nat) (hC : isC.map (fun i => wl[i]?) = w0.map some) (hnd : va_nd isC = true ∧ isC.Nodup) (ha : ∀ u, (w1 u).map Prod.fst = w0.map Prod.fst)
    (hw0 : w0[0]? = some (b, .inr (ci, fs))) (hc : vwCl[ci]? = some (C, Tf, N)) (hn : As.length = n) (hsize : ls.size = nL) (hst : st0 = As.reverse ++ .ref b :: rest) (hW : (rest.map fun v => v.category).sum ≤ 8) (hdg : decode cc pc = .ok (.invokevirtual index, 3)) (hf : cells ≤ R.cells ∧ slots ≤ R.slots)
    (kk : ∀ (H1 : Heap) (locs1 : List Loc), va_P D vwCl (rep wl isC (w1 q.2)) H1 → va_D A0 (rep wl isC (w1 q.2)) → va_S A0 H0 H1 locs1 → W p l e R s m args below meth c H1 locs1 cells slots Q (F0 m (pc + 3) ls (.int q.1 :: rest))) : W p l e R s m args below meth c H locs cells slots Q (F0 m pc ls st0) := by
  have hFc := va_free (wc := w0) hD hS hA isC hC
  have hPc : va_P D vwCl w0 H := hP.sub isC (fm_of_map hC)
  have hDc : va_D A0 w0 := hD.sub isC hnd.1 hC
  refine va_calli (rest := rest) (va_runV (rest := rest) S hM cw ⟨Pw_blind _ _ _ _ _ _ _, va_recv hK hPc hc hw0, fun U hU hW => ⟨rfl, by rw [hU], by rw [hU]; exact hPc, va_K.moved hW.alike hK, by rw [hU]; exact (hB.kept hS hZ).moved hW.alike, hDc.weaken (fun _ _ _ _ => trivial), fun q h => hZ q (hFc q h)⟩⟩ rfl hn hsize hst (lv_room hW) hdg hf) hS (fun q _ h => hFc q h) hFc (fun r u t H1 locs1 ht hvm hw hB hz1 hk1 hS1 => ?_)
  obtain ⟨hP1, -, -⟩ := hB
  rw [ht] at hP1
  rw [← hq] at hw
  subst hw
  obtain ⟨h1, h2⟩ := rep_join hP hD isC hC hnd.2 (ha u) hk1 hP1
  exact kk H1 locs1 h1 h2 hS1
theorem wVv {T : Type} {q F : T} {w1 : T → va_W} {ci N : Nat} {Tf : u_T} {fs : List Value} (hq : q = F) (S : CallFix p m c cc nL s args Ts own) (hM : Met l y ws rm (va_Pc (.ref b :: As) (Pw D tc tb z0 w0 H.size)) (va_Qv (fun (u : T) => u = F) (Bw D tc (va_A w0 H.size) w1) (va_A w0 H.size)) 0 0 (va_A w0 H.size)) (cw : CallW R s args own C index y bytes maxL ret ws rm 0 0 n)
    (hP : va_P D vwCl wl H) (hD : va_D A0 wl) (hS : va_S A0 H0 H locs) (hA : ∀ q, H0.size ≤ q → A0 q) (hZ : ∀ q, A0 q → z0 ≤ q) (hK : va_K D vwCl (tyT tc) s) (hB : Tbl tb z0 s H0) (isC : List Nat) (hC : isC.map (fun i => wl[i]?) = w0.map some) (hnd : va_nd isC = true ∧ isC.Nodup) (ha : ∀ u, (w1 u).map Prod.fst = w0.map Prod.fst)
    (hw0 : w0[0]? = some (b, .inr (ci, fs))) (hc : vwCl[ci]? = some (C, Tf, N)) (hn : As.length = n) (hsize : ls.size = nL) (hst : st0 = As.reverse ++ .ref b :: rest) (hW : (rest.map fun v => v.category).sum ≤ 8) (hdg : decode cc pc = .ok (.invokevirtual index, 3)) (hf : cells ≤ R.cells ∧ slots ≤ R.slots)
    (kk : ∀ (H1 : Heap) (locs1 : List Loc), va_P D vwCl (rep wl isC (w1 q)) H1 → va_D A0 (rep wl isC (w1 q)) → va_S A0 H0 H1 locs1 → W p l e R s m args below meth c H1 locs1 cells slots Q (F0 m (pc + 3) ls rest)) : W p l e R s m args below meth c H locs cells slots Q (F0 m pc ls st0) := by
  have hFc := va_free (wc := w0) hD hS hA isC hC
  have hPc : va_P D vwCl w0 H := hP.sub isC (fm_of_map hC)
  have hDc : va_D A0 w0 := hD.sub isC hnd.1 hC
  refine va_callv (rest := rest) (va_runV (rest := rest) S hM cw ⟨Pw_blind _ _ _ _ _ _ _, va_recv hK hPc hc hw0, fun U hU hW => ⟨rfl, by rw [hU], by rw [hU]; exact hPc, va_K.moved hW.alike hK, by rw [hU]; exact (hB.kept hS hZ).moved hW.alike, hDc.weaken (fun _ _ _ _ => trivial), fun q h => hZ q (hFc q h)⟩⟩ rfl hn hsize hst (lv_room hW) hdg hf) hS (fun q _ h => hFc q h) hFc (fun u t H1 locs1 ht hvm hw hB hz1 hk1 hS1 => ?_)
  obtain ⟨hP1, -, -⟩ := hB
  rw [ht] at hP1
  rw [← hq] at hw
  subst hw
  obtain ⟨h1, h2⟩ := rep_join hP hD isC hC hnd.2 (ha u) hk1 hP1
  exact kk H1 locs1 h1 h2 hS1
end CALLS

theorem ob_nlt {x y : Int32} (h : ¬ x < y) : y.toInt ≤ x.toInt := Int.not_lt.mp (fun q => h (Int32.lt_iff_toInt_lt.mpr q))
theorem ob_nle {x y : Int32} (h : ¬ y ≤ x) : x.toInt < y.toInt := Int.not_le.mp (fun q => h (Int32.le_iff_toInt_le.mpr q))
theorem ob_in8 {x : Int32} (h1 : ¬ x < 0) (h2 : ¬ 8 ≤ x) : vp_in x 8 := by
  have a1 := ob_nlt h1
  have a2 := ob_nle h2
  have e1 : (0 : Int32).toInt = 0 := by decide
  have e2 : (8 : Int32).toInt = 8 := by decide
  rw [vp_in_iff]
  constructor <;> omega
theorem lp_lt {b : Int32} {i : Nat} (h : ¬ b ≤ nI i) (hi : i ≤ b.toNatClampNeg) : i < b.toNatClampNeg := by
  have h0 : b.toNatClampNeg = b.toInt.toNat := rfl
  have h1 := ob_nle h
  have h2 := Int32.toInt_lt b
  rw [nI_toInt (by omega)] at h1
  omega
theorem ob_lp8 {i : Nat} (hi : i ≤ (8 : Int32).toNatClampNeg) (h : ¬ 8 ≤ nI i) : vp_in (nI i) 8 := by
  have e : (8 : Int32).toNatClampNeg = 8 := by decide
  have h1 := lp_lt h hi
  rw [e] at h1
  exact vp_in_nI h1 (by decide)
/-- an index below a bound that a number keeps to -/
theorem ob_lpN {b : Int32} {i N : Nat} (hi : i ≤ b.toNatClampNeg) (h : ¬ b ≤ nI i) (hb : b.toInt ≤ N) : vp_in (nI i) N := by
  have h0 : b.toNatClampNeg = b.toInt.toNat := rfl
  have h1 := lp_lt h hi
  have h2 := Int32.toInt_lt b
  rw [vp_in_iff, nI_toInt (by omega)]
  omega
theorem ob_rng {x b : Int32} {N : Nat} (h0 : 0 ≤ x.toInt) (h : ¬ b ≤ x) (hb : b.toInt ≤ N) : vp_in x N := by
  have h1 := ob_nle h
  rw [vp_in_iff]
  omega
theorem ob_rngL {x b : Int32} {N : Nat} (h0 : 0 ≤ x.toInt) (h : x < b) (hb : b.toInt ≤ N) : vp_in x N := by
  have h1 := Int32.lt_iff_toInt_lt.mp h
  rw [vp_in_iff]
  omega
theorem ob_lcmp {x : Int64} (h : ¬ lg_cmp x 0 = 0) : ¬ x = 0 := fun q => h (by rw [q]; decide)
theorem va_S.wk {A : Nat → Prop} {z0 : Nat} {H0 H : Heap} {locs : List Loc} (hS : va_S A H0 H locs) (hZ : ∀ q, A q → z0 ≤ q) : va_S (fun q => z0 ≤ q) H0 H locs := ⟨hS.1, fun q h1 h2 => hS.2.1 q h1 (fun z => h2 (hZ q z)), fun l h => hZ _ (hS.2.2 l h)⟩
theorem zb_of {v : Int32} (h : v = 0 ∨ v = 1) : narrow .boolean (.int v) = .int v := by
  rcases h with rfl | rfl <;> rfl
