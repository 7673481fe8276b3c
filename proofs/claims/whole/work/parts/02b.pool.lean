-- the hundred kept steps: objects at the addresses ka j, each with the twelve numbers kd j
def kf (d : Nat → Int32) : List Value := [.int (d 0), .int (d 1), .int (d 2), .int (d 3), .int (d 4), .int (d 5), .int (d 6), .int (d 7), .int (d 8), .int (d 9), .int (d 10), .int (d 11)]
def pool (ka : Nat → Nat) (kd : Nat → Nat → Int32) : va_W := (List.range 100).map (fun j => (ka j, .inr (5, kf (kd j))))
theorem pool_len (ka : Nat → Nat) (kd : Nat → Nat → Int32) : (pool ka kd).length = 100 := by simp [pool]
theorem pool_get {ka : Nat → Nat} {kd : Nat → Nat → Int32} {j : Nat} (h : j < 100) : (pool ka kd)[j]? = some (ka j, .inr (5, kf (kd j))) := by
  simp [pool, List.getElem?_map, List.getElem?_range h]
theorem pool_set {ka : Nat → Nat} {kd : Nat → Nat → Int32} {j : Nat} (h : j < 100) (d : Nat → Int32) : (pool ka kd).set j (ka j, .inr (5, kf d)) = pool ka (va_up kd j d) := by
  apply List.ext_getElem?
  intro i
  by_cases hi : i < 100
  · rw [pool_get hi]
    by_cases hij : i = j
    · subst hij
      rw [List.getElem?_set_self (by rw [pool_len]; exact hi), va_up_self]
    · rw [List.getElem?_set_ne (Ne.symm hij), pool_get hi, va_up_ne _ _ hij]
  · rw [List.getElem?_eq_none (by rw [List.length_set, pool_len]; omega), List.getElem?_eq_none (by rw [pool_len]; omega)]
theorem pool_adr (ka : Nat → Nat) (kd kd' : Nat → Nat → Int32) : (pool ka kd).map Prod.fst = (pool ka kd').map Prod.fst := by
  simp [pool]
theorem rep_len : ∀ (is : List Nat) (xs ws : va_W), (rep ws is xs).length = ws.length := by
  intro is
  induction is with
  | nil => intro xs ws; cases xs <;> rfl
  | cons i is ih =>
    intro xs ws
    cases xs with
    | nil => rfl
    | cons x xs => rw [rep, ih, List.length_set]
theorem rep_one (ws : va_W) (i : Nat) (x : Nat × va_E) : rep ws [i] [x] = ws.set i x := rfl
theorem rep_left : ∀ (is : List Nat) (xs X Y : va_W), (∀ i ∈ is, i < X.length) → rep (X ++ Y) is xs = rep X is xs ++ Y := by
  intro is
  induction is with
  | nil => intro xs X Y _; cases xs <;> rfl
  | cons i is ih =>
    intro xs X Y h
    cases xs with
    | nil => rfl
    | cons x xs =>
      rw [rep, rep, List.set_append_left _ _ (h i List.mem_cons_self)]
      exact ih xs (X.set i x) Y (fun j hj => by rw [List.length_set]; exact h j (List.mem_cons_of_mem _ hj))
theorem rep_app : ∀ (is js : List Nat) (xs ys ws : va_W), is.length = xs.length → rep ws (is ++ js) (xs ++ ys) = rep (rep ws is xs) js ys := by
  intro is
  induction is with
  | nil =>
    intro js xs ys ws h
    cases xs with
    | nil => rfl
    | cons x xs => simp at h
  | cons i is ih =>
    intro js xs ys ws h
    cases xs with
    | nil => simp at h
    | cons x xs =>
      rw [List.cons_append, List.cons_append, rep, rep]
      exact ih js xs ys (ws.set i x) (by simpa using h)
theorem rep_tail : ∀ (Y1 Y A : va_W), Y1.length = Y.length → rep (A ++ Y) (List.range' A.length Y.length) Y1 = A ++ Y1 := by
  intro Y1
  induction Y1 with
  | nil =>
    intro Y A h
    cases Y with
    | nil => rfl
    | cons y Y => simp at h
  | cons z Z ih =>
    intro Y A h
    cases Y with
    | nil => simp at h
    | cons y Y =>
      have h1 := ih Y (A ++ [z]) (by simpa using h)
      rw [List.length_cons, List.range'_succ, rep, List.set_append_right _ _ (Nat.le_refl _), Nat.sub_self, List.set_cons_zero]
      have e1 : A ++ z :: Y = (A ++ [z]) ++ Y := by simp
      have e2 : (A ++ [z]).length = A.length + 1 := by simp
      rw [e1, ← e2, h1]
      simp
section POOLED
variable {A0 : Nat → Prop} {D : va_G} {cl : List vw_C} {X cx c1 Y Y1 : va_W} {H H1 : Heap} {ka : Nat → Nat} {kd : Nat → Nat → Int32}
theorem isC_lt {isC : List Nat} (hC : isC.map (fun i => X[i]?) = cx.map some) : ∀ i ∈ isC, i < X.length := by
  intro i hi
  obtain ⟨j, hj⟩ := List.getElem?_of_mem hi
  have h1 : (isC.map (fun i => X[i]?))[j]? = some (X[i]?) := by rw [List.getElem?_map, hj]; rfl
  rw [hC, List.getElem?_map] at h1
  cases hw : cx[j]? with
  | none => rw [hw] at h1; cases h1
  | some q => rw [hw] at h1; exact (List.getElem?_eq_some_iff.mp (Option.some.inj h1).symm).1
theorem isC_map {isC : List Nat} (hC : isC.map (fun i => X[i]?) = cx.map some) : isC.map (fun i => (X ++ Y)[i]?) = cx.map some := by
  rw [← hC]
  apply List.map_congr_left
  intro i hi
  rw [List.getElem?_append_left (isC_lt hC i hi)]
/-- the whole tail goes along -/
theorem rep_joinP (hP : va_P D cl (X ++ Y) H) (hD : va_D A0 (X ++ Y)) (isC : List Nat) (hC : isC.map (fun i => X[i]?) = cx.map some) (hn : isC.Nodup) (ha : c1.map Prod.fst = cx.map Prod.fst) (hy : Y1.map Prod.fst = Y.map Prod.fst)
    (hk : ∀ q : Nat, q < H.size → ¬ va_A (cx ++ Y) H.size q → H1[q]? = H[q]?) (hP1 : va_P D cl (c1 ++ Y1) H1) : va_P D cl (rep X isC c1 ++ Y1) H1 ∧ va_D A0 (rep X isC c1 ++ Y1) := by
  have hlt := isC_lt hC
  have hyl : Y1.length = Y.length := by have := congrArg List.length hy; simpa using this
  have hcl : isC.length = c1.length := by
    have h1 := congrArg List.length hC
    have h2 := congrArg List.length ha
    simp at h1 h2
    omega
  have hC2 : (isC ++ List.range' X.length Y.length).map (fun i => (X ++ Y)[i]?) = (cx ++ Y).map some := by
    rw [List.map_append, List.map_append, isC_map hC]
    congr 1
    apply List.ext_getElem?
    intro j
    rw [List.getElem?_map, List.getElem?_map]
    by_cases hj : j < Y.length
    · rw [List.getElem?_range' hj]
      simp [hj]
    · rw [List.getElem?_eq_none (by simp; omega), List.getElem?_eq_none (by omega)]
      rfl
  have hn2 : (isC ++ List.range' X.length Y.length).Nodup := by
    rw [List.nodup_append]
    refine ⟨hn, List.nodup_range', ?_⟩
    intro a ha1 b hb1 hab
    have h1 := hlt a ha1
    rw [List.mem_range'_1] at hb1
    omega
  have key := rep_join (w1 := c1 ++ Y1) hP hD (isC ++ List.range' X.length Y.length) hC2 hn2 (by rw [List.map_append, List.map_append, ha, hy]) hk hP1
  rw [rep_app _ _ _ _ _ hcl, rep_left _ _ _ _ hlt, ← rep_len isC c1 X, rep_tail _ _ _ hyl] at key
  exact key
/-- one of the hundred goes along -/
theorem rep_joinK (hP : va_P D cl (X ++ pool ka kd) H) (hD : va_D A0 (X ++ pool ka kd)) (isC : List Nat) (hC : isC.map (fun i => X[i]?) = cx.map some) (hn : isC.Nodup) (ha : c1.map Prod.fst = cx.map Prod.fst) {j : Nat} (hj : j < 100) {d : Nat → Int32}
    (hk : ∀ q : Nat, q < H.size → ¬ va_A (cx ++ [(ka j, .inr (5, kf (kd j)))]) H.size q → H1[q]? = H[q]?) (hP1 : va_P D cl (c1 ++ [(ka j, .inr (5, kf d))]) H1) : va_P D cl (rep X isC c1 ++ pool ka (va_up kd j d)) H1 ∧ va_D A0 (rep X isC c1 ++ pool ka (va_up kd j d)) := by
  have hlt := isC_lt hC
  have hcl : isC.length = c1.length := by
    have h1 := congrArg List.length hC
    have h2 := congrArg List.length ha
    simp at h1 h2
    omega
  have hC2 : (isC ++ [X.length + j]).map (fun i => (X ++ pool ka kd)[i]?) = (cx ++ ([(ka j, .inr (5, kf (kd j)))] : va_W)).map some := by
    rw [List.map_append, List.map_append, isC_map hC]
    congr 1
    simp only [List.map_cons, List.map_nil]
    rw [List.getElem?_append_right (by omega), Nat.add_sub_cancel_left, pool_get hj]
  have hn2 : (isC ++ [X.length + j]).Nodup := by
    rw [List.nodup_append]
    refine ⟨hn, by simp, ?_⟩
    intro a ha1 b hb1 hab
    have h1 := hlt a ha1
    rw [List.mem_singleton] at hb1
    omega
  have key := rep_join (w1 := c1 ++ [(ka j, .inr (5, kf d))]) hP hD (isC ++ [X.length + j]) hC2 hn2 (by rw [List.map_append, List.map_append, ha]; rfl) hk hP1
  rw [rep_app _ _ _ _ _ hcl, rep_left _ _ _ _ hlt, rep_one, List.set_append_right _ _ (by rw [rep_len]; omega), rep_len, Nat.add_sub_cancel_left, pool_set hj] at key
  exact key
end POOLED
def kdl (l : List Int32) : Nat → Int32 := fun j => l.getD j 0
section CALLSP
variable {p : Program} {l : Launch} {e : Env} {R : Room} {s : State} {m : MethodId} {args : Array Value} {below : List Frame} {meth : Method} {c : Code} {H : Heap} {locs : List Loc} {cells slots : Nat} {Q : State → Prop}
variable {y : MethodName} {bytes cc : ByteArray} {maxL nL n index : Nat} {ret : Option FieldType} {ws : List Cond} {rm : Room} {Ts : List Cond} {own C : String} {b : Addr} {As rest st0 : List Value} {ls : Array Slot} {pc : Nat}
variable {D : va_G} {tc : Nat → ClassId} {tb : Nat → Nat} {z0 : Nat} {w0 wl X cx Y : va_W} {A0 : Nat → Prop} {H0 : Heap} {ka : Nat → Nat} {kd : Nat → Nat → Int32}
/-- a call that has one of the hundred -/
theorem wVvK {T : Type} {q F : T} {w1 c1 : T → va_W} {d : T → Nat → Int32} {ci N j : Nat} {Tf : u_T} {fs : List Value} (hq : q = F) (S : CallFix p m c cc nL s args Ts own) (hM : Met l y ws rm (va_Pc (.ref b :: As) (Pw D tc tb z0 w0 H.size)) (va_Qv (fun (u : T) => u = F) (Bw D tc (va_A w0 H.size) w1) (va_A w0 H.size)) 0 0 (va_A w0 H.size)) (cw : CallW R s args own C index y bytes maxL ret ws rm 0 0 n)
    (hP : va_P D vwCl (X ++ pool ka kd) H) (hD : va_D A0 (X ++ pool ka kd)) (hS : va_S A0 H0 H locs) (hA : ∀ q, H0.size ≤ q → A0 q) (hZ : ∀ q, A0 q → z0 ≤ q) (hK : va_K D vwCl (tyT tc) s) (hB : Tbl tb z0 s H0) (isC : List Nat) (hC : isC.map (fun i => X[i]?) = cx.map some) (hnd : isC.Nodup) (ha : ∀ u, (c1 u).map Prod.fst = cx.map Prod.fst) (hj : j < 100)
    (hw0 : w0 = cx ++ [(ka j, .inr (5, kf (kd j)))]) (hw1 : ∀ u, w1 u = c1 u ++ [(ka j, .inr (5, kf (d u)))])
    (hwb : cx[0]? = some (b, .inr (ci, fs))) (hc : vwCl[ci]? = some (C, Tf, N)) (hn : As.length = n) (hsize : ls.size = nL) (hst : st0 = As.reverse ++ .ref b :: rest) (hW : (rest.map fun v => v.category).sum ≤ 8) (hdg : decode cc pc = .ok (.invokevirtual index, 3)) (hf : cells ≤ R.cells ∧ slots ≤ R.slots)
    (kk : ∀ (H1 : Heap) (locs1 : List Loc), va_P D vwCl (rep X isC (c1 q) ++ pool ka (va_up kd j (d q))) H1 → va_D A0 (rep X isC (c1 q) ++ pool ka (va_up kd j (d q))) → va_S A0 H0 H1 locs1 → W p l e R s m args below meth c H1 locs1 cells slots Q (F0 m (pc + 3) ls rest)) : W p l e R s m args below meth c H locs cells slots Q (F0 m pc ls st0) := by
  subst hw0
  have hlt := isC_lt hC
  have hC2 : (isC ++ [X.length + j]).map (fun i => (X ++ pool ka kd)[i]?) = (cx ++ ([(ka j, .inr (5, kf (kd j)))] : va_W)).map some := by
    rw [List.map_append, List.map_append, isC_map hC]
    congr 1
    simp only [List.map_cons, List.map_nil]
    rw [List.getElem?_append_right (by omega), Nat.add_sub_cancel_left, pool_get hj]
  have hn2 : (isC ++ [X.length + j]).Nodup := by
    rw [List.nodup_append]
    refine ⟨hnd, by simp, ?_⟩
    intro a ha1 b hb1 hab
    have h1 := hlt a ha1
    rw [List.mem_singleton] at hb1
    omega
  have hFc := va_free hD hS hA (isC ++ [X.length + j]) hC2
  have hPc := hP.sub (isC ++ [X.length + j]) (fm_of_map hC2)
  have hDc := hD.sub (isC ++ [X.length + j]) (va_nd_of hn2) hC2
  have hb0 : (cx ++ [(ka j, .inr (5, kf (kd j)))])[0]? = some (b, .inr (ci, fs)) := by
    cases cx with
    | nil => cases hwb
    | cons x cx => exact hwb
  refine va_callv (rest := rest) (va_runV (rest := rest) S hM cw ⟨Pw_blind _ _ _ _ _ _ _, va_recv hK hPc hc hb0, fun U hU hW => ⟨rfl, by rw [hU], by rw [hU]; exact hPc, va_K.moved hW.alike hK, by rw [hU]; exact (hB.kept hS hZ).moved hW.alike, hDc.weaken (fun _ _ _ _ => trivial), fun q h => hZ q (hFc q h)⟩⟩ rfl hn hsize hst (lv_room hW) hdg hf) hS (fun q _ h => hFc q h) hFc (fun u t H1 locs1 ht hvm hw hB hz1 hk1 hS1 => ?_)
  obtain ⟨hP1, -, -⟩ := hB
  rw [ht] at hP1
  rw [← hq] at hw
  subst hw
  rw [hw1] at hP1
  obtain ⟨h1, h2⟩ := rep_joinK hP hD isC hC hnd (ha u) hj hk1 hP1
  exact kk H1 locs1 h1 h2 hS1
/-- the same, where the one stays as it was -/
theorem wVvK0 {T : Type} {q F : T} {w1 c1 : T → va_W} {ci N j : Nat} {Tf : u_T} {fs : List Value} (hq : q = F) (S : CallFix p m c cc nL s args Ts own) (hM : Met l y ws rm (va_Pc (.ref b :: As) (Pw D tc tb z0 w0 H.size)) (va_Qv (fun (u : T) => u = F) (Bw D tc (va_A w0 H.size) w1) (va_A w0 H.size)) 0 0 (va_A w0 H.size)) (cw : CallW R s args own C index y bytes maxL ret ws rm 0 0 n)
    (hP : va_P D vwCl (X ++ pool ka kd) H) (hD : va_D A0 (X ++ pool ka kd)) (hS : va_S A0 H0 H locs) (hA : ∀ q, H0.size ≤ q → A0 q) (hZ : ∀ q, A0 q → z0 ≤ q) (hK : va_K D vwCl (tyT tc) s) (hB : Tbl tb z0 s H0) (isC : List Nat) (hC : isC.map (fun i => X[i]?) = cx.map some) (hnd : isC.Nodup) (ha : ∀ u, (c1 u).map Prod.fst = cx.map Prod.fst) (hj : j < 100)
    (hw0 : w0 = cx ++ [(ka j, .inr (5, kf (kd j)))]) (hw1 : ∀ u, w1 u = c1 u ++ [(ka j, .inr (5, kf (kd j)))])
    (hwb : cx[0]? = some (b, .inr (ci, fs))) (hc : vwCl[ci]? = some (C, Tf, N)) (hn : As.length = n) (hsize : ls.size = nL) (hst : st0 = As.reverse ++ .ref b :: rest) (hW : (rest.map fun v => v.category).sum ≤ 8) (hdg : decode cc pc = .ok (.invokevirtual index, 3)) (hf : cells ≤ R.cells ∧ slots ≤ R.slots)
    (kk : ∀ (H1 : Heap) (locs1 : List Loc), va_P D vwCl (rep X isC (c1 q) ++ pool ka kd) H1 → va_D A0 (rep X isC (c1 q) ++ pool ka kd) → va_S A0 H0 H1 locs1 → W p l e R s m args below meth c H1 locs1 cells slots Q (F0 m (pc + 3) ls rest)) : W p l e R s m args below meth c H locs cells slots Q (F0 m pc ls st0) := by
  refine wVvK (d := fun _ => kd j) hq S hM cw hP hD hS hA hZ hK hB isC hC hnd ha hj hw0 hw1 hwb hc hn hsize hst hW hdg hf (fun H1 locs1 h1 h2 h3 => ?_)
  have e : va_up kd j (kd j) = kd := by
    funext i
    by_cases hi : i = j
    · rw [hi, va_up_self]
    · rw [va_up_ne _ _ hi]
  rw [e] at h1 h2
  exact kk H1 locs1 h1 h2 h3
/-- a call that has the whole tail -/
theorem wVvP {T : Type} {q F : T} {w1 c1 : T → va_W} {y1 : T → va_W} {ci N : Nat} {Tf : u_T} {fs : List Value} (hq : q = F) (S : CallFix p m c cc nL s args Ts own) (hM : Met l y ws rm (va_Pc (.ref b :: As) (Pw D tc tb z0 w0 H.size)) (va_Qv (fun (u : T) => u = F) (Bw D tc (va_A w0 H.size) w1) (va_A w0 H.size)) 0 0 (va_A w0 H.size)) (cw : CallW R s args own C index y bytes maxL ret ws rm 0 0 n)
    (hP : va_P D vwCl (X ++ Y) H) (hD : va_D A0 (X ++ Y)) (hS : va_S A0 H0 H locs) (hA : ∀ q, H0.size ≤ q → A0 q) (hZ : ∀ q, A0 q → z0 ≤ q) (hK : va_K D vwCl (tyT tc) s) (hB : Tbl tb z0 s H0) (isC : List Nat) (hC : isC.map (fun i => X[i]?) = cx.map some) (hnd : isC.Nodup) (ha : ∀ u, (c1 u).map Prod.fst = cx.map Prod.fst) (hy : ∀ u, (y1 u).map Prod.fst = Y.map Prod.fst)
    (hw0 : w0 = cx ++ Y) (hw1 : ∀ u, w1 u = c1 u ++ y1 u)
    (hwb : cx[0]? = some (b, .inr (ci, fs))) (hc : vwCl[ci]? = some (C, Tf, N)) (hn : As.length = n) (hsize : ls.size = nL) (hst : st0 = As.reverse ++ .ref b :: rest) (hW : (rest.map fun v => v.category).sum ≤ 8) (hdg : decode cc pc = .ok (.invokevirtual index, 3)) (hf : cells ≤ R.cells ∧ slots ≤ R.slots)
    (kk : ∀ (H1 : Heap) (locs1 : List Loc), va_P D vwCl (rep X isC (c1 q) ++ y1 q) H1 → va_D A0 (rep X isC (c1 q) ++ y1 q) → va_S A0 H0 H1 locs1 → W p l e R s m args below meth c H1 locs1 cells slots Q (F0 m (pc + 3) ls rest)) : W p l e R s m args below meth c H locs cells slots Q (F0 m pc ls st0) := by
  subst hw0
  have hPc : va_P D vwCl (cx ++ Y) H := hP.part isC hC
  have hDc : va_D A0 (cx ++ Y) := hD.part isC (va_nd_of hnd) hC
  have hFc := va_freeP hD hS hA isC hC
  have hb0 : (cx ++ Y)[0]? = some (b, .inr (ci, fs)) := by
    cases cx with
    | nil => cases hwb
    | cons x cx => exact hwb
  refine va_callv (rest := rest) (va_runV (rest := rest) S hM cw ⟨Pw_blind _ _ _ _ _ _ _, va_recv hK hPc hc hb0, fun U hU hW => ⟨rfl, by rw [hU], by rw [hU]; exact hPc, va_K.moved hW.alike hK, by rw [hU]; exact (hB.kept hS hZ).moved hW.alike, hDc.weaken (fun _ _ _ _ => trivial), fun q h => hZ q (hFc q h)⟩⟩ rfl hn hsize hst (lv_room hW) hdg hf) hS (fun q _ h => hFc q h) hFc (fun u t H1 locs1 ht hvm hw hB hz1 hk1 hS1 => ?_)
  obtain ⟨hP1, -, -⟩ := hB
  rw [ht] at hP1
  rw [← hq] at hw
  subst hw
  rw [hw1] at hP1
  obtain ⟨h1, h2⟩ := rep_joinP hP hD isC hC hnd (ha u) (hy u) hk1 hP1
  exact kk H1 locs1 h1 h2 hS1
/-- a call that answers a reference -/
theorem wVr {T : Type} {q F : T} {ad : Nat} {w1 : T → va_W} {ci N : Nat} {Tf : u_T} {fs : List Value} (hq : q = F) (S : CallFix p m c cc nL s args Ts own) (hM : Met l y ws rm (va_Pc (.ref b :: As) (Pw D tc tb z0 w0 H.size)) (va_Qr (fun (u : T) => u = F) (fun u a t => a = ad ∧ Bw D tc (va_A w0 H.size) w1 u t) (va_A w0 H.size)) 0 0 (va_A w0 H.size)) (cw : CallW R s args own C index y bytes maxL ret ws rm 0 0 n)
    (hP : va_P D vwCl wl H) (hD : va_D A0 wl) (hS : va_S A0 H0 H locs) (hA : ∀ q, H0.size ≤ q → A0 q) (hZ : ∀ q, A0 q → z0 ≤ q) (hK : va_K D vwCl (tyT tc) s) (hB : Tbl tb z0 s H0) (isC : List Nat) (hC : isC.map (fun i => wl[i]?) = w0.map some) (hnd : va_nd isC = true ∧ isC.Nodup) (ha : ∀ u, (w1 u).map Prod.fst = w0.map Prod.fst)
    (hw0 : w0[0]? = some (b, .inr (ci, fs))) (hc : vwCl[ci]? = some (C, Tf, N)) (hn : As.length = n) (hsize : ls.size = nL) (hst : st0 = As.reverse ++ .ref b :: rest) (hW : (rest.map fun v => v.category).sum ≤ 8) (hdg : decode cc pc = .ok (.invokevirtual index, 3)) (hf : cells ≤ R.cells ∧ slots ≤ R.slots)
    (kk : ∀ (H1 : Heap) (locs1 : List Loc), va_P D vwCl (rep wl isC (w1 q)) H1 → va_D A0 (rep wl isC (w1 q)) → va_S A0 H0 H1 locs1 → W p l e R s m args below meth c H1 locs1 cells slots Q (F0 m (pc + 3) ls (.ref ad :: rest))) : W p l e R s m args below meth c H locs cells slots Q (F0 m pc ls st0) := by
  have hFc := va_free (wc := w0) hD hS hA isC hC
  have hPc : va_P D vwCl w0 H := hP.sub isC (fm_of_map hC)
  have hDc : va_D A0 w0 := hD.sub isC hnd.1 hC
  refine va_callr (rest := rest) (va_runV (rest := rest) S hM cw ⟨Pw_blind _ _ _ _ _ _ _, va_recv hK hPc hc hw0, fun U hU hW => ⟨rfl, by rw [hU], by rw [hU]; exact hPc, va_K.moved hW.alike hK, by rw [hU]; exact (hB.kept hS hZ).moved hW.alike, hDc.weaken (fun _ _ _ _ => trivial), fun q h => hZ q (hFc q h)⟩⟩ rfl hn hsize hst (lv_room hW) hdg hf) hS (fun q _ h => hFc q h) hFc (fun u a t H1 locs1 ht hvm hw hB hz1 hk1 hS1 => ?_)
  obtain ⟨rfl, hP1, -, -⟩ := hB
  rw [ht] at hP1
  rw [← hq] at hw
  subst hw
  obtain ⟨h1, h2⟩ := rep_join hP hD isC hC hnd.2 (ha u) hk1 hP1
  exact kk H1 locs1 h1 h2 hS1
theorem roVn {ci N : Nat} {T : u_T} {fs : List Value} (S : CallFix p m c cc nL s args Ts own) (hM : Met l y ws rm (va_Pc (.ref b :: As) (Pr D tc tb z0 w0)) (fun _ st o t => o = .returned (some .null) ∧ t.heap = st.heap) 0 0 (fun _ => False)) (cw : CallW R s args own C index y bytes maxL ret ws rm 0 0 n)
    (hP : va_P D vwCl w0 H) (hK : va_K D vwCl (tyT tc) s) (hB : Tbl tb z0 s H) (hw : w0[0]? = some (b, .inr (ci, fs))) (hc : vwCl[ci]? = some (C, T, N)) (hn : As.length = n) (hsize : ls.size = nL) (hst : st0 = As.reverse ++ .ref b :: rest) (hW : (rest.map fun v => v.category).sum ≤ 8) (hdg : decode cc pc = .ok (.invokevirtual index, 3)) (hf : cells ≤ R.cells ∧ slots ≤ R.slots)
    (kk : W p l e R s m args below meth c H locs cells slots Q (F0 m (pc + 3) ls (.null :: rest))) : W p l e R s m args below meth c H locs cells slots Q (F0 m pc ls st0) := by
  intro T hT X
  obtain ⟨v, st₀, t, T', L, h0, X', hL, e1, e2, ⟨hv, hh⟩, st⟩ := va_runV (rest := rest) S hM cw ⟨Pr_blind _ _ _ _ _ _, va_recv hK hP hc hw, fun U hU hW => ⟨rfl, by rw [hU]; exact hP, va_K.moved hW.alike hK, by rw [hU]; exact hB.moved hW.alike⟩⟩ rfl hn hsize hst (lv_room hW) hdg hf T hT X
  cases hv
  obtain ⟨t2, a1, b1⟩ := kk T' (by rw [e1, hh, h0]) (Stand.forget X' (fun q h => (hL q h).elim))
  exact ⟨t2, st t2 a1, b1⟩
end CALLSP
