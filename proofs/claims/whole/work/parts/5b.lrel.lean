section CALLSQ
variable {p : Program} {l : Launch} {e : Env} {R : Room} {s : State} {m : MethodId} {args : Array Value} {below : List Frame} {meth : Method} {c : Code} {H : Heap} {locs : List Loc} {cells slots : Nat} {Q : State → Prop}
variable {y : MethodName} {bytes cc : ByteArray} {maxL nL n index : Nat} {ret : Option FieldType} {ws : List Cond} {rm : Room} {Ts : List Cond} {own C : String} {b : Addr} {As rest st0 : List Value} {ls : Array Slot} {pc : Nat}
variable {D : va_G} {tc : Nat → ClassId} {tb : Nat → Nat} {z0 : Nat} {w0 wl X cx Y : va_W} {A0 : Nat → Prop} {H0 : Heap} {ka : Nat → Nat} {kd : Nat → Nat → Int32}
theorem wViP {T : Type} {q F : Int32 × T} {w1 c1 : T → va_W} {y1 : T → va_W} {ci N : Nat} {Tf : u_T} {fs : List Value} (hq : q = F) (S : CallFix p m c cc nL s args Ts own) (hM : Met l y ws rm (va_Pc (.ref b :: As) (Pw D tc tb z0 w0 H.size)) (va_Qi (fun (r : Int32) (u : T) => (r, u) = F) (Bw D tc (va_A w0 H.size) w1) (va_A w0 H.size)) 0 0 (va_A w0 H.size)) (cw : CallW R s args own C index y bytes maxL ret ws rm 0 0 n)
    (hP : va_P D vwCl (X ++ Y) H) (hD : va_D A0 (X ++ Y)) (hS : va_S A0 H0 H locs) (hA : ∀ q, H0.size ≤ q → A0 q) (hZ : ∀ q, A0 q → z0 ≤ q) (hK : va_K D vwCl (tyT tc) s) (hB : Tbl tb z0 s H0) (isC : List Nat) (hC : isC.map (fun i => X[i]?) = cx.map some) (hnd : isC.Nodup) (ha : ∀ u, (c1 u).map Prod.fst = cx.map Prod.fst) (hy : ∀ u, (y1 u).map Prod.fst = Y.map Prod.fst)
    (hw0 : w0 = cx ++ Y) (hw1 : ∀ u, w1 u = c1 u ++ y1 u)
    (hwb : cx[0]? = some (b, .inr (ci, fs))) (hc : vwCl[ci]? = some (C, Tf, N)) (hn : As.length = n) (hsize : ls.size = nL) (hst : st0 = As.reverse ++ .ref b :: rest) (hW : (rest.map fun v => v.category).sum ≤ 8) (hdg : decode cc pc = .ok (.invokevirtual index, 3)) (hf : cells ≤ R.cells ∧ slots ≤ R.slots)
    (kk : ∀ (H1 : Heap) (locs1 : List Loc), va_P D vwCl (rep X isC (c1 q.2) ++ y1 q.2) H1 → va_D A0 (rep X isC (c1 q.2) ++ y1 q.2) → va_S A0 H0 H1 locs1 → W p l e R s m args below meth c H1 locs1 cells slots Q (F0 m (pc + 3) ls (.int q.1 :: rest))) : W p l e R s m args below meth c H locs cells slots Q (F0 m pc ls st0) := by
  subst hw0
  have hPc : va_P D vwCl (cx ++ Y) H := hP.part isC hC
  have hDc : va_D A0 (cx ++ Y) := hD.part isC (va_nd_of hnd) hC
  have hFc := va_freeP hD hS hA isC hC
  have hb0 : (cx ++ Y)[0]? = some (b, .inr (ci, fs)) := by
    cases cx with
    | nil => cases hwb
    | cons x cx => exact hwb
  refine va_calli (rest := rest) (va_runV (rest := rest) S hM cw ⟨Pw_blind _ _ _ _ _ _ _, va_recv hK hPc hc hb0, fun U hU hW => ⟨rfl, by rw [hU], by rw [hU]; exact hPc, va_K.moved hW.alike hK, by rw [hU]; exact (hB.kept hS hZ).moved hW.alike, hDc.weaken (fun _ _ _ _ => trivial), fun q h => hZ q (hFc q h)⟩⟩ rfl hn hsize hst (lv_room hW) hdg hf) hS (fun q _ h => hFc q h) hFc (fun r u t H1 locs1 ht hvm hw hB hz1 hk1 hS1 => ?_)
  obtain ⟨hP1, -, -⟩ := hB
  rw [ht] at hP1
  rw [← hq] at hw
  subst hw
  rw [hw1] at hP1
  obtain ⟨h1, h2⟩ := rep_joinP hP hD isC hC hnd (ha u) (hy u) hk1 hP1
  exact kk H1 locs1 h1 h2 hS1
end CALLSQ
theorem inv_nx {pc tak put nx ct : Int32} {reg c m vo mo kp : Nat → Int32} {kd : Nat → Nat → Int32} (h : Inv pc tak put nx ct reg c m vo mo kd kp) : 0 ≤ nx.toInt ∧ nx.toInt ≤ 99 := by
  obtain ⟨_, _, _, _, _, _, _, x, n, h1, h2, _⟩ := h
  rw [h1, nI_toInt (by omega)]
  omega
theorem inv_kp {pc tak put nx ct : Int32} {reg c m vo mo kp : Nat → Int32} {kd : Nat → Nat → Int32} (h : Inv pc tak put nx ct reg c m vo mo kd kp) : ∀ x : Int32, 0 ≤ x.toInt ∧ x.toInt ≤ 99 → KpOK kp x := by
  obtain ⟨_, _, _, _, _, _, hK, _⟩ := h
  intro x hx
  have e := ti_nI hx.1
  have k := hK x.toInt.toNat (by omega)
  generalize hN : x.toInt.toNat = N at e k
  have hN2 : N < 100 := by omega
  subst e
  have e0 : (13 : Int32) * nI N = nI (13 * N) := pk_mul 13 N
  unfold KpOK
  rw [e0, show (nI (13 * N) + 8).toNatClampNeg = 13 * N + 8 from ix_add (k := 8) (by omega), show (nI (13 * N) + 10).toNatClampNeg = 13 * N + 10 from ix_add (k := 10) (by omega), show (nI (13 * N) + 11).toNatClampNeg = 13 * N + 11 from ix_add (k := 11) (by omega)]
  exact k
theorem inv_ct {pc tak put nx ct ct1 : Int32} {reg c m vo mo kp : Nat → Int32} {kd : Nat → Nat → Int32} (h : Inv pc tak put nx ct reg c m vo mo kd kp) (hc : ct1 = ct ∨ ct1 = 0) : Inv pc tak put nx ct1 reg c m vo mo kd kp := by
  rcases hc with rfl | rfl
  · exact h
  · obtain ⟨i1, i2, i3, i4, i5, i6, i7, x, n, h1, h2, _⟩ := h
    exact ⟨i1, i2, i3, i4, i5, i6, i7, x, 0, h1, h2, rfl, by omega, trivial⟩
theorem inv_poke {pc tak put nx ct ct1 : Int32} {reg c m c1 m1 vo mo kp : Nat → Int32} {kd : Nat → Nat → Int32} (h : Inv pc tak put nx ct reg c m vo mo kd kp) (hm : Rm c1 m1) (hc : (ct1 = ct ∧ c1 = c ∧ m1 = m) ∨ ct1 = 0) : Inv pc tak put nx ct1 reg c1 m1 vo mo kd kp := by
  rcases hc with ⟨rfl, rfl, rfl⟩ | rfl
  · exact h
  · obtain ⟨i1, i2, i3, i4, i5, i6, i7, x, n, h1, h2, _⟩ := h
    exact ⟨i1, i2, i3, i4, hm, i6, i7, x, 0, h1, h2, rfl, by omega, trivial⟩
theorem inv_set {pc pc1 tak put nx ct ct1 : Int32} {reg reg1 c m vo mo kp : Nat → Int32} {kd : Nat → Nat → Int32} (h : Inv pc tak put nx ct reg c m vo mo kd kp) (hr : reg1 0 = 0) (hp : pc1 &&& 1 = 0) (hc : (ct1 = ct ∧ reg1 = reg) ∨ ct1 = 0) : Inv pc1 tak put nx ct1 reg1 c m vo mo kd kp := by
  obtain ⟨i1, i2, i3, i4, i5, i6, i7, x, n, h1, h2, h3, h4, h5⟩ := h
  rcases hc with ⟨rfl, rfl⟩ | rfl
  · exact ⟨hp, i2, i3, hr, i5, i6, i7, x, n, h1, h2, h3, h4, h5⟩
  · exact ⟨hp, i2, i3, hr, i5, i6, i7, x, 0, h1, h2, rfl, by omega, trivial⟩
theorem ushr_0 (b : Int32) : j_ushr 0 b = 0 := by
  apply bx_ext
  intro i hi
  rw [bx_ushr _ rfl]
  exact BitVec.getLsbD_zero.trans BitVec.getLsbD_zero.symm
theorem rm_0 : Rm (fun _ => 0) (fun _ => 0) := fun j => by
  unfold byteAt
  rw [ushr_0]
  exact show (0 : Int32) = 0 &&& 255 by decide
theorem rk_0 : Rk (fun _ => 0) (fun _ => 0) := fun j => by
  rw [ushr_0]
  exact show (0 : Int32) = 0 &&& 1 by decide
theorem rb_0 : Rb (fun _ => 0) (fun _ => 0) := fun _ => show (0 : Int32) = 0 &&& 255 by decide
theorem rseg_0 : Rseg (fun _ => 0) (fun _ => 0) := fun _ _ => show 0 ≤ (0 : Int32).toInt ∧ 0 ≤ (0 : Int32).toInt ∧ (0 : Int32).toInt + (0 : Int32).toInt ≤ 131072 by decide
theorem rh_0 : Rh 0 (fun _ => 0) := ⟨by decide, fun j hj => absurd hj (by rw [e_0]; exact Nat.not_lt_zero _)⟩
theorem inv_0 : Inv 0 0 0 0 0 (fun _ => 0) (fun _ => 0) (fun _ => 0) (fun _ => 0) (fun _ => 0) (fun _ _ => 0) (fun _ => 0) := ⟨by decide, by decide, by decide, rfl, rm_0, rb_0, fun _ _ => ⟨show 0 ≤ (0 : Int32).toInt ∧ (0 : Int32).toInt < 32 by decide, fun _ => ⟨show 0 ≤ (0 : Int32).toInt by decide, show (0 : Int32).toInt + (0 : Int32).toInt ≤ 131072 by decide⟩⟩, 0, 0, rfl, by decide, rfl, by decide, trivial⟩
theorem step_top {on pc giv tak put st cu va sp un nx ct tg ju by_ kd_ wn wk wd wa wb wi : Int32} {reg c m vm mm vi mi vo mo kp f g r part : Nat → Int32} {kd : Nat → Nat → Int32} (hS : Rseg f g) (hk : Rk vm mm) (hi : Rb vi mi) (hg : 0 ≤ giv.toInt ∧ giv.toInt ≤ 1000) (hI : Inv pc tak put nx ct reg c m vo mo kd kp) : ∃ (ok : Int32) (reg' c' m' vo' mo' kp' part' : Nat → Int32) (kd' : Nat → Nat → Int32) (pc' st' cu' va' sp' un' put' tak' n' k' d' a' b' i' nx' ct' tg' ju' by' kk' : Int32), cF_StepMachine_step pc st cu va sp un reg wn wk wd wa wb wi on f g r vm c giv tak put vi vo nx ct kd = (ok, reg', c', pc', st', cu', va', sp', un', vo', put', tak', n', k', d', a', b', i', nx', ct', kd') ∧ mF_StepMachineModel_step on pc giv tak put st cu va sp un ct nx by_ kd_ tg ju part m mm f g r reg mi mo kp = (ok, reg', kp', mo', put', tak', va', st', cu', m', pc', tg', ju', part', by', kk', ct', nx', sp', un') ∧ Inv pc' tak' put' nx' ct' reg' c' m' vo' mo' kd' kp' := by
  by_cases hE : cF_Core_hasEnded st = 0
  · obtain ⟨reg', c', m', vo', mo', kp', part', kd', pc', st', cu', va', sp', un', put', tak', n', k', d', a', b', i', nx', ct', tg', ju', by', kk', hC, hM, hI1, _⟩ := step_alike (on := on) (pc := pc) (giv := giv) (tak := tak) (put := put) (st := st) (cu := cu) (va := va) (sp := sp) (un := un) (nx := nx) (ct := ct) (tg := tg) (ju := ju) (by_ := by_) (kd_ := kd_) (wn := wn) (wk := wk) (wd := wd) (wa := wa) (wb := wb) (wi := wi) (r := r) (part := part) hS hk hi hg hI hE
    refine ⟨st', reg', c', m', vo', mo', kp', part', kd', pc', st', cu', va', sp', un', put', tak', n', k', d', a', b', i', nx', ct', tg', ju', by', kk', ?_, hM, hI1⟩
    rw [cF_StepMachine_step, if_pos hE, hC]
    rfl
  · refine ⟨st, reg, c, m, vo, mo, kp, part, kd, pc, st, cu, va, sp, un, put, tak, wn, wk, wd, wa, wb, wi, nx, ct, tg, ju, by_, kd_, ?_, ?_, hI⟩
    · rw [cF_StepMachine_step, if_neg hE]
    · rw [mF_StepMachineModel_step, if_neg (show ¬ mF_StepMachineModel_isEnd st = 0 from hE)]
theorem in_scr {i L : Nat} (h : i < L) (hL : L ≤ 2560) : vp_in (nI i) L := vp_in_nI h (by omega)
theorem in_scr_k {i k L : Nat} (h : i + k < L) (hL : L ≤ 2560) : vp_in (nI i + nI k) L := by
  rw [nI_add]
  exact vp_in_nI h (by omega)
theorem scr_lt {i L : Nat} (hL : L ≤ 2560) (hi : i ≤ L) (h : ¬ (Int32.ofNat L - 5) < nI i) : i + 5 ≤ L := by
  have a := ob_nlt h
  have e5 : (5 : Int32).toInt = 5 := by decide
  have eL : (Int32.ofNat L).toInt = L := nI_toInt (by omega)
  rw [nI_toInt (by omega), ti_sub (by rw [eL, e5]; omega) (by rw [eL, e5]; omega), eL, e5] at a
  omega
