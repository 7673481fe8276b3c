theorem fi_L {hc : Int32} {hp : Nat → Int32} (x : Int32) : ∀ (n : Nat) (k : Int32), cF_Halts_find_L2 hc hp x n k = mF_StepMachineModel_haltAt_L2 hc hp x n k := by
  intro n
  induction n with
  | zero => intro k; rfl
  | succ n ih =>
    intro k
    rw [cF_Halts_find_L2, mF_StepMachineModel_haltAt_L2, ih]
theorem fi_alike {hc : Int32} (hh : 0 ≤ hc.toInt ∧ hc.toInt ≤ 8) (hp : Nat → Int32) (x : Int32) : cF_Halts_find hc hp x = mF_StepMachineModel_haltAt hc hp x := by
  rw [cF_Halts_find, mF_StepMachineModel_haltAt, fi_L, show hc.toNatClampNeg = (hc.toInt - (0 : Int32).toInt).toNat from by rw [e_0, Int.sub_zero]; rfl]
theorem ha_iff {hc : Int32} (hh : 0 ≤ hc.toInt ∧ hc.toInt ≤ 8) (hp : Nat → Int32) (x : Int32) : cF_Halts_has hc hp x = 0 ↔ mF_StepMachineModel_haltAt hc hp x = -1 := by
  rw [cF_Halts_has, fi_alike hh]
  by_cases h : mF_StepMachineModel_haltAt hc hp x = -1
  · rw [if_pos h]
    exact ⟨fun _ => h, fun _ => rfl⟩
  · rw [if_neg h]
    exact ⟨fun q => absurd q (by decide), fun q => absurd q h⟩
def phi (on : Int32) (vm : Nat → Int32) (pc : Int32) : Nat := if cF_Core_beginsUnit pc on vm = 0 then (if 0 ≤ pc.toInt ∧ pc.toInt < 131072 then (131072 - pc.toInt.toNat) / 2 else 0) else 0
theorem phi_le (on : Int32) (vm : Nat → Int32) (pc : Int32) : phi on vm pc ≤ 65536 := by
  unfold phi
  split
  · split <;> omega
  · omega
theorem ev_int {x : Int32} (h : x &&& 1 = 0) (h0 : 0 ≤ x.toInt) (h1 : x.toInt < 131072) : x.toInt % 2 = 0 := by
  have hn := ti_nI h0
  have e : x &&& 1 = nI (x.toInt.toNat % 2) := by
    conv => lhs; rw [hn]
    exact pk_andN (by omega) 1 (by decide)
  rw [e] at h
  have c := congrArg Int32.toInt h
  rw [nI_toInt (by omega), e_0] at c
  omega
theorem phi_step {on : Int32} {vm : Nat → Int32} {pc pc' : Int32} (h : cF_Core_beginsUnit pc on vm = 0) (he : pc &&& 1 = 0) (hr : 0 ≤ pc.toInt ∧ pc.toInt < 131072) (hm : pc' = pc + 2 ∨ pc' = pc + 4 ∨ ¬ cF_Core_beginsUnit pc' on vm = 0) : phi on vm pc' + 1 ≤ phi on vm pc := by
  have e2 := ev_int he hr.1 hr.2
  have a : phi on vm pc = (131072 - pc.toInt.toNat) / 2 := by
    unfold phi
    rw [if_pos h, if_pos hr]
  rw [a]
  have key : ∀ d : Int32, (d.toInt = 2 ∨ d.toInt = 4) → phi on vm (pc + d) + 1 ≤ (131072 - pc.toInt.toNat) / 2 := by
    intro d hd
    have e : (pc + d).toInt = pc.toInt + d.toInt := ti_add (by omega) (by omega)
    unfold phi
    split
    · split
      · rw [e]; omega
      · omega
    · omega
  rcases hm with q | q | q
  · rw [q]; exact key 2 (Or.inl (by decide))
  · rw [q]; exact key 4 (Or.inr (by decide))
  · unfold phi
    rw [if_neg q]
    omega
theorem un_inc {un un0 : Int32} {D : Nat} (h : un - un0 = nI D) : un + 1 - un0 = nI (D + 1) := by
  rw [← nI_1, ← h, Int32.sub_eq_add_neg, Int32.sub_eq_add_neg, Int32.add_assoc, Int32.add_comm 1, ← Int32.add_assoc]
set_option maxHeartbeats 1000000 in
theorem run_L {hc un0 on giv : Int32} {f g r hp vm mm vi mi : Nat → Int32} {X : Nat} (hS : Rseg f g) (hk : Rk vm mm) (hi : Rb vi mi) (hg : 0 ≤ giv.toInt ∧ giv.toInt ≤ 1000) (hh : 0 ≤ hc.toInt ∧ hc.toInt ≤ 8) (hX : X ≤ 2000) : ∀ (n k : Nat) (reg c m vo mo kp part : Nat → Int32) (kd : Nat → Nat → Int32) (pc st cu va sp un put tak wn wk wd wa wb wi nx ct tg ju by_ kd_ : Int32) (yf ym : Int32), n + k = ((X + 1) * 65537) + 1 → k ≤ ((X + 1) * 65537) → Inv pc tak put nx ct reg c m vo mo kd kp → (¬ cF_Core_hasEnded st = 0 ∨ ∃ D : Nat, un - un0 = nI D ∧ D ≤ X ∧ k + (X - D) * 65537 + phi on vm pc < ((X + 1) * 65537)) → yf = (if k = 0 then 1 else 0) → ym = (if cF_Core_hasEnded st = 0 then 1 else 0) → ∃ (NF : Nat) (R : Int32) (reg' c' m' vo' mo' kp' part' : Nat → Int32) (kd' : Nat → Nat → Int32) (pc' st' cu' va' sp' un' put' tak' n' k' d' a' b' i' nx' ct' tg' ju' by' kk' : Int32), cF_StepMachine_run_L31 hc hp un0 on f g r vm giv vi (nI X) n (nI k) reg c pc st cu va sp un vo put tak wn wk wd wa wb wi nx ct kd = (R, reg', c', pc', st', cu', va', sp', un', vo', put', tak', n', k', d', a', b', i', nx', ct', kd') ∧ mF_StepMachineModel_run_L34 on hc giv un0 mm f g r hp mi (nI X) NF yf ym reg kp mo put tak va st cu m pc tg ju part by_ kd_ ct nx sp un = some (R, reg', kp', mo', put', tak', va', st', cu', m', pc', tg', ju', part', by', kk', ct', nx', sp', un') ∧ Inv pc' tak' put' nx' ct' reg' c' m' vo' mo' kd' kp' := by
  intro n
  induction n with
  | zero => intro k reg c m vo mo kp part kd pc st cu va sp un put tak wn wk wd wa wb wi nx ct tg ju by_ kd_ yf ym h1 h2; omega
  | succ n ih =>
    intro k reg c m vo mo kp part kd pc st cu va sp un put tak wn wk wd wa wb wi nx ct tg ju by_ kd_ yf ym hnk hkB hI hD hyf hym
    have eB : (nI X + 1) * 65537 = nI ((X + 1) * 65537) := by rw [nI_1]; exact pk_mul _ 65537
    by_cases hE : cF_Core_hasEnded st = 0
    · rcases hD with h | ⟨D, hD1, hD2, hD3⟩
      · exact absurd hE h
      rw [if_pos hE] at hym
      subst hym
      have nb : ¬ ((nI X + 1) * 65537) ≤ nI k := by
        rw [eB]
        intro q
        have := (nI_leI (by omega) (by omega)).mp q
        omega
      have go : (cF_Core_beginsUnit pc on vm = 0 ∨ D < X) → ∃ (NF : Nat) (R : Int32) (reg' c' m' vo' mo' kp' part' : Nat → Int32) (kd' : Nat → Nat → Int32) (pc' st' cu' va' sp' un' put' tak' n' k' d' a' b' i' nx' ct' tg' ju' by' kk' : Int32), cF_StepMachine_run_1 (cF_StepMachine_run_L31 hc hp un0 on f g r vm giv vi (nI X) n) (nI k) (cF_Core_advance pc st cu va sp un reg wn wk wd wa wb wi on f g r vm c giv tak put vi vo nx ct kd) = (R, reg', c', pc', st', cu', va', sp', un', vo', put', tak', n', k', d', a', b', i', nx', ct', kd') ∧ mF_StepMachineModel_run_1 (mF_StepMachineModel_run_L34 on hc giv un0 mm f g r hp mi (nI X) NF) (mF_StepMachineModel_step on pc giv tak put st cu va sp un ct nx by_ kd_ tg ju part m mm f g r reg mi mo kp) = some (R, reg', kp', mo', put', tak', va', st', cu', m', pc', tg', ju', part', by', kk', ct', nx', sp', un') ∧ Inv pc' tak' put' nx' ct' reg' c' m' vo' mo' kd' kp' := by
        intro hgo
        obtain ⟨reg1, c1, m1, vo1, mo1, kp1, part1, kd1, pc1, st1, cu1, va1, sp1, un1, put1, tak1, n1, k1, d1, a1, b1, i1, nx1, ct1, tg1, ju1, by1, kk1, hC, hM, hI1, hV⟩ := step_alike (on := on) (pc := pc) (giv := giv) (tak := tak) (put := put) (st := st) (cu := cu) (va := va) (sp := sp) (un := un) (nx := nx) (ct := ct) (tg := tg) (ju := ju) (by_ := by_) (kd_ := kd_) (wn := wn) (wk := wk) (wd := wd) (wa := wa) (wb := wb) (wi := wi) (r := r) (part := part) hS hk hi hg hI hE
        have hV2 : ¬ cF_Core_hasEnded st1 = 0 ∨ ∃ D' : Nat, un1 - un0 = nI D' ∧ D' ≤ X ∧ (k + 1) + (X - D') * 65537 + phi on vm pc1 < ((X + 1) * 65537) := by
          rcases hV with h | ⟨v1, v2, v3⟩
          · exact Or.inl h
          · refine Or.inr ?_
            by_cases hU : cF_Core_beginsUnit pc on vm = 0
            · rw [if_pos hU] at v2
              have p := phi_step hU hI.1 v1 v3
              exact ⟨D, by rw [v2]; exact hD1, hD2, by omega⟩
            · rw [if_neg hU] at v2
              have hDX : D < X := by
                rcases hgo with q | q
                · exact absurd q hU
                · exact q
              have p := phi_le on vm pc1
              exact ⟨D + 1, by rw [v2]; exact un_inc hD1, hDX, by omega⟩
        obtain ⟨NF, R, reg', c', m', vo', mo', kp', part', kd', pc', st', cu', va', sp', un', put', tak', n', k', d', a', b', i', nx', ct', tg', ju', by', kk', e1, e2, hI2⟩ := ih (k + 1) reg1 c1 m1 vo1 mo1 kp1 part1 kd1 pc1 st1 cu1 va1 sp1 un1 put1 tak1 n1 k1 d1 a1 b1 i1 nx1 ct1 tg1 ju1 by1 kk1 0 (if cF_Core_hasEnded st1 = 0 then 1 else 0) (by omega) (by omega) hI1 hV2 (by rw [if_neg (Nat.succ_ne_zero k)]) rfl
        refine ⟨NF, R, reg', c', m', vo', mo', kp', part', kd', pc', st', cu', va', sp', un', put', tak', n', k', d', a', b', i', nx', ct', tg', ju', by', kk', ?_, ?_, hI2⟩
        · rw [hC]
          show (cF_StepMachine_run_L31 hc hp un0 on f g r vm giv vi (nI X) n) (nI k + 1) reg1 c1 pc1 st1 cu1 va1 sp1 un1 vo1 put1 tak1 n1 k1 d1 a1 b1 i1 nx1 ct1 kd1 = _
          rw [nI_1]
          exact e1
        · rw [hM]
          show (if mF_StepMachineModel_isEnd st1 = 0 then (mF_StepMachineModel_run_L34 on hc giv un0 mm f g r hp mi (nI X) NF) 0 1 reg1 kp1 mo1 put1 tak1 va1 st1 cu1 m1 pc1 tg1 ju1 part1 by1 kk1 ct1 nx1 sp1 un1 else (mF_StepMachineModel_run_L34 on hc giv un0 mm f g r hp mi (nI X) NF) 0 0 reg1 kp1 mo1 put1 tak1 va1 st1 cu1 m1 pc1 tg1 ju1 part1 by1 kk1 ct1 nx1 sp1 un1) = _
          by_cases hE1 : cF_Core_hasEnded st1 = 0
          · rw [if_pos hE1] at e2
            rw [if_pos (show mF_StepMachineModel_isEnd st1 = 0 from hE1)]
            exact e2
          · rw [if_neg hE1] at e2
            rw [if_neg (show ¬ mF_StepMachineModel_isEnd st1 = 0 from hE1)]
            exact e2
      have dec : ∃ (NF : Nat) (R : Int32) (reg' c' m' vo' mo' kp' part' : Nat → Int32) (kd' : Nat → Nat → Int32) (pc' st' cu' va' sp' un' put' tak' n' k' d' a' b' i' nx' ct' tg' ju' by' kk' : Int32), (if (un - un0) < nI X then cF_StepMachine_run_1 (cF_StepMachine_run_L31 hc hp un0 on f g r vm giv vi (nI X) n) (nI k) (cF_Core_advance pc st cu va sp un reg wn wk wd wa wb wi on f g r vm c giv tak put vi vo nx ct kd) else (if cF_Core_beginsUnit pc on vm = 0 then cF_StepMachine_run_1 (cF_StepMachine_run_L31 hc hp un0 on f g r vm giv vi (nI X) n) (nI k) (cF_Core_advance pc st cu va sp un reg wn wk wd wa wb wi on f g r vm c giv tak put vi vo nx ct kd) else (un - un0, reg, c, pc, st, cu, va, sp, un, vo, put, tak, wn, wk, wd, wa, wb, wi, nx, ct, kd))) = (R, reg', c', pc', st', cu', va', sp', un', vo', put', tak', n', k', d', a', b', i', nx', ct', kd') ∧ (if mF_StepMachineModel_isUnit on pc mm = 0 then mF_StepMachineModel_run_1 (mF_StepMachineModel_run_L34 on hc giv un0 mm f g r hp mi (nI X) NF) (mF_StepMachineModel_step on pc giv tak put st cu va sp un ct nx by_ kd_ tg ju part m mm f g r reg mi mo kp) else (if (un - un0) = nI X then mF_StepMachineModel_run_L34 on hc giv un0 mm f g r hp mi (nI X) NF yf 0 reg kp mo put tak va st cu m pc tg ju part by_ kd_ ct nx sp un else mF_StepMachineModel_run_1 (mF_StepMachineModel_run_L34 on hc giv un0 mm f g r hp mi (nI X) NF) (mF_StepMachineModel_step on pc giv tak put st cu va sp un ct nx by_ kd_ tg ju part m mm f g r reg mi mo kp))) = some (R, reg', kp', mo', put', tak', va', st', cu', m', pc', tg', ju', part', by', kk', ct', nx', sp', un') ∧ Inv pc' tak' put' nx' ct' reg' c' m' vo' mo' kd' kp' := by
        rw [hD1, ← un_alike hk]
        have hlt : nI D < nI X ↔ D < X := nI_ltI (by omega) (by omega)
        have heq : nI D = nI X ↔ D = X := nI_eq (by omega) (by omega)
        by_cases hU : cF_Core_beginsUnit pc on vm = 0
        · obtain ⟨NF, R, reg', c', m', vo', mo', kp', part', kd', pc', st', cu', va', sp', un', put', tak', n', k', d', a', b', i', nx', ct', tg', ju', by', kk', e1, e2, hI2⟩ := go (Or.inl hU)
          refine ⟨NF, R, reg', c', m', vo', mo', kp', part', kd', pc', st', cu', va', sp', un', put', tak', n', k', d', a', b', i', nx', ct', tg', ju', by', kk', ?_, ?_, hI2⟩
          · rw [if_pos hU, e1]
            by_cases hq : nI D < nI X
            · rw [if_pos hq]
            · rw [if_neg hq]
          · rw [if_pos hU]
            exact e2
        · by_cases hq : D < X
          · obtain ⟨NF, R, reg', c', m', vo', mo', kp', part', kd', pc', st', cu', va', sp', un', put', tak', n', k', d', a', b', i', nx', ct', tg', ju', by', kk', e1, e2, hI2⟩ := go (Or.inr hq)
            refine ⟨NF, R, reg', c', m', vo', mo', kp', part', kd', pc', st', cu', va', sp', un', put', tak', n', k', d', a', b', i', nx', ct', tg', ju', by', kk', ?_, ?_, hI2⟩
            · rw [if_pos (hlt.mpr hq)]
              exact e1
            · rw [if_neg hU, if_neg (fun w => by have := heq.mp w; omega)]
              exact e2
          · refine ⟨1, un - un0, reg, c, m, vo, mo, kp, part, kd, pc, st, cu, va, sp, un, put, tak, wn, wk, wd, wa, wb, wi, nx, ct, tg, ju, by_, kd_, ?_, ?_, hI⟩
            · rw [if_neg (fun w => hq (hlt.mp w)), if_neg hU, hD1]
            · rw [if_neg hU, if_pos (heq.mpr (by omega)), mF_StepMachineModel_run_L34, if_pos rfl]
      rw [cF_StepMachine_run_L31, if_neg nb, if_pos hE]
      by_cases hk0 : k = 0
      · obtain ⟨NF, R, reg', c', m', vo', mo', kp', part', kd', pc', st', cu', va', sp', un', put', tak', n', k', d', a', b', i', nx', ct', tg', ju', by', kk', e1, e2, hI2⟩ := dec
        refine ⟨NF + 1, R, reg', c', m', vo', mo', kp', part', kd', pc', st', cu', va', sp', un', put', tak', n', k', d', a', b', i', nx', ct', tg', ju', by', kk', ?_, ?_, hI2⟩
        · rw [if_pos (show nI k ≤ 0 by rw [hk0]; decide)]
          exact e1
        · rw [mF_StepMachineModel_run_L34, if_neg (show ¬ (1 : Int32) = 0 by decide), if_neg (show ¬ yf = 0 by rw [hyf, if_pos hk0]; decide)]
          exact e2
      · have nk : ¬ nI k ≤ 0 := fun q => hk0 (by have := (nI_leI (b := 0) (by omega) (by decide)).mp q; omega)
        rw [if_neg nk]
        have hyf0 : yf = 0 := by rw [hyf, if_neg hk0]
        by_cases hH : cF_Halts_has hc hp pc = 0
        · obtain ⟨NF, R, reg', c', m', vo', mo', kp', part', kd', pc', st', cu', va', sp', un', put', tak', n', k', d', a', b', i', nx', ct', tg', ju', by', kk', e1, e2, hI2⟩ := dec
          refine ⟨NF + 1, R, reg', c', m', vo', mo', kp', part', kd', pc', st', cu', va', sp', un', put', tak', n', k', d', a', b', i', nx', ct', tg', ju', by', kk', ?_, ?_, hI2⟩
          · rw [if_pos hH]
            exact e1
          · rw [mF_StepMachineModel_run_L34, if_neg (show ¬ (1 : Int32) = 0 by decide), if_pos hyf0, if_pos ((ha_iff hh hp pc).mp hH)]
            exact e2
        · refine ⟨2, un - un0, reg, c, m, vo, mo, kp, part, kd, pc, 9, pc, va, sp, un, put, tak, wn, wk, wd, wa, wb, wi, nx, ct, tg, ju, by_, kd_, ?_, ?_, hI⟩
          · rw [if_neg hH]
            rfl
          · rw [mF_StepMachineModel_run_L34, if_neg (show ¬ (1 : Int32) = 0 by decide), if_pos hyf0, if_neg (fun q => hH ((ha_iff hh hp pc).mpr q))]
            show mF_StepMachineModel_run_L34 on hc giv un0 mm f g r hp mi (nI X) 1 yf 0 reg kp mo put tak va 9 pc m pc tg ju part by_ kd_ ct nx sp un = _
            rw [mF_StepMachineModel_run_L34, if_pos rfl]
    · rw [if_neg hE] at hym
      subst hym
      refine ⟨1, un - un0, reg, c, m, vo, mo, kp, part, kd, pc, st, cu, va, sp, un, put, tak, wn, wk, wd, wa, wb, wi, nx, ct, tg, ju, by_, kd_, ?_, ?_, hI⟩
      · rw [cF_StepMachine_run_L31]
        by_cases hb : ((nI X + 1) * 65537) ≤ nI k
        · rw [if_pos hb]
        · rw [if_neg hb, if_neg hE]
      · rw [mF_StepMachineModel_run_L34, if_pos rfl]
theorem l34b_eq (on hc giv un0 : Int32) (mm f g r hp mi : Nat → Int32) (x0 : Int32) : ∀ n : Nat, mF_StepMachineModel_run_L34b on hc giv un0 mm f g r hp mi x0 n = mF_StepMachineModel_run_L34 on hc giv un0 mm f g r hp mi x0 n := by
  intro n
  induction n with
  | zero => rfl
  | succ n ih =>
    funext yf ym reg kp mo put tak va st cu m pc tg ju part by_ kd_ ct nx sp un
    rw [mF_StepMachineModel_run_L34b, mF_StepMachineModel_run_L34, ih]
    rfl
theorem run_alike {hc on giv x0 : Int32} {f g r hp vm mm vi mi : Nat → Int32} (reg c m vo mo kp part : Nat → Int32) (kd : Nat → Nat → Int32) (pc st cu va sp un put tak wn wk wd wa wb wi nx ct tg ju by_ kd_ : Int32) (hS : Rseg f g) (hk : Rk vm mm) (hi : Rb vi mi) (hg : 0 ≤ giv.toInt ∧ giv.toInt ≤ 1000) (hh : 0 ≤ hc.toInt ∧ hc.toInt ≤ 8) (hI : Inv pc tak put nx ct reg c m vo mo kd kp) : ∃ (NF : Nat) (R : Int32) (reg' c' m' vo' mo' kp' part' : Nat → Int32) (kd' : Nat → Nat → Int32) (pc' st' cu' va' sp' un' put' tak' n' k' d' a' b' i' nx' ct' tg' ju' by' kk' : Int32), cF_StepMachine_run hc hp pc st cu va sp un reg wn wk wd wa wb wi on f g r vm c giv tak put vi vo nx ct kd x0 = (R, reg', c', pc', st', cu', va', sp', un', vo', put', tak', n', k', d', a', b', i', nx', ct', kd') ∧ mF_StepMachineModel_run NF on hc pc giv tak put st cu va sp un ct nx by_ kd_ tg ju part m mm f g r hp reg mi mo kp x0 = some (R, reg', kp', mo', put', tak', va', st', cu', m', pc', tg', ju', part', by', kk', ct', nx', sp', un') ∧ Inv pc' tak' put' nx' ct' reg' c' m' vo' mo' kd' kp' := by
  by_cases h0 : x0 < 0
  · refine ⟨0, -1, reg, c, m, vo, mo, kp, part, kd, pc, st, cu, va, sp, un, put, tak, wn, wk, wd, wa, wb, wi, nx, ct, tg, ju, by_, kd_, ?_, ?_, hI⟩
    · rw [cF_StepMachine_run, if_pos h0]
    · rw [mF_StepMachineModel_run, if_pos h0]
  · by_cases h1 : x0 ≤ 2000
    · have a0 := ob_nlt h0
      rw [e_0] at a0
      have a1 := ti_le h1
      rw [e_2000] at a1
      have hx := ti_nI a0
      generalize hXX : x0.toInt.toNat = X at hx
      have hX : X ≤ 2000 := by omega
      subst hx
      have fu : ((nI X + 1) * 65537).toNatClampNeg + 1 = ((X + 1) * 65537) + 1 := by
        rw [nI_1, show nI (X + 1) * 65537 = nI ((X + 1) * 65537) from pk_mul _ 65537, nI_clamp (by omega)]
      obtain ⟨NF, R, reg', c', m', vo', mo', kp', part', kd', pc', st', cu', va', sp', un', put', tak', n', k', d', a', b', i', nx', ct', tg', ju', by', kk', e1, e2, hI2⟩ := run_L (hc := hc) (un0 := un) (on := on) (r := r) (hp := hp) hS hk hi hg hh hX (((X + 1) * 65537) + 1) 0 reg c m vo mo kp part kd pc st cu va sp un put tak wn wk wd wa wb wi nx ct tg ju by_ kd_ 1 (if cF_Core_hasEnded st = 0 then 1 else 0) rfl (by omega) hI (by
        by_cases hE : cF_Core_hasEnded st = 0
        · exact Or.inr ⟨0, Int32.sub_self un, by omega, by have := phi_le on vm pc; omega⟩
        · exact Or.inl hE) rfl rfl
      refine ⟨NF, R, reg', c', m', vo', mo', kp', part', kd', pc', st', cu', va', sp', un', put', tak', n', k', d', a', b', i', nx', ct', tg', ju', by', kk', ?_, ?_, hI2⟩
      · rw [cF_StepMachine_run, if_neg h0, if_pos h1, fu]
        exact e1
      · rw [mF_StepMachineModel_run, if_neg h0, if_pos h1]
        by_cases hE : cF_Core_hasEnded st = 0
        · rw [if_pos hE] at e2
          rw [if_pos (show mF_StepMachineModel_isEnd st = 0 from hE), l34b_eq]
          exact e2
        · rw [if_neg hE] at e2
          rw [if_neg (show ¬ mF_StepMachineModel_isEnd st = 0 from hE)]
          exact e2
    · refine ⟨0, -1, reg, c, m, vo, mo, kp, part, kd, pc, st, cu, va, sp, un, put, tak, wn, wk, wd, wa, wb, wi, nx, ct, tg, ju, by_, kd_, ?_, ?_, hI⟩
      · rw [cF_StepMachine_run, if_neg h0, if_neg h1]
      · rw [mF_StepMachineModel_run, if_neg h0, if_neg h1]
theorem lat_y {x : Nat} (hx : x < 100) : mF_StepMachineModel_latest (nI x) = nI (13 * ((x + 99) % 100)) := by
  rw [mF_StepMachineModel_latest, show nI x + 100 = nI (x + 100) from nI_add _ 100, show nI (x + 100) - 1 = nI (x + 99) from pk_sub (b := 1) (by omega), show nI (x + 99) - nI (x + 99) / 100 * 100 = nI ((x + 99) % 100) from pk_rem (d := 100) (by omega) (by decide) (by decide)]
  exact pk_mul 13 _
theorem kn_y {x : Nat} (hx : x < 100) : ((nI x + 100) - 1) - ((nI x + 100) - 1) / 100 * 100 = nI ((x + 99) % 100) := by
  rw [show nI x + 100 = nI (x + 100) from nI_add _ 100, show nI (x + 100) - 1 = nI (x + 99) from pk_sub (b := 1) (by omega)]
  exact pk_rem (d := 100) (by omega) (by decide) (by decide)
theorem tl_y {x : Nat} (hx : x < 100) : cF_Trail_takeLatest_nx (nI x) = nI ((x + 99) % 100) := (pl_all x hx).2.2
theorem tl1_y {x q : Nat} (hx : x < 100) (hq : 1 ≤ q) : cF_Trail_takeLatest1 (nI x) (nI q) = (nI ((x + 99) % 100), nI (q - 1)) := by
  rw [cF_Trail_takeLatest1, show nI q - 1 = nI (q - 1) from pk_sub (b := 1) hq, (pl_all x hx).2.2]
set_option maxHeartbeats 1000000 in
theorem back_L {vo mo kp : Nat → Int32} {kd : Nat → Nat → Int32} {X : Nat} (hX : X < 2147483648) (ho : Rb vo mo) (hK : KpA kp) : ∀ (n k x q : Nat) (reg c m : Nat → Int32) (pc st cu va sp un put tak : Int32), n + k = X + 1 → q + k ≤ 100 → x < 100 → Hs kd kp q x reg c m → pc &&& 1 = 0 → 0 ≤ tak.toInt → (0 ≤ put.toInt ∧ put.toInt ≤ 2000) → reg 0 = 0 → Rm c m → ∃ (k' pc' st' cu' va' sp' un' put' tak' nx' ct' : Int32) (reg' c' m' : Nat → Int32), cF_StepMachine_back_L2 kd (nI X) n (nI k) pc st cu va sp un put tak reg c (nI x) (nI q) = (k', pc', st', cu', va', sp', un', put', tak', reg', c', nx', ct') ∧ mF_StepMachineModel_back_L2 kp (nI X) n (nI k) pc st cu va sp un put tak reg m (nI x) (nI q) = (k', pc', st', cu', va', sp', un', put', tak', reg', m', nx', ct') ∧ Inv pc' tak' put' nx' ct' reg' c' m' vo mo kd kp := by
  intro n
  induction n with
  | zero =>
    intro k x q reg c m pc st cu va sp un put tak h1 h2 h3 h4 h5 h6 h7 h8 h9
    exact ⟨0, pc, st, cu, va, sp, un, put, tak, nI x, nI q, reg, c, m, rfl, rfl, h5, h6, h7, h8, h9, ho, hK, x, q, rfl, h3, rfl, by omega, h4⟩
  | succ n ih =>
    intro k x q reg c m pc st cu va sp un put tak h1 h2 h3 h4 h5 h6 h7 h8 h9
    have hI : Inv pc tak put (nI x) (nI q) reg c m vo mo kd kp := ⟨h5, h6, h7, h8, h9, ho, hK, x, q, rfl, h3, rfl, by omega, h4⟩
    rw [cF_StepMachine_back_L2, mF_StepMachineModel_back_L2]
    by_cases hx : nI X ≤ nI k
    · rw [if_pos hx, if_pos hx]
      exact ⟨nI k, pc, st, cu, va, sp, un, put, tak, nI x, nI q, reg, c, m, rfl, rfl, hI⟩
    · rw [if_neg hx, if_neg hx]
      by_cases hq : q = 0
      · subst hq
        rw [if_pos (show nI 0 ≤ 0 by decide), if_pos (show nI 0 = 0 from rfl)]
        refine ⟨nI k, pc, st, cu, va, sp, un, put, tak, nI x, nI 0, reg, c, m, ?_, rfl, hI⟩
        split <;> rfl
      · have hk : k < 100 := by omega
        have n100 : ¬ (100 : Int32) ≤ nI k := fun w => by have := (nI_leI (a := 100) (by decide) (by omega)).mp w; omega
        have nq0 : ¬ nI q = 0 := fun w => hq ((nI_eq (b := 0) (by omega) (by decide)).mp w)
        have nqle : ¬ nI q ≤ 0 := fun w => hq (by have := (nI_leI (b := 0) (by omega) (by decide)).mp w; omega)
        rw [if_neg n100, if_neg nq0, if_neg nqle, tl1_y h3 (by omega)]
        obtain ⟨q', rfl⟩ : ∃ q', q = q' + 1 := ⟨q - 1, by omega⟩
        obtain ⟨r1, c1, m1, g1, g2, g3, g4, g5, g6, g7, g8, g9⟩ := h4
        obtain ⟨u1, u2, u3, u4⟩ := g8
        have hy : ((x + 99) % 100) < 100 := Nat.mod_lt _ (by decide)
        have hL := lat_y h3
        have x0' : (mF_StepMachineModel_latest (nI x)).toNatClampNeg = 13 * ((x + 99) % 100) := by rw [hL, nI_clamp (by omega)]
        have x1 : (mF_StepMachineModel_latest (nI x) + 1).toNatClampNeg = 13 * ((x + 99) % 100) + 1 := lx (i := 1) hL (by omega)
        have x2 : (mF_StepMachineModel_latest (nI x) + 2).toNatClampNeg = 13 * ((x + 99) % 100) + 2 := lx (i := 2) hL (by omega)
        have x3 : (mF_StepMachineModel_latest (nI x) + 3).toNatClampNeg = 13 * ((x + 99) % 100) + 3 := lx (i := 3) hL (by omega)
        have x4 : (mF_StepMachineModel_latest (nI x) + 4).toNatClampNeg = 13 * ((x + 99) % 100) + 4 := lx (i := 4) hL (by omega)
        have x5 : (mF_StepMachineModel_latest (nI x) + 5).toNatClampNeg = 13 * ((x + 99) % 100) + 5 := lx (i := 5) hL (by omega)
        have x6 : (mF_StepMachineModel_latest (nI x) + 6).toNatClampNeg = 13 * ((x + 99) % 100) + 6 := lx (i := 6) hL (by omega)
        have x7 : (mF_StepMachineModel_latest (nI x) + 7).toNatClampNeg = 13 * ((x + 99) % 100) + 7 := lx (i := 7) hL (by omega)
        have x8 : (mF_StepMachineModel_latest (nI x) + 8).toNatClampNeg = 13 * ((x + 99) % 100) + 8 := lx (i := 8) hL (by omega)
        have x9 : (mF_StepMachineModel_latest (nI x) + 9).toNatClampNeg = 13 * ((x + 99) % 100) + 9 := lx (i := 9) hL (by omega)
        have x10 : (mF_StepMachineModel_latest (nI x) + 10).toNatClampNeg = 13 * ((x + 99) % 100) + 10 := lx (i := 10) hL (by omega)
        have x11 : (mF_StepMachineModel_latest (nI x) + 11).toNatClampNeg = 13 * ((x + 99) % 100) + 11 := lx (i := 11) hL (by omega)
        have x12 : (mF_StepMachineModel_latest (nI x) + 12).toNatClampNeg = 13 * ((x + 99) % 100) + 12 := lx (i := 12) hL (by omega)
        rw [cF_StepMachine_back_1, tl_y h3, nI_clamp (show ((x + 99) % 100) < 2 ^ 31 by omega)]
        have eu : cF_Core_undo reg c (kd ((x + 99) % 100) 0) (kd ((x + 99) % 100) 1) (kd ((x + 99) % 100) 2) (kd ((x + 99) % 100) 3) (kd ((x + 99) % 100) 4) (kd ((x + 99) % 100) 5) (kd ((x + 99) % 100) 6) (kd ((x + 99) % 100) 7) (kd ((x + 99) % 100) 8) (kd ((x + 99) % 100) 9) (kd ((x + 99) % 100) 10) (kd ((x + 99) % 100) 11) = (kd ((x + 99) % 100) 0, kd ((x + 99) % 100) 1, kd ((x + 99) % 100) 2, kd ((x + 99) % 100) 3, kd ((x + 99) % 100) 4, kd ((x + 99) % 100) 5, kd ((x + 99) % 100) 6, kd ((x + 99) % 100) 7, r1, c1) := by
          rw [cF_Core_undo, cF_Core_undo_1, cF_Core_undo_2, cF_Core_undo_3, g7.1, g7.2]
          rfl
        rw [eu, cF_StepMachine_back_2]
        obtain ⟨k', pc', st', cu', va', sp', un', put', tak', nx', ct', reg', c', m', e1, e2, hI2⟩ := ih (k + 1) ((x + 99) % 100) q' r1 c1 m1 (kd ((x + 99) % 100) 0) (kd ((x + 99) % 100) 1) (kd ((x + 99) % 100) 2) (kd ((x + 99) % 100) 3) (kd ((x + 99) % 100) 4) (kd ((x + 99) % 100) 5) (kd ((x + 99) % 100) 6) (kd ((x + 99) % 100) 7) (by omega) (by omega) hy g9 g2 g3 g4 g5 g6
        refine ⟨k', pc', st', cu', va', sp', un', put', tak', nx', ct', reg', c', m', ?_, ?_, hI2⟩
        · rw [nI_1]
          exact e1
        · have hb : mF_StepMachineModel_back_L2 kp (nI X) n (nI k + 1) (kp (13 * ((x + 99) % 100))) (kp (13 * ((x + 99) % 100) + 1)) (kp (13 * ((x + 99) % 100) + 2)) (kp (13 * ((x + 99) % 100) + 3)) (kp (13 * ((x + 99) % 100) + 4)) (kp (13 * ((x + 99) % 100) + 5)) (kp (13 * ((x + 99) % 100) + 6)) (kp (13 * ((x + 99) % 100) + 7)) r1 m1 (nI ((x + 99) % 100)) (nI (q' + 1) - 1) = (k', pc', st', cu', va', sp', un', put', tak', reg', m', nx', ct') := by
            rw [nI_1, show nI (q' + 1) - 1 = nI q' from pk_sub (b := 1) (by omega), ← g1 1 (by decide), ← g1 2 (by decide), ← g1 3 (by decide), ← g1 4 (by decide), ← g1 5 (by decide), ← g1 6 (by decide), ← g1 7 (by decide), show kp (13 * ((x + 99) % 100)) = kd ((x + 99) % 100) 0 from (g1 0 (by decide)).symm]
            exact e2
          have um := u4 (nI x) hL
          rw [x8, x11]
          by_cases h0 : kp (13 * ((x + 99) % 100) + 8) ≤ 0
          · rw [if_pos h0] at u3 ⊢
            rw [mF_StepMachineModel_back_1, um, u3, x0', x1, x2, x3, x4, x5, x6, x7, kn_y h3]
            exact hb
          · rw [if_neg h0] at u3 ⊢
            rw [mF_StepMachineModel_back_2, l153b_eq, um, x8, x9, u3, x0', x1, x2, x3, x4, x5, x6, x7, kn_y h3]
            exact hb
theorem back_alike {vo mo kp reg c m : Nat → Int32} {kd : Nat → Nat → Int32} {pc st cu va sp un put tak nx ct x0 : Int32} (hI : Inv pc tak put nx ct reg c m vo mo kd kp) : ∃ (k' pc' st' cu' va' sp' un' put' tak' nx' ct' : Int32) (reg' c' m' : Nat → Int32), cF_StepMachine_back pc st cu va sp un reg c tak put nx ct kd x0 = (k', pc', st', cu', va', sp', un', put', tak', reg', c', nx', ct') ∧ mF_StepMachineModel_back pc tak put st cu va sp un ct nx m reg kp x0 = (k', pc', st', cu', va', sp', un', put', tak', reg', m', nx', ct') ∧ Inv pc' tak' put' nx' ct' reg' c' m' vo mo kd kp := by
  rw [cF_StepMachine_back, mF_StepMachineModel_back]
  by_cases h : x0 < 0
  · have h0 : x0 ≤ 0 := Int32.le_iff_toInt_le.mpr (by have := ti_lt h; omega)
    rw [cF_StepMachine_back_L2, mF_StepMachineModel_back_L2, if_pos h0, if_pos h0]
    exact ⟨0, pc, st, cu, va, sp, un, put, tak, nx, ct, reg, c, m, rfl, rfl, hI⟩
  · have a := ob_nlt h
    rw [e_0] at a
    obtain ⟨i1, i2, i3, i4, i5, i6, i7, x, q, i8, i9, i10, i11, i12⟩ := hI
    have hx := ti_nI a
    have hlt := Int32.toInt_lt x0
    generalize hX : x0.toInt.toNat = X at hx
    subst hx i8 i10
    have f1 : (nI X).toNatClampNeg + 1 = X + 1 := by rw [nI_clamp (by omega)]
    have f2 : ((nI X).toInt - (0 : Int32).toInt).toNat + 1 = X + 1 := by rw [nI_toInt (by omega), e_0]; omega
    rw [f1, f2]
    exact back_L (by omega) i6 i7 (X + 1) 0 x q reg c m pc st cu va sp un put tak rfl (by omega) i9 i12 i1 i2 i3 i4 i5
