theorem ev_b0 {x : Int32} (h : x.toBitVec.getLsbD 0 = false) : x &&& 1 = 0 := by
  rw [ev_iff]
  have e : x.toBitVec.getLsbD 0 = x.toBitVec.toNat.testBit 0 := rfl
  rw [e, Nat.testBit_zero] at h
  have := of_decide_eq_false h
  omega
theorem sp_ev : ∀ k, k < 10 → (k = 2 ∨ 4 ≤ k) → SP k 3 0 = 99 := by decide +kernel
theorem fg_all {w : Int32} (part : Nat → Int32) (h1 : ¬ (mF_StepMachineModel_find part w).1 = -1) (h2 : (mF_StepMachineModel_find part w).1 < 48) : (0 ≤ (mF_StepMachineModel_find part w).1.toInt ∧ (mF_StepMachineModel_find part w).1.toInt < 48) ∧ (((mF_StepMachineModel_find part w).1 = 2 ∨ (4 ≤ (mF_StepMachineModel_find part w).1.toInt ∧ (mF_StepMachineModel_find part w).1.toInt < 10)) → (mF_StepMachineModel_find part w).2 3 &&& 1 = 0) := by
  have key : ∃ k P, k < 48 ∧ mF_StepMachineModel_find part w = (nI k, P) ∧ FT k w P := by
    by_cases hl : mF_StepMachineModel_isLong w = 0
    · rcases find_short hl part with ⟨k, P, a, b, e, f⟩ | ⟨e, _⟩
      · exfalso
        rw [e] at h2
        have c := ti_lt h2
        rw [show ((nI k, P) : Int32 × (Nat → Int32)).1 = nI k from rfl, nI_toInt (by omega), e_48] at c
        omega
      · exact absurd e h1
    · rcases find_long hl part with q | ⟨e, _⟩
      · exact q
      · exact absurd e h1
  obtain ⟨k, P, hk, e, f⟩ := key
  rw [e]
  show (0 ≤ (nI k).toInt ∧ (nI k).toInt < 48) ∧ ((nI k = 2 ∨ (4 ≤ (nI k).toInt ∧ (nI k).toInt < 10)) → P 3 &&& 1 = 0)
  rw [nI_toInt (by omega)]
  refine ⟨⟨by omega, by omega⟩, fun q => ev_b0 ?_⟩
  have hs := f.2.1 3 (by decide) 0 (by decide)
  have hk2 : k < 10 ∧ (k = 2 ∨ 4 ≤ k) := by
    rcases q with q | q
    · have c := congrArg Int32.toInt q
      rw [nI_toInt (by omega), e_2] at c
      omega
    · omega
  rw [hs, sp_ev k hk2.1 hk2.2]
  exact gb_99 w
theorem fg_two {w : Int32} (part : Nat → Int32) (h1 : ¬ (mF_StepMachineModel_find part w).1 = -1) (h2 : ¬ (mF_StepMachineModel_find part w).1 < 48) : ¬ (mF_StepMachineModel_find (mF_StepMachineModel_stretch (mF_StepMachineModel_find part w).2 (mF_StepMachineModel_find part w).1).2 (mF_StepMachineModel_stretch (mF_StepMachineModel_find part w).2 (mF_StepMachineModel_find part w).1).1).1 = -1 ∧ (mF_StepMachineModel_find (mF_StepMachineModel_stretch (mF_StepMachineModel_find part w).2 (mF_StepMachineModel_find part w).1).2 (mF_StepMachineModel_stretch (mF_StepMachineModel_find part w).2 (mF_StepMachineModel_find part w).1).1).1 < 48 := by
  by_cases hl : mF_StepMachineModel_isLong w = 0
  · rcases find_short hl part with ⟨k, P, a, b, e, f⟩ | ⟨e, _⟩
    · obtain ⟨l, Q, R, e1, e2, _⟩ := sr_all a b f
      rw [e]
      show ¬ (mF_StepMachineModel_find (mF_StepMachineModel_stretch P (nI k)).2 (mF_StepMachineModel_stretch P (nI k)).1).1 = -1 ∧ (mF_StepMachineModel_find (mF_StepMachineModel_stretch P (nI k)).2 (mF_StepMachineModel_stretch P (nI k)).1).1 < 48
      rw [e1]
      show ¬ (mF_StepMachineModel_find Q l).1 = -1 ∧ (mF_StepMachineModel_find Q l).1 < 48
      rw [e2]
      exact ⟨nI_nm1 (by have := KN_lt k; omega), nI_lt48 (KN_lt k)⟩
    · exact absurd e h1
  · rcases find_long hl part with ⟨k, P, a, e, f⟩ | ⟨e, _⟩
    · exact absurd (by rw [e]; exact nI_lt48 a) h2
    · exact absurd e h1
def okG (q : Int32 × (Nat → Int32) × Int32 × Int32 × Int32 × Int32) : Prop := ¬ q.1 = 0 → (0 ≤ q.2.2.2.2.2.toInt ∧ q.2.2.2.2.2.toInt < 48) ∧ ((q.2.2.2.2.2 = 2 ∨ (4 ≤ q.2.2.2.2.2.toInt ∧ q.2.2.2.2.2.toInt < 10)) → q.2.1 3 &&& 1 = 0)
theorem isG1_ok (part : Nat → Int32) (w pc st cu : Int32) : okG (mF_StepMachineModel_isFetched_1 pc st cu (mF_StepMachineModel_find part w)) := by
  rw [mF_StepMachineModel_isFetched_1]
  refine ite_h (P := okG) (fun c1 => ?_) (fun c1 => ?_)
  · exact fun h => (h rfl).elim
  · refine ite_h (P := okG) (fun c2 => ?_) (fun c2 => ?_)
    · exact fun _ => fg_all part c1 c2
    · exact fun _ => fg_all _ (fg_two part c1 c2).1 (fg_two part c1 c2).2
theorem isG5_ok (part : Nat → Int32) (w pc st cu : Int32) : okG (mF_StepMachineModel_isFetched_5 pc st cu (mF_StepMachineModel_find part w)) := by
  rw [mF_StepMachineModel_isFetched_5]
  refine ite_h (P := okG) (fun c1 => ?_) (fun c1 => ?_)
  · exact fun h => (h rfl).elim
  · refine ite_h (P := okG) (fun c2 => ?_) (fun c2 => ?_)
    · exact fun _ => fg_all part c1 c2
    · exact fun _ => fg_all _ (fg_two part c1 c2).1 (fg_two part c1 c2).2
theorem isG_ok (m_pc m_st m_cu m_by m_kd : Int32) (m_part m_mem m_sf m_ss m_sr : Nat → Int32) : okG (mF_StepMachineModel_isFetched m_pc m_st m_cu m_by m_kd m_part m_mem m_sf m_ss m_sr) := by
  rw [mF_StepMachineModel_isFetched]
  refine ite_h (P := okG) (fun c1 => ?_) (fun c1 => ?_)
  · refine ite_h (P := okG) (fun c2 => ?_) (fun c2 => ?_)
    · exact isG1_ok _ _ _ _ _
    · refine ite_h (P := okG) (fun c3 => ?_) (fun c3 => ?_)
      · exact isG5_ok _ _ _ _ _
      · exact fun h => (h rfl).elim
  · exact fun h => (h rfl).elim
/-- what is fetched is alike -/
def FE (st cu : Int32) (F : Int32 × Int32 × Int32 × Int32 × Int32 × Int32 × Int32 × Int32 × Int32) (G : Int32 × (Nat → Int32) × Int32 × Int32 × Int32 × Int32) : Prop := (F.1 = 0 ∧ G.1 = 0 ∧ F.2.1 = G.2.2.1 ∧ F.2.2.1 = G.2.2.2.1 ∧ ¬ cF_Core_hasEnded F.2.1 = 0) ∨ (¬ F.1 = 0 ∧ ¬ G.1 = 0 ∧ F.2.1 = st ∧ F.2.2.1 = cu ∧ G.2.2.1 = st ∧ G.2.2.2.1 = cu ∧ F.2.2.2.1 = G.2.2.2.2.1 ∧ (F.2.2.2.1 = 2 ∨ F.2.2.2.1 = 4) ∧ F.2.2.2.2.1 = G.2.2.2.2.2 ∧ F.2.2.2.2.2.1 = G.2.1 0 ∧ F.2.2.2.2.2.2.1 = G.2.1 1 ∧ F.2.2.2.2.2.2.2.1 = G.2.1 2 ∧ F.2.2.2.2.2.2.2.2 = G.2.1 3)
theorem long_lo (x y : Int32) : mF_StepMachineModel_isLong (x ||| (y <<< ((16 : Int32) &&& 31))) = mF_StepMachineModel_isLong x := by
  have e : (x ||| (y <<< ((16 : Int32) &&& 31))) &&& 3 = x &&& 3 := by
    apply bx_ext
    intro i hi
    rw [bx_and, bx_and, bx_or, bx_shl (b := (16 : Int32) &&& 31) 16 (by decide) hi]
    by_cases h : i < 16
    · simp [h]
    · rw [(by decide +kernel : ∀ i, i < 32 → ¬ i < 16 → (3 : Int32).toBitVec.getLsbD i = false) i hi h, Bool.and_false, Bool.and_false]
  rw [mF_StepMachineModel_isLong, mF_StepMachineModel_isLong, e]
theorem fe_short {w pc st cu wn wk wd wa wb wi : Int32} (part : Nat → Int32) (hw : HiZ w) (hl : mF_StepMachineModel_isLong w = 0) (q5 : Int32 × Int32 × Int32) (h5 : q5.2 = (st, cu)) : FE st cu (cF_Core_fetch_5 pc q5 (cF_ShortForm_read w)) (mF_StepMachineModel_isFetched_1 pc st cu (mF_StepMachineModel_find part w)) := by
  rw [cF_Core_fetch_5, mF_StepMachineModel_isFetched_1]
  rcases dec_short hw hl part with ⟨a, b⟩ | ⟨a, b, c, l, Q, R, e1, e2, r0, r1, r2, r3⟩
  · rw [if_pos b, if_pos a]
    exact Or.inl ⟨rfl, rfl, rfl, rfl, show ¬ cF_Core_hasEnded 2 = 0 by decide⟩
  · rw [if_neg c, if_neg a, if_neg b, e1]
    refine Or.inr ⟨show ¬ (1 : Int32) = 0 by decide, show ¬ (1 : Int32) = 0 by decide, ?_, ?_, rfl, rfl, ?_, Or.inl (rs_b2 w), ?_, ?_, ?_, ?_, ?_⟩
    · show q5.2.1 = st
      rw [h5]
    · show q5.2.2 = cu
      rw [h5]
    · exact rs_b2 w
    · show (cF_ShortForm_read w).2.1 = (mF_StepMachineModel_find Q l).1
      rw [e2]
    · show (cF_ShortForm_read w).2.2.1 = (mF_StepMachineModel_find Q l).2 0
      rw [e2]; exact r0.symm
    · show (cF_ShortForm_read w).2.2.2.1 = (mF_StepMachineModel_find Q l).2 1
      rw [e2]; exact r1.symm
    · show (cF_ShortForm_read w).2.2.2.2.1 = (mF_StepMachineModel_find Q l).2 2
      rw [e2]; exact r2.symm
    · show (cF_ShortForm_read w).2.2.2.2.2 = (mF_StepMachineModel_find Q l).2 3
      rw [e2]; exact r3.symm
theorem fe_long {w pc st cu : Int32} (part : Nat → Int32) (hl : ¬ mF_StepMachineModel_isLong w = 0) (q51 : Int32 × Int32 × Int32) (h5 : q51.2 = (st, cu)) : FE st cu (cF_Core_fetch_3 pc q51 (cF_LongForm_read w)) (mF_StepMachineModel_isFetched_5 pc st cu (mF_StepMachineModel_find part w)) := by
  rw [cF_Core_fetch_3, mF_StepMachineModel_isFetched_5]
  obtain ⟨a, b, c⟩ := dec_long hl part
  by_cases h : (cF_LongForm_read w).2.1 = -1
  · rw [if_pos h, if_pos (a.trans h)]
    exact Or.inl ⟨rfl, rfl, rfl, rfl, show ¬ cF_Core_hasEnded 2 = 0 by decide⟩
  · have h48 : (mF_StepMachineModel_find part w).1 < 48 := by
      rcases find_long hl part with ⟨k, P, x, e, f⟩ | ⟨e, _⟩
      · rw [e]; exact nI_lt48 x
      · exact absurd (a.symm.trans e) h
    obtain ⟨r0, r1, r2, r3⟩ := c h
    rw [if_neg h, if_neg (fun q => h (a.symm.trans q)), if_pos h48]
    refine Or.inr ⟨show ¬ (1 : Int32) = 0 by decide, show ¬ (1 : Int32) = 0 by decide, ?_, ?_, rfl, rfl, b, Or.inr b, a.symm, r0.symm, r1.symm, r2.symm, r3.symm⟩
    · show q51.2.1 = st
      rw [h5]
    · show q51.2.2 = cu
      rw [h5]
theorem fetch_alike {f g r c m : Nat → Int32} (hS : Rseg f g) (hm : Rm c m) {pc : Int32} (hpc : pc &&& 1 = 0) (st cu wn wk wd wa wb wi by_ kd_ : Int32) (part : Nat → Int32) : FE st cu (cF_Core_fetch pc st cu f g r c wn wk wd wa wb wi) (mF_StepMachineModel_isFetched pc st cu by_ kd_ part m f g r) ∧ (¬ (cF_Core_fetch pc st cu f g r c wn wk wd wa wb wi).1 = 0 → 0 ≤ pc.toInt ∧ pc.toInt < 131072) := by
  have w1 : (cF_Guard_firstWithout f g r 4 pc 2 = -1 ∧ lg_cmp (mF_StepMachineModel_without f g r (mF_StepMachineModel_bare pc) 2 4) 0 < 0 ∧ 0 ≤ pc.toInt ∧ pc.toInt < 131072) ∨ (∃ j, j < 2 ∧ cF_Guard_firstWithout f g r 4 pc 2 = nI j ∧ ¬ lg_cmp (mF_StepMachineModel_without f g r (mF_StepMachineModel_bare pc) 2 4) 0 < 0 ∧ (mF_StepMachineModel_without f g r (mF_StepMachineModel_bare pc) 2 4).toInt32 = pc + nI j) := wo_alike hS pc (W := 2) (by decide) (by decide) 4
  rw [cF_Core_fetch, cF_Core_mayExecuteHalf, mF_StepMachineModel_isFetched]
  rcases w1 with ⟨a1, a2, a3⟩ | ⟨j, j1, a1, a2, a3⟩
  · rw [if_pos a1, if_pos a2]
    have im := wo_mem (by decide) a2
    obtain ⟨im0, im1⟩ := im
    rw [e_2] at im1
    refine ⟨?_, fun _ => a3⟩
    have hn : pc = nI pc.toInt.toNat := ti_nI a3.1
    generalize hA : pc.toInt.toNat = a at hn
    have ha2 : a % 2 = 0 := by
      have e : pc &&& 1 = nI (a % 2) := by rw [hn]; exact pk_andN (by omega) 1 (by decide)
      rw [e] at hpc
      have c := congrArg Int32.toInt hpc
      rw [nI_toInt (by omega), e_0] at c
      omega
    have n2 : cF_Memory_number c pc 2 = mF_StepMachineModel_fetched m pc 2 := by rw [hn]; exact num_2 hm (by omega) ha2
    have hz : HiZ (mF_StepMachineModel_fetched m pc 2) := by
      rw [← n2, hn]
      exact num2_hi (by omega)
    rw [cF_Core_fetch_1, if_neg (show ¬ ((1, st, cu) : Int32 × Int32 × Int32).1 = 0 from show ¬ (1 : Int32) = 0 by decide), n2, show cF_Word_isLong (mF_StepMachineModel_fetched m pc 2) = mF_StepMachineModel_isLong (mF_StepMachineModel_fetched m pc 2) from rfl]
    by_cases hl : mF_StepMachineModel_isLong (mF_StepMachineModel_fetched m pc 2) = 0
    · rw [if_pos hl, if_pos hl]
      exact fe_short (wn := wn) (wk := wk) (wd := wd) (wa := wa) (wb := wb) (wi := wi) part hz hl _ rfl
    · rw [if_neg hl, if_neg hl]
      have e2 : (pc + 2).toInt = pc.toInt + 2 := by rw [ti_add (by rw [e_2]; omega) (by rw [e_2]; omega), e_2]
      have eb : mF_StepMachineModel_bare pc + 2 = mF_StepMachineModel_bare (pc + 2) := by
        apply Int64.toInt_inj.mp
        have l2 : (2 : Int64).toInt = 2 := by decide
        have hb := bare_nn a3.1
        rw [li_add (by rw [l2]; omega) (by rw [l2]; omega), l2, hb, bare_nn (by omega), e2]
      rw [eb, cF_Core_mayExecuteHalf]
      have w2 : (cF_Guard_firstWithout f g r 4 (pc + 2) 2 = -1 ∧ lg_cmp (mF_StepMachineModel_without f g r (mF_StepMachineModel_bare (pc + 2)) 2 4) 0 < 0 ∧ 0 ≤ (pc + 2).toInt ∧ (pc + 2).toInt < 131072) ∨ (∃ j, j < 2 ∧ cF_Guard_firstWithout f g r 4 (pc + 2) 2 = nI j ∧ ¬ lg_cmp (mF_StepMachineModel_without f g r (mF_StepMachineModel_bare (pc + 2)) 2 4) 0 < 0 ∧ (mF_StepMachineModel_without f g r (mF_StepMachineModel_bare (pc + 2)) 2 4).toInt32 = (pc + 2) + nI j) := wo_alike hS (pc + 2) (W := 2) (by decide) (by decide) 4
      rcases w2 with ⟨b1, b2, b3⟩ | ⟨j, j1, b1, b2, b3⟩
      · rw [if_pos b1, if_pos b2]
        have im2 := wo_mem (by decide) b2
        obtain ⟨im3, im4⟩ := im2
        rw [e_2] at im4
        have hn2 : pc + 2 = nI (a + 2) := by rw [hn]; exact nI_add a 2
        have n4 : (mF_StepMachineModel_fetched m pc 2) ||| ((cF_Memory_number c (pc + 2) 2) <<< ((16 : Int32) &&& 31)) = mF_StepMachineModel_fetched m pc 4 := by
          have n2' : cF_Memory_number c (pc + 2) 2 = mF_StepMachineModel_fetched m (nI (a + 2)) 2 := by rw [hn2]; exact num_2 hm (by omega) (by omega)
          rw [n2', hn, fn_42 m (by omega)]
        have hl4 : ¬ mF_StepMachineModel_isLong (mF_StepMachineModel_fetched m pc 4) = 0 := by rw [← n4, long_lo]; exact hl
        rw [cF_Core_fetch_2, if_neg (show ¬ ((1, st, cu) : Int32 × Int32 × Int32).1 = 0 from show ¬ (1 : Int32) = 0 by decide), n2, n4]
        exact fe_long part hl4 _ rfl
      · have b1' : ¬ cF_Guard_firstWithout f g r 4 (pc + 2) 2 = -1 := by rw [b1]; exact nI_nm1 (by omega)
        rw [if_neg b1', if_neg b2, cF_Core_fetch_2, if_pos (show (cF_Core_mayExecuteHalf_1 (cF_Core_become 1 (pc + 2 + cF_Guard_firstWithout f g r 4 (pc + 2) 2))).1 = 0 from rfl), b3]
        exact Or.inl ⟨rfl, rfl, rfl, show pc + 2 + cF_Guard_firstWithout f g r 4 (pc + 2) 2 = pc + 2 + nI j by rw [b1], show ¬ cF_Core_hasEnded 1 = 0 by decide⟩
  · have a1' : ¬ cF_Guard_firstWithout f g r 4 pc 2 = -1 := by rw [a1]; exact nI_nm1 (by omega)
    rw [if_neg a1', if_neg a2, cF_Core_fetch_1, if_pos (show (cF_Core_mayExecuteHalf_1 (cF_Core_become 1 (pc + cF_Guard_firstWithout f g r 4 pc 2))).1 = 0 from rfl), a3]
    exact ⟨Or.inl ⟨rfl, rfl, rfl, show pc + cF_Guard_firstWithout f g r 4 pc 2 = pc + nI j by rw [a1], show ¬ cF_Core_hasEnded 1 = 0 by decide⟩, fun h => (h rfl).elim⟩
def FR (st cu x k : Int32) (C R : Int32 × Int32 × Int32) : Prop := (¬ C.1 = 0 ∧ R.1 = 0 ∧ C.2.1 = R.2.1 ∧ C.2.2 = R.2.2 ∧ ¬ cF_Core_hasEnded C.2.1 = 0) ∨ (C.1 = 0 ∧ ¬ R.1 = 0 ∧ C.2.1 = st ∧ C.2.2 = cu ∧ R.2.1 = st ∧ R.2.2 = cu ∧ (9 < k.toInt → k.toInt < 18 → ∃ a : Nat, x = nI a ∧ a + (mF_StepMachineModel_widthOf k).toInt.toNat ≤ 131072 ∧ a % (mF_StepMachineModel_widthOf k).toInt.toNat = 0))
theorem al_1 (x : Int32) : (x &&& ((1 : Int32) - 1)) = 0 ↔ lg_cmp (mF_StepMachineModel_bare x - mF_StepMachineModel_bare x / (1 : Int32).toInt64 * (1 : Int32).toInt64) 0 = 0 := by
  rw [lg_cmp_eq, i64_mod0 (by decide), show ((1 : Int32).toInt64).toInt = 1 from by decide, show (mF_StepMachineModel_bare x).toInt = (x.toBitVec.toNat : Int) from bare_toInt x, show x &&& ((1 : Int32) - 1) = nI (x.toBitVec.toNat % 1) from pk_and x 0 (by decide)]
  have hlt := Nat.mod_lt x.toBitVec.toNat (show 0 < 1 by decide)
  constructor
  · intro e
    have a := congrArg Int32.toInt e
    rw [nI_toInt (by omega), e_0] at a
    omega
  · intro e
    rw [show x.toBitVec.toNat % 1 = 0 by omega]
    rfl
theorem al_nat_1 {x : Int32} {a : Nat} (hx : x = nI a) (ha : a < 131072) (h : (x &&& ((1 : Int32) - 1)) = 0) : a % 1 = 0 := by
  rw [show x &&& ((1 : Int32) - 1) = nI (x.toBitVec.toNat % 1) from pk_and x 0 (by decide), hx, pk_tn (by omega)] at h
  have b := congrArg Int32.toInt h
  rw [nI_toInt (by omega), e_0] at b
  omega
theorem al_2 (x : Int32) : (x &&& ((2 : Int32) - 1)) = 0 ↔ lg_cmp (mF_StepMachineModel_bare x - mF_StepMachineModel_bare x / (2 : Int32).toInt64 * (2 : Int32).toInt64) 0 = 0 := by
  rw [lg_cmp_eq, i64_mod0 (by decide), show ((2 : Int32).toInt64).toInt = 2 from by decide, show (mF_StepMachineModel_bare x).toInt = (x.toBitVec.toNat : Int) from bare_toInt x, show x &&& ((2 : Int32) - 1) = nI (x.toBitVec.toNat % 2) from pk_and x 1 (by decide)]
  have hlt := Nat.mod_lt x.toBitVec.toNat (show 0 < 2 by decide)
  constructor
  · intro e
    have a := congrArg Int32.toInt e
    rw [nI_toInt (by omega), e_0] at a
    omega
  · intro e
    rw [show x.toBitVec.toNat % 2 = 0 by omega]
    rfl
theorem al_nat_2 {x : Int32} {a : Nat} (hx : x = nI a) (ha : a < 131072) (h : (x &&& ((2 : Int32) - 1)) = 0) : a % 2 = 0 := by
  rw [show x &&& ((2 : Int32) - 1) = nI (x.toBitVec.toNat % 2) from pk_and x 1 (by decide), hx, pk_tn (by omega)] at h
  have b := congrArg Int32.toInt h
  rw [nI_toInt (by omega), e_0] at b
  omega
theorem al_4 (x : Int32) : (x &&& ((4 : Int32) - 1)) = 0 ↔ lg_cmp (mF_StepMachineModel_bare x - mF_StepMachineModel_bare x / (4 : Int32).toInt64 * (4 : Int32).toInt64) 0 = 0 := by
  rw [lg_cmp_eq, i64_mod0 (by decide), show ((4 : Int32).toInt64).toInt = 4 from by decide, show (mF_StepMachineModel_bare x).toInt = (x.toBitVec.toNat : Int) from bare_toInt x, show x &&& ((4 : Int32) - 1) = nI (x.toBitVec.toNat % 4) from pk_and x 2 (by decide)]
  have hlt := Nat.mod_lt x.toBitVec.toNat (show 0 < 4 by decide)
  constructor
  · intro e
    have a := congrArg Int32.toInt e
    rw [nI_toInt (by omega), e_0] at a
    omega
  · intro e
    rw [show x.toBitVec.toNat % 4 = 0 by omega]
    rfl
theorem al_nat_4 {x : Int32} {a : Nat} (hx : x = nI a) (ha : a < 131072) (h : (x &&& ((4 : Int32) - 1)) = 0) : a % 4 = 0 := by
  rw [show x &&& ((4 : Int32) - 1) = nI (x.toBitVec.toNat % 4) from pk_and x 2 (by decide), hx, pk_tn (by omega)] at h
  have b := congrArg Int32.toInt h
  rw [nI_toInt (by omega), e_0] at b
  omega
theorem fr_10 {st cu : Int32} {reg part f g r : Nat → Int32} (hS : Rseg f g) (hr0 : reg 0 = 0) (hp : ∀ p, p < 3 → 0 ≤ (part p).toInt ∧ (part p).toInt < 32) : FR st cu (reg (part 1).toNatClampNeg + part 3) 10 (cF_Core_failsInMemory st cu reg 10 (part 1) (part 3) f g r) (mF_StepMachineModel_canReach st cu 10 part f g r reg) := by
  have e1 : (cF_Core_failsInMemory st cu reg 10 (part 1) (part 3) f g r) = (if ((cF_Core_address reg (part 1) (part 3)) &&& ((1 : Int32) - 1)) = 0 then (if (cF_Guard_firstWithout f g r 1 (cF_Core_address reg (part 1) (part 3)) 1) = (-1) then (0, st, cu) else (1, 3, (cF_Core_address reg (part 1) (part 3)))) else (1, 3, (cF_Core_address reg (part 1) (part 3)))) := rfl
  have e2 : (mF_StepMachineModel_canReach st cu 10 part f g r reg) = (if lg_cmp (mF_StepMachineModel_bare (reg (part 1).toNatClampNeg + part 3) - mF_StepMachineModel_bare (reg (part 1).toNatClampNeg + part 3) / (1 : Int32).toInt64 * (1 : Int32).toInt64) 0 = 0 then (if 0 ≤ lg_cmp (mF_StepMachineModel_without f g r (mF_StepMachineModel_bare (reg (part 1).toNatClampNeg + part 3)) 1 1) 0 then (0, 3, (mF_StepMachineModel_bare (reg (part 1).toNatClampNeg + part 3)).toInt32) else (1, st, cu)) else (0, 3, (mF_StepMachineModel_bare (reg (part 1).toNatClampNeg + part 3)).toInt32)) := rfl
  have ex : (cF_Core_address reg (part 1) (part 3)) = (reg (part 1).toNatClampNeg + part 3) := by rw [cF_Core_address, reg_of hr0 (hp 1 (by decide))]
  rw [e1, e2, ex, bare_i32]
  generalize (reg (part 1).toNatClampNeg + part 3) = x
  by_cases c1 : (x &&& ((1 : Int32) - 1)) = 0
  · rw [if_pos c1, if_pos ((al_1 x).mp c1)]
    have w1 : (cF_Guard_firstWithout f g r 1 x 1 = -1 ∧ lg_cmp (mF_StepMachineModel_without f g r (mF_StepMachineModel_bare x) 1 1) 0 < 0 ∧ 0 ≤ x.toInt ∧ x.toInt < 131072) ∨ (∃ j, j < 1 ∧ cF_Guard_firstWithout f g r 1 x 1 = nI j ∧ ¬ lg_cmp (mF_StepMachineModel_without f g r (mF_StepMachineModel_bare x) 1 1) 0 < 0 ∧ (mF_StepMachineModel_without f g r (mF_StepMachineModel_bare x) 1 1).toInt32 = x + nI j) := wo_alike hS x (W := 1) (by decide) (by decide) 1
    rcases w1 with ⟨a1, a2, a3⟩ | ⟨j, j1, a1, a2, a3⟩
    · rw [if_pos a1, if_neg (fun q => by rw [lc_lt] at a2; rw [lc_ge] at q; omega)]
      obtain ⟨i0, i1⟩ := wo_mem (by decide) a2
      rw [e_1] at i1
      refine Or.inr ⟨rfl, show ¬ (1 : Int32) = 0 by decide, rfl, rfl, rfl, rfl, fun _ _ => ⟨x.toInt.toNat, ti_nI i0, ?_, ?_⟩⟩
      · rw [show (mF_StepMachineModel_widthOf 10).toInt.toNat = 1 from by decide]
        omega
      · rw [show (mF_StepMachineModel_widthOf 10).toInt.toNat = 1 from by decide]
        exact al_nat_1 (ti_nI i0) (by omega) c1
    · rw [if_neg (by rw [a1]; exact nI_nm1 (by omega)), if_pos (by rw [lc_lt] at a2; rw [lc_ge]; omega)]
      exact Or.inl ⟨show ¬ (1 : Int32) = 0 by decide, rfl, rfl, rfl, show ¬ cF_Core_hasEnded 3 = 0 by decide⟩
  · rw [if_neg c1, if_neg (fun q => c1 ((al_1 x).mpr q))]
    exact Or.inl ⟨show ¬ (1 : Int32) = 0 by decide, rfl, rfl, rfl, show ¬ cF_Core_hasEnded 3 = 0 by decide⟩
theorem fr_11 {st cu : Int32} {reg part f g r : Nat → Int32} (hS : Rseg f g) (hr0 : reg 0 = 0) (hp : ∀ p, p < 3 → 0 ≤ (part p).toInt ∧ (part p).toInt < 32) : FR st cu (reg (part 1).toNatClampNeg + part 3) 11 (cF_Core_failsInMemory st cu reg 11 (part 1) (part 3) f g r) (mF_StepMachineModel_canReach st cu 11 part f g r reg) := by
  have e1 : (cF_Core_failsInMemory st cu reg 11 (part 1) (part 3) f g r) = (if ((cF_Core_address reg (part 1) (part 3)) &&& ((2 : Int32) - 1)) = 0 then (if (cF_Guard_firstWithout f g r 1 (cF_Core_address reg (part 1) (part 3)) 2) = (-1) then (0, st, cu) else (1, 3, (cF_Core_address reg (part 1) (part 3)))) else (1, 3, (cF_Core_address reg (part 1) (part 3)))) := rfl
  have e2 : (mF_StepMachineModel_canReach st cu 11 part f g r reg) = (if lg_cmp (mF_StepMachineModel_bare (reg (part 1).toNatClampNeg + part 3) - mF_StepMachineModel_bare (reg (part 1).toNatClampNeg + part 3) / (2 : Int32).toInt64 * (2 : Int32).toInt64) 0 = 0 then (if 0 ≤ lg_cmp (mF_StepMachineModel_without f g r (mF_StepMachineModel_bare (reg (part 1).toNatClampNeg + part 3)) 2 1) 0 then (0, 3, (mF_StepMachineModel_bare (reg (part 1).toNatClampNeg + part 3)).toInt32) else (1, st, cu)) else (0, 3, (mF_StepMachineModel_bare (reg (part 1).toNatClampNeg + part 3)).toInt32)) := rfl
  have ex : (cF_Core_address reg (part 1) (part 3)) = (reg (part 1).toNatClampNeg + part 3) := by rw [cF_Core_address, reg_of hr0 (hp 1 (by decide))]
  rw [e1, e2, ex, bare_i32]
  generalize (reg (part 1).toNatClampNeg + part 3) = x
  by_cases c1 : (x &&& ((2 : Int32) - 1)) = 0
  · rw [if_pos c1, if_pos ((al_2 x).mp c1)]
    have w1 : (cF_Guard_firstWithout f g r 1 x 2 = -1 ∧ lg_cmp (mF_StepMachineModel_without f g r (mF_StepMachineModel_bare x) 2 1) 0 < 0 ∧ 0 ≤ x.toInt ∧ x.toInt < 131072) ∨ (∃ j, j < 2 ∧ cF_Guard_firstWithout f g r 1 x 2 = nI j ∧ ¬ lg_cmp (mF_StepMachineModel_without f g r (mF_StepMachineModel_bare x) 2 1) 0 < 0 ∧ (mF_StepMachineModel_without f g r (mF_StepMachineModel_bare x) 2 1).toInt32 = x + nI j) := wo_alike hS x (W := 2) (by decide) (by decide) 1
    rcases w1 with ⟨a1, a2, a3⟩ | ⟨j, j1, a1, a2, a3⟩
    · rw [if_pos a1, if_neg (fun q => by rw [lc_lt] at a2; rw [lc_ge] at q; omega)]
      obtain ⟨i0, i1⟩ := wo_mem (by decide) a2
      rw [e_2] at i1
      refine Or.inr ⟨rfl, show ¬ (1 : Int32) = 0 by decide, rfl, rfl, rfl, rfl, fun _ _ => ⟨x.toInt.toNat, ti_nI i0, ?_, ?_⟩⟩
      · rw [show (mF_StepMachineModel_widthOf 11).toInt.toNat = 2 from by decide]
        omega
      · rw [show (mF_StepMachineModel_widthOf 11).toInt.toNat = 2 from by decide]
        exact al_nat_2 (ti_nI i0) (by omega) c1
    · rw [if_neg (by rw [a1]; exact nI_nm1 (by omega)), if_pos (by rw [lc_lt] at a2; rw [lc_ge]; omega)]
      exact Or.inl ⟨show ¬ (1 : Int32) = 0 by decide, rfl, rfl, rfl, show ¬ cF_Core_hasEnded 3 = 0 by decide⟩
  · rw [if_neg c1, if_neg (fun q => c1 ((al_2 x).mpr q))]
    exact Or.inl ⟨show ¬ (1 : Int32) = 0 by decide, rfl, rfl, rfl, show ¬ cF_Core_hasEnded 3 = 0 by decide⟩
theorem fr_12 {st cu : Int32} {reg part f g r : Nat → Int32} (hS : Rseg f g) (hr0 : reg 0 = 0) (hp : ∀ p, p < 3 → 0 ≤ (part p).toInt ∧ (part p).toInt < 32) : FR st cu (reg (part 1).toNatClampNeg + part 3) 12 (cF_Core_failsInMemory st cu reg 12 (part 1) (part 3) f g r) (mF_StepMachineModel_canReach st cu 12 part f g r reg) := by
  have e1 : (cF_Core_failsInMemory st cu reg 12 (part 1) (part 3) f g r) = (if ((cF_Core_address reg (part 1) (part 3)) &&& ((4 : Int32) - 1)) = 0 then (if (cF_Guard_firstWithout f g r 1 (cF_Core_address reg (part 1) (part 3)) 4) = (-1) then (0, st, cu) else (1, 3, (cF_Core_address reg (part 1) (part 3)))) else (1, 3, (cF_Core_address reg (part 1) (part 3)))) := rfl
  have e2 : (mF_StepMachineModel_canReach st cu 12 part f g r reg) = (if lg_cmp (mF_StepMachineModel_bare (reg (part 1).toNatClampNeg + part 3) - mF_StepMachineModel_bare (reg (part 1).toNatClampNeg + part 3) / (4 : Int32).toInt64 * (4 : Int32).toInt64) 0 = 0 then (if 0 ≤ lg_cmp (mF_StepMachineModel_without f g r (mF_StepMachineModel_bare (reg (part 1).toNatClampNeg + part 3)) 4 1) 0 then (0, 3, (mF_StepMachineModel_bare (reg (part 1).toNatClampNeg + part 3)).toInt32) else (1, st, cu)) else (0, 3, (mF_StepMachineModel_bare (reg (part 1).toNatClampNeg + part 3)).toInt32)) := rfl
  have ex : (cF_Core_address reg (part 1) (part 3)) = (reg (part 1).toNatClampNeg + part 3) := by rw [cF_Core_address, reg_of hr0 (hp 1 (by decide))]
  rw [e1, e2, ex, bare_i32]
  generalize (reg (part 1).toNatClampNeg + part 3) = x
  by_cases c1 : (x &&& ((4 : Int32) - 1)) = 0
  · rw [if_pos c1, if_pos ((al_4 x).mp c1)]
    have w1 : (cF_Guard_firstWithout f g r 1 x 4 = -1 ∧ lg_cmp (mF_StepMachineModel_without f g r (mF_StepMachineModel_bare x) 4 1) 0 < 0 ∧ 0 ≤ x.toInt ∧ x.toInt < 131072) ∨ (∃ j, j < 4 ∧ cF_Guard_firstWithout f g r 1 x 4 = nI j ∧ ¬ lg_cmp (mF_StepMachineModel_without f g r (mF_StepMachineModel_bare x) 4 1) 0 < 0 ∧ (mF_StepMachineModel_without f g r (mF_StepMachineModel_bare x) 4 1).toInt32 = x + nI j) := wo_alike hS x (W := 4) (by decide) (by decide) 1
    rcases w1 with ⟨a1, a2, a3⟩ | ⟨j, j1, a1, a2, a3⟩
    · rw [if_pos a1, if_neg (fun q => by rw [lc_lt] at a2; rw [lc_ge] at q; omega)]
      obtain ⟨i0, i1⟩ := wo_mem (by decide) a2
      rw [e_4] at i1
      refine Or.inr ⟨rfl, show ¬ (1 : Int32) = 0 by decide, rfl, rfl, rfl, rfl, fun _ _ => ⟨x.toInt.toNat, ti_nI i0, ?_, ?_⟩⟩
      · rw [show (mF_StepMachineModel_widthOf 12).toInt.toNat = 4 from by decide]
        omega
      · rw [show (mF_StepMachineModel_widthOf 12).toInt.toNat = 4 from by decide]
        exact al_nat_4 (ti_nI i0) (by omega) c1
    · rw [if_neg (by rw [a1]; exact nI_nm1 (by omega)), if_pos (by rw [lc_lt] at a2; rw [lc_ge]; omega)]
      exact Or.inl ⟨show ¬ (1 : Int32) = 0 by decide, rfl, rfl, rfl, show ¬ cF_Core_hasEnded 3 = 0 by decide⟩
  · rw [if_neg c1, if_neg (fun q => c1 ((al_4 x).mpr q))]
    exact Or.inl ⟨show ¬ (1 : Int32) = 0 by decide, rfl, rfl, rfl, show ¬ cF_Core_hasEnded 3 = 0 by decide⟩
theorem fr_13 {st cu : Int32} {reg part f g r : Nat → Int32} (hS : Rseg f g) (hr0 : reg 0 = 0) (hp : ∀ p, p < 3 → 0 ≤ (part p).toInt ∧ (part p).toInt < 32) : FR st cu (reg (part 1).toNatClampNeg + part 3) 13 (cF_Core_failsInMemory st cu reg 13 (part 1) (part 3) f g r) (mF_StepMachineModel_canReach st cu 13 part f g r reg) := by
  have e1 : (cF_Core_failsInMemory st cu reg 13 (part 1) (part 3) f g r) = (if ((cF_Core_address reg (part 1) (part 3)) &&& ((1 : Int32) - 1)) = 0 then (if (cF_Guard_firstWithout f g r 1 (cF_Core_address reg (part 1) (part 3)) 1) = (-1) then (0, st, cu) else (1, 3, (cF_Core_address reg (part 1) (part 3)))) else (1, 3, (cF_Core_address reg (part 1) (part 3)))) := rfl
  have e2 : (mF_StepMachineModel_canReach st cu 13 part f g r reg) = (if lg_cmp (mF_StepMachineModel_bare (reg (part 1).toNatClampNeg + part 3) - mF_StepMachineModel_bare (reg (part 1).toNatClampNeg + part 3) / (1 : Int32).toInt64 * (1 : Int32).toInt64) 0 = 0 then (if 0 ≤ lg_cmp (mF_StepMachineModel_without f g r (mF_StepMachineModel_bare (reg (part 1).toNatClampNeg + part 3)) 1 1) 0 then (0, 3, (mF_StepMachineModel_bare (reg (part 1).toNatClampNeg + part 3)).toInt32) else (1, st, cu)) else (0, 3, (mF_StepMachineModel_bare (reg (part 1).toNatClampNeg + part 3)).toInt32)) := rfl
  have ex : (cF_Core_address reg (part 1) (part 3)) = (reg (part 1).toNatClampNeg + part 3) := by rw [cF_Core_address, reg_of hr0 (hp 1 (by decide))]
  rw [e1, e2, ex, bare_i32]
  generalize (reg (part 1).toNatClampNeg + part 3) = x
  by_cases c1 : (x &&& ((1 : Int32) - 1)) = 0
  · rw [if_pos c1, if_pos ((al_1 x).mp c1)]
    have w1 : (cF_Guard_firstWithout f g r 1 x 1 = -1 ∧ lg_cmp (mF_StepMachineModel_without f g r (mF_StepMachineModel_bare x) 1 1) 0 < 0 ∧ 0 ≤ x.toInt ∧ x.toInt < 131072) ∨ (∃ j, j < 1 ∧ cF_Guard_firstWithout f g r 1 x 1 = nI j ∧ ¬ lg_cmp (mF_StepMachineModel_without f g r (mF_StepMachineModel_bare x) 1 1) 0 < 0 ∧ (mF_StepMachineModel_without f g r (mF_StepMachineModel_bare x) 1 1).toInt32 = x + nI j) := wo_alike hS x (W := 1) (by decide) (by decide) 1
    rcases w1 with ⟨a1, a2, a3⟩ | ⟨j, j1, a1, a2, a3⟩
    · rw [if_pos a1, if_neg (fun q => by rw [lc_lt] at a2; rw [lc_ge] at q; omega)]
      obtain ⟨i0, i1⟩ := wo_mem (by decide) a2
      rw [e_1] at i1
      refine Or.inr ⟨rfl, show ¬ (1 : Int32) = 0 by decide, rfl, rfl, rfl, rfl, fun _ _ => ⟨x.toInt.toNat, ti_nI i0, ?_, ?_⟩⟩
      · rw [show (mF_StepMachineModel_widthOf 13).toInt.toNat = 1 from by decide]
        omega
      · rw [show (mF_StepMachineModel_widthOf 13).toInt.toNat = 1 from by decide]
        exact al_nat_1 (ti_nI i0) (by omega) c1
    · rw [if_neg (by rw [a1]; exact nI_nm1 (by omega)), if_pos (by rw [lc_lt] at a2; rw [lc_ge]; omega)]
      exact Or.inl ⟨show ¬ (1 : Int32) = 0 by decide, rfl, rfl, rfl, show ¬ cF_Core_hasEnded 3 = 0 by decide⟩
  · rw [if_neg c1, if_neg (fun q => c1 ((al_1 x).mpr q))]
    exact Or.inl ⟨show ¬ (1 : Int32) = 0 by decide, rfl, rfl, rfl, show ¬ cF_Core_hasEnded 3 = 0 by decide⟩
theorem fr_14 {st cu : Int32} {reg part f g r : Nat → Int32} (hS : Rseg f g) (hr0 : reg 0 = 0) (hp : ∀ p, p < 3 → 0 ≤ (part p).toInt ∧ (part p).toInt < 32) : FR st cu (reg (part 1).toNatClampNeg + part 3) 14 (cF_Core_failsInMemory st cu reg 14 (part 1) (part 3) f g r) (mF_StepMachineModel_canReach st cu 14 part f g r reg) := by
  have e1 : (cF_Core_failsInMemory st cu reg 14 (part 1) (part 3) f g r) = (if ((cF_Core_address reg (part 1) (part 3)) &&& ((2 : Int32) - 1)) = 0 then (if (cF_Guard_firstWithout f g r 1 (cF_Core_address reg (part 1) (part 3)) 2) = (-1) then (0, st, cu) else (1, 3, (cF_Core_address reg (part 1) (part 3)))) else (1, 3, (cF_Core_address reg (part 1) (part 3)))) := rfl
  have e2 : (mF_StepMachineModel_canReach st cu 14 part f g r reg) = (if lg_cmp (mF_StepMachineModel_bare (reg (part 1).toNatClampNeg + part 3) - mF_StepMachineModel_bare (reg (part 1).toNatClampNeg + part 3) / (2 : Int32).toInt64 * (2 : Int32).toInt64) 0 = 0 then (if 0 ≤ lg_cmp (mF_StepMachineModel_without f g r (mF_StepMachineModel_bare (reg (part 1).toNatClampNeg + part 3)) 2 1) 0 then (0, 3, (mF_StepMachineModel_bare (reg (part 1).toNatClampNeg + part 3)).toInt32) else (1, st, cu)) else (0, 3, (mF_StepMachineModel_bare (reg (part 1).toNatClampNeg + part 3)).toInt32)) := rfl
  have ex : (cF_Core_address reg (part 1) (part 3)) = (reg (part 1).toNatClampNeg + part 3) := by rw [cF_Core_address, reg_of hr0 (hp 1 (by decide))]
  rw [e1, e2, ex, bare_i32]
  generalize (reg (part 1).toNatClampNeg + part 3) = x
  by_cases c1 : (x &&& ((2 : Int32) - 1)) = 0
  · rw [if_pos c1, if_pos ((al_2 x).mp c1)]
    have w1 : (cF_Guard_firstWithout f g r 1 x 2 = -1 ∧ lg_cmp (mF_StepMachineModel_without f g r (mF_StepMachineModel_bare x) 2 1) 0 < 0 ∧ 0 ≤ x.toInt ∧ x.toInt < 131072) ∨ (∃ j, j < 2 ∧ cF_Guard_firstWithout f g r 1 x 2 = nI j ∧ ¬ lg_cmp (mF_StepMachineModel_without f g r (mF_StepMachineModel_bare x) 2 1) 0 < 0 ∧ (mF_StepMachineModel_without f g r (mF_StepMachineModel_bare x) 2 1).toInt32 = x + nI j) := wo_alike hS x (W := 2) (by decide) (by decide) 1
    rcases w1 with ⟨a1, a2, a3⟩ | ⟨j, j1, a1, a2, a3⟩
    · rw [if_pos a1, if_neg (fun q => by rw [lc_lt] at a2; rw [lc_ge] at q; omega)]
      obtain ⟨i0, i1⟩ := wo_mem (by decide) a2
      rw [e_2] at i1
      refine Or.inr ⟨rfl, show ¬ (1 : Int32) = 0 by decide, rfl, rfl, rfl, rfl, fun _ _ => ⟨x.toInt.toNat, ti_nI i0, ?_, ?_⟩⟩
      · rw [show (mF_StepMachineModel_widthOf 14).toInt.toNat = 2 from by decide]
        omega
      · rw [show (mF_StepMachineModel_widthOf 14).toInt.toNat = 2 from by decide]
        exact al_nat_2 (ti_nI i0) (by omega) c1
    · rw [if_neg (by rw [a1]; exact nI_nm1 (by omega)), if_pos (by rw [lc_lt] at a2; rw [lc_ge]; omega)]
      exact Or.inl ⟨show ¬ (1 : Int32) = 0 by decide, rfl, rfl, rfl, show ¬ cF_Core_hasEnded 3 = 0 by decide⟩
  · rw [if_neg c1, if_neg (fun q => c1 ((al_2 x).mpr q))]
    exact Or.inl ⟨show ¬ (1 : Int32) = 0 by decide, rfl, rfl, rfl, show ¬ cF_Core_hasEnded 3 = 0 by decide⟩
theorem fr_15 {st cu : Int32} {reg part f g r : Nat → Int32} (hS : Rseg f g) (hr0 : reg 0 = 0) (hp : ∀ p, p < 3 → 0 ≤ (part p).toInt ∧ (part p).toInt < 32) : FR st cu (reg (part 1).toNatClampNeg + part 3) 15 (cF_Core_failsInMemory st cu reg 15 (part 1) (part 3) f g r) (mF_StepMachineModel_canReach st cu 15 part f g r reg) := by
  have e1 : (cF_Core_failsInMemory st cu reg 15 (part 1) (part 3) f g r) = (if ((cF_Core_address reg (part 1) (part 3)) &&& ((1 : Int32) - 1)) = 0 then (if (cF_Guard_firstWithout f g r 2 (cF_Core_address reg (part 1) (part 3)) 1) = (-1) then (0, st, cu) else (1, 4, (cF_Core_address reg (part 1) (part 3)))) else (1, 4, (cF_Core_address reg (part 1) (part 3)))) := rfl
  have e2 : (mF_StepMachineModel_canReach st cu 15 part f g r reg) = (if lg_cmp (mF_StepMachineModel_bare (reg (part 1).toNatClampNeg + part 3) - mF_StepMachineModel_bare (reg (part 1).toNatClampNeg + part 3) / (1 : Int32).toInt64 * (1 : Int32).toInt64) 0 = 0 then (if 0 ≤ lg_cmp (mF_StepMachineModel_without f g r (mF_StepMachineModel_bare (reg (part 1).toNatClampNeg + part 3)) 1 2) 0 then (0, 4, (mF_StepMachineModel_bare (reg (part 1).toNatClampNeg + part 3)).toInt32) else (1, st, cu)) else (0, 4, (mF_StepMachineModel_bare (reg (part 1).toNatClampNeg + part 3)).toInt32)) := rfl
  have ex : (cF_Core_address reg (part 1) (part 3)) = (reg (part 1).toNatClampNeg + part 3) := by rw [cF_Core_address, reg_of hr0 (hp 1 (by decide))]
  rw [e1, e2, ex, bare_i32]
  generalize (reg (part 1).toNatClampNeg + part 3) = x
  by_cases c1 : (x &&& ((1 : Int32) - 1)) = 0
  · rw [if_pos c1, if_pos ((al_1 x).mp c1)]
    have w1 : (cF_Guard_firstWithout f g r 2 x 1 = -1 ∧ lg_cmp (mF_StepMachineModel_without f g r (mF_StepMachineModel_bare x) 1 2) 0 < 0 ∧ 0 ≤ x.toInt ∧ x.toInt < 131072) ∨ (∃ j, j < 1 ∧ cF_Guard_firstWithout f g r 2 x 1 = nI j ∧ ¬ lg_cmp (mF_StepMachineModel_without f g r (mF_StepMachineModel_bare x) 1 2) 0 < 0 ∧ (mF_StepMachineModel_without f g r (mF_StepMachineModel_bare x) 1 2).toInt32 = x + nI j) := wo_alike hS x (W := 1) (by decide) (by decide) 2
    rcases w1 with ⟨a1, a2, a3⟩ | ⟨j, j1, a1, a2, a3⟩
    · rw [if_pos a1, if_neg (fun q => by rw [lc_lt] at a2; rw [lc_ge] at q; omega)]
      obtain ⟨i0, i1⟩ := wo_mem (by decide) a2
      rw [e_1] at i1
      refine Or.inr ⟨rfl, show ¬ (1 : Int32) = 0 by decide, rfl, rfl, rfl, rfl, fun _ _ => ⟨x.toInt.toNat, ti_nI i0, ?_, ?_⟩⟩
      · rw [show (mF_StepMachineModel_widthOf 15).toInt.toNat = 1 from by decide]
        omega
      · rw [show (mF_StepMachineModel_widthOf 15).toInt.toNat = 1 from by decide]
        exact al_nat_1 (ti_nI i0) (by omega) c1
    · rw [if_neg (by rw [a1]; exact nI_nm1 (by omega)), if_pos (by rw [lc_lt] at a2; rw [lc_ge]; omega)]
      exact Or.inl ⟨show ¬ (1 : Int32) = 0 by decide, rfl, rfl, rfl, show ¬ cF_Core_hasEnded 4 = 0 by decide⟩
  · rw [if_neg c1, if_neg (fun q => c1 ((al_1 x).mpr q))]
    exact Or.inl ⟨show ¬ (1 : Int32) = 0 by decide, rfl, rfl, rfl, show ¬ cF_Core_hasEnded 4 = 0 by decide⟩
theorem fr_16 {st cu : Int32} {reg part f g r : Nat → Int32} (hS : Rseg f g) (hr0 : reg 0 = 0) (hp : ∀ p, p < 3 → 0 ≤ (part p).toInt ∧ (part p).toInt < 32) : FR st cu (reg (part 1).toNatClampNeg + part 3) 16 (cF_Core_failsInMemory st cu reg 16 (part 1) (part 3) f g r) (mF_StepMachineModel_canReach st cu 16 part f g r reg) := by
  have e1 : (cF_Core_failsInMemory st cu reg 16 (part 1) (part 3) f g r) = (if ((cF_Core_address reg (part 1) (part 3)) &&& ((2 : Int32) - 1)) = 0 then (if (cF_Guard_firstWithout f g r 2 (cF_Core_address reg (part 1) (part 3)) 2) = (-1) then (0, st, cu) else (1, 4, (cF_Core_address reg (part 1) (part 3)))) else (1, 4, (cF_Core_address reg (part 1) (part 3)))) := rfl
  have e2 : (mF_StepMachineModel_canReach st cu 16 part f g r reg) = (if lg_cmp (mF_StepMachineModel_bare (reg (part 1).toNatClampNeg + part 3) - mF_StepMachineModel_bare (reg (part 1).toNatClampNeg + part 3) / (2 : Int32).toInt64 * (2 : Int32).toInt64) 0 = 0 then (if 0 ≤ lg_cmp (mF_StepMachineModel_without f g r (mF_StepMachineModel_bare (reg (part 1).toNatClampNeg + part 3)) 2 2) 0 then (0, 4, (mF_StepMachineModel_bare (reg (part 1).toNatClampNeg + part 3)).toInt32) else (1, st, cu)) else (0, 4, (mF_StepMachineModel_bare (reg (part 1).toNatClampNeg + part 3)).toInt32)) := rfl
  have ex : (cF_Core_address reg (part 1) (part 3)) = (reg (part 1).toNatClampNeg + part 3) := by rw [cF_Core_address, reg_of hr0 (hp 1 (by decide))]
  rw [e1, e2, ex, bare_i32]
  generalize (reg (part 1).toNatClampNeg + part 3) = x
  by_cases c1 : (x &&& ((2 : Int32) - 1)) = 0
  · rw [if_pos c1, if_pos ((al_2 x).mp c1)]
    have w1 : (cF_Guard_firstWithout f g r 2 x 2 = -1 ∧ lg_cmp (mF_StepMachineModel_without f g r (mF_StepMachineModel_bare x) 2 2) 0 < 0 ∧ 0 ≤ x.toInt ∧ x.toInt < 131072) ∨ (∃ j, j < 2 ∧ cF_Guard_firstWithout f g r 2 x 2 = nI j ∧ ¬ lg_cmp (mF_StepMachineModel_without f g r (mF_StepMachineModel_bare x) 2 2) 0 < 0 ∧ (mF_StepMachineModel_without f g r (mF_StepMachineModel_bare x) 2 2).toInt32 = x + nI j) := wo_alike hS x (W := 2) (by decide) (by decide) 2
    rcases w1 with ⟨a1, a2, a3⟩ | ⟨j, j1, a1, a2, a3⟩
    · rw [if_pos a1, if_neg (fun q => by rw [lc_lt] at a2; rw [lc_ge] at q; omega)]
      obtain ⟨i0, i1⟩ := wo_mem (by decide) a2
      rw [e_2] at i1
      refine Or.inr ⟨rfl, show ¬ (1 : Int32) = 0 by decide, rfl, rfl, rfl, rfl, fun _ _ => ⟨x.toInt.toNat, ti_nI i0, ?_, ?_⟩⟩
      · rw [show (mF_StepMachineModel_widthOf 16).toInt.toNat = 2 from by decide]
        omega
      · rw [show (mF_StepMachineModel_widthOf 16).toInt.toNat = 2 from by decide]
        exact al_nat_2 (ti_nI i0) (by omega) c1
    · rw [if_neg (by rw [a1]; exact nI_nm1 (by omega)), if_pos (by rw [lc_lt] at a2; rw [lc_ge]; omega)]
      exact Or.inl ⟨show ¬ (1 : Int32) = 0 by decide, rfl, rfl, rfl, show ¬ cF_Core_hasEnded 4 = 0 by decide⟩
  · rw [if_neg c1, if_neg (fun q => c1 ((al_2 x).mpr q))]
    exact Or.inl ⟨show ¬ (1 : Int32) = 0 by decide, rfl, rfl, rfl, show ¬ cF_Core_hasEnded 4 = 0 by decide⟩
theorem fr_17 {st cu : Int32} {reg part f g r : Nat → Int32} (hS : Rseg f g) (hr0 : reg 0 = 0) (hp : ∀ p, p < 3 → 0 ≤ (part p).toInt ∧ (part p).toInt < 32) : FR st cu (reg (part 1).toNatClampNeg + part 3) 17 (cF_Core_failsInMemory st cu reg 17 (part 1) (part 3) f g r) (mF_StepMachineModel_canReach st cu 17 part f g r reg) := by
  have e1 : (cF_Core_failsInMemory st cu reg 17 (part 1) (part 3) f g r) = (if ((cF_Core_address reg (part 1) (part 3)) &&& ((4 : Int32) - 1)) = 0 then (if (cF_Guard_firstWithout f g r 2 (cF_Core_address reg (part 1) (part 3)) 4) = (-1) then (0, st, cu) else (1, 4, (cF_Core_address reg (part 1) (part 3)))) else (1, 4, (cF_Core_address reg (part 1) (part 3)))) := rfl
  have e2 : (mF_StepMachineModel_canReach st cu 17 part f g r reg) = (if lg_cmp (mF_StepMachineModel_bare (reg (part 1).toNatClampNeg + part 3) - mF_StepMachineModel_bare (reg (part 1).toNatClampNeg + part 3) / (4 : Int32).toInt64 * (4 : Int32).toInt64) 0 = 0 then (if 0 ≤ lg_cmp (mF_StepMachineModel_without f g r (mF_StepMachineModel_bare (reg (part 1).toNatClampNeg + part 3)) 4 2) 0 then (0, 4, (mF_StepMachineModel_bare (reg (part 1).toNatClampNeg + part 3)).toInt32) else (1, st, cu)) else (0, 4, (mF_StepMachineModel_bare (reg (part 1).toNatClampNeg + part 3)).toInt32)) := rfl
  have ex : (cF_Core_address reg (part 1) (part 3)) = (reg (part 1).toNatClampNeg + part 3) := by rw [cF_Core_address, reg_of hr0 (hp 1 (by decide))]
  rw [e1, e2, ex, bare_i32]
  generalize (reg (part 1).toNatClampNeg + part 3) = x
  by_cases c1 : (x &&& ((4 : Int32) - 1)) = 0
  · rw [if_pos c1, if_pos ((al_4 x).mp c1)]
    have w1 : (cF_Guard_firstWithout f g r 2 x 4 = -1 ∧ lg_cmp (mF_StepMachineModel_without f g r (mF_StepMachineModel_bare x) 4 2) 0 < 0 ∧ 0 ≤ x.toInt ∧ x.toInt < 131072) ∨ (∃ j, j < 4 ∧ cF_Guard_firstWithout f g r 2 x 4 = nI j ∧ ¬ lg_cmp (mF_StepMachineModel_without f g r (mF_StepMachineModel_bare x) 4 2) 0 < 0 ∧ (mF_StepMachineModel_without f g r (mF_StepMachineModel_bare x) 4 2).toInt32 = x + nI j) := wo_alike hS x (W := 4) (by decide) (by decide) 2
    rcases w1 with ⟨a1, a2, a3⟩ | ⟨j, j1, a1, a2, a3⟩
    · rw [if_pos a1, if_neg (fun q => by rw [lc_lt] at a2; rw [lc_ge] at q; omega)]
      obtain ⟨i0, i1⟩ := wo_mem (by decide) a2
      rw [e_4] at i1
      refine Or.inr ⟨rfl, show ¬ (1 : Int32) = 0 by decide, rfl, rfl, rfl, rfl, fun _ _ => ⟨x.toInt.toNat, ti_nI i0, ?_, ?_⟩⟩
      · rw [show (mF_StepMachineModel_widthOf 17).toInt.toNat = 4 from by decide]
        omega
      · rw [show (mF_StepMachineModel_widthOf 17).toInt.toNat = 4 from by decide]
        exact al_nat_4 (ti_nI i0) (by omega) c1
    · rw [if_neg (by rw [a1]; exact nI_nm1 (by omega)), if_pos (by rw [lc_lt] at a2; rw [lc_ge]; omega)]
      exact Or.inl ⟨show ¬ (1 : Int32) = 0 by decide, rfl, rfl, rfl, show ¬ cF_Core_hasEnded 4 = 0 by decide⟩
  · rw [if_neg c1, if_neg (fun q => c1 ((al_4 x).mpr q))]
    exact Or.inl ⟨show ¬ (1 : Int32) = 0 by decide, rfl, rfl, rfl, show ¬ cF_Core_hasEnded 4 = 0 by decide⟩
theorem fr_all {st cu : Int32} {reg part f g r : Nat → Int32} (hS : Rseg f g) (hr0 : reg 0 = 0) (hp : ∀ p, p < 3 → 0 ≤ (part p).toInt ∧ (part p).toInt < 32) {k : Int32} (hk0 : 0 ≤ k.toInt) (hk1 : k.toInt < 48) : FR st cu (reg (part 1).toNatClampNeg + part 3) k (cF_Core_failsInMemory st cu reg k (part 1) (part 3) f g r) (mF_StepMachineModel_canReach st cu k part f g r reg) := by
  rcases kdc hk0 hk1 with rfl | rfl | rfl | rfl | rfl | rfl | rfl | rfl | rfl | rfl | rfl | rfl | rfl | rfl | rfl | rfl | rfl | rfl | rfl | rfl | rfl | rfl | rfl | rfl | rfl | rfl | rfl | rfl | rfl | rfl | rfl | rfl | rfl | rfl | rfl | rfl | rfl | rfl | rfl | rfl | rfl | rfl | rfl | rfl | rfl | rfl | rfl | rfl
  · exact Or.inr ⟨rfl, show ¬ (1 : Int32) = 0 by decide, rfl, rfl, rfl, rfl, fun a b => absurd a (by decide)⟩
  · exact Or.inr ⟨rfl, show ¬ (1 : Int32) = 0 by decide, rfl, rfl, rfl, rfl, fun a b => absurd a (by decide)⟩
  · exact Or.inr ⟨rfl, show ¬ (1 : Int32) = 0 by decide, rfl, rfl, rfl, rfl, fun a b => absurd a (by decide)⟩
  · exact Or.inr ⟨rfl, show ¬ (1 : Int32) = 0 by decide, rfl, rfl, rfl, rfl, fun a b => absurd a (by decide)⟩
  · exact Or.inr ⟨rfl, show ¬ (1 : Int32) = 0 by decide, rfl, rfl, rfl, rfl, fun a b => absurd a (by decide)⟩
  · exact Or.inr ⟨rfl, show ¬ (1 : Int32) = 0 by decide, rfl, rfl, rfl, rfl, fun a b => absurd a (by decide)⟩
  · exact Or.inr ⟨rfl, show ¬ (1 : Int32) = 0 by decide, rfl, rfl, rfl, rfl, fun a b => absurd a (by decide)⟩
  · exact Or.inr ⟨rfl, show ¬ (1 : Int32) = 0 by decide, rfl, rfl, rfl, rfl, fun a b => absurd a (by decide)⟩
  · exact Or.inr ⟨rfl, show ¬ (1 : Int32) = 0 by decide, rfl, rfl, rfl, rfl, fun a b => absurd a (by decide)⟩
  · exact Or.inr ⟨rfl, show ¬ (1 : Int32) = 0 by decide, rfl, rfl, rfl, rfl, fun a b => absurd a (by decide)⟩
  · exact fr_10 hS hr0 hp
  · exact fr_11 hS hr0 hp
  · exact fr_12 hS hr0 hp
  · exact fr_13 hS hr0 hp
  · exact fr_14 hS hr0 hp
  · exact fr_15 hS hr0 hp
  · exact fr_16 hS hr0 hp
  · exact fr_17 hS hr0 hp
  · exact Or.inr ⟨rfl, show ¬ (1 : Int32) = 0 by decide, rfl, rfl, rfl, rfl, fun a b => absurd b (by decide)⟩
  · exact Or.inr ⟨rfl, show ¬ (1 : Int32) = 0 by decide, rfl, rfl, rfl, rfl, fun a b => absurd b (by decide)⟩
  · exact Or.inr ⟨rfl, show ¬ (1 : Int32) = 0 by decide, rfl, rfl, rfl, rfl, fun a b => absurd b (by decide)⟩
  · exact Or.inr ⟨rfl, show ¬ (1 : Int32) = 0 by decide, rfl, rfl, rfl, rfl, fun a b => absurd b (by decide)⟩
  · exact Or.inr ⟨rfl, show ¬ (1 : Int32) = 0 by decide, rfl, rfl, rfl, rfl, fun a b => absurd b (by decide)⟩
  · exact Or.inr ⟨rfl, show ¬ (1 : Int32) = 0 by decide, rfl, rfl, rfl, rfl, fun a b => absurd b (by decide)⟩
  · exact Or.inr ⟨rfl, show ¬ (1 : Int32) = 0 by decide, rfl, rfl, rfl, rfl, fun a b => absurd b (by decide)⟩
  · exact Or.inr ⟨rfl, show ¬ (1 : Int32) = 0 by decide, rfl, rfl, rfl, rfl, fun a b => absurd b (by decide)⟩
  · exact Or.inr ⟨rfl, show ¬ (1 : Int32) = 0 by decide, rfl, rfl, rfl, rfl, fun a b => absurd b (by decide)⟩
  · exact Or.inr ⟨rfl, show ¬ (1 : Int32) = 0 by decide, rfl, rfl, rfl, rfl, fun a b => absurd b (by decide)⟩
  · exact Or.inr ⟨rfl, show ¬ (1 : Int32) = 0 by decide, rfl, rfl, rfl, rfl, fun a b => absurd b (by decide)⟩
  · exact Or.inr ⟨rfl, show ¬ (1 : Int32) = 0 by decide, rfl, rfl, rfl, rfl, fun a b => absurd b (by decide)⟩
  · exact Or.inr ⟨rfl, show ¬ (1 : Int32) = 0 by decide, rfl, rfl, rfl, rfl, fun a b => absurd b (by decide)⟩
  · exact Or.inr ⟨rfl, show ¬ (1 : Int32) = 0 by decide, rfl, rfl, rfl, rfl, fun a b => absurd b (by decide)⟩
  · exact Or.inr ⟨rfl, show ¬ (1 : Int32) = 0 by decide, rfl, rfl, rfl, rfl, fun a b => absurd b (by decide)⟩
  · exact Or.inr ⟨rfl, show ¬ (1 : Int32) = 0 by decide, rfl, rfl, rfl, rfl, fun a b => absurd b (by decide)⟩
  · exact Or.inr ⟨rfl, show ¬ (1 : Int32) = 0 by decide, rfl, rfl, rfl, rfl, fun a b => absurd b (by decide)⟩
  · exact Or.inr ⟨rfl, show ¬ (1 : Int32) = 0 by decide, rfl, rfl, rfl, rfl, fun a b => absurd b (by decide)⟩
  · exact Or.inr ⟨rfl, show ¬ (1 : Int32) = 0 by decide, rfl, rfl, rfl, rfl, fun a b => absurd b (by decide)⟩
  · exact Or.inr ⟨rfl, show ¬ (1 : Int32) = 0 by decide, rfl, rfl, rfl, rfl, fun a b => absurd b (by decide)⟩
  · exact Or.inr ⟨rfl, show ¬ (1 : Int32) = 0 by decide, rfl, rfl, rfl, rfl, fun a b => absurd b (by decide)⟩
  · exact Or.inr ⟨rfl, show ¬ (1 : Int32) = 0 by decide, rfl, rfl, rfl, rfl, fun a b => absurd b (by decide)⟩
  · exact Or.inr ⟨rfl, show ¬ (1 : Int32) = 0 by decide, rfl, rfl, rfl, rfl, fun a b => absurd b (by decide)⟩
  · exact Or.inr ⟨rfl, show ¬ (1 : Int32) = 0 by decide, rfl, rfl, rfl, rfl, fun a b => absurd b (by decide)⟩
  · exact Or.inr ⟨rfl, show ¬ (1 : Int32) = 0 by decide, rfl, rfl, rfl, rfl, fun a b => absurd b (by decide)⟩
  · exact Or.inr ⟨rfl, show ¬ (1 : Int32) = 0 by decide, rfl, rfl, rfl, rfl, fun a b => absurd b (by decide)⟩
  · exact Or.inr ⟨rfl, show ¬ (1 : Int32) = 0 by decide, rfl, rfl, rfl, rfl, fun a b => absurd b (by decide)⟩
  · exact Or.inr ⟨rfl, show ¬ (1 : Int32) = 0 by decide, rfl, rfl, rfl, rfl, fun a b => absurd b (by decide)⟩
  · exact Or.inr ⟨rfl, show ¬ (1 : Int32) = 0 by decide, rfl, rfl, rfl, rfl, fun a b => absurd b (by decide)⟩
  · exact Or.inr ⟨rfl, show ¬ (1 : Int32) = 0 by decide, rfl, rfl, rfl, rfl, fun a b => absurd b (by decide)⟩
