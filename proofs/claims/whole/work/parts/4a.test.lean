theorem r_oneM {x : Int32} (h0 : 0 ≤ x.toInt) (h1 : x.toInt < 100000) : (x + 1).toInt = x.toInt + 1 := by
  rw [ti_add (by rw [e_1]; omega) (by rw [e_1]; omega), e_1]
def okMS (q : (Nat → Int32) × (Nat → Int32) × (Nat → Int32) × Int32 × Int32 × Int32 × Int32 × Int32) : Prop := 0 ≤ q.2.2.2.2.1.toInt ∧ 0 ≤ q.2.2.2.1.toInt ∧ q.2.2.2.1.toInt ≤ 2000
theorem okMS_mk {a b c : Nat → Int32} {p t d e f : Int32} (h1 : 0 ≤ t.toInt) (h2 : 0 ≤ p.toInt ∧ p.toInt ≤ 2000) : okMS (a, b, c, p, t, d, e, f) := ⟨h1, h2⟩
theorem mserve_ok {m_pc m_giv m_tak m_put m_st m_cu m_va m_sp m_kn : Int32} {m_reg m_in m_out m_kp : Nat → Int32} (hp0 : 0 ≤ m_giv.toInt ∧ m_giv.toInt ≤ 1000) (hp1 : 0 ≤ m_tak.toInt) (hp2 : 0 ≤ m_put.toInt ∧ m_put.toInt ≤ 2000) : okMS (mF_StepMachineModel_serve m_pc m_giv m_tak m_put m_st m_cu m_va m_sp m_kn m_reg m_in m_out m_kp) := by
  rw [mF_StepMachineModel_serve]
  split
  · split
    · exact okMS_mk hp1 hp2
    · rename_i h
      have a := ob_nle h
      rw [e_2000] at a
      exact okMS_mk hp1 (by rw [r_oneM hp2.1 (by omega)]; omega)
  · split
    · split
      · exact okMS_mk hp1 hp2
      · rename_i h
        have a := ob_nle h
        exact okMS_mk (by rw [r_oneM hp1 (by omega)]; omega) hp2
    · repeat' split
      all_goals exact okMS_mk hp1 hp2
def okMW (q : (Nat → Int32) × (Nat → Int32) × (Nat → Int32) × Int32 × Int32 × Int32 × Int32 × Int32 × (Nat → Int32) × Int32 × Int32 × Int32) : Prop := 0 ≤ q.2.2.2.2.1.toInt ∧ 0 ≤ q.2.2.2.1.toInt ∧ q.2.2.2.1.toInt ≤ 2000
theorem okMW_mk {a b c : Nat → Int32} {p t d e f : Int32} {g : Nat → Int32} {h i j : Int32} (h1 : 0 ≤ t.toInt) (h2 : 0 ≤ p.toInt ∧ p.toInt ≤ 2000) : okMW (a, b, c, p, t, d, e, f, g, h, i, j) := ⟨h1, h2⟩
set_option maxHeartbeats 4000000 in
theorem work_ok {m_on m_pc m_giv m_tak m_put m_st m_cu m_va m_sp m_kn m_by m_kd m_tg : Int32} {m_part m_mem m_mrk m_reg m_in m_out m_kp : Nat → Int32} (hp0 : 0 ≤ m_giv.toInt ∧ m_giv.toInt ≤ 1000) (hp1 : 0 ≤ m_tak.toInt) (hp2 : 0 ≤ m_put.toInt ∧ m_put.toInt ≤ 2000) : okMW (mF_StepMachineModel_work m_on m_pc m_giv m_tak m_put m_st m_cu m_va m_sp m_kn m_by m_kd m_tg m_part m_mem m_mrk m_reg m_in m_out m_kp) := by
  have hs := mserve_ok (m_pc := m_pc) (m_st := m_st) (m_cu := m_cu) (m_va := m_va) (m_sp := m_sp) (m_kn := m_kn) (m_reg := m_reg) (m_in := m_in) (m_out := m_out) (m_kp := m_kp) hp0 hp1 hp2
  simp only [mF_StepMachineModel_work, mF_StepMachineModel_work_1, mF_StepMachineModel_work_2, mF_StepMachineModel_work_3, mF_StepMachineModel_work_4, mF_StepMachineModel_work_5, mF_StepMachineModel_work_6, mF_StepMachineModel_work_7, mF_StepMachineModel_work_8, mF_StepMachineModel_work_9, mF_StepMachineModel_work_10, mF_StepMachineModel_work_11, mF_StepMachineModel_work_12, mF_StepMachineModel_work_13]
  repeat' split
  all_goals first | exact okMW_mk hp1 hp2 | exact okMW_mk hs.1 hs.2
def okST (q : Int32 × (Nat → Int32) × (Nat → Int32) × (Nat → Int32) × Int32 × Int32 × Int32 × Int32 × Int32 × (Nat → Int32) × Int32 × Int32 × Int32 × (Nat → Int32) × Int32 × Int32 × Int32 × Int32 × Int32 × Int32) : Prop := 0 ≤ q.2.2.2.2.2.1.toInt ∧ (0 ≤ q.2.2.2.2.1.toInt ∧ q.2.2.2.2.1.toInt ≤ 2000) ∧ (0 ≤ q.2.2.2.2.2.2.2.2.2.2.2.2.2.2.2.2.2.1.toInt ∧ q.2.2.2.2.2.2.2.2.2.2.2.2.2.2.2.2.2.1.toInt ≤ 99)
theorem okST_mk {z : Int32} {a b c : Nat → Int32} {p t d e f : Int32} {g : Nat → Int32} {h i j : Int32} {k : Nat → Int32} {l m n o u v : Int32} (h1 : 0 ≤ t.toInt) (h2 : 0 ≤ p.toInt ∧ p.toInt ≤ 2000) (h3 : 0 ≤ o.toInt ∧ o.toInt ≤ 99) : okST (z, a, b, c, p, t, d, e, f, g, h, i, j, k, l, m, n, o, u, v) := ⟨h1, h2, h3⟩
set_option maxHeartbeats 4000000 in
theorem mstep_ok {m_on m_pc m_giv m_tak m_put m_st m_cu m_va m_sp m_un m_kc m_kn m_by m_kd m_tg m_ju : Int32} {m_part m_mem m_mrk m_sf m_ss m_sr m_reg m_in m_out m_kp : Nat → Int32} (hp0 : 0 ≤ m_giv.toInt ∧ m_giv.toInt ≤ 1000) (hp1 : 0 ≤ m_tak.toInt) (hp2 : 0 ≤ m_put.toInt ∧ m_put.toInt ≤ 2000) (hn0 : 0 ≤ m_kn.toInt ∧ m_kn.toInt ≤ 99) : okST (mF_StepMachineModel_step m_on m_pc m_giv m_tak m_put m_st m_cu m_va m_sp m_un m_kc m_kn m_by m_kd m_tg m_ju m_part m_mem m_mrk m_sf m_ss m_sr m_reg m_in m_out m_kp) := by
  simp only [mF_StepMachineModel_step, mF_StepMachineModel_step_1, mF_StepMachineModel_step_2, mF_StepMachineModel_step_3, mF_StepMachineModel_step_4, mF_StepMachineModel_step_5, mF_StepMachineModel_step_6, mF_StepMachineModel_step_7, mF_StepMachineModel_step_8]
  repeat' split
  all_goals first | exact okST_mk hp1 hp2 hn0 | exact okST_mk (work_ok hp0 hp1 hp2).1 (work_ok hp0 hp1 hp2).2 (keep_rng hn0)
/-- what canReach has seen -/
theorem reach_mem {m_st m_cu m_kd : Int32} {m_part m_sf m_ss m_sr m_reg : Nat → Int32} (h : ¬ (mF_StepMachineModel_canReach m_st m_cu m_kd m_part m_sf m_ss m_sr m_reg).1 = 0) (h1 : 9 < m_kd.toInt) (h2 : m_kd.toInt < 18) : inM ((m_reg (m_part (1 : Int32).toNatClampNeg).toNatClampNeg) + (m_part (3 : Int32).toNatClampNeg)) (mF_StepMachineModel_widthOf m_kd) := by
  have hw : 0 < (mF_StepMachineModel_widthOf m_kd).toInt := by
    rcases wd_rng m_kd with h | h | h <;> (rw [h]; decide)
  sorry
