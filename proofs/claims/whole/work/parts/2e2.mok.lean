theorem r_oneM {x : Int32} (h0 : 0 ≤ x.toInt) (h1 : x.toInt < 100000) : (x + 1).toInt = x.toInt + 1 := by
  rw [ti_add (by rw [e_1]; omega) (by rw [e_1]; omega), e_1]
def okMS (q : (Nat → Int32) × (Nat → Int32) × (Nat → Int32) × Int32 × Int32 × Int32 × Int32 × Int32) : Prop := 0 ≤ q.2.2.2.2.1.toInt ∧ 0 ≤ q.2.2.2.1.toInt ∧ q.2.2.2.1.toInt ≤ 2000
theorem okMS_mk {a b c : Nat → Int32} {p t d e f : Int32} (h1 : 0 ≤ t.toInt) (h2 : 0 ≤ p.toInt ∧ p.toInt ≤ 2000) : okMS (a, b, c, p, t, d, e, f) := ⟨h1, h2⟩
theorem mserve_ok {m_pc m_giv m_tak m_put m_st m_cu m_va m_sp m_kn : Int32} {m_reg m_in m_out m_kp : Nat → Int32} (hp0 : 0 ≤ m_giv.toInt ∧ m_giv.toInt ≤ 1000) (hp1 : 0 ≤ m_tak.toInt) (hp2 : 0 ≤ m_put.toInt ∧ m_put.toInt ≤ 2000) : okMS (mF_StepMachineModel_serve m_pc m_giv m_tak m_put m_st m_cu m_va m_sp m_kn m_reg m_in m_out m_kp) := by
  rw [mF_StepMachineModel_serve]
  refine ite_h (P := okMS) (fun _ => ?_) (fun _ => ?_)
  · refine ite_h (P := okMS) (fun _ => ?_) (fun h => ?_)
    · exact okMS_mk hp1 hp2
    · have a := ob_nle h
      rw [e_2000] at a
      exact okMS_mk hp1 (by rw [r_oneM hp2.1 (by omega)]; omega)
  · refine ite_h (P := okMS) (fun _ => ?_) (fun _ => ?_)
    · refine ite_h (P := okMS) (fun _ => ?_) (fun h => ?_)
      · exact okMS_mk hp1 hp2
      · have a := ob_nle h
        exact okMS_mk (by rw [r_oneM hp1 (by omega)]; omega) hp2
    · repeat' (with_reducible refine ite_q (P := okMS) ?_ ?_)
      all_goals exact okMS_mk hp1 hp2
def okMW (q : (Nat → Int32) × (Nat → Int32) × (Nat → Int32) × Int32 × Int32 × Int32 × Int32 × Int32 × (Nat → Int32) × Int32 × Int32 × Int32) : Prop := 0 ≤ q.2.2.2.2.1.toInt ∧ 0 ≤ q.2.2.2.1.toInt ∧ q.2.2.2.1.toInt ≤ 2000
theorem okMW_mk {a b c : Nat → Int32} {p t d e f : Int32} {g : Nat → Int32} {h i j : Int32} (h1 : 0 ≤ t.toInt) (h2 : 0 ≤ p.toInt ∧ p.toInt ≤ 2000) : okMW (a, b, c, p, t, d, e, f, g, h, i, j) := ⟨h1, h2⟩
set_option maxHeartbeats 4000000 in
theorem work_ok {m_on m_pc m_giv m_tak m_put m_st m_cu m_va m_sp m_kn m_by m_kd m_tg : Int32} {m_part m_mem m_mrk m_reg m_in m_out m_kp : Nat → Int32} (hp0 : 0 ≤ m_giv.toInt ∧ m_giv.toInt ≤ 1000) (hp1 : 0 ≤ m_tak.toInt) (hp2 : 0 ≤ m_put.toInt ∧ m_put.toInt ≤ 2000) : okMW (mF_StepMachineModel_work m_on m_pc m_giv m_tak m_put m_st m_cu m_va m_sp m_kn m_by m_kd m_tg m_part m_mem m_mrk m_reg m_in m_out m_kp) := by
  have hs := mserve_ok (m_pc := m_pc) (m_st := m_st) (m_cu := m_cu) (m_va := m_va) (m_sp := m_sp) (m_kn := m_kn) (m_reg := m_reg) (m_in := m_in) (m_out := m_out) (m_kp := m_kp) hp0 hp1 hp2
  rw [mF_StepMachineModel_work]
  repeat' (with_reducible refine ite_q (P := okMW) ?_ ?_)
  all_goals try (first | rw [mF_StepMachineModel_work_1] | rw [mF_StepMachineModel_work_2] | rw [mF_StepMachineModel_work_3] | rw [mF_StepMachineModel_work_4] | rw [mF_StepMachineModel_work_5] | rw [mF_StepMachineModel_work_6] | rw [mF_StepMachineModel_work_7] | rw [mF_StepMachineModel_work_8] | rw [mF_StepMachineModel_work_9] | rw [mF_StepMachineModel_work_10] | rw [mF_StepMachineModel_work_11] | rw [mF_StepMachineModel_work_12] | rw [mF_StepMachineModel_work_13])
  all_goals repeat' (with_reducible refine ite_q (P := okMW) ?_ ?_)
  all_goals try (first | rw [mF_StepMachineModel_work_1] | rw [mF_StepMachineModel_work_2] | rw [mF_StepMachineModel_work_3] | rw [mF_StepMachineModel_work_4] | rw [mF_StepMachineModel_work_5] | rw [mF_StepMachineModel_work_6] | rw [mF_StepMachineModel_work_7] | rw [mF_StepMachineModel_work_8] | rw [mF_StepMachineModel_work_9] | rw [mF_StepMachineModel_work_10] | rw [mF_StepMachineModel_work_11] | rw [mF_StepMachineModel_work_12] | rw [mF_StepMachineModel_work_13])
  all_goals repeat' (with_reducible refine ite_q (P := okMW) ?_ ?_)
  all_goals try (first | rw [mF_StepMachineModel_work_1] | rw [mF_StepMachineModel_work_2] | rw [mF_StepMachineModel_work_3] | rw [mF_StepMachineModel_work_4] | rw [mF_StepMachineModel_work_5] | rw [mF_StepMachineModel_work_6] | rw [mF_StepMachineModel_work_7] | rw [mF_StepMachineModel_work_8] | rw [mF_StepMachineModel_work_9] | rw [mF_StepMachineModel_work_10] | rw [mF_StepMachineModel_work_11] | rw [mF_StepMachineModel_work_12] | rw [mF_StepMachineModel_work_13])
  all_goals repeat' (with_reducible refine ite_q (P := okMW) ?_ ?_)
  all_goals try (first | rw [mF_StepMachineModel_work_1] | rw [mF_StepMachineModel_work_2] | rw [mF_StepMachineModel_work_3] | rw [mF_StepMachineModel_work_4] | rw [mF_StepMachineModel_work_5] | rw [mF_StepMachineModel_work_6] | rw [mF_StepMachineModel_work_7] | rw [mF_StepMachineModel_work_8] | rw [mF_StepMachineModel_work_9] | rw [mF_StepMachineModel_work_10] | rw [mF_StepMachineModel_work_11] | rw [mF_StepMachineModel_work_12] | rw [mF_StepMachineModel_work_13])
  all_goals repeat' (with_reducible refine ite_q (P := okMW) ?_ ?_)
  all_goals first | exact okMW_mk hp1 hp2 | exact okMW_mk hs.1 hs.2
def okST (q : Int32 × (Nat → Int32) × (Nat → Int32) × (Nat → Int32) × Int32 × Int32 × Int32 × Int32 × Int32 × (Nat → Int32) × Int32 × Int32 × Int32 × (Nat → Int32) × Int32 × Int32 × Int32 × Int32 × Int32 × Int32) : Prop := 0 ≤ q.2.2.2.2.2.1.toInt ∧ (0 ≤ q.2.2.2.2.1.toInt ∧ q.2.2.2.2.1.toInt ≤ 2000) ∧ (0 ≤ q.2.2.2.2.2.2.2.2.2.2.2.2.2.2.2.2.2.1.toInt ∧ q.2.2.2.2.2.2.2.2.2.2.2.2.2.2.2.2.2.1.toInt ≤ 99)
theorem okST_mk {z : Int32} {a b c : Nat → Int32} {p t d e f : Int32} {g : Nat → Int32} {h i j : Int32} {k : Nat → Int32} {l m n o u v : Int32} (h1 : 0 ≤ t.toInt) (h2 : 0 ≤ p.toInt ∧ p.toInt ≤ 2000) (h3 : 0 ≤ o.toInt ∧ o.toInt ≤ 99) : okST (z, a, b, c, p, t, d, e, f, g, h, i, j, k, l, m, n, o, u, v) := ⟨h1, h2, h3⟩
theorem st4_ok {sp un : Int32} {q36 : Int32 × (Nat → Int32) × Int32 × Int32 × Int32 × Int32} {q65 : (Nat → Int32) × Int32 × Int32} {q79 : (Nat → Int32) × (Nat → Int32) × (Nat → Int32) × Int32 × Int32 × Int32 × Int32 × Int32 × (Nat → Int32) × Int32 × Int32 × Int32} (h1 : okMW q79) (h3 : 0 ≤ q65.2.2.toInt ∧ q65.2.2.toInt ≤ 99) : okST (mF_StepMachineModel_step_4 sp un q36 q65 q79) := ⟨h1.1, h1.2, h3⟩
theorem st8_ok {sp un : Int32} {q36 : Int32 × (Nat → Int32) × Int32 × Int32 × Int32 × Int32} {q65 : (Nat → Int32) × Int32 × Int32} {q79 : (Nat → Int32) × (Nat → Int32) × (Nat → Int32) × Int32 × Int32 × Int32 × Int32 × Int32 × (Nat → Int32) × Int32 × Int32 × Int32} (h1 : okMW q79) (h3 : 0 ≤ q65.2.2.toInt ∧ q65.2.2.toInt ≤ 99) : okST (mF_StepMachineModel_step_8 sp un q36 q65 q79) := ⟨h1.1, h1.2, h3⟩
theorem st2_ok {m_on m_pc m_giv m_tak m_put m_st m_cu m_va m_sp m_un m_kc m_kn m_tg m_ju : Int32} {m_mem m_mrk m_sf m_ss m_sr m_reg m_in m_out m_kp : Nat → Int32} (hp0 : 0 ≤ m_giv.toInt ∧ m_giv.toInt ≤ 1000) (hp1 : 0 ≤ m_tak.toInt) (hp2 : 0 ≤ m_put.toInt ∧ m_put.toInt ≤ 2000) (hn0 : 0 ≤ m_kn.toInt ∧ m_kn.toInt ≤ 99) (q36 : Int32 × (Nat → Int32) × Int32 × Int32 × Int32 × Int32) (q43 : Int32 × Int32 × Int32) : okST (mF_StepMachineModel_step_2 m_on m_pc m_giv m_tak m_put m_st m_cu m_va m_sp m_un m_kc m_kn m_tg m_ju m_mem m_mrk m_reg m_in m_out m_kp q36 q43) := by
  rw [mF_StepMachineModel_step_2]
  refine ite_q (P := okST) (okST_mk hp1 hp2 hn0) ?_
  rw [mF_StepMachineModel_step_3]
  exact st4_ok (work_ok hp0 hp1 hp2) (keep_rng hn0)
theorem st1_ok {m_on m_pc m_giv m_tak m_put m_st m_cu m_va m_sp m_un m_kc m_kn m_tg m_ju : Int32} {m_mem m_mrk m_sf m_ss m_sr m_reg m_in m_out m_kp : Nat → Int32} (hp0 : 0 ≤ m_giv.toInt ∧ m_giv.toInt ≤ 1000) (hp1 : 0 ≤ m_tak.toInt) (hp2 : 0 ≤ m_put.toInt ∧ m_put.toInt ≤ 2000) (hn0 : 0 ≤ m_kn.toInt ∧ m_kn.toInt ≤ 99) (q36 : Int32 × (Nat → Int32) × Int32 × Int32 × Int32 × Int32) : okST (mF_StepMachineModel_step_1 m_on m_pc m_giv m_tak m_put m_st m_cu m_va m_sp m_un m_kc m_kn m_tg m_ju m_mem m_mrk m_sf m_ss m_sr m_reg m_in m_out m_kp q36) := by
  rw [mF_StepMachineModel_step_1]
  refine ite_q (P := okST) (okST_mk hp1 hp2 hn0) ?_
  exact st2_ok (m_sf := m_sf) (m_ss := m_ss) (m_sr := m_sr) hp0 hp1 hp2 hn0 _ _
theorem st6_ok {m_on m_pc m_giv m_tak m_put m_st m_cu m_va m_sp m_un m_kc m_kn m_tg m_ju : Int32} {m_mem m_mrk m_sf m_ss m_sr m_reg m_in m_out m_kp : Nat → Int32} (hp0 : 0 ≤ m_giv.toInt ∧ m_giv.toInt ≤ 1000) (hp1 : 0 ≤ m_tak.toInt) (hp2 : 0 ≤ m_put.toInt ∧ m_put.toInt ≤ 2000) (hn0 : 0 ≤ m_kn.toInt ∧ m_kn.toInt ≤ 99) (q36 : Int32 × (Nat → Int32) × Int32 × Int32 × Int32 × Int32) (q43 : Int32 × Int32 × Int32) : okST (mF_StepMachineModel_step_6 m_on m_pc m_giv m_tak m_put m_st m_cu m_va m_sp m_un m_kc m_kn m_tg m_ju m_mem m_mrk m_reg m_in m_out m_kp q36 q43) := by
  rw [mF_StepMachineModel_step_6]
  refine ite_q (P := okST) (okST_mk hp1 hp2 hn0) ?_
  rw [mF_StepMachineModel_step_7]
  exact st8_ok (work_ok hp0 hp1 hp2) (keep_rng hn0)
theorem st5_ok {m_on m_pc m_giv m_tak m_put m_st m_cu m_va m_sp m_un m_kc m_kn m_tg m_ju : Int32} {m_mem m_mrk m_sf m_ss m_sr m_reg m_in m_out m_kp : Nat → Int32} (hp0 : 0 ≤ m_giv.toInt ∧ m_giv.toInt ≤ 1000) (hp1 : 0 ≤ m_tak.toInt) (hp2 : 0 ≤ m_put.toInt ∧ m_put.toInt ≤ 2000) (hn0 : 0 ≤ m_kn.toInt ∧ m_kn.toInt ≤ 99) (q36 : Int32 × (Nat → Int32) × Int32 × Int32 × Int32 × Int32) : okST (mF_StepMachineModel_step_5 m_on m_pc m_giv m_tak m_put m_st m_cu m_va m_sp m_un m_kc m_kn m_tg m_ju m_mem m_mrk m_sf m_ss m_sr m_reg m_in m_out m_kp q36) := by
  rw [mF_StepMachineModel_step_5]
  refine ite_q (P := okST) (okST_mk hp1 hp2 hn0) ?_
  exact st6_ok (m_sf := m_sf) (m_ss := m_ss) (m_sr := m_sr) hp0 hp1 hp2 hn0 _ _
theorem mstep_ok {m_on m_pc m_giv m_tak m_put m_st m_cu m_va m_sp m_un m_kc m_kn m_by m_kd m_tg m_ju : Int32} {m_part m_mem m_mrk m_sf m_ss m_sr m_reg m_in m_out m_kp : Nat → Int32} (hp0 : 0 ≤ m_giv.toInt ∧ m_giv.toInt ≤ 1000) (hp1 : 0 ≤ m_tak.toInt) (hp2 : 0 ≤ m_put.toInt ∧ m_put.toInt ≤ 2000) (hn0 : 0 ≤ m_kn.toInt ∧ m_kn.toInt ≤ 99) : okST (mF_StepMachineModel_step m_on m_pc m_giv m_tak m_put m_st m_cu m_va m_sp m_un m_kc m_kn m_by m_kd m_tg m_ju m_part m_mem m_mrk m_sf m_ss m_sr m_reg m_in m_out m_kp) := by
  rw [mF_StepMachineModel_step]
  refine ite_q (P := okST) (ite_q (P := okST) ?_ ?_) (okST_mk hp1 hp2 hn0)
  · exact st1_ok hp0 hp1 hp2 hn0 _
  · exact st5_ok hp0 hp1 hp2 hn0 _
