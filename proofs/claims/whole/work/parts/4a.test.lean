theorem r_one {x : Int32} (h0 : 0 ≤ x.toInt) (h1 : x.toInt < 100000) : (x + 1).toInt = x.toInt + 1 := by
  have e : (1 : Int32).toInt = 1 := by decide
  rw [Int32.toInt_add, e]
  exact Int.bmod_eq_of_le (by omega) (by omega)
theorem put_rng {p : Int32} {o : Nat → Int32} {x : Int32} (hp2 : 0 ≤ p.toInt ∧ p.toInt ≤ 2000) : 0 ≤ (cF_Ports_put p o x).2.2.toInt ∧ (cF_Ports_put p o x).2.2.toInt ≤ 2000 := by
  rw [cF_Ports_put]
  split
  · rename_i h
    have a := Int32.lt_iff_toInt_lt.mp h
    have e : (2000 : Int32).toInt = 2000 := by decide
    rw [e] at a
    show 0 ≤ (p + 1).toInt ∧ (p + 1).toInt ≤ 2000
    rw [r_one hp2.1 (by omega)]
    omega
  · exact hp2
theorem take_rng {g t : Int32} {i : Nat → Int32} (hp0 : 0 ≤ g.toInt ∧ g.toInt ≤ 1000) (hp1 : 0 ≤ t.toInt) : 0 ≤ (cF_Ports_take g t i).2.toInt := by
  rw [cF_Ports_take]
  split
  · rename_i h
    have a := Int32.lt_iff_toInt_lt.mp h
    show 0 ≤ (t + 1).toInt
    rw [r_one hp1 (by omega)]
    omega
  · exact hp1
def okS (q : (Nat → Int32) × Int32 × Int32 × Int32 × Int32 × (Nat → Int32) × Int32 × Int32) : Prop := 0 ≤ q.2.2.2.2.2.2.2.toInt ∧ 0 ≤ q.2.2.2.2.2.2.1.toInt ∧ q.2.2.2.2.2.2.1.toInt ≤ 2000
theorem okS_mk {a : Nat → Int32} {b c d e : Int32} {f : Nat → Int32} {p t : Int32} (h1 : 0 ≤ t.toInt) (h2 : 0 ≤ p.toInt ∧ p.toInt ≤ 2000) : okS (a, b, c, d, e, f, p, t) := ⟨h1, h2⟩
theorem serve_ok {v_pc v_st v_cu v_va v_sp : Int32} {v_reg : Nat → Int32} {w_n v_giv v_tak v_put : Int32} {v_in v_out : Nat → Int32} (hp0 : 0 ≤ v_giv.toInt ∧ v_giv.toInt ≤ 1000) (hp1 : 0 ≤ v_tak.toInt) (hp2 : 0 ≤ v_put.toInt ∧ v_put.toInt ≤ 2000) : okS (cF_Core_serve v_pc v_st v_cu v_va v_sp v_reg w_n v_giv v_tak v_put v_in v_out) := by
  rw [cF_Core_serve]
  split
  · exact okS_mk hp1 (put_rng hp2)
  · split
    · exact okS_mk (take_rng hp0 hp1) hp2
    · repeat' split
      all_goals exact okS_mk hp1 hp2
def okP (q : (Nat → Int32) × (Nat → Int32) × Int32 × Int32 × Int32 × Int32 × (Nat → Int32) × Int32 × Int32) : Prop := 0 ≤ q.2.2.2.2.2.2.2.2.toInt ∧ 0 ≤ q.2.2.2.2.2.2.2.1.toInt ∧ q.2.2.2.2.2.2.2.1.toInt ≤ 2000
theorem okP_mk {a b : Nat → Int32} {c d e f : Int32} {g : Nat → Int32} {p t : Int32} (h1 : 0 ≤ t.toInt) (h2 : 0 ≤ p.toInt ∧ p.toInt ≤ 2000) : okP (a, b, c, d, e, f, g, p, t) := ⟨h1, h2⟩
theorem perform_ok {v_pc v_st v_cu v_va v_sp : Int32} {v_reg : Nat → Int32} {w_n w_k w_d w_a w_b w_i v_on : Int32} {v_mrk v_mem : Nat → Int32} {v_giv v_tak v_put : Int32} {v_in v_out : Nat → Int32} (hp0 : 0 ≤ v_giv.toInt ∧ v_giv.toInt ≤ 1000) (hp1 : 0 ≤ v_tak.toInt) (hp2 : 0 ≤ v_put.toInt ∧ v_put.toInt ≤ 2000) : okP (cF_Core_perform v_pc v_st v_cu v_va v_sp v_reg w_n w_k w_d w_a w_b w_i v_on v_mrk v_mem v_giv v_tak v_put v_in v_out) := by
  have hs := serve_ok (v_pc := v_pc) (v_st := v_st) (v_cu := v_cu) (v_va := v_va) (v_sp := v_sp) (v_reg := v_reg) (w_n := w_n) (v_in := v_in) (v_out := v_out) hp0 hp1 hp2
  rw [cF_Core_perform]
  repeat' split
  all_goals first | exact okP_mk hp1 hp2 | exact okP_mk hs.1 hs.2
theorem open_rng {x c : Int32} (h : 0 ≤ x.toInt ∧ x.toInt ≤ 99) : 0 ≤ (cF_Trail_open x c).1.toInt ∧ (cF_Trail_open x c).1.toInt ≤ 99 := by
  rw [cF_Trail_open]
  by_cases h9 : 99 ≤ x
  · rw [if_pos h9]
    split <;> exact (by decide : 0 ≤ (0 : Int32).toInt ∧ (0 : Int32).toInt ≤ 99)
  · rw [if_neg h9]
    have a := ob_nle h9
    have e : (99 : Int32).toInt = 99 := by decide
    rw [e] at a
    have k : 0 ≤ (x + 1).toInt ∧ (x + 1).toInt ≤ 99 := by
      rw [r_one h.1 (by omega)]
      omega
    split <;> exact k
theorem adv_rng_p {v_pc v_st v_cu v_va v_sp v_un : Int32} {v_reg : Nat → Int32} {w_n w_k w_d w_a w_b w_i v_on : Int32} {v_beg v_siz v_alw v_mrk v_mem : Nat → Int32} {v_giv v_tak v_put : Int32} {v_in v_out : Nat → Int32} {v_nx v_ct : Int32} {v_kd : Nat → Nat → Int32} (hp0 : 0 ≤ v_giv.toInt ∧ v_giv.toInt ≤ 1000) (hp1 : 0 ≤ v_tak.toInt) (hp2 : 0 ≤ v_put.toInt ∧ v_put.toInt ≤ 2000) (hn0 : 0 ≤ v_nx.toInt ∧ v_nx.toInt ≤ 99) : 0 ≤ (cF_Core_advance v_pc v_st v_cu v_va v_sp v_un v_reg w_n w_k w_d w_a w_b w_i v_on v_beg v_siz v_alw v_mrk v_mem v_giv v_tak v_put v_in v_out v_nx v_ct v_kd).2.2.2.2.2.2.2.2.2.2.1.toInt ∧ (0 ≤ (cF_Core_advance v_pc v_st v_cu v_va v_sp v_un v_reg w_n w_k w_d w_a w_b w_i v_on v_beg v_siz v_alw v_mrk v_mem v_giv v_tak v_put v_in v_out v_nx v_ct v_kd).2.2.2.2.2.2.2.2.2.1.toInt ∧ (cF_Core_advance v_pc v_st v_cu v_va v_sp v_un v_reg w_n w_k w_d w_a w_b w_i v_on v_beg v_siz v_alw v_mrk v_mem v_giv v_tak v_put v_in v_out v_nx v_ct v_kd).2.2.2.2.2.2.2.2.2.1.toInt ≤ 2000) ∧ (0 ≤ (cF_Core_advance v_pc v_st v_cu v_va v_sp v_un v_reg w_n w_k w_d w_a w_b w_i v_on v_beg v_siz v_alw v_mrk v_mem v_giv v_tak v_put v_in v_out v_nx v_ct v_kd).2.2.2.2.2.2.2.2.2.2.2.2.2.2.2.2.2.1.toInt ∧ (cF_Core_advance v_pc v_st v_cu v_va v_sp v_un v_reg w_n w_k w_d w_a w_b w_i v_on v_beg v_siz v_alw v_mrk v_mem v_giv v_tak v_put v_in v_out v_nx v_ct v_kd).2.2.2.2.2.2.2.2.2.2.2.2.2.2.2.2.2.1.toInt ≤ 99) := by
  rw [cF_Core_advance, cF_Core_advance_1]
  generalize cF_Core_fetch v_pc v_st v_cu v_beg v_siz v_alw v_mem w_n w_k w_d w_a w_b w_i = q_1
  by_cases h1 : q_1.1 = 0
  · rw [if_pos h1]
    exact ⟨hp1, hp2, hn0⟩
  · rw [if_neg h1, cF_Core_advance_2]
    generalize cF_Core_failsInMemory q_1.2.1 q_1.2.2.1 v_reg q_1.2.2.2.2.1 q_1.2.2.2.2.2.2.1 q_1.2.2.2.2.2.2.2.2 v_beg v_siz v_alw = q_8
    by_cases h2 : q_8.1 = 0
    · rw [if_pos h2, cF_Core_advance_3, cF_Core_advance_4, cF_Core_advance_5, cF_Core_advance_6]
      have hk := perform_ok (v_pc := v_pc) (v_st := (cF_Core_become 0 0).1) (v_cu := (cF_Core_become 0 0).2) (v_va := v_va) (v_sp := v_sp) (v_reg := v_reg) (w_n := q_1.2.2.2.1) (w_k := q_1.2.2.2.2.1) (w_d := q_1.2.2.2.2.2.1) (w_a := q_1.2.2.2.2.2.2.1) (w_b := q_1.2.2.2.2.2.2.2.1) (w_i := q_1.2.2.2.2.2.2.2.2) (v_on := v_on) (v_mrk := v_mrk) (v_mem := v_mem) (v_in := v_in) (v_out := v_out) hp0 hp1 hp2
      have ho := open_rng (x := v_nx) (c := v_ct) hn0
      split
      · exact ⟨hk.1, hk.2, ho⟩
      · exact ⟨hk.1, hk.2, ho⟩
    · rw [if_neg h2]
      exact ⟨hp1, hp2, hn0⟩
