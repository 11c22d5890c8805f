/-! ===== the relation and what is owed (written by wip/whole/gen3.py) ===== -/
def i_Rel (k : Nat) (u : SX) (v : SY) : Prop := ∃ t, cm_R (100 * k) t u v
theorem cm_lo {j n : Nat} (h : j < n + 1) (hn : n + 1 < 2 ^ 31) : ¬ nI j < 0 ∧ ¬ nI (n + 1) ≤ nI j ∧ ¬ nI n < nI j ∧ vp_in (nI j) (n + 1) := ⟨nI_pos (by omega), nI_ge h hn, nI_nlt (by omega) (by omega), vp_in_nI h hn⟩
theorem i_up {k : Nat} {u : SX} {v : SY} (h : i_Rel k u v) : i_Rel (k + 4) u v := by
  obtain ⟨t, oc, ec, st, pl, inn, otr, pg, kp, mem, reg, out, spc, e1, e2, hI⟩ := h
  exact ⟨t, oc, ec, st, pl, inn, otr, pg, kp, mem, reg, out, spc, e1, e2, cm_Iup hI (by omega)⟩
theorem i_vc0 : wpX_init (fun u => wpY_init (fun v => i_Rel 0 u v)) := by
  refine Exists.intro 9 (cm_sx ?_)
  refine nm_e ⟨0, 0, 0, 0, 0, 1, 0, 0, 0, fun _ => 0, fun _ => 0, fun _ => 0, upd (fun _ => 0) 1 (-1), ?_, rfl, cm_in0⟩
  rw [cm_z0]
  rfl
theorem i_vc_poke {k : Nat} {u : SX} {v : SY} (I : i_Rel k u v) (hk : k + 4 ≤ 2048) (v1 : Int32) (v2 : Int32) : wpX_poke (fun r u' => wpY_poke (fun r' v' => r' = r ∧ i_Rel (k + 4) u' v') v v1 v2) u v1 v2 := by
  obtain ⟨t, oc, ec, st, pl, inn, otr, pg, kp, mem, reg, out, spc, rfl, rfl, hI⟩ := I
  have hJ : cm_I (100 * (k + 4)) oc inn otr pg kp := cm_Iup hI (by omega)
  rcases pk_ix v1 (n := 128) (by decide) with h | h | ⟨j, hj, rfl⟩
  · repeat' (first | exact ⟨rfl, t, oc, ec, st, pl, inn, otr, pg, kp, mem, reg, out, spc, rfl, rfl, hJ⟩ | exact ⟨rfl, t, oc, ec, st, pl, inn, otr, pg, kp, upd mem (nI j).toNatClampNeg v2, reg, out, spc, rfl, rfl, hJ⟩ | refine br_t (by decide) ?_ | refine br_f (by decide) ?_ | refine br_t (by assumption) ?_ | refine br_f (by assumption) ?_ | refine And.intro (by assumption) ?_ | refine nm_e ?_)
  · have h1 : (128 : Int32) ≤ v1 := h
    have h3 : ¬ v1 < (128 : Int32) := Int32.not_lt.mpr h
    obtain ⟨h0, h2⟩ := cm_big (n := 127) (by decide) h
    have h2' : (127 : Int32) < v1 := h2
    repeat' (first | exact ⟨rfl, t, oc, ec, st, pl, inn, otr, pg, kp, mem, reg, out, spc, rfl, rfl, hJ⟩ | exact ⟨rfl, t, oc, ec, st, pl, inn, otr, pg, kp, upd mem (nI j).toNatClampNeg v2, reg, out, spc, rfl, rfl, hJ⟩ | refine br_t (by decide) ?_ | refine br_f (by decide) ?_ | refine br_t (by assumption) ?_ | refine br_f (by assumption) ?_ | refine And.intro (by assumption) ?_ | refine nm_e ?_)
  · obtain ⟨h0, h1, h2, h4⟩ := cm_lo (n := 127) hj (by decide)
    have h1' : ¬ (128 : Int32) ≤ nI j := h1
    have h2' : ¬ (127 : Int32) < nI j := h2
    have h3 : nI j < (128 : Int32) := Int32.not_le.mp h1
    have h4' : vp_in (nI j) 128 := h4
    repeat' (first | exact ⟨rfl, t, oc, ec, st, pl, inn, otr, pg, kp, mem, reg, out, spc, rfl, rfl, hJ⟩ | exact ⟨rfl, t, oc, ec, st, pl, inn, otr, pg, kp, upd mem (nI j).toNatClampNeg v2, reg, out, spc, rfl, rfl, hJ⟩ | refine br_t (by decide) ?_ | refine br_f (by decide) ?_ | refine br_t (by assumption) ?_ | refine br_f (by assumption) ?_ | refine And.intro (by assumption) ?_ | refine nm_e ?_)
theorem i_vc_code {k : Nat} {u : SX} {v : SY} (I : i_Rel k u v) (hk : k + 4 ≤ 2048) (v1 : Int32) (v2 : Int32) (v3 : Int32) : wpX_code (fun r u' => wpY_code (fun r' v' => r' = r ∧ i_Rel (k + 4) u' v') v v1 v2 v3) u v1 v2 v3 := by
  obtain ⟨t, oc, ec, st, pl, inn, otr, pg, kp, mem, reg, out, spc, rfl, rfl, hI⟩ := I
  have hJ : cm_I (100 * (k + 4)) oc inn otr pg kp := cm_Iup hI (by omega)
  rcases pk_ix v1 (n := 128) (by decide) with h | h | ⟨j, hj, rfl⟩
  · repeat' (first | exact ⟨rfl, t, oc, ec, st, pl, inn, otr, pg, kp, mem, reg, out, spc, rfl, rfl, hJ⟩ | refine br_t (by decide) ?_ | refine br_f (by decide) ?_ | refine br_t (by assumption) ?_ | refine br_f (by assumption) ?_ | refine And.intro (by assumption) ?_ | refine nm_e ?_)
  · have h1 : (128 : Int32) ≤ v1 := h
    have h3 : ¬ v1 < (128 : Int32) := Int32.not_lt.mpr h
    obtain ⟨h0, h2⟩ := cm_big (n := 127) (by decide) h
    have h2' : (127 : Int32) < v1 := h2
    repeat' (first | exact ⟨rfl, t, oc, ec, st, pl, inn, otr, pg, kp, mem, reg, out, spc, rfl, rfl, hJ⟩ | refine br_t (by decide) ?_ | refine br_f (by decide) ?_ | refine br_t (by assumption) ?_ | refine br_f (by assumption) ?_ | refine And.intro (by assumption) ?_ | refine nm_e ?_)
  · obtain ⟨h0, h1, h2, h4⟩ := cm_lo (n := 127) hj (by decide)
    have h1' : ¬ (128 : Int32) ≤ nI j := h1
    have h2' : ¬ (127 : Int32) < nI j := h2
    have h3 : nI j < (128 : Int32) := Int32.not_le.mp h1
    have h4' : vp_in (nI j) 128 := h4
    rcases pk_ix v2 (n := 16384) (by decide) with g | g | ⟨i, hi, rfl⟩
    · repeat' (first | exact ⟨rfl, t, oc, ec, st, pl, inn, otr, pg, kp, mem, reg, out, spc, rfl, rfl, hJ⟩ | refine br_t (by decide) ?_ | refine br_f (by decide) ?_ | refine br_t (by assumption) ?_ | refine br_f (by assumption) ?_ | refine And.intro (by assumption) ?_ | refine nm_e ?_)
    · have g1 : ¬ v2 < (16384 : Int32) := Int32.not_lt.mpr g
      obtain ⟨g0, g2⟩ := cm_big (n := 16383) (by decide) g
      have g2' : (16383 : Int32) < v2 := g2
      repeat' (first | exact ⟨rfl, t, oc, ec, st, pl, inn, otr, pg, kp, mem, reg, out, spc, rfl, rfl, hJ⟩ | refine br_t (by decide) ?_ | refine br_f (by decide) ?_ | refine br_t (by assumption) ?_ | refine br_f (by assumption) ?_ | refine And.intro (by assumption) ?_ | refine nm_e ?_)
    · obtain ⟨g0, g1, g2, g4⟩ := cm_lo (n := 16383) hi (by decide)
      have g2' : ¬ (16383 : Int32) < nI i := g2
      have g3 : nI i < (16384 : Int32) := Int32.not_le.mp g1
      repeat' (first | exact ⟨rfl, t, oc, ec, st, pl, inn, otr, pg, kp, upd mem (nI j).toNatClampNeg (nI i ||| (v3 <<< ((14 : Int32) &&& 31))), reg, out, spc, rfl, rfl, hJ⟩ | refine br_t (by decide) ?_ | refine br_f (by decide) ?_ | refine br_t (by assumption) ?_ | refine br_f (by assumption) ?_ | refine And.intro (by assumption) ?_ | refine nm_e ?_)
theorem i_vc_executed {k : Nat} {u : SX} {v : SY} (I : i_Rel k u v) (hk : k + 4 ≤ 2048) : wpX_executed (fun r => wpY_executed (fun r' => r' = r ∧ i_Rel (k + 4) u v) v) u := by
  obtain ⟨t, oc, ec, st, pl, inn, otr, pg, kp, mem, reg, out, spc, rfl, rfl, hI⟩ := I
  have hJ : cm_I (100 * (k + 4)) oc inn otr pg kp := cm_Iup hI (by omega)
  exact ⟨rfl, t, oc, ec, st, pl, inn, otr, pg, kp, mem, reg, out, spc, rfl, rfl, hJ⟩
theorem i_vc_place {k : Nat} {u : SX} {v : SY} (I : i_Rel k u v) (hk : k + 4 ≤ 2048) : wpX_place (fun r => wpY_place (fun r' => r' = r ∧ i_Rel (k + 4) u v) v) u := by
  obtain ⟨t, oc, ec, st, pl, inn, otr, pg, kp, mem, reg, out, spc, rfl, rfl, hI⟩ := I
  have hJ : cm_I (100 * (k + 4)) oc inn otr pg kp := cm_Iup hI (by omega)
  exact ⟨rfl, t, oc, ec, st, pl, inn, otr, pg, kp, mem, reg, out, spc, rfl, rfl, hJ⟩
theorem i_vc_printed {k : Nat} {u : SX} {v : SY} (I : i_Rel k u v) (hk : k + 4 ≤ 2048) : wpX_printed (fun r => wpY_printed (fun r' => r' = r ∧ i_Rel (k + 4) u v) v) u := by
  obtain ⟨t, oc, ec, st, pl, inn, otr, pg, kp, mem, reg, out, spc, rfl, rfl, hI⟩ := I
  have hJ : cm_I (100 * (k + 4)) oc inn otr pg kp := cm_Iup hI (by omega)
  exact ⟨rfl, t, oc, ec, st, pl, inn, otr, pg, kp, mem, reg, out, spc, rfl, rfl, hJ⟩
theorem i_vc_peek {k : Nat} {u : SX} {v : SY} (I : i_Rel k u v) (hk : k + 4 ≤ 2048) (v1 : Int32) : wpX_peek (fun r => wpY_peek (fun r' => r' = r ∧ i_Rel (k + 4) u v) v v1) u v1 := by
  obtain ⟨t, oc, ec, st, pl, inn, otr, pg, kp, mem, reg, out, spc, rfl, rfl, hI⟩ := I
  have hJ : cm_I (100 * (k + 4)) oc inn otr pg kp := cm_Iup hI (by omega)
  rcases pk_ix v1 (n := 128) (by decide) with h | h | ⟨j, hj, rfl⟩
  · repeat' (first | exact ⟨rfl, t, oc, ec, st, pl, inn, otr, pg, kp, mem, reg, out, spc, rfl, rfl, hJ⟩ | refine br_t (by decide) ?_ | refine br_f (by decide) ?_ | refine br_t (by assumption) ?_ | refine br_f (by assumption) ?_ | refine And.intro (by assumption) ?_ | refine nm_e ?_)
  · have h1 : (128 : Int32) ≤ v1 := h
    have h3 : ¬ v1 < (128 : Int32) := Int32.not_lt.mpr h
    obtain ⟨h0, h2⟩ := cm_big (n := 127) (by decide) h
    have h2' : (127 : Int32) < v1 := h2
    repeat' (first | exact ⟨rfl, t, oc, ec, st, pl, inn, otr, pg, kp, mem, reg, out, spc, rfl, rfl, hJ⟩ | refine br_t (by decide) ?_ | refine br_f (by decide) ?_ | refine br_t (by assumption) ?_ | refine br_f (by assumption) ?_ | refine And.intro (by assumption) ?_ | refine nm_e ?_)
  · obtain ⟨h0, h1, h2, h4⟩ := cm_lo (n := 127) hj (by decide)
    have h1' : ¬ (128 : Int32) ≤ nI j := h1
    have h2' : ¬ (127 : Int32) < nI j := h2
    have h3 : nI j < (128 : Int32) := Int32.not_le.mp h1
    have h4' : vp_in (nI j) 128 := h4
    repeat' (first | exact ⟨rfl, t, oc, ec, st, pl, inn, otr, pg, kp, mem, reg, out, spc, rfl, rfl, hJ⟩ | refine br_t (by decide) ?_ | refine br_f (by decide) ?_ | refine br_t (by assumption) ?_ | refine br_f (by assumption) ?_ | refine And.intro (by assumption) ?_ | refine nm_e ?_)
theorem i_vc_register {k : Nat} {u : SX} {v : SY} (I : i_Rel k u v) (hk : k + 4 ≤ 2048) (v1 : Int32) : wpX_register (fun r => wpY_register (fun r' => r' = r ∧ i_Rel (k + 4) u v) v v1) u v1 := by
  obtain ⟨t, oc, ec, st, pl, inn, otr, pg, kp, mem, reg, out, spc, rfl, rfl, hI⟩ := I
  have hJ : cm_I (100 * (k + 4)) oc inn otr pg kp := cm_Iup hI (by omega)
  rcases pk_ix v1 (n := 8) (by decide) with h | h | ⟨j, hj, rfl⟩
  · repeat' (first | exact ⟨rfl, t, oc, ec, st, pl, inn, otr, pg, kp, mem, reg, out, spc, rfl, rfl, hJ⟩ | refine br_t (by decide) ?_ | refine br_f (by decide) ?_ | refine br_t (by assumption) ?_ | refine br_f (by assumption) ?_ | refine And.intro (by assumption) ?_ | refine nm_e ?_)
  · have h1 : (8 : Int32) ≤ v1 := h
    have h3 : ¬ v1 < (8 : Int32) := Int32.not_lt.mpr h
    obtain ⟨h0, h2⟩ := cm_big (n := 7) (by decide) h
    have h2' : (7 : Int32) < v1 := h2
    repeat' (first | exact ⟨rfl, t, oc, ec, st, pl, inn, otr, pg, kp, mem, reg, out, spc, rfl, rfl, hJ⟩ | refine br_t (by decide) ?_ | refine br_f (by decide) ?_ | refine br_t (by assumption) ?_ | refine br_f (by assumption) ?_ | refine And.intro (by assumption) ?_ | refine nm_e ?_)
  · obtain ⟨h0, h1, h2, h4⟩ := cm_lo (n := 7) hj (by decide)
    have h1' : ¬ (8 : Int32) ≤ nI j := h1
    have h2' : ¬ (7 : Int32) < nI j := h2
    have h3 : nI j < (8 : Int32) := Int32.not_le.mp h1
    have h4' : vp_in (nI j) 8 := h4
    repeat' (first | exact ⟨rfl, t, oc, ec, st, pl, inn, otr, pg, kp, mem, reg, out, spc, rfl, rfl, hJ⟩ | refine br_t (by decide) ?_ | refine br_f (by decide) ?_ | refine br_t (by assumption) ?_ | refine br_f (by assumption) ?_ | refine And.intro (by assumption) ?_ | refine nm_e ?_)
theorem i_vc_setRegister {k : Nat} {u : SX} {v : SY} (I : i_Rel k u v) (hk : k + 4 ≤ 2048) (v1 : Int32) (v2 : Int32) : wpX_setRegister (fun r u' => wpY_setRegister (fun r' v' => r' = r ∧ i_Rel (k + 4) u' v') v v1 v2) u v1 v2 := by
  obtain ⟨t, oc, ec, st, pl, inn, otr, pg, kp, mem, reg, out, spc, rfl, rfl, hI⟩ := I
  have hJ : cm_I (100 * (k + 4)) oc inn otr pg kp := cm_Iup hI (by omega)
  rcases pk_ix v1 (n := 8) (by decide) with h | h | ⟨j, hj, rfl⟩
  · repeat' (first | exact ⟨rfl, t, oc, ec, st, pl, inn, otr, pg, kp, mem, reg, out, spc, rfl, rfl, hJ⟩ | exact ⟨rfl, t, oc, ec, st, pl, inn, otr, pg, kp, mem, upd reg (nI j).toNatClampNeg v2, out, spc, rfl, rfl, hJ⟩ | refine br_t (by decide) ?_ | refine br_f (by decide) ?_ | refine br_t (by assumption) ?_ | refine br_f (by assumption) ?_ | refine And.intro (by assumption) ?_ | refine nm_e ?_)
  · have h1 : (8 : Int32) ≤ v1 := h
    have h3 : ¬ v1 < (8 : Int32) := Int32.not_lt.mpr h
    obtain ⟨h0, h2⟩ := cm_big (n := 7) (by decide) h
    have h2' : (7 : Int32) < v1 := h2
    repeat' (first | exact ⟨rfl, t, oc, ec, st, pl, inn, otr, pg, kp, mem, reg, out, spc, rfl, rfl, hJ⟩ | exact ⟨rfl, t, oc, ec, st, pl, inn, otr, pg, kp, mem, upd reg (nI j).toNatClampNeg v2, out, spc, rfl, rfl, hJ⟩ | refine br_t (by decide) ?_ | refine br_f (by decide) ?_ | refine br_t (by assumption) ?_ | refine br_f (by assumption) ?_ | refine And.intro (by assumption) ?_ | refine nm_e ?_)
  · obtain ⟨h0, h1, h2, h4⟩ := cm_lo (n := 7) hj (by decide)
    have h1' : ¬ (8 : Int32) ≤ nI j := h1
    have h2' : ¬ (7 : Int32) < nI j := h2
    have h3 : nI j < (8 : Int32) := Int32.not_le.mp h1
    have h4' : vp_in (nI j) 8 := h4
    repeat' (first | exact ⟨rfl, t, oc, ec, st, pl, inn, otr, pg, kp, mem, reg, out, spc, rfl, rfl, hJ⟩ | exact ⟨rfl, t, oc, ec, st, pl, inn, otr, pg, kp, mem, upd reg (nI j).toNatClampNeg v2, out, spc, rfl, rfl, hJ⟩ | refine br_t (by decide) ?_ | refine br_f (by decide) ?_ | refine br_t (by assumption) ?_ | refine br_f (by assumption) ?_ | refine And.intro (by assumption) ?_ | refine nm_e ?_)
theorem i_vc_level {k : Nat} {u : SX} {v : SY} (I : i_Rel k u v) (hk : k + 4 ≤ 2048) (v1 : Int32) : wpX_level (fun r => wpY_level (fun r' => r' = r ∧ i_Rel (k + 4) u v) v v1) u v1 := by
  obtain ⟨t, oc, ec, st, pl, inn, otr, pg, kp, mem, reg, out, spc, rfl, rfl, hI⟩ := I
  have hJ : cm_I (100 * (k + 4)) oc inn otr pg kp := cm_Iup hI (by omega)
  have b0 : narrow .boolean (.int (0 : Int32)) = .int 0 := by decide
  have b1 : narrow .boolean (.int (1 : Int32)) = .int 1 := by decide
  rcases pk_ix v1 (n := 3) (by decide) with h | h | ⟨j, hj, rfl⟩
  · repeat' (first | exact ⟨rfl, t, oc, ec, st, pl, inn, otr, pg, kp, mem, reg, out, spc, rfl, rfl, hJ⟩ | refine br_t (by decide) ?_ | refine br_f (by decide) ?_ | refine br_t (by assumption) ?_ | refine br_f (by assumption) ?_ | refine And.intro (by assumption) ?_ | refine nm_e ?_)
  · have h1 : (3 : Int32) ≤ v1 := h
    have h3 : ¬ v1 < (3 : Int32) := Int32.not_lt.mpr h
    obtain ⟨h0, h2⟩ := cm_big (n := 2) (by decide) h
    have h2' : (2 : Int32) < v1 := h2
    repeat' (first | exact ⟨rfl, t, oc, ec, st, pl, inn, otr, pg, kp, mem, reg, out, spc, rfl, rfl, hJ⟩ | refine br_t (by decide) ?_ | refine br_f (by decide) ?_ | refine br_t (by assumption) ?_ | refine br_f (by assumption) ?_ | refine And.intro (by assumption) ?_ | refine nm_e ?_)
  · obtain ⟨h0, h1, h2, h4⟩ := cm_lo (n := 2) hj (by decide)
    have h1' : ¬ (3 : Int32) ≤ nI j := h1
    have h2' : ¬ (2 : Int32) < nI j := h2
    have h3 : nI j < (3 : Int32) := Int32.not_le.mp h1
    have h4' : vp_in (nI j) 3 := h4
    repeat' (first | exact ⟨rfl, t, oc, ec, st, pl, inn, otr, pg, kp, mem, reg, out, spc, rfl, rfl, hJ⟩ | refine br_t (by decide) ?_ | refine br_f (by decide) ?_ | refine br_t (by assumption) ?_ | refine br_f (by assumption) ?_ | refine And.intro (by assumption) ?_ | refine nm_e ?_)
theorem i_vc_look {k : Nat} {u : SX} {v : SY} (I : i_Rel k u v) (hk : k + 4 ≤ 2048) (v1 : Int32) : wpX_look (fun r => wpY_look (fun r' => r' = r ∧ i_Rel (k + 4) u v) v v1) u v1 := by
  obtain ⟨t, oc, ec, st, pl, inn, otr, pg, kp, mem, reg, out, spc, rfl, rfl, hI⟩ := I
  have hJ : cm_I (100 * (k + 4)) oc inn otr pg kp := cm_Iup hI (by omega)
  rcases pk_ix v1 (n := 8) (by decide) with h | h | ⟨j, hj, rfl⟩
  · repeat' (first | exact ⟨rfl, t, oc, ec, st, pl, inn, otr, pg, kp, mem, reg, out, spc, rfl, rfl, hJ⟩ | refine br_t (by decide) ?_ | refine br_f (by decide) ?_ | refine br_t (by assumption) ?_ | refine br_f (by assumption) ?_ | refine And.intro (by assumption) ?_ | refine nm_e ?_)
  · have h1 : (8 : Int32) ≤ v1 := h
    have h3 : ¬ v1 < (8 : Int32) := Int32.not_lt.mpr h
    obtain ⟨h0, h2⟩ := cm_big (n := 7) (by decide) h
    have h2' : (7 : Int32) < v1 := h2
    repeat' (first | exact ⟨rfl, t, oc, ec, st, pl, inn, otr, pg, kp, mem, reg, out, spc, rfl, rfl, hJ⟩ | refine br_t (by decide) ?_ | refine br_f (by decide) ?_ | refine br_t (by assumption) ?_ | refine br_f (by assumption) ?_ | refine And.intro (by assumption) ?_ | refine nm_e ?_)
  · obtain ⟨h0, h1, h2, h4⟩ := cm_lo (n := 7) hj (by decide)
    have h1' : ¬ (8 : Int32) ≤ nI j := h1
    have h2' : ¬ (7 : Int32) < nI j := h2
    have h3 : nI j < (8 : Int32) := Int32.not_le.mp h1
    have h4' : vp_in (nI j) 8 := h4
    match j, hj with
    | 0, _ =>
      have h5 : vp_in (nI 0) 5 := vp_in_nI (by decide) (by decide)
      repeat' (first | exact ⟨rfl, t, oc, ec, st, pl, inn, otr, pg, kp, mem, reg, out, spc, rfl, rfl, hJ⟩ | refine br_t (by decide) ?_ | refine br_f (by decide) ?_ | refine br_t (by assumption) ?_ | refine br_f (by assumption) ?_ | refine And.intro (by assumption) ?_ | refine nm_e ?_)
    | 1, _ =>
      have h5 : vp_in (nI 1) 5 := vp_in_nI (by decide) (by decide)
      repeat' (first | exact ⟨rfl, t, oc, ec, st, pl, inn, otr, pg, kp, mem, reg, out, spc, rfl, rfl, hJ⟩ | refine br_t (by decide) ?_ | refine br_f (by decide) ?_ | refine br_t (by assumption) ?_ | refine br_f (by assumption) ?_ | refine And.intro (by assumption) ?_ | refine nm_e ?_)
    | 2, _ =>
      have h5 : vp_in (nI 2) 5 := vp_in_nI (by decide) (by decide)
      repeat' (first | exact ⟨rfl, t, oc, ec, st, pl, inn, otr, pg, kp, mem, reg, out, spc, rfl, rfl, hJ⟩ | refine br_t (by decide) ?_ | refine br_f (by decide) ?_ | refine br_t (by assumption) ?_ | refine br_f (by assumption) ?_ | refine And.intro (by assumption) ?_ | refine nm_e ?_)
    | 3, _ =>
      have h5 : vp_in (nI 3) 5 := vp_in_nI (by decide) (by decide)
      repeat' (first | exact ⟨rfl, t, oc, ec, st, pl, inn, otr, pg, kp, mem, reg, out, spc, rfl, rfl, hJ⟩ | refine br_t (by decide) ?_ | refine br_f (by decide) ?_ | refine br_t (by assumption) ?_ | refine br_f (by assumption) ?_ | refine And.intro (by assumption) ?_ | refine nm_e ?_)
    | 4, _ =>
      have h5 : vp_in (nI 4) 5 := vp_in_nI (by decide) (by decide)
      repeat' (first | exact ⟨rfl, t, oc, ec, st, pl, inn, otr, pg, kp, mem, reg, out, spc, rfl, rfl, hJ⟩ | refine br_t (by decide) ?_ | refine br_f (by decide) ?_ | refine br_t (by assumption) ?_ | refine br_f (by assumption) ?_ | refine And.intro (by assumption) ?_ | refine nm_e ?_)
    | 5, _ =>
      rcases hI.2.1 with ⟨rfl, rfl⟩ | ⟨rfl, rfl⟩
      · repeat' (first | exact ⟨rfl, t, oc, ec, st, pl, _, _, _, _, mem, reg, out, spc, rfl, rfl, hJ⟩ | refine br_t (by decide) ?_ | refine br_f (by decide) ?_ | refine br_t (by assumption) ?_ | refine br_f (by assumption) ?_ | refine And.intro (by assumption) ?_ | refine nm_e ?_)
      · repeat' (first | exact ⟨rfl, t, oc, ec, st, pl, _, _, _, _, mem, reg, out, spc, rfl, rfl, hJ⟩ | refine br_t (by decide) ?_ | refine br_f (by decide) ?_ | refine br_t (by assumption) ?_ | refine br_f (by assumption) ?_ | refine And.intro (by assumption) ?_ | refine nm_e ?_)
    | 6, _ =>
      rcases hI.2.2.1 with rfl | rfl
      · repeat' (first | exact ⟨rfl, t, oc, ec, st, pl, _, _, _, _, mem, reg, out, spc, rfl, rfl, hJ⟩ | refine br_t (by decide) ?_ | refine br_f (by decide) ?_ | refine br_t (by assumption) ?_ | refine br_f (by assumption) ?_ | refine And.intro (by assumption) ?_ | refine nm_e ?_)
      · repeat' (first | exact ⟨rfl, t, oc, ec, st, pl, _, _, _, _, mem, reg, out, spc, rfl, rfl, hJ⟩ | refine br_t (by decide) ?_ | refine br_f (by decide) ?_ | refine br_t (by assumption) ?_ | refine br_f (by assumption) ?_ | refine And.intro (by assumption) ?_ | refine nm_e ?_)
    | 7, _ =>
      rcases hI.2.2.2 with rfl | rfl
      · repeat' (first | exact ⟨rfl, t, oc, ec, st, pl, _, _, _, _, mem, reg, out, spc, rfl, rfl, hJ⟩ | refine br_t (by decide) ?_ | refine br_f (by decide) ?_ | refine br_t (by assumption) ?_ | refine br_f (by assumption) ?_ | refine And.intro (by assumption) ?_ | refine nm_e ?_)
      · repeat' (first | exact ⟨rfl, t, oc, ec, st, pl, _, _, _, _, mem, reg, out, spc, rfl, rfl, hJ⟩ | refine br_t (by decide) ?_ | refine br_f (by decide) ?_ | refine br_t (by assumption) ?_ | refine br_f (by assumption) ?_ | refine And.intro (by assumption) ?_ | refine nm_e ?_)
    | j + 8, hj => omega
theorem i_vc_translated {k : Nat} {u : SX} {v : SY} (I : i_Rel k u v) (hk : k + 4 ≤ 2048) (v1 : Int32) : wpX_translated (fun r => wpY_translated (fun r' => r' = r ∧ i_Rel (k + 4) u v) v v1) u v1 := by
  obtain ⟨t, oc, ec, st, pl, inn, otr, pg, kp, mem, reg, out, spc, rfl, rfl, hI⟩ := I
  have hJ : cm_I (100 * (k + 4)) oc inn otr pg kp := cm_Iup hI (by omega)
  obtain ⟨r, hr, hX, hY⟩ := cm_tr (oc := oc) (ec := ec) (st := st) (pl := pl) (inn := inn) (otr := otr) (pg := pg) (kp := kp) (t := t) (mem := mem) (reg := reg) (out := out) (spc := spc) v1 0
  exact hX _ (hY _ ⟨rfl, t, oc, ec, st, pl, inn, otr, pg, kp, mem, reg, out, spc, rfl, rfl, hJ⟩)
theorem i_vc_output {k : Nat} {u : SX} {v : SY} (I : i_Rel k u v) (hk : k + 4 ≤ 2048) (v1 : Int32) : wpX_output (fun r => wpY_output (fun r' => r' = r ∧ i_Rel (k + 4) u v) v v1) u v1 := by
  obtain ⟨t, oc, ec, st, pl, inn, otr, pg, kp, mem, reg, out, spc, rfl, rfl, hI⟩ := I
  have hJ : cm_I (100 * (k + 4)) oc inn otr pg kp := cm_Iup hI (by omega)
  rcases pk_ix v1 (n := 20) (by decide) with h | h | ⟨j, hj, rfl⟩
  · repeat' (first | exact ⟨rfl, t, oc, ec, st, pl, inn, otr, pg, kp, mem, reg, out, spc, rfl, rfl, hJ⟩ | refine br_t (by decide) ?_ | refine br_f (by decide) ?_ | refine br_t (by assumption) ?_ | refine br_f (by assumption) ?_ | refine And.intro (by assumption) ?_ | refine nm_e ?_)
  · have h1 : (20 : Int32) ≤ v1 := h
    have h3 : ¬ v1 < (20 : Int32) := Int32.not_lt.mpr h
    obtain ⟨h0, h2⟩ := cm_big (n := 19) (by decide) h
    have h2' : (19 : Int32) < v1 := h2
    repeat' (first | exact ⟨rfl, t, oc, ec, st, pl, inn, otr, pg, kp, mem, reg, out, spc, rfl, rfl, hJ⟩ | refine br_t (by decide) ?_ | refine br_f (by decide) ?_ | refine br_t (by assumption) ?_ | refine br_f (by assumption) ?_ | refine And.intro (by assumption) ?_ | refine nm_e ?_)
  · obtain ⟨h0, h1, h2, h4⟩ := cm_lo (n := 19) hj (by decide)
    have h1' : ¬ (20 : Int32) ≤ nI j := h1
    have h2' : ¬ (19 : Int32) < nI j := h2
    have h3 : nI j < (20 : Int32) := Int32.not_le.mp h1
    have h4' : vp_in (nI j) 20 := h4
    by_cases g : nI j < oc
    · have g' : ¬ oc ≤ nI j := Int32.not_le.mpr g
      repeat' (first | exact ⟨rfl, t, oc, ec, st, pl, inn, otr, pg, kp, mem, reg, out, spc, rfl, rfl, hJ⟩ | refine br_t (by decide) ?_ | refine br_f (by decide) ?_ | refine br_t (by assumption) ?_ | refine br_f (by assumption) ?_ | refine And.intro (by assumption) ?_ | refine nm_e ?_)
    · have g' : oc ≤ nI j := Int32.not_lt.mp g
      repeat' (first | exact ⟨rfl, t, oc, ec, st, pl, inn, otr, pg, kp, mem, reg, out, spc, rfl, rfl, hJ⟩ | refine br_t (by decide) ?_ | refine br_f (by decide) ?_ | refine br_t (by assumption) ?_ | refine br_f (by assumption) ?_ | refine And.intro (by assumption) ?_ | refine nm_e ?_)
theorem i_vc_reset {k : Nat} {u : SX} {v : SY} (I : i_Rel k u v) (hk : k + 4 ≤ 2048) (v1 : Int32) : wpX_reset (fun u' => wpY_reset (fun v' => i_Rel (k + 4) u' v') v v1) u v1 := by
  obtain ⟨t, oc, ec, st, pl, inn, otr, pg, kp, mem, reg, out, spc, rfl, rfl, hI⟩ := I
  have hJ : cm_I (100 * (k + 4)) oc inn otr pg kp := cm_Iup hI (by omega)
  refine Exists.intro 9 (cm_sx ?_)
  refine Exists.intro 9 (cm_sy ?_)
  exact ⟨t, 0, 0, 0, v1, 1, 0, 0, 0, mem, cm_z reg, out, cm_zs spc, rfl, rfl, cm_in0⟩
theorem i_vc_run {k : Nat} {u : SX} {v : SY} (I : i_Rel k u v) (hk : k + 4 ≤ 2048) (v1 : Int32) : wpX_run (fun r u' => wpY_run (fun r' v' => r' = r ∧ i_Rel (k + 4) u' v') v v1) u v1 := by
  obtain ⟨t, oc, ec, st, pl, inn, otr, pg, kp, mem, reg, out, spc, rfl, rfl, hI⟩ := I
  have hJ : cm_I (100 * (k + 4)) oc inn otr pg kp := cm_Iup hI (by omega)
  by_cases h0 : 0 ≤ v1
  · by_cases h4 : v1 ≤ 400
    · obtain ⟨m, hm, rfl⟩ := nI_of (x := v1) (Int32.not_lt.mpr h0)
      have h5 : m ≤ 400 := by
        have z : nI m ≤ nI 400 := h4
        rwa [nI_leI hm (by decide)] at z
      obtain ⟨oc', ec', st', pl', inn', otr', pg', kp', t', mem', reg', out', spc', hI', hX, hY⟩ := cm_run m h5 m 0 (100 * k) (by omega) (by omega) oc ec st pl inn otr pg kp t mem reg out spc hI
      exact br_t h4 (Exists.intro (m + 1) (hX _ (br_t h0 (br_t h4 (Exists.intro (m + 1) (hY _ ⟨rfl, t', oc', ec', st', pl', inn', otr', pg', kp', mem', reg', out', spc', rfl, rfl, cm_Iup hI' (by omega)⟩))))))
    · have _u := h4
      obtain ⟨oc', ec', st', pl', inn', otr', pg', kp', t', mem', reg', out', spc', hI', hX, hY⟩ := cm_run 400 (by decide) 400 0 (100 * k) (by omega) (by omega) oc ec st pl inn otr pg kp t mem reg out spc hI
      exact br_f h4 (Exists.intro 401 (hX _ (br_t h0 (br_f h4 (Exists.intro 401 (hY _ ⟨rfl, t', oc', ec', st', pl', inn', otr', pg', kp', mem', reg', out', spc', rfl, rfl, cm_Iup hI' (by omega)⟩))))))
  · have h1 : v1 < 0 := Int32.not_le.mp h0
    have h2 : v1 ≤ 0 := Int32.le_of_lt h1
    have h4 : v1 ≤ 400 := Int32.le_trans h2 (by decide)
    exact br_t h4 (Exists.intro 1 (br_t h2 (br_f h0 (Exists.intro 1 (br_t (by decide) ⟨rfl, t, oc, ec, st, pl, inn, otr, pg, kp, mem, reg, out, spc, rfl, rfl, hJ⟩)))))
