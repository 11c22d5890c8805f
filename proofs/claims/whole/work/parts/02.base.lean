/-! ===== the two states side by side, what both hold, and what a piece of a walk gives ===== -/
abbrev cm_U (oc ec st pl inn pg kp : Int32) (mem reg out spc : Nat → Int32) : SX := (oc, ec, st, pl, inn, pg, kp, spc 0, spc 1, spc 2, spc 3, spc 4, mem, reg, out)
abbrev cm_V (oc ec st pl otr pg kp tr : Int32) (mem reg out spc : Nat → Int32) : SY := (pl, otr, pg, kp, st, ec, oc, tr, mem, reg, spc, out)
def cm_I (c : Nat) (oc inn otr pg kp : Int32) : Prop := (∃ n : Nat, n ≤ c ∧ oc = nI n) ∧ ((inn = 1 ∧ otr = 0) ∨ (inn = 0 ∧ otr = 1)) ∧ (pg = 0 ∨ pg = 1) ∧ (kp = 0 ∨ kp = 1)
def cm_R (c : Nat) (t : Int32) (u : SX) (v : SY) : Prop := ∃ (oc ec st pl inn otr pg kp : Int32) (mem reg out spc : Nat → Int32), u = cm_U oc ec st pl inn pg kp mem reg out spc ∧ v = cm_V oc ec st pl otr pg kp t mem reg out spc ∧ cm_I c oc inn otr pg kp
def cm_B (c : Nat) (PX : (SX → Prop) → Prop) (PY : (SY → Prop) → Prop) : Prop := ∃ (u' : SX) (v' : SY), (∃ t, cm_R c t u' v') ∧ (∀ post : SX → Prop, post u' → PX post) ∧ (∀ post : SY → Prop, post v' → PY post)
theorem cm_Iup {c d : Nat} {oc inn otr pg kp : Int32} (hI : cm_I c oc inn otr pg kp) (h : c ≤ d) : cm_I d oc inn otr pg kp := by
  obtain ⟨⟨n, hn, e⟩, hm⟩ := hI
  exact ⟨⟨n, by omega, e⟩, hm⟩
theorem cm_bn {x : Int32} (h : x = 0 ∨ x = 1) : narrow .boolean (.int x) = .int x ∧ fits .boolean (.int x) = true := by
  rcases h with rfl | rfl
  · exact ⟨by decide, by decide⟩
  · exact ⟨by decide, by decide⟩
theorem cm_trap {c : Nat} {oc ec st pl inn otr pg kp : Int32} {mem reg out spc : Nat → Int32} (t why : Int32) (hI : cm_I c oc inn otr pg kp) :
    ∃ (u' : SX) (v' : SY), cm_R c 1 u' v' ∧ (∀ post : SX → Prop, post u' → wpX_trap post (cm_U oc ec st pl inn pg kp mem reg out spc) why) ∧ (∀ post : SY → Prop, post v' → wpY_trap post (cm_V oc ec st pl otr pg kp t mem reg out spc) why) := by
  obtain ⟨hn, hm, hp, hk⟩ := hI
  have hb := cm_bn hp
  rcases hm with ⟨rfl, rfl⟩ | ⟨rfl, rfl⟩
  · exact ⟨_, _, ⟨oc, ec, 2, pl, 1, 0, pg, kp, mem, reg, out, spc, rfl, rfl, hn, Or.inl ⟨rfl, rfl⟩, hp, hk⟩, fun post h => br_f (by decide) h, fun post h => br_t rfl h⟩
  · by_cases hv : 0 ≤ spc 1
    · exact ⟨_, _, ⟨oc, ec, st, spc 1, 1, 0, 0, pg, mem, reg, out, upd (upd spc 2 pl) 3 why, rfl, rfl, hn, Or.inl ⟨rfl, rfl⟩, Or.inl rfl, hp⟩, fun post h => br_t rfl (br_t hv ⟨hb.1, hb.2, h⟩), fun post h => br_f (by decide) (br_t hv (nm_e (nm_e ⟨hb.1, hb.2, nm_e h⟩)))⟩
    · exact ⟨_, _, ⟨oc, ec, 2, pl, 0, 1, pg, kp, mem, reg, out, spc, rfl, rfl, hn, Or.inr ⟨rfl, rfl⟩, hp, hk⟩, fun post h => br_t rfl (br_f hv h), fun post h => br_f (by decide) (br_f hv h)⟩
theorem cm_big {p : Int32} {n : Nat} (hn : n + 1 < 2 ^ 31) (h : nI (n + 1) ≤ p) : ¬ p < 0 ∧ nI n < p := by
  have h0 : ¬ p < 0 := fun z => by
    have z1 := Int32.le_iff_toInt_le.mp h
    have z2 := Int32.lt_iff_toInt_lt.mp z
    have z3 : (0 : Int32).toInt = 0 := by decide
    rw [nI_toInt hn] at z1
    omega
  refine ⟨h0, ?_⟩
  have z1 := Int32.le_iff_toInt_le.mp h
  rw [nI_toInt hn] at z1
  apply Int32.lt_iff_toInt_lt.mpr
  rw [nI_toInt (by omega)]
  omega
/-- one answer of both translations: -1 or a place -/
theorem cm_tr {oc ec st pl inn otr pg kp t : Int32} {mem reg out spc : Nat → Int32} (p w : Int32) :
    ∃ r : Int32, (r = -1 ∨ ∃ j : Nat, j < 128 ∧ r = nI j) ∧ (∀ post : Int32 → Prop, post r → wpX_translate post (cm_U oc ec st pl inn pg kp mem reg out spc) p w) ∧ (∀ post : Int32 → Prop, post r → wpY_translate post (cm_V oc ec st pl otr pg kp t mem reg out spc) p w) := by
  rcases pk_ix p (n := 128) (by decide) with h | h | ⟨j, hj, rfl⟩
  · exact ⟨-1, Or.inl rfl, fun post hp => br_t h (br_t rfl hp), fun post hp => br_t h (br_t rfl hp)⟩
  · have hb := cm_big (n := 127) (by decide) h
    exact ⟨-1, Or.inl rfl, fun post hp => br_f hb.1 (br_t h (br_t rfl hp)), fun post hp => br_f hb.1 (br_t hb.2 (br_t rfl hp))⟩
  · have h0 : ¬ nI j < 0 := nI_pos (by omega)
    have h128 : ¬ (128 : Int32) ≤ nI j := nI_ge (b := 128) hj (by decide)
    have h127 : ¬ (127 : Int32) < nI j := nI_nlt (a := 127) (by omega) (by decide)
    have n1 : ¬ (1 : Int32) = 0 := by decide
    by_cases hz : pg = 0
    · exact ⟨nI j, Or.inr ⟨j, hj, rfl⟩, fun post hp => br_f h0 (br_f h128 (br_f n1 (br_t hz hp))), fun post hp => br_f h0 (br_f h127 (br_f n1 (br_t hz hp)))⟩
    · rcases cm_ix ((spc 0).toInt64 + ((nI j >>> ((4 : Int32) &&& 31)).toInt64)) with h | h | ⟨e, he, ee⟩
      · exact ⟨-1, Or.inl rfl, fun post hp => br_f h0 (br_f h128 (br_f n1 (br_f hz (nm_e (br_t h hp))))), fun post hp => br_f h0 (br_f h127 (br_f n1 (br_f hz (nm_e (br_t h hp)))))⟩
      · have g := cm_lbig h
        exact ⟨-1, Or.inl rfl, fun post hp => br_f h0 (br_f h128 (br_f n1 (br_f hz (nm_e (br_f g.1 (br_f g.2.1 hp)))))), fun post hp => br_f h0 (br_f h127 (br_f n1 (br_f hz (nm_e (br_f g.1 (br_f g.2.2 hp))))))⟩
      · have e1 : (lN e).toInt32 = nI e := lN_i e
        have e2 : (lN e).toInt32 &&& 127 = nI e := by rw [e1, cm_127 he]
        have g0 : ¬ lN e < 0 := fun z => by
          have := (lN_lt (a := e) (b := 0) (by omega) (by decide)).mp z
          omega
        have g1 : lN e < 128 := (lN_lt (b := 128) (by omega) (by decide)).mpr he
        have g2 : lN e ≤ 127 := (lN_le (b := 127) (by omega) (by decide)).mpr (by omega)
        have v1 : vp_in (lN e).toInt32 128 := by rw [e1]; exact vp_in_nI he (by decide)
        have v2 : vp_in ((lN e).toInt32 &&& 127) 128 := by rw [e2]; exact vp_in_nI he (by decide)
        have m1 : mem (lN e).toInt32.toNatClampNeg = mem (nI e).toNatClampNeg := by rw [e1]
        have m2 : mem ((lN e).toInt32 &&& 127).toNatClampNeg = mem (nI e).toNatClampNeg := by rw [e2]
        by_cases b1 : (mem (nI e).toNatClampNeg &&& 1) = 0
        · refine ⟨-1, Or.inl rfl, fun post hp => br_f h0 (br_f h128 (br_f n1 (br_f hz (nm_r ee (br_f g0 (br_t g1 ⟨v1, nm_r m1 (br_t b1 ?_)⟩)))))), fun post hp => br_f h0 (br_f h127 (br_f n1 (br_f hz (nm_r ee (br_f g0 (br_t g2 ⟨v2, nm_r m2 (br_t b1 hp)⟩))))))⟩
          exact br_c (fun _ => br_t rfl hp) (fun _ => br_t rfl hp)
        · by_cases hw : w = 0
          · obtain ⟨q, hq, q1, q2⟩ := cm_pg (mem (nI e).toNatClampNeg) (nI j)
            refine ⟨nI q, Or.inr ⟨q, hq, rfl⟩, fun post hp => br_f h0 (br_f h128 (br_f n1 (br_f hz (nm_r ee (br_f g0 (br_t g1 ⟨v1, nm_r m1 (br_f b1 ?_)⟩)))))), fun post hp => br_f h0 (br_f h127 (br_f n1 (br_f hz (nm_r ee (br_f g0 (br_t g2 ⟨v2, nm_r m2 (br_f b1 (br_t hw (Eq.mpr (congrArg post q2) hp)))⟩))))))⟩
            exact br_c (fun _ => br_f n1 (br_t hw (Eq.mpr (congrArg post q1) hp))) (fun _ => br_f n1 (br_t hw (Eq.mpr (congrArg post q1) hp)))
          · by_cases b2 : (mem (nI e).toNatClampNeg &&& 2) = 0
            · exact ⟨-1, Or.inl rfl, fun post hp => br_f h0 (br_f h128 (br_f n1 (br_f hz (nm_r ee (br_f g0 (br_t g1 ⟨v1, nm_r m1 (br_f b1 (br_t b2 (br_f n1 (br_f hw (br_t rfl hp)))))⟩)))))), fun post hp => br_f h0 (br_f h127 (br_f n1 (br_f hz (nm_r ee (br_f g0 (br_t g2 ⟨v2, nm_r m2 (br_f b1 (br_f hw (br_t b2 hp)))⟩))))))⟩
            · obtain ⟨q, hq, q1, q2⟩ := cm_pg (mem (nI e).toNatClampNeg) (nI j)
              exact ⟨nI q, Or.inr ⟨q, hq, rfl⟩, fun post hp => br_f h0 (br_f h128 (br_f n1 (br_f hz (nm_r ee (br_f g0 (br_t g1 ⟨v1, nm_r m1 (br_f b1 (br_f b2 (br_f n1 (br_f hw (br_f n1 (Eq.mpr (congrArg post q1) hp))))))⟩)))))), fun post hp => br_f h0 (br_f h127 (br_f n1 (br_f hz (nm_r ee (br_f g0 (br_t g2 ⟨v2, nm_r m2 (br_f b1 (br_f hw (br_f b2 (Eq.mpr (congrArg post q2) hp))))⟩))))))⟩
/-- what a place is good for -/
theorem cm_rf {r : Int32} (h : ∃ j : Nat, j < 128 ∧ r = nI j) : ¬ r = -1 ∧ 0 ≤ r ∧ ¬ r < 0 ∧ vp_in r 128 ∧ r &&& 127 = r ∧ vp_in (r &&& 127) 128 := by
  obtain ⟨j, hj, rfl⟩ := h
  have h0 : ¬ nI j < 0 := nI_pos (by omega)
  have e := cm_127 hj
  refine ⟨fun z => h0 (by rw [z]; decide), nI_pos' (by omega), h0, vp_in_nI hj (by decide), e, ?_⟩
  rw [e]
  exact vp_in_nI hj (by decide)
