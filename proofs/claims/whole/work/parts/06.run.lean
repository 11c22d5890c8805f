/-! ===== run; the start (written by wip/whole/gen2.py) ===== -/
theorem cm_run (m : Nat) (hm : m ≤ 400) : ∀ (d i c : Nat), i + d = m → c + d < 2 ^ 30 → ∀ (oc ec st pl inn otr pg kp t : Int32) (mem reg out spc : Nat → Int32), cm_I c oc inn otr pg kp →
    ∃ (oc' ec' st' pl' inn' otr' pg' kp' t' : Int32) (mem' reg' out' spc' : Nat → Int32), cm_I (c + d) oc' inn' otr' pg' kp' ∧ (∀ post : Int32 → SX → Prop, post st' (cm_U oc' ec' st' pl' inn' pg' kp' mem' reg' out' spc') → wX_run_17 post (nI m) (d + 1) (nI i) oc ec st pl inn pg kp (spc 0) (spc 1) (spc 2) (spc 3) (spc 4) mem reg out) ∧ (∀ post : Int32 → SY → Prop, post st' (cm_V oc' ec' st' pl' otr' pg' kp' t' mem' reg' out' spc') → wY_run_25 post (nI m) (d + 1) (nI i) pl otr pg kp st ec oc t mem reg spc out) := by
  intro d
  induction d with
  | zero =>
    intro i c hi hc oc ec st pl inn otr pg kp t mem reg out spc hI
    have hle : nI m ≤ nI i := nI_le (by omega) (by omega)
    exact ⟨oc, ec, st, pl, inn, otr, pg, kp, t, mem, reg, out, spc, hI, fun post h => br_t hle h, fun post h => br_t hle h⟩
  | succ d ih =>
    intro i c hi hc oc ec st pl inn otr pg kp t mem reg out spc hI
    have hle : ¬ nI m ≤ nI i := nI_ge (by omega) (by omega)
    by_cases hs : st = 0
    · obtain ⟨u', v', ⟨t1, oc1, ec1, st1, pl1, inn1, otr1, pg1, kp1, mem1, reg1, out1, spc1, rfl, rfl, hI1⟩, hSX, hSY⟩ := cm_step (c := c) (t := t) ⟨oc, ec, st, pl, inn, otr, pg, kp, mem, reg, out, spc, rfl, rfl, hI⟩ (by omega)
      obtain ⟨oc', ec', st', pl', inn', otr', pg', kp', t', mem', reg', out', spc', hI', hX, hY⟩ := ih (i + 1) (c + 1) (by omega) (by omega) oc1 ec1 st1 pl1 inn1 otr1 pg1 kp1 t1 mem1 reg1 out1 spc1 hI1
      refine ⟨oc', ec', st', pl', inn', otr', pg', kp', t', mem', reg', out', spc', cm_Iup hI' (by omega), fun post h => br_f hle (br_t hs (hSX _ ?_)), fun post h => br_f hle (br_t hs (hSY _ ?_))⟩
      · exact nm_r (nI_1 i) (hX post h)
      · exact nm_r (nI_1 i) (hY post h)
    · exact ⟨oc, ec, st, pl, inn, otr, pg, kp, t, mem, reg, out, spc, cm_Iup hI (by omega), fun post h => br_f hle (br_f hs h), fun post h => br_f hle (br_f hs h)⟩
def cm_z (reg : Nat → Int32) : Nat → Int32 := upd (upd (upd (upd (upd (upd (upd (upd reg (0 : Int32).toNatClampNeg 0) ((0 : Int32) + 1).toNatClampNeg 0) ((0 : Int32) + 1 + 1).toNatClampNeg 0) ((0 : Int32) + 1 + 1 + 1).toNatClampNeg 0) ((0 : Int32) + 1 + 1 + 1 + 1).toNatClampNeg 0) ((0 : Int32) + 1 + 1 + 1 + 1 + 1).toNatClampNeg 0) ((0 : Int32) + 1 + 1 + 1 + 1 + 1 + 1).toNatClampNeg 0) ((0 : Int32) + 1 + 1 + 1 + 1 + 1 + 1 + 1).toNatClampNeg 0
def cm_zs (spc : Nat → Int32) : Nat → Int32 := upd (upd (upd (upd (upd (spc) (0 : Int32).toNatClampNeg 0) ((0 : Int32) + 1).toNatClampNeg (-1)) ((0 : Int32) + 1 + 1).toNatClampNeg 0) ((0 : Int32) + 1 + 1 + 1).toNatClampNeg 0) ((0 : Int32) + 1 + 1 + 1 + 1).toNatClampNeg 0
theorem cm_sx {post : SX → Prop} {p oc ec st pl inn pg kp tb vc rp ca sp : Int32} {mem reg out : Nat → Int32} (h : post (0, 0, 0, p, 1, 0, 0, 0, (-1), 0, 0, 0, mem, cm_z reg, out)) : wX_startAt_2 post p oc ec st pl inn pg kp tb vc rp ca sp 9 0 mem reg out :=
  br_f (by decide) ⟨vp_in_iff.mpr (by decide), nm_e (nm_e (br_f (by decide) ⟨vp_in_iff.mpr (by decide), nm_e (nm_e (br_f (by decide) ⟨vp_in_iff.mpr (by decide), nm_e (nm_e (br_f (by decide) ⟨vp_in_iff.mpr (by decide), nm_e (nm_e (br_f (by decide) ⟨vp_in_iff.mpr (by decide), nm_e (nm_e (br_f (by decide) ⟨vp_in_iff.mpr (by decide), nm_e (nm_e (br_f (by decide) ⟨vp_in_iff.mpr (by decide), nm_e (nm_e (br_f (by decide) ⟨vp_in_iff.mpr (by decide), nm_e (nm_e (br_t (by decide) h))⟩))⟩))⟩))⟩))⟩))⟩))⟩))⟩
theorem cm_sy2 {post : SY → Prop} {p otr pg kp st ec oc t : Int32} {mem reg out spc : Nat → Int32} (h : post (p, 0, 0, 0, 0, 0, 0, t, mem, reg, cm_zs spc, out)) : wY_reset_28 post p otr pg kp st ec oc t 6 0 mem reg spc out :=
  br_f (by decide) (br_f (by decide) ⟨vp_in_iff.mpr (by decide), nm_e (nm_e (br_f (by decide) (br_t (by decide) ⟨vp_in_iff.mpr (by decide), nm_e (nm_e (br_f (by decide) (br_f (by decide) ⟨vp_in_iff.mpr (by decide), nm_e (nm_e (br_f (by decide) (br_f (by decide) ⟨vp_in_iff.mpr (by decide), nm_e (nm_e (br_f (by decide) (br_f (by decide) ⟨vp_in_iff.mpr (by decide), nm_e (nm_e (br_t (by decide) h))⟩)))⟩)))⟩)))⟩)))⟩)
theorem cm_sy {post : SY → Prop} {p otr pg kp st ec oc t : Int32} {mem reg out spc : Nat → Int32} (h : post (p, 0, 0, 0, 0, 0, 0, t, mem, cm_z reg, cm_zs spc, out)) : wY_reset_7 post p otr pg kp st ec oc t 9 0 mem reg spc out :=
  br_f (by decide) ⟨vp_in_iff.mpr (by decide), nm_e (nm_e (br_f (by decide) ⟨vp_in_iff.mpr (by decide), nm_e (nm_e (br_f (by decide) ⟨vp_in_iff.mpr (by decide), nm_e (nm_e (br_f (by decide) ⟨vp_in_iff.mpr (by decide), nm_e (nm_e (br_f (by decide) ⟨vp_in_iff.mpr (by decide), nm_e (nm_e (br_f (by decide) ⟨vp_in_iff.mpr (by decide), nm_e (nm_e (br_f (by decide) ⟨vp_in_iff.mpr (by decide), nm_e (nm_e (br_f (by decide) ⟨vp_in_iff.mpr (by decide), nm_e (nm_e (br_t (by decide) ⟨6, cm_sy2 h⟩))⟩))⟩))⟩))⟩))⟩))⟩))⟩))⟩
theorem cm_zs0 (spc : Nat → Int32) : cm_zs spc 0 = 0 := rfl
theorem cm_zs1 (spc : Nat → Int32) : cm_zs spc 1 = (-1) := rfl
theorem cm_zs2 (spc : Nat → Int32) : cm_zs spc 2 = 0 := rfl
theorem cm_zs3 (spc : Nat → Int32) : cm_zs spc 3 = 0 := rfl
theorem cm_zs4 (spc : Nat → Int32) : cm_zs spc 4 = 0 := rfl
theorem cm_u0 (i : Nat) : upd (fun _ => 0) i 0 = fun _ => 0 := by
  funext j
  unfold upd
  split
  · rfl
  · rfl
theorem cm_z0 : cm_z (fun _ => 0) = fun _ => 0 := by
  unfold cm_z
  rw [cm_u0, cm_u0, cm_u0, cm_u0, cm_u0, cm_u0, cm_u0, cm_u0]
theorem cm_in0 {c : Nat} : cm_I c 0 1 0 0 0 := ⟨⟨0, by omega, rfl⟩, Or.inl ⟨rfl, rfl⟩, Or.inl rfl, Or.inl rfl⟩
