/-! ===== loads, stores, traps, control, print (written by wip/whole/gen.py) ===== -/
theorem cm_012 {x : Int32} (h0 : ¬ x < 0) (h2 : ¬ 2 < x) : x = 0 ∨ x = 1 ∨ x = 2 := by
  obtain ⟨j, hj, rfl⟩ := nI_of h0
  rw [show (2 : Int32) = nI 2 from rfl, nI_ltI (by decide) hj] at h2
  match j, h2 with
  | 0, _ => exact Or.inl rfl
  | 1, _ => exact Or.inr (Or.inl rfl)
  | 2, _ => exact Or.inr (Or.inr rfl)
  | j + 3, h2 => omega
theorem cm_o12 {c : Nat} {oc ec st pl inn otr pg kp : Int32} {mem reg out spc : Nat → Int32} (hI : cm_I c oc inn otr pg kp) (w : Int32) (ho : w &&& 31 = 12) : cm_B (c + 1) (fun post => wpX_load post (cm_U oc ec st pl inn pg kp mem reg out spc) w) (fun post => wpY_work post (cm_V oc ec st pl otr pg kp 0 mem reg out spc) w) := by
  have hA : vp_in ((w >>> ((5 : Int32) &&& 31)) &&& 7) 8 := cm_7 _
  have hB : vp_in ((w >>> ((8 : Int32) &&& 31)) &&& 7) 8 := cm_7 _
  have hC : vp_in ((w >>> ((11 : Int32) &&& 31)) &&& 7) 8 := cm_7 _
  obtain ⟨r, hr, hX, hY⟩ := cm_tr (oc := oc) (ec := ec) (st := st) (pl := pl) (inn := inn) (otr := otr) (pg := pg) (kp := kp) (t := 0) (mem := mem) (reg := reg) (out := out) (spc := spc) (reg ((w >>> ((8 : Int32) &&& 31)) &&& 7).toNatClampNeg + (w >>> ((14 : Int32) &&& 31))) 0
  rcases hr with rfl | hr
  · obtain ⟨u', v', ⟨oc', ec', st', pl', inn', otr', pg', kp', mem', reg', out', spc', rfl, rfl, hI'⟩, hTX, hTY⟩ := cm_trap (ec := ec) (st := st) (pl := pl) (mem := mem) (reg := reg) (out := out) (spc := (upd spc 4 (reg ((w >>> ((8 : Int32) &&& 31)) &&& 7).toNatClampNeg + (w >>> ((14 : Int32) &&& 31))))) 0 3 hI
    refine ⟨_, _, ⟨1, oc', ec', st', pl', inn', otr', pg', kp', mem', reg', out', spc', rfl, rfl, cm_Iup hI' (by omega)⟩, fun post h => ?_, fun post h => ?_⟩
    · repeat' (first | exact h | refine hTX _ ?_ | refine hX _ ?_ | refine br_t (by decide) ?_ | refine br_f (by decide) ?_ | refine br_t (by assumption) ?_ | refine br_f (by assumption) ?_ | refine And.intro (by assumption) ?_ | refine nm_r ho ?_ | refine nm_e ?_)
    · repeat' (first | exact h | refine hTY _ ?_ | (unfold wY_access_13 wpY_reach; refine hY _ ?_) | refine br_t (by decide) ?_ | refine br_f (by decide) ?_ | refine br_t (by assumption) ?_ | refine br_f (by assumption) ?_ | refine And.intro (by assumption) ?_ | refine nm_r ho ?_ | refine nm_e ?_)
  · obtain ⟨r1, r2, r3, r4, r5, r6⟩ := cm_rf hr
    refine ⟨cm_U oc ec st (pl + 1) inn pg kp mem (upd reg ((w >>> ((5 : Int32) &&& 31)) &&& 7).toNatClampNeg (mem r.toNatClampNeg)) out spc, cm_V oc ec st (pl + 1) otr pg kp 0 mem (upd reg ((w >>> ((5 : Int32) &&& 31)) &&& 7).toNatClampNeg (mem r.toNatClampNeg)) out spc, ⟨0, oc, ec, st, pl + 1, inn, otr, pg, kp, mem, upd reg ((w >>> ((5 : Int32) &&& 31)) &&& 7).toNatClampNeg (mem r.toNatClampNeg), out, spc, rfl, rfl, cm_Iup hI (by omega)⟩, fun post h => ?_, fun post h => ?_⟩
    · repeat' (first | exact h | refine hX _ ?_ | refine br_t (by decide) ?_ | refine br_f (by decide) ?_ | refine br_t (by assumption) ?_ | refine br_f (by assumption) ?_ | refine And.intro (by assumption) ?_ | refine nm_r ho ?_ | refine nm_e ?_)
    · repeat' (first | exact h | (unfold wY_access_13 wpY_reach; refine hY _ ?_) | (rw [r5]; exact h) | refine br_t (by decide) ?_ | refine br_f (by decide) ?_ | refine br_t (by assumption) ?_ | refine br_f (by assumption) ?_ | refine And.intro (by assumption) ?_ | refine nm_r ho ?_ | refine nm_e ?_)
theorem cm_o13 {c : Nat} {oc ec st pl inn otr pg kp : Int32} {mem reg out spc : Nat → Int32} (hI : cm_I c oc inn otr pg kp) (w : Int32) (ho : w &&& 31 = 13) : cm_B (c + 1) (fun post => wpX_store post (cm_U oc ec st pl inn pg kp mem reg out spc) w) (fun post => wpY_work post (cm_V oc ec st pl otr pg kp 0 mem reg out spc) w) := by
  have hA : vp_in ((w >>> ((5 : Int32) &&& 31)) &&& 7) 8 := cm_7 _
  have hB : vp_in ((w >>> ((8 : Int32) &&& 31)) &&& 7) 8 := cm_7 _
  have hC : vp_in ((w >>> ((11 : Int32) &&& 31)) &&& 7) 8 := cm_7 _
  obtain ⟨r, hr, hX, hY⟩ := cm_tr (oc := oc) (ec := ec) (st := st) (pl := pl) (inn := inn) (otr := otr) (pg := pg) (kp := kp) (t := 0) (mem := mem) (reg := reg) (out := out) (spc := spc) (reg ((w >>> ((8 : Int32) &&& 31)) &&& 7).toNatClampNeg + (w >>> ((14 : Int32) &&& 31))) 1
  rcases hr with rfl | hr
  · obtain ⟨u', v', ⟨oc', ec', st', pl', inn', otr', pg', kp', mem', reg', out', spc', rfl, rfl, hI'⟩, hTX, hTY⟩ := cm_trap (ec := ec) (st := st) (pl := pl) (mem := mem) (reg := reg) (out := out) (spc := (upd spc 4 (reg ((w >>> ((8 : Int32) &&& 31)) &&& 7).toNatClampNeg + (w >>> ((14 : Int32) &&& 31))))) 0 3 hI
    refine ⟨_, _, ⟨1, oc', ec', st', pl', inn', otr', pg', kp', mem', reg', out', spc', rfl, rfl, cm_Iup hI' (by omega)⟩, fun post h => ?_, fun post h => ?_⟩
    · repeat' (first | exact h | refine hTX _ ?_ | refine hX _ ?_ | refine br_t (by decide) ?_ | refine br_f (by decide) ?_ | refine br_t (by assumption) ?_ | refine br_f (by assumption) ?_ | refine And.intro (by assumption) ?_ | refine nm_r ho ?_ | refine nm_e ?_)
    · repeat' (first | exact h | refine hTY _ ?_ | (unfold wY_access_13 wpY_reach; refine hY _ ?_) | refine br_t (by decide) ?_ | refine br_f (by decide) ?_ | refine br_t (by assumption) ?_ | refine br_f (by assumption) ?_ | refine And.intro (by assumption) ?_ | refine nm_r ho ?_ | refine nm_e ?_)
  · obtain ⟨r1, r2, r3, r4, r5, r6⟩ := cm_rf hr
    refine ⟨cm_U oc ec st (pl + 1) inn pg kp (upd mem r.toNatClampNeg (reg ((w >>> ((5 : Int32) &&& 31)) &&& 7).toNatClampNeg)) reg out spc, cm_V oc ec st (pl + 1) otr pg kp 0 (upd mem r.toNatClampNeg (reg ((w >>> ((5 : Int32) &&& 31)) &&& 7).toNatClampNeg)) reg out spc, ⟨0, oc, ec, st, pl + 1, inn, otr, pg, kp, upd mem r.toNatClampNeg (reg ((w >>> ((5 : Int32) &&& 31)) &&& 7).toNatClampNeg), reg, out, spc, rfl, rfl, cm_Iup hI (by omega)⟩, fun post h => ?_, fun post h => ?_⟩
    · repeat' (first | exact h | refine hX _ ?_ | refine br_t (by decide) ?_ | refine br_f (by decide) ?_ | refine br_t (by assumption) ?_ | refine br_f (by assumption) ?_ | refine And.intro (by assumption) ?_ | refine nm_r ho ?_ | refine nm_e ?_)
    · repeat' (first | exact h | (unfold wY_access_13 wpY_reach; refine hY _ ?_) | (rw [r5]; exact h) | refine br_t (by decide) ?_ | refine br_f (by decide) ?_ | refine br_t (by assumption) ?_ | refine br_f (by assumption) ?_ | refine And.intro (by assumption) ?_ | refine nm_r ho ?_ | refine nm_e ?_)
theorem cm_o20 {c : Nat} {oc ec st pl inn otr pg kp : Int32} {mem reg out spc : Nat → Int32} (hI : cm_I c oc inn otr pg kp) (w : Int32) (ho : w &&& 31 = 20) : cm_B (c + 1) (fun post => wpX_trap post (cm_U oc ec st pl inn pg kp mem reg out spc) 4) (fun post => wpY_work post (cm_V oc ec st pl otr pg kp 0 mem reg out spc) w) := by
  have hA : vp_in ((w >>> ((5 : Int32) &&& 31)) &&& 7) 8 := cm_7 _
  have hB : vp_in ((w >>> ((8 : Int32) &&& 31)) &&& 7) 8 := cm_7 _
  have hC : vp_in ((w >>> ((11 : Int32) &&& 31)) &&& 7) 8 := cm_7 _
  obtain ⟨u', v', ⟨oc', ec', st', pl', inn', otr', pg', kp', mem', reg', out', spc', rfl, rfl, hI'⟩, hTX, hTY⟩ := cm_trap (ec := ec) (st := st) (pl := pl) (mem := mem) (reg := reg) (out := out) (spc := spc) 0 4 hI
  refine ⟨_, _, ⟨1, oc', ec', st', pl', inn', otr', pg', kp', mem', reg', out', spc', rfl, rfl, cm_Iup hI' (by omega)⟩, fun post h => ?_, fun post h => ?_⟩
  · repeat' (first | exact h | refine hTX _ ?_ | refine br_t (by decide) ?_ | refine br_f (by decide) ?_ | refine br_t (by assumption) ?_ | refine br_f (by assumption) ?_ | refine And.intro (by assumption) ?_ | refine nm_r ho ?_ | refine nm_e ?_)
  · repeat' (first | exact h | refine hTY _ ?_ | refine br_t (by decide) ?_ | refine br_f (by decide) ?_ | refine br_t (by assumption) ?_ | refine br_f (by assumption) ?_ | refine And.intro (by assumption) ?_ | refine nm_r ho ?_ | refine nm_e ?_)
theorem cm_o27 {c : Nat} {oc ec st pl inn otr pg kp : Int32} {mem reg out spc : Nat → Int32} (hI : cm_I c oc inn otr pg kp) (w : Int32) (ho : w &&& 31 = 27) : cm_B (c + 1) (fun post => wpX_trap post (cm_U oc ec st pl inn pg kp mem reg out spc) 1) (fun post => wpY_work post (cm_V oc ec st pl otr pg kp 0 mem reg out spc) w) := by
  have hA : vp_in ((w >>> ((5 : Int32) &&& 31)) &&& 7) 8 := cm_7 _
  have hB : vp_in ((w >>> ((8 : Int32) &&& 31)) &&& 7) 8 := cm_7 _
  have hC : vp_in ((w >>> ((11 : Int32) &&& 31)) &&& 7) 8 := cm_7 _
  obtain ⟨u', v', ⟨oc', ec', st', pl', inn', otr', pg', kp', mem', reg', out', spc', rfl, rfl, hI'⟩, hTX, hTY⟩ := cm_trap (ec := ec) (st := st) (pl := pl) (mem := mem) (reg := reg) (out := out) (spc := spc) 0 1 hI
  refine ⟨_, _, ⟨1, oc', ec', st', pl', inn', otr', pg', kp', mem', reg', out', spc', rfl, rfl, cm_Iup hI' (by omega)⟩, fun post h => ?_, fun post h => ?_⟩
  · repeat' (first | exact h | refine hTX _ ?_ | refine br_t (by decide) ?_ | refine br_f (by decide) ?_ | refine br_t (by assumption) ?_ | refine br_f (by assumption) ?_ | refine And.intro (by assumption) ?_ | refine nm_r ho ?_ | refine nm_e ?_)
  · repeat' (first | exact h | refine hTY _ ?_ | refine br_t (by decide) ?_ | refine br_f (by decide) ?_ | refine br_t (by assumption) ?_ | refine br_f (by assumption) ?_ | refine And.intro (by assumption) ?_ | refine nm_r ho ?_ | refine nm_e ?_)
theorem cm_o28 {c : Nat} {oc ec st pl inn otr pg kp : Int32} {mem reg out spc : Nat → Int32} (hI : cm_I c oc inn otr pg kp) (w : Int32) (ho : w &&& 31 = 28) : cm_B (c + 1) (fun post => wpX_trap post (cm_U oc ec st pl inn pg kp mem reg out spc) 1) (fun post => wpY_work post (cm_V oc ec st pl otr pg kp 0 mem reg out spc) w) := by
  have hA : vp_in ((w >>> ((5 : Int32) &&& 31)) &&& 7) 8 := cm_7 _
  have hB : vp_in ((w >>> ((8 : Int32) &&& 31)) &&& 7) 8 := cm_7 _
  have hC : vp_in ((w >>> ((11 : Int32) &&& 31)) &&& 7) 8 := cm_7 _
  obtain ⟨u', v', ⟨oc', ec', st', pl', inn', otr', pg', kp', mem', reg', out', spc', rfl, rfl, hI'⟩, hTX, hTY⟩ := cm_trap (ec := ec) (st := st) (pl := pl) (mem := mem) (reg := reg) (out := out) (spc := spc) 0 1 hI
  refine ⟨_, _, ⟨1, oc', ec', st', pl', inn', otr', pg', kp', mem', reg', out', spc', rfl, rfl, cm_Iup hI' (by omega)⟩, fun post h => ?_, fun post h => ?_⟩
  · repeat' (first | exact h | refine hTX _ ?_ | refine br_t (by decide) ?_ | refine br_f (by decide) ?_ | refine br_t (by assumption) ?_ | refine br_f (by assumption) ?_ | refine And.intro (by assumption) ?_ | refine nm_r ho ?_ | refine nm_e ?_)
  · repeat' (first | exact h | refine hTY _ ?_ | refine br_t (by decide) ?_ | refine br_f (by decide) ?_ | refine br_t (by assumption) ?_ | refine br_f (by assumption) ?_ | refine And.intro (by assumption) ?_ | refine nm_r ho ?_ | refine nm_e ?_)
theorem cm_o29 {c : Nat} {oc ec st pl inn otr pg kp : Int32} {mem reg out spc : Nat → Int32} (hI : cm_I c oc inn otr pg kp) (w : Int32) (ho : w &&& 31 = 29) : cm_B (c + 1) (fun post => wpX_trap post (cm_U oc ec st pl inn pg kp mem reg out spc) 1) (fun post => wpY_work post (cm_V oc ec st pl otr pg kp 0 mem reg out spc) w) := by
  have hA : vp_in ((w >>> ((5 : Int32) &&& 31)) &&& 7) 8 := cm_7 _
  have hB : vp_in ((w >>> ((8 : Int32) &&& 31)) &&& 7) 8 := cm_7 _
  have hC : vp_in ((w >>> ((11 : Int32) &&& 31)) &&& 7) 8 := cm_7 _
  obtain ⟨u', v', ⟨oc', ec', st', pl', inn', otr', pg', kp', mem', reg', out', spc', rfl, rfl, hI'⟩, hTX, hTY⟩ := cm_trap (ec := ec) (st := st) (pl := pl) (mem := mem) (reg := reg) (out := out) (spc := spc) 0 1 hI
  refine ⟨_, _, ⟨1, oc', ec', st', pl', inn', otr', pg', kp', mem', reg', out', spc', rfl, rfl, cm_Iup hI' (by omega)⟩, fun post h => ?_, fun post h => ?_⟩
  · repeat' (first | exact h | refine hTX _ ?_ | refine br_t (by decide) ?_ | refine br_f (by decide) ?_ | refine br_t (by assumption) ?_ | refine br_f (by assumption) ?_ | refine And.intro (by assumption) ?_ | refine nm_r ho ?_ | refine nm_e ?_)
  · repeat' (first | exact h | refine hTY _ ?_ | refine br_t (by decide) ?_ | refine br_f (by decide) ?_ | refine br_t (by assumption) ?_ | refine br_f (by assumption) ?_ | refine And.intro (by assumption) ?_ | refine nm_r ho ?_ | refine nm_e ?_)
theorem cm_o30 {c : Nat} {oc ec st pl inn otr pg kp : Int32} {mem reg out spc : Nat → Int32} (hI : cm_I c oc inn otr pg kp) (w : Int32) (ho : w &&& 31 = 30) : cm_B (c + 1) (fun post => wpX_trap post (cm_U oc ec st pl inn pg kp mem reg out spc) 1) (fun post => wpY_work post (cm_V oc ec st pl otr pg kp 0 mem reg out spc) w) := by
  have hA : vp_in ((w >>> ((5 : Int32) &&& 31)) &&& 7) 8 := cm_7 _
  have hB : vp_in ((w >>> ((8 : Int32) &&& 31)) &&& 7) 8 := cm_7 _
  have hC : vp_in ((w >>> ((11 : Int32) &&& 31)) &&& 7) 8 := cm_7 _
  obtain ⟨u', v', ⟨oc', ec', st', pl', inn', otr', pg', kp', mem', reg', out', spc', rfl, rfl, hI'⟩, hTX, hTY⟩ := cm_trap (ec := ec) (st := st) (pl := pl) (mem := mem) (reg := reg) (out := out) (spc := spc) 0 1 hI
  refine ⟨_, _, ⟨1, oc', ec', st', pl', inn', otr', pg', kp', mem', reg', out', spc', rfl, rfl, cm_Iup hI' (by omega)⟩, fun post h => ?_, fun post h => ?_⟩
  · repeat' (first | exact h | refine hTX _ ?_ | refine br_t (by decide) ?_ | refine br_f (by decide) ?_ | refine br_t (by assumption) ?_ | refine br_f (by assumption) ?_ | refine And.intro (by assumption) ?_ | refine nm_r ho ?_ | refine nm_e ?_)
  · repeat' (first | exact h | refine hTY _ ?_ | refine br_t (by decide) ?_ | refine br_f (by decide) ?_ | refine br_t (by assumption) ?_ | refine br_f (by assumption) ?_ | refine And.intro (by assumption) ?_ | refine nm_r ho ?_ | refine nm_e ?_)
theorem cm_o31 {c : Nat} {oc ec st pl inn otr pg kp : Int32} {mem reg out spc : Nat → Int32} (hI : cm_I c oc inn otr pg kp) (w : Int32) (ho : w &&& 31 = 31) : cm_B (c + 1) (fun post => wpX_trap post (cm_U oc ec st pl inn pg kp mem reg out spc) 1) (fun post => wpY_work post (cm_V oc ec st pl otr pg kp 0 mem reg out spc) w) := by
  have hA : vp_in ((w >>> ((5 : Int32) &&& 31)) &&& 7) 8 := cm_7 _
  have hB : vp_in ((w >>> ((8 : Int32) &&& 31)) &&& 7) 8 := cm_7 _
  have hC : vp_in ((w >>> ((11 : Int32) &&& 31)) &&& 7) 8 := cm_7 _
  obtain ⟨u', v', ⟨oc', ec', st', pl', inn', otr', pg', kp', mem', reg', out', spc', rfl, rfl, hI'⟩, hTX, hTY⟩ := cm_trap (ec := ec) (st := st) (pl := pl) (mem := mem) (reg := reg) (out := out) (spc := spc) 0 1 hI
  refine ⟨_, _, ⟨1, oc', ec', st', pl', inn', otr', pg', kp', mem', reg', out', spc', rfl, rfl, cm_Iup hI' (by omega)⟩, fun post h => ?_, fun post h => ?_⟩
  · repeat' (first | exact h | refine hTX _ ?_ | refine br_t (by decide) ?_ | refine br_f (by decide) ?_ | refine br_t (by assumption) ?_ | refine br_f (by assumption) ?_ | refine And.intro (by assumption) ?_ | refine nm_r ho ?_ | refine nm_e ?_)
  · repeat' (first | exact h | refine hTY _ ?_ | refine br_t (by decide) ?_ | refine br_f (by decide) ?_ | refine br_t (by assumption) ?_ | refine br_f (by assumption) ?_ | refine And.intro (by assumption) ?_ | refine nm_r ho ?_ | refine nm_e ?_)
theorem cm_o21 {c : Nat} {oc ec st pl inn otr pg kp : Int32} {mem reg out spc : Nat → Int32} (hI : cm_I c oc inn otr pg kp) (w : Int32) (ho : w &&& 31 = 21) : cm_B (c + 1) (fun post => wpX_control post (cm_U oc ec st pl inn pg kp mem reg out spc) w) (fun post => wpY_work post (cm_V oc ec st pl otr pg kp 0 mem reg out spc) w) := by
  have hA : vp_in ((w >>> ((5 : Int32) &&& 31)) &&& 7) 8 := cm_7 _
  have hB : vp_in ((w >>> ((8 : Int32) &&& 31)) &&& 7) 8 := cm_7 _
  have hC : vp_in ((w >>> ((11 : Int32) &&& 31)) &&& 7) 8 := cm_7 _
  by_cases hm : inn = 0
  · have hm' : ¬ otr = 0 := by
      obtain ⟨-, ⟨rfl, rfl⟩ | ⟨rfl, rfl⟩, -⟩ := hI
      · exact absurd hm (by decide)
      · decide
    obtain ⟨u', v', ⟨oc', ec', st', pl', inn', otr', pg', kp', mem', reg', out', spc', rfl, rfl, hI'⟩, hTX, hTY⟩ := cm_trap (ec := ec) (st := st) (pl := pl) (mem := mem) (reg := reg) (out := out) (spc := spc) 0 2 hI
    refine ⟨_, _, ⟨1, oc', ec', st', pl', inn', otr', pg', kp', mem', reg', out', spc', rfl, rfl, cm_Iup hI' (by omega)⟩, fun post h => ?_, fun post h => ?_⟩
    · repeat' (first | exact h | refine hTX _ ?_ | refine br_t (by decide) ?_ | refine br_f (by decide) ?_ | refine br_t (by assumption) ?_ | refine br_f (by assumption) ?_ | refine And.intro (by assumption) ?_ | refine nm_r ho ?_ | refine nm_e ?_)
    · repeat' (first | exact h | refine hTY _ ?_ | refine br_t (by decide) ?_ | refine br_f (by decide) ?_ | refine br_t (by assumption) ?_ | refine br_f (by assumption) ?_ | refine And.intro (by assumption) ?_ | refine nm_r ho ?_ | refine nm_e ?_)
  · have hm' : otr = 0 := by
      obtain ⟨-, ⟨rfl, rfl⟩ | ⟨rfl, rfl⟩, -⟩ := hI
      · rfl
      · exact absurd rfl hm
    refine ⟨cm_U oc ec st (pl + 1) inn pg kp mem reg out (upd spc 0 (reg ((w >>> ((5 : Int32) &&& 31)) &&& 7).toNatClampNeg)), cm_V oc ec st (pl + 1) otr pg kp 0 mem reg out (upd spc 0 (reg ((w >>> ((5 : Int32) &&& 31)) &&& 7).toNatClampNeg)), ⟨0, oc, ec, st, pl + 1, inn, otr, pg, kp, mem, reg, out, upd spc 0 (reg ((w >>> ((5 : Int32) &&& 31)) &&& 7).toNatClampNeg), rfl, rfl, cm_Iup hI (by omega)⟩, fun post h => ?_, fun post h => ?_⟩
    · repeat' (first | exact h | refine br_t (by decide) ?_ | refine br_f (by decide) ?_ | refine br_t (by assumption) ?_ | refine br_f (by assumption) ?_ | refine And.intro (by assumption) ?_ | refine nm_r ho ?_ | refine nm_e ?_)
    · repeat' (first | exact h | refine br_t (by decide) ?_ | refine br_f (by decide) ?_ | refine br_t (by assumption) ?_ | refine br_f (by assumption) ?_ | refine And.intro (by assumption) ?_ | refine nm_r ho ?_ | refine nm_e ?_)
theorem cm_o22 {c : Nat} {oc ec st pl inn otr pg kp : Int32} {mem reg out spc : Nat → Int32} (hI : cm_I c oc inn otr pg kp) (w : Int32) (ho : w &&& 31 = 22) : cm_B (c + 1) (fun post => wpX_control post (cm_U oc ec st pl inn pg kp mem reg out spc) w) (fun post => wpY_work post (cm_V oc ec st pl otr pg kp 0 mem reg out spc) w) := by
  have hA : vp_in ((w >>> ((5 : Int32) &&& 31)) &&& 7) 8 := cm_7 _
  have hB : vp_in ((w >>> ((8 : Int32) &&& 31)) &&& 7) 8 := cm_7 _
  have hC : vp_in ((w >>> ((11 : Int32) &&& 31)) &&& 7) 8 := cm_7 _
  by_cases hm : inn = 0
  · have hm' : ¬ otr = 0 := by
      obtain ⟨-, ⟨rfl, rfl⟩ | ⟨rfl, rfl⟩, -⟩ := hI
      · exact absurd hm (by decide)
      · decide
    obtain ⟨u', v', ⟨oc', ec', st', pl', inn', otr', pg', kp', mem', reg', out', spc', rfl, rfl, hI'⟩, hTX, hTY⟩ := cm_trap (ec := ec) (st := st) (pl := pl) (mem := mem) (reg := reg) (out := out) (spc := spc) 0 2 hI
    refine ⟨_, _, ⟨1, oc', ec', st', pl', inn', otr', pg', kp', mem', reg', out', spc', rfl, rfl, cm_Iup hI' (by omega)⟩, fun post h => ?_, fun post h => ?_⟩
    · repeat' (first | exact h | refine hTX _ ?_ | refine br_t (by decide) ?_ | refine br_f (by decide) ?_ | refine br_t (by assumption) ?_ | refine br_f (by assumption) ?_ | refine And.intro (by assumption) ?_ | refine nm_r ho ?_ | refine nm_e ?_)
    · repeat' (first | exact h | refine hTY _ ?_ | refine br_t (by decide) ?_ | refine br_f (by decide) ?_ | refine br_t (by assumption) ?_ | refine br_f (by assumption) ?_ | refine And.intro (by assumption) ?_ | refine nm_r ho ?_ | refine nm_e ?_)
  · have hm' : otr = 0 := by
      obtain ⟨-, ⟨rfl, rfl⟩ | ⟨rfl, rfl⟩, -⟩ := hI
      · rfl
      · exact absurd rfl hm
    have b0 : narrow .boolean (.int (0 : Int32)) = .int 0 := by decide
    have b1 : narrow .boolean (.int (1 : Int32)) = .int 1 := by decide
    have f0 : fits .boolean (.int (0 : Int32)) = true := by decide
    have f1 : fits .boolean (.int (1 : Int32)) = true := by decide
    by_cases hz : reg ((w >>> ((5 : Int32) &&& 31)) &&& 7).toNatClampNeg = 0
    · refine ⟨cm_U oc ec st (pl + 1) inn (0) kp mem reg out spc, cm_V oc ec st (pl + 1) otr (0) kp 0 mem reg out spc, ⟨0, oc, ec, st, pl + 1, inn, otr, 0, kp, mem, reg, out, spc, rfl, rfl, ⟨(cm_Iup hI (Nat.le_succ c)).1, hI.2.1, Or.inl rfl, hI.2.2.2⟩⟩, fun post h => ?_, fun post h => ?_⟩
      · repeat' (first | exact h | refine br_t (by decide) ?_ | refine br_f (by decide) ?_ | refine br_t (by assumption) ?_ | refine br_f (by assumption) ?_ | refine And.intro (by assumption) ?_ | refine nm_r ho ?_ | refine nm_e ?_)
      · repeat' (first | exact h | refine br_t (by decide) ?_ | refine br_f (by decide) ?_ | refine br_t (by assumption) ?_ | refine br_f (by assumption) ?_ | refine And.intro (by assumption) ?_ | refine nm_r ho ?_ | refine nm_e ?_)
    · refine ⟨cm_U oc ec st (pl + 1) inn (1) kp mem reg out spc, cm_V oc ec st (pl + 1) otr (1) kp 0 mem reg out spc, ⟨0, oc, ec, st, pl + 1, inn, otr, 1, kp, mem, reg, out, spc, rfl, rfl, ⟨(cm_Iup hI (Nat.le_succ c)).1, hI.2.1, Or.inr rfl, hI.2.2.2⟩⟩, fun post h => ?_, fun post h => ?_⟩
      · repeat' (first | exact h | refine br_t (by decide) ?_ | refine br_f (by decide) ?_ | refine br_t (by assumption) ?_ | refine br_f (by assumption) ?_ | refine And.intro (by assumption) ?_ | refine nm_r ho ?_ | refine nm_e ?_)
      · repeat' (first | exact h | refine br_t (by decide) ?_ | refine br_f (by decide) ?_ | refine br_t (by assumption) ?_ | refine br_f (by assumption) ?_ | refine And.intro (by assumption) ?_ | refine nm_r ho ?_ | refine nm_e ?_)
theorem cm_o23 {c : Nat} {oc ec st pl inn otr pg kp : Int32} {mem reg out spc : Nat → Int32} (hI : cm_I c oc inn otr pg kp) (w : Int32) (ho : w &&& 31 = 23) : cm_B (c + 1) (fun post => wpX_control post (cm_U oc ec st pl inn pg kp mem reg out spc) w) (fun post => wpY_work post (cm_V oc ec st pl otr pg kp 0 mem reg out spc) w) := by
  have hA : vp_in ((w >>> ((5 : Int32) &&& 31)) &&& 7) 8 := cm_7 _
  have hB : vp_in ((w >>> ((8 : Int32) &&& 31)) &&& 7) 8 := cm_7 _
  have hC : vp_in ((w >>> ((11 : Int32) &&& 31)) &&& 7) 8 := cm_7 _
  by_cases hm : inn = 0
  · have hm' : ¬ otr = 0 := by
      obtain ⟨-, ⟨rfl, rfl⟩ | ⟨rfl, rfl⟩, -⟩ := hI
      · exact absurd hm (by decide)
      · decide
    obtain ⟨u', v', ⟨oc', ec', st', pl', inn', otr', pg', kp', mem', reg', out', spc', rfl, rfl, hI'⟩, hTX, hTY⟩ := cm_trap (ec := ec) (st := st) (pl := pl) (mem := mem) (reg := reg) (out := out) (spc := spc) 0 2 hI
    refine ⟨_, _, ⟨1, oc', ec', st', pl', inn', otr', pg', kp', mem', reg', out', spc', rfl, rfl, cm_Iup hI' (by omega)⟩, fun post h => ?_, fun post h => ?_⟩
    · repeat' (first | exact h | refine hTX _ ?_ | refine br_t (by decide) ?_ | refine br_f (by decide) ?_ | refine br_t (by assumption) ?_ | refine br_f (by assumption) ?_ | refine And.intro (by assumption) ?_ | refine nm_r ho ?_ | refine nm_e ?_)
    · repeat' (first | exact h | refine hTY _ ?_ | refine br_t (by decide) ?_ | refine br_f (by decide) ?_ | refine br_t (by assumption) ?_ | refine br_f (by assumption) ?_ | refine And.intro (by assumption) ?_ | refine nm_r ho ?_ | refine nm_e ?_)
  · have hm' : otr = 0 := by
      obtain ⟨-, ⟨rfl, rfl⟩ | ⟨rfl, rfl⟩, -⟩ := hI
      · rfl
      · exact absurd rfl hm
    refine ⟨cm_U oc ec st (pl + 1) inn pg kp mem reg out (upd spc 1 (reg ((w >>> ((5 : Int32) &&& 31)) &&& 7).toNatClampNeg)), cm_V oc ec st (pl + 1) otr pg kp 0 mem reg out (upd spc 1 (reg ((w >>> ((5 : Int32) &&& 31)) &&& 7).toNatClampNeg)), ⟨0, oc, ec, st, pl + 1, inn, otr, pg, kp, mem, reg, out, upd spc 1 (reg ((w >>> ((5 : Int32) &&& 31)) &&& 7).toNatClampNeg), rfl, rfl, cm_Iup hI (by omega)⟩, fun post h => ?_, fun post h => ?_⟩
    · repeat' (first | exact h | refine br_t (by decide) ?_ | refine br_f (by decide) ?_ | refine br_t (by assumption) ?_ | refine br_f (by assumption) ?_ | refine And.intro (by assumption) ?_ | refine nm_r ho ?_ | refine nm_e ?_)
    · repeat' (first | exact h | refine br_t (by decide) ?_ | refine br_f (by decide) ?_ | refine br_t (by assumption) ?_ | refine br_f (by assumption) ?_ | refine And.intro (by assumption) ?_ | refine nm_r ho ?_ | refine nm_e ?_)
theorem cm_o24 {c : Nat} {oc ec st pl inn otr pg kp : Int32} {mem reg out spc : Nat → Int32} (hI : cm_I c oc inn otr pg kp) (w : Int32) (ho : w &&& 31 = 24) : cm_B (c + 1) (fun post => wpX_control post (cm_U oc ec st pl inn pg kp mem reg out spc) w) (fun post => wpY_work post (cm_V oc ec st pl otr pg kp 0 mem reg out spc) w) := by
  have hA : vp_in ((w >>> ((5 : Int32) &&& 31)) &&& 7) 8 := cm_7 _
  have hB : vp_in ((w >>> ((8 : Int32) &&& 31)) &&& 7) 8 := cm_7 _
  have hC : vp_in ((w >>> ((11 : Int32) &&& 31)) &&& 7) 8 := cm_7 _
  by_cases hm : inn = 0
  · have hm' : ¬ otr = 0 := by
      obtain ⟨-, ⟨rfl, rfl⟩ | ⟨rfl, rfl⟩, -⟩ := hI
      · exact absurd hm (by decide)
      · decide
    obtain ⟨u', v', ⟨oc', ec', st', pl', inn', otr', pg', kp', mem', reg', out', spc', rfl, rfl, hI'⟩, hTX, hTY⟩ := cm_trap (ec := ec) (st := st) (pl := pl) (mem := mem) (reg := reg) (out := out) (spc := spc) 0 2 hI
    refine ⟨_, _, ⟨1, oc', ec', st', pl', inn', otr', pg', kp', mem', reg', out', spc', rfl, rfl, cm_Iup hI' (by omega)⟩, fun post h => ?_, fun post h => ?_⟩
    · repeat' (first | exact h | refine hTX _ ?_ | refine br_t (by decide) ?_ | refine br_f (by decide) ?_ | refine br_t (by assumption) ?_ | refine br_f (by assumption) ?_ | refine And.intro (by assumption) ?_ | refine nm_r ho ?_ | refine nm_e ?_)
    · repeat' (first | exact h | refine hTY _ ?_ | refine br_t (by decide) ?_ | refine br_f (by decide) ?_ | refine br_t (by assumption) ?_ | refine br_f (by assumption) ?_ | refine And.intro (by assumption) ?_ | refine nm_r ho ?_ | refine nm_e ?_)
  · have hm' : otr = 0 := by
      obtain ⟨-, ⟨rfl, rfl⟩ | ⟨rfl, rfl⟩, -⟩ := hI
      · rfl
      · exact absurd rfl hm
    have hb := cm_bn hI.2.2.2
    have hb1 := hb.1
    have hb2 := hb.2
    have e24 : spc 2 - 1 + 1 = spc 2 := Int32.sub_add_cancel _ _
    refine ⟨cm_U oc ec st (spc 2) (0) (kp) kp mem reg out spc, cm_V oc ec st (spc 2) (1) (kp) kp 0 mem reg out spc, ⟨0, oc, ec, st, spc 2, 0, 1, kp, kp, mem, reg, out, spc, rfl, rfl, ⟨(cm_Iup hI (Nat.le_succ c)).1, Or.inr ⟨rfl, rfl⟩, hI.2.2.2, hI.2.2.2⟩⟩, fun post h => ?_, fun post h => ?_⟩
    · repeat' (first | exact h | refine br_t (by decide) ?_ | refine br_f (by decide) ?_ | refine br_t (by assumption) ?_ | refine br_f (by assumption) ?_ | refine And.intro (by assumption) ?_ | refine nm_r ho ?_ | refine nm_e ?_)
    · repeat' (first | exact h | (rw [e24]; exact h) | refine br_t (by decide) ?_ | refine br_f (by decide) ?_ | refine br_t (by assumption) ?_ | refine br_f (by assumption) ?_ | refine And.intro (by assumption) ?_ | refine nm_r ho ?_ | refine nm_e ?_)
theorem cm_o25 {c : Nat} {oc ec st pl inn otr pg kp : Int32} {mem reg out spc : Nat → Int32} (hI : cm_I c oc inn otr pg kp) (w : Int32) (ho : w &&& 31 = 25) : cm_B (c + 1) (fun post => wpX_control post (cm_U oc ec st pl inn pg kp mem reg out spc) w) (fun post => wpY_work post (cm_V oc ec st pl otr pg kp 0 mem reg out spc) w) := by
  have hA : vp_in ((w >>> ((5 : Int32) &&& 31)) &&& 7) 8 := cm_7 _
  have hB : vp_in ((w >>> ((8 : Int32) &&& 31)) &&& 7) 8 := cm_7 _
  have hC : vp_in ((w >>> ((11 : Int32) &&& 31)) &&& 7) 8 := cm_7 _
  by_cases hm : inn = 0
  · have hm' : ¬ otr = 0 := by
      obtain ⟨-, ⟨rfl, rfl⟩ | ⟨rfl, rfl⟩, -⟩ := hI
      · exact absurd hm (by decide)
      · decide
    obtain ⟨u', v', ⟨oc', ec', st', pl', inn', otr', pg', kp', mem', reg', out', spc', rfl, rfl, hI'⟩, hTX, hTY⟩ := cm_trap (ec := ec) (st := st) (pl := pl) (mem := mem) (reg := reg) (out := out) (spc := spc) 0 2 hI
    refine ⟨_, _, ⟨1, oc', ec', st', pl', inn', otr', pg', kp', mem', reg', out', spc', rfl, rfl, cm_Iup hI' (by omega)⟩, fun post h => ?_, fun post h => ?_⟩
    · repeat' (first | exact h | refine hTX _ ?_ | refine br_t (by decide) ?_ | refine br_f (by decide) ?_ | refine br_t (by assumption) ?_ | refine br_f (by assumption) ?_ | refine And.intro (by assumption) ?_ | refine nm_r ho ?_ | refine nm_e ?_)
    · repeat' (first | exact h | refine hTY _ ?_ | refine br_t (by decide) ?_ | refine br_f (by decide) ?_ | refine br_t (by assumption) ?_ | refine br_f (by assumption) ?_ | refine And.intro (by assumption) ?_ | refine nm_r ho ?_ | refine nm_e ?_)
  · have hm' : otr = 0 := by
      obtain ⟨-, ⟨rfl, rfl⟩ | ⟨rfl, rfl⟩, -⟩ := hI
      · rfl
      · exact absurd rfl hm
    by_cases n0 : (w >>> ((14 : Int32) &&& 31)) < 0
    · obtain ⟨u', v', ⟨oc', ec', st', pl', inn', otr', pg', kp', mem', reg', out', spc', rfl, rfl, hI'⟩, hTX, hTY⟩ := cm_trap (ec := ec) (st := st) (pl := pl) (mem := mem) (reg := reg) (out := out) (spc := spc) 0 1 hI
      refine ⟨_, _, ⟨1, oc', ec', st', pl', inn', otr', pg', kp', mem', reg', out', spc', rfl, rfl, cm_Iup hI' (by omega)⟩, fun post h => ?_, fun post h => ?_⟩
      · repeat' (first | exact h | refine hTX _ ?_ | refine br_t (by decide) ?_ | refine br_f (by decide) ?_ | refine br_t (by assumption) ?_ | refine br_f (by assumption) ?_ | refine And.intro (by assumption) ?_ | refine nm_r ho ?_ | refine nm_e ?_)
      · repeat' (first | exact h | refine hTY _ ?_ | refine br_t (by decide) ?_ | refine br_f (by decide) ?_ | refine br_t (by assumption) ?_ | refine br_f (by assumption) ?_ | refine And.intro (by assumption) ?_ | refine nm_r ho ?_ | refine nm_e ?_)
    · by_cases n2 : 2 < (w >>> ((14 : Int32) &&& 31))
      · obtain ⟨u', v', ⟨oc', ec', st', pl', inn', otr', pg', kp', mem', reg', out', spc', rfl, rfl, hI'⟩, hTX, hTY⟩ := cm_trap (ec := ec) (st := st) (pl := pl) (mem := mem) (reg := reg) (out := out) (spc := spc) 0 1 hI
        refine ⟨_, _, ⟨1, oc', ec', st', pl', inn', otr', pg', kp', mem', reg', out', spc', rfl, rfl, cm_Iup hI' (by omega)⟩, fun post h => ?_, fun post h => ?_⟩
        · repeat' (first | exact h | refine hTX _ ?_ | refine br_t (by decide) ?_ | refine br_f (by decide) ?_ | refine br_t (by assumption) ?_ | refine br_f (by assumption) ?_ | refine And.intro (by assumption) ?_ | refine nm_r ho ?_ | refine nm_e ?_)
        · repeat' (first | exact h | refine hTY _ ?_ | refine br_t (by decide) ?_ | refine br_f (by decide) ?_ | refine br_t (by assumption) ?_ | refine br_f (by assumption) ?_ | refine And.intro (by assumption) ?_ | refine nm_r ho ?_ | refine nm_e ?_)
      · rcases cm_012 n0 n2 with q | q | q
        · have q5 : vp_in (2 + (w >>> ((14 : Int32) &&& 31))) 5 := by rw [q]; exact vp_in_iff.mpr (by decide)
          have qs : spc (2 + (w >>> ((14 : Int32) &&& 31))).toNatClampNeg = spc 2 := by rw [q]; rfl
          refine ⟨cm_U oc ec st (pl + 1) inn pg kp mem (upd reg ((w >>> ((5 : Int32) &&& 31)) &&& 7).toNatClampNeg (spc 2)) out spc, cm_V oc ec st (pl + 1) otr pg kp 0 mem (upd reg ((w >>> ((5 : Int32) &&& 31)) &&& 7).toNatClampNeg (spc 2)) out spc, ⟨0, oc, ec, st, pl + 1, inn, otr, pg, kp, mem, upd reg ((w >>> ((5 : Int32) &&& 31)) &&& 7).toNatClampNeg (spc 2), out, spc, rfl, rfl, cm_Iup hI (by omega)⟩, fun post h => ?_, fun post h => ?_⟩
          · repeat' (first | exact h | refine br_t (by decide) ?_ | refine br_f (by decide) ?_ | refine br_t (by assumption) ?_ | refine br_f (by assumption) ?_ | refine And.intro (by assumption) ?_ | refine nm_r ho ?_ | refine nm_e ?_)
          · repeat' (first | exact h | (rw [qs]; exact h) | refine br_t (by decide) ?_ | refine br_f (by decide) ?_ | refine br_t (by assumption) ?_ | refine br_f (by assumption) ?_ | refine And.intro (by assumption) ?_ | refine nm_r ho ?_ | refine nm_e ?_)
        · have q5 : vp_in (2 + (w >>> ((14 : Int32) &&& 31))) 5 := by rw [q]; exact vp_in_iff.mpr (by decide)
          have q0 : ¬ (w >>> ((14 : Int32) &&& 31)) = 0 := by rw [q]; decide
          have qs : spc (2 + (w >>> ((14 : Int32) &&& 31))).toNatClampNeg = spc 3 := by rw [q]; rfl
          refine ⟨cm_U oc ec st (pl + 1) inn pg kp mem (upd reg ((w >>> ((5 : Int32) &&& 31)) &&& 7).toNatClampNeg (spc 3)) out spc, cm_V oc ec st (pl + 1) otr pg kp 0 mem (upd reg ((w >>> ((5 : Int32) &&& 31)) &&& 7).toNatClampNeg (spc 3)) out spc, ⟨0, oc, ec, st, pl + 1, inn, otr, pg, kp, mem, upd reg ((w >>> ((5 : Int32) &&& 31)) &&& 7).toNatClampNeg (spc 3), out, spc, rfl, rfl, cm_Iup hI (by omega)⟩, fun post h => ?_, fun post h => ?_⟩
          · repeat' (first | exact h | refine br_t (by decide) ?_ | refine br_f (by decide) ?_ | refine br_t (by assumption) ?_ | refine br_f (by assumption) ?_ | refine And.intro (by assumption) ?_ | refine nm_r ho ?_ | refine nm_e ?_)
          · repeat' (first | exact h | (rw [qs]; exact h) | refine br_t (by decide) ?_ | refine br_f (by decide) ?_ | refine br_t (by assumption) ?_ | refine br_f (by assumption) ?_ | refine And.intro (by assumption) ?_ | refine nm_r ho ?_ | refine nm_e ?_)
        · have q5 : vp_in (2 + (w >>> ((14 : Int32) &&& 31))) 5 := by rw [q]; exact vp_in_iff.mpr (by decide)
          have q0 : ¬ (w >>> ((14 : Int32) &&& 31)) = 0 := by rw [q]; decide
          have q1 : ¬ (w >>> ((14 : Int32) &&& 31)) = 1 := by rw [q]; decide
          have qs : spc (2 + (w >>> ((14 : Int32) &&& 31))).toNatClampNeg = spc 4 := by rw [q]; rfl
          refine ⟨cm_U oc ec st (pl + 1) inn pg kp mem (upd reg ((w >>> ((5 : Int32) &&& 31)) &&& 7).toNatClampNeg (spc 4)) out spc, cm_V oc ec st (pl + 1) otr pg kp 0 mem (upd reg ((w >>> ((5 : Int32) &&& 31)) &&& 7).toNatClampNeg (spc 4)) out spc, ⟨0, oc, ec, st, pl + 1, inn, otr, pg, kp, mem, upd reg ((w >>> ((5 : Int32) &&& 31)) &&& 7).toNatClampNeg (spc 4), out, spc, rfl, rfl, cm_Iup hI (by omega)⟩, fun post h => ?_, fun post h => ?_⟩
          · repeat' (first | exact h | refine br_t (by decide) ?_ | refine br_f (by decide) ?_ | refine br_t (by assumption) ?_ | refine br_f (by assumption) ?_ | refine And.intro (by assumption) ?_ | refine nm_r ho ?_ | refine nm_e ?_)
          · repeat' (first | exact h | (rw [qs]; exact h) | refine br_t (by decide) ?_ | refine br_f (by decide) ?_ | refine br_t (by assumption) ?_ | refine br_f (by assumption) ?_ | refine And.intro (by assumption) ?_ | refine nm_r ho ?_ | refine nm_e ?_)
theorem cm_o26 {c : Nat} {oc ec st pl inn otr pg kp : Int32} {mem reg out spc : Nat → Int32} (hI : cm_I c oc inn otr pg kp) (w : Int32) (ho : w &&& 31 = 26) (hc : c < 2 ^ 30) : cm_B (c + 1) (fun post => wpX_print post (cm_U oc ec st pl inn pg kp mem reg out spc) w) (fun post => wpY_work post (cm_V oc ec st pl otr pg kp 0 mem reg out spc) w) := by
  have hA : vp_in ((w >>> ((5 : Int32) &&& 31)) &&& 7) 8 := cm_7 _
  have hB : vp_in ((w >>> ((8 : Int32) &&& 31)) &&& 7) 8 := cm_7 _
  have hC : vp_in ((w >>> ((11 : Int32) &&& 31)) &&& 7) 8 := cm_7 _
  obtain ⟨⟨n, hn, e⟩, hm⟩ := hI
  have p0 : ¬ oc < 0 := by rw [e]; exact nI_pos (by omega)
  have p1 : oc + 1 = nI (n + 1) := by rw [e]; exact nI_1 n
  by_cases p2 : 20 ≤ oc
  · refine ⟨cm_U (oc + 1) ec st (pl + 1) inn pg kp mem reg out spc, cm_V (oc + 1) ec st (pl + 1) otr pg kp 0 mem reg out spc, ⟨0, oc + 1, ec, st, pl + 1, inn, otr, pg, kp, mem, reg, out, spc, rfl, rfl, ⟨⟨n + 1, by omega, p1⟩, hm⟩⟩, fun post h => ?_, fun post h => ?_⟩
    · repeat' (first | exact h | refine br_t (by decide) ?_ | refine br_f (by decide) ?_ | refine br_t (by assumption) ?_ | refine br_f (by assumption) ?_ | refine And.intro (by assumption) ?_ | refine nm_r ho ?_ | refine nm_e ?_)
    · repeat' (first | exact h | refine br_t (by decide) ?_ | refine br_f (by decide) ?_ | refine br_t (by assumption) ?_ | refine br_f (by assumption) ?_ | refine And.intro (by assumption) ?_ | refine nm_r ho ?_ | refine nm_e ?_)
  · have p3 : vp_in oc 20 := by
      rw [e]
      rw [e, show (20 : Int32) = nI 20 from rfl, nI_leI (by decide) (by omega)] at p2
      exact vp_in_nI (by omega) (by decide)
    refine ⟨cm_U (oc + 1) ec st (pl + 1) inn pg kp mem reg (upd out oc.toNatClampNeg (reg ((w >>> ((5 : Int32) &&& 31)) &&& 7).toNatClampNeg)) spc, cm_V (oc + 1) ec st (pl + 1) otr pg kp 0 mem reg (upd out oc.toNatClampNeg (reg ((w >>> ((5 : Int32) &&& 31)) &&& 7).toNatClampNeg)) spc, ⟨0, oc + 1, ec, st, pl + 1, inn, otr, pg, kp, mem, reg, upd out oc.toNatClampNeg (reg ((w >>> ((5 : Int32) &&& 31)) &&& 7).toNatClampNeg), spc, rfl, rfl, ⟨⟨n + 1, by omega, p1⟩, hm⟩⟩, fun post h => ?_, fun post h => ?_⟩
    · repeat' (first | exact h | refine br_t (by decide) ?_ | refine br_f (by decide) ?_ | refine br_t (by assumption) ?_ | refine br_f (by assumption) ?_ | refine And.intro (by assumption) ?_ | refine nm_r ho ?_ | refine nm_e ?_)
    · repeat' (first | exact h | refine br_t (by decide) ?_ | refine br_f (by decide) ?_ | refine br_t (by assumption) ?_ | refine br_f (by assumption) ?_ | refine And.intro (by assumption) ?_ | refine nm_r ho ?_ | refine nm_e ?_)
