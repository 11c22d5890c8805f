section
theorem pk_us {f : Nat → Int32} {k : Nat} {x : Int32} : upd f k x k = x := if_pos rfl
theorem pk_un {f : Nat → Int32} {k j : Nat} {x : Int32} (h : j ≠ k) : upd f k x j = f j := if_neg h
theorem pk_ix (x : Int32) {n : Nat} (hn : n < 2 ^ 31) : x < 0 ∨ nI n ≤ x ∨ ∃ j : Nat, j < n ∧ x = nI j := by
  by_cases h : x < 0
  · exact Or.inl h
  · obtain ⟨j, hj, rfl⟩ := nI_of h
    by_cases h2 : j < n
    · exact Or.inr (Or.inr ⟨j, h2, rfl⟩)
    · exact Or.inr (Or.inl (nI_le (by omega) hj))
theorem pk_le {x y : Int32} {A B : Prop} (a b : Nat) (f : a ≤ b → A) (g : b < a → B) (hx : x = nI a := by rfl) (hy : y = nI b := by rfl) (ha : a < 2 ^ 31 := by omega) (hb : b < 2 ^ 31 := by omega) : (x ≤ y → A) ∧ (¬ x ≤ y → B) := by
  subst hx hy
  rw [nI_leI ha hb]
  exact ⟨f, fun z => g (by omega)⟩
theorem pk_lt {x y : Int32} {A B : Prop} (a b : Nat) (f : a < b → A) (g : b ≤ a → B) (hx : x = nI a := by rfl) (hy : y = nI b := by rfl) (ha : a < 2 ^ 31 := by omega) (hb : b < 2 ^ 31 := by omega) : (x < y → A) ∧ (¬ x < y → B) := by
  subst hx hy
  rw [nI_ltI ha hb]
  exact ⟨f, fun z => g (by omega)⟩
theorem pk_eq {x y : Int32} {A B : Prop} (a b : Nat) (f : a = b → A) (g : a ≠ b → B) (hx : x = nI a := by rfl) (hy : y = nI b := by rfl) (ha : a < 2 ^ 31 := by omega) (hb : b < 2 ^ 31 := by omega) : (x = y → A) ∧ (¬ x = y → B) := by
  subst hx hy
  rw [nI_eq ha hb]
  exact ⟨f, g⟩
theorem pk_in {x : Int32} (n N : Nat) (h : n < N) (hx : x = nI n := by rfl) (hN : N < 2 ^ 31 := by omega) : vp_in x N := by
  subst hx
  exact vp_in_nI h hN
theorem pk_cl {x : Int32} (n : Nat) (hx : x = nI n := by rfl) (h : n < 2 ^ 31 := by omega) : x.toNatClampNeg = n := by
  subst hx
  exact nI_clamp h
theorem pk_tn {n : Nat} (h : n < 2 ^ 32) : (nI n).toBitVec.toNat = n := Nat.mod_eq_of_lt h
theorem pk_and (x : Int32) {m : Int32} (k : Nat) (hm : m.toBitVec.toNat = 2 ^ k - 1) : x &&& m = nI (x.toBitVec.toNat % 2 ^ k) := by
  apply Int32.toBitVec_inj.mp
  apply BitVec.eq_of_toNat_eq
  rw [Int32.toBitVec_and, BitVec.toNat_and, hm, Nat.and_two_pow_sub_one_eq_mod]
  show _ = (BitVec.ofNat 32 _).toNat
  rw [BitVec.toNat_ofNat]
  exact (Nat.mod_eq_of_lt (Nat.lt_of_le_of_lt (Nat.mod_le _ _) x.toBitVec.isLt)).symm
theorem pk_andN {n : Nat} (h : n < 2 ^ 32) {m : Int32} (k : Nat) (hm : m.toBitVec.toNat = 2 ^ k - 1) : nI n &&& m = nI (n % 2 ^ k) := by
  rw [pk_and _ k hm, pk_tn h]
theorem pk_andE (x : Int32) {m : Int32} (k : Nat) (hm : m.toBitVec.toNat = 2 ^ k - 1) : ∃ j : Nat, j < 2 ^ k ∧ x &&& m = nI j := ⟨_, Nat.mod_lt _ (Nat.two_pow_pos k), pk_and x k hm⟩
theorem pk_andIn (x : Int32) {m : Int32} (k : Nat) (hm : m.toBitVec.toNat = 2 ^ k - 1) (hk : k ≤ 30) : vp_in (x &&& m) (2 ^ k) := by
  obtain ⟨j, hj, e⟩ := pk_andE x k hm
  rw [e]
  exact vp_in_nI hj (Nat.lt_of_le_of_lt (Nat.pow_le_pow_right (by decide) hk) (by decide))
theorem pk_shl (a s : Int32) (k : Nat) (hs : (s.toBitVec.smod 32).toNat = k) : (a <<< s).toBitVec.toNat = a.toBitVec.toNat * 2 ^ k % 2 ^ 32 := by
  show (a.toBitVec <<< (s.toBitVec.smod 32).toNat).toNat = _
  rw [hs, BitVec.toNat_shiftLeft, Nat.shiftLeft_eq]
theorem pk_shlN {n : Nat} (s : Int32) (k : Nat) (hs : (s.toBitVec.smod 32).toNat = k) (h : n * 2 ^ k < 2 ^ 32) : nI n <<< s = nI (n * 2 ^ k) := by
  apply Int32.toBitVec_inj.mp
  apply BitVec.eq_of_toNat_eq
  have hn : n < 2 ^ 32 := Nat.lt_of_le_of_lt (Nat.le_mul_of_pos_right n (Nat.two_pow_pos k)) h
  rw [pk_shl _ _ k hs, pk_tn hn, pk_tn h, Nat.mod_eq_of_lt h]
theorem pk_lT {n : Nat} (h : n < 2 ^ 63) : (lN n).toInt = (n : Int) := lg_ofNat_toInt h
theorem pk_lLT {a b : Nat} (ha : a < 2 ^ 63) (hb : b < 2 ^ 63) : lN a < lN b ↔ a < b := by
  rw [Int64.lt_iff_toInt_lt, pk_lT ha, pk_lT hb]; omega
theorem pk_lLE {a b : Nat} (ha : a < 2 ^ 63) (hb : b < 2 ^ 63) : lN a ≤ lN b ↔ a ≤ b := by
  rw [Int64.le_iff_toInt_le, pk_lT ha, pk_lT hb]; omega
theorem pk_lOf {x : Int64} (h : ¬ x < 0) : ∃ k : Nat, k < 2 ^ 63 ∧ x = lN k := by
  rw [Int64.lt_iff_toInt_lt] at h
  have h0 : (0 : Int64).toInt = 0 := by decide
  have hx := Int64.toInt_lt x
  refine ⟨x.toInt.toNat, by omega, Int64.toInt_inj.mp ?_⟩
  rw [pk_lT (by omega)]
  omega
def bt (x : Int32) (i : Nat) : Bool := x.toBitVec.getLsbD i
theorem b_ext {x y : Int32} (h : ∀ i, i < 32 → bt x i = bt y i) : x = y := Int32.toBitVec_inj.mp (BitVec.eq_of_getLsbD_eq (fun i hi => h i hi))
theorem b_and (x y : Int32) (i : Nat) : bt (x &&& y) i = (bt x i && bt y i) := by unfold bt; rw [Int32.toBitVec_and, BitVec.getLsbD_and]
theorem s_l : ∀ n, n < 32 → ((nI n &&& 31).toBitVec.smod 32).toNat = n := by decide +kernel
theorem b_shl (n : Nat) (hn : n < 32) (x : Int32) {i : Nat} (hi : i < 32) : bt (x <<< (nI n &&& 31)) i = (decide (n ≤ i) && bt x (i - n)) := by
  unfold bt
  rw [Int32.toBitVec_shiftLeft]
  show (x.toBitVec <<< ((nI n &&& 31).toBitVec.smod 32).toNat).getLsbD i = _
  rw [s_l n hn, BitVec.getLsbD_shiftLeft]
  rcases Nat.lt_or_ge i n with h | h
  · simp [h, Nat.not_le.mpr h]
  · simp [hi, h, Nat.not_lt.mpr h]
theorem b_sshr (n : Nat) (hn : n < 32) (x : Int32) {i : Nat} (hi : i < 32) : bt (x >>> (nI n &&& 31)) i = if n + i < 32 then bt x (n + i) else bt x 31 := by
  unfold bt
  rw [Int32.toBitVec_shiftRight]
  show (x.toBitVec.sshiftRight ((nI n &&& 31).toBitVec.smod 32).toNat).getLsbD i = _
  rw [s_l n hn, BitVec.getLsbD_sshiftRight, BitVec.msb_eq_getLsbD_last]
  simp [hi]
/-! ===== the page entry: (e & 112) | (p & 15) is 16 * ((e >> 4) & 7) + (p & 15), a place ===== -/
theorem cm_112 : ∀ i, i < 32 → bt 112 i = (decide (4 ≤ i) && bt 7 (i - 4)) := by decide +kernel
theorem cm_hi (e : Int32) : e &&& 112 = ((e >>> ((4 : Int32) &&& 31)) &&& 7) <<< ((4 : Int32) &&& 31) := by
  apply b_ext
  intro i hi
  show bt (e &&& 112) i = bt (((e >>> (nI 4 &&& 31)) &&& 7) <<< (nI 4 &&& 31)) i
  rw [b_shl 4 (by omega) _ hi, b_and, b_and, cm_112 i hi]
  by_cases h : 4 ≤ i
  · rw [b_sshr 4 (by omega) _ (by omega), if_pos (by omega), show 4 + (i - 4) = i by omega, decide_eq_true h]
    rfl
  · rw [decide_eq_false h, Bool.false_and, Bool.false_and, Bool.and_false]
theorem cm_join : ∀ a, a < 8 → ∀ b, b < 16 → (nI (a * 2 ^ 4) ||| nI b = 16 * nI a + nI b ∧ nI (a * 2 ^ 4) ||| nI b = nI (16 * a + b)) := by decide +kernel
theorem cm_pg (e p : Int32) : ∃ j : Nat, j < 128 ∧ (e &&& 112) ||| (p &&& 15) = nI j ∧ 16 * ((e >>> ((4 : Int32) &&& 31)) &&& 7) + (p &&& 15) = nI j := by
  obtain ⟨a, ha, ea⟩ := pk_andE (e >>> ((4 : Int32) &&& 31)) (m := 7) 3 (by decide)
  obtain ⟨b, hb, eb⟩ := pk_andE p (m := 15) 4 (by decide)
  have ha' : a < 8 := ha
  have hb' : b < 16 := hb
  have h := cm_join a ha' b hb'
  rw [cm_hi, ea, eb, pk_shlN ((4 : Int32) &&& 31) 4 (by decide) (by omega)]
  exact ⟨16 * a + b, by omega, h.2, h.1.symm.trans h.2⟩
theorem cm_127 {j : Nat} (h : j < 128) : nI j &&& 127 = nI j := by
  rw [pk_andN (by omega) 7 (by decide), show (2 : Nat) ^ 7 = 128 from rfl, Nat.mod_eq_of_lt h]
theorem cm_31 (w : Int32) : ∃ j : Nat, j < 32 ∧ w &&& 31 = nI j := pk_andE w 5 (by decide)
theorem cm_7 (w : Int32) : vp_in (w &&& 7) 8 := pk_andIn w 3 (by decide) (by decide)
theorem cm_l0 (n : Nat) : lN n < 0 ↔ lN n < lN 0 := Iff.rfl
/-- a long sum is below 0, beyond 127, or an index -/
theorem cm_ix (e : Int64) : e < 0 ∨ 128 ≤ e ∨ ∃ j : Nat, j < 128 ∧ e = lN j := by
  by_cases h : e < 0
  · exact Or.inl h
  · obtain ⟨k, hk, rfl⟩ := pk_lOf h
    by_cases h2 : k < 128
    · exact Or.inr (Or.inr ⟨k, h2, rfl⟩)
    · exact Or.inr (Or.inl ((pk_lLE (a := 128) (by omega) hk).mpr (by omega)))
theorem cm_lbig {e : Int64} (h : 128 ≤ e) : ¬ e < 0 ∧ ¬ e < 128 ∧ ¬ e ≤ 127 := by
  have z1 := Int64.le_iff_toInt_le.mp h
  have a0 : (0 : Int64).toInt = 0 := by decide
  have a1 : (128 : Int64).toInt = 128 := by decide
  have a2 : (127 : Int64).toInt = 127 := by decide
  refine ⟨fun z => ?_, fun z => ?_, fun z => ?_⟩
  · have z2 := Int64.lt_iff_toInt_lt.mp z
    omega
  · have z2 := Int64.lt_iff_toInt_lt.mp z
    omega
  · have z2 := Int64.le_iff_toInt_le.mp z
    omega
end
section
/-! ===== the two states side by side, what both hold, and what a piece of a walk gives ===== -/
abbrev cm_U (oc ec st pl inn pg kp : Int32) (mem reg out spc : Nat → Int32) : SX := (oc, ec, st, pl, inn, pg, kp, spc 0, spc 1, spc 2, spc 3, spc 4, mem, reg, out)
abbrev cm_V (oc ec st pl otr pg kp tr : Int32) (mem reg out spc : Nat → Int32) : SY := (pl, otr, pg, kp, st, ec, oc, tr, mem, reg, spc, out)
def cm_I (c : Nat) (oc inn otr pg kp : Int32) : Prop := (∃ n : Nat, n ≤ c ∧ oc = nI n) ∧ ((inn = 1 ∧ otr = 0) ∨ (inn = 0 ∧ otr = 1)) ∧ (pg = 0 ∨ pg = 1) ∧ (kp = 0 ∨ kp = 1)
def cm_R (c : Nat) (t : Int32) (u : SX) (v : SY) : Prop := ∃ (oc ec st pl inn otr pg kp : Int32) (mem reg out spc : Nat → Int32), u = cm_U oc ec st pl inn pg kp mem reg out spc ∧ v = cm_V oc ec st pl otr pg kp t mem reg out spc ∧ cm_I c oc inn otr pg kp
def cm_B (c : Nat) (PX : (SX → Prop) → Prop) (PY : (SY → Prop) → Prop) : Prop := ∃ (u' : SX) (v' : SY), (∃ t, cm_R c t u' v') ∧ (∀ post : SX → Prop, post u' → PX post) ∧ (∀ post : SY → Prop, post v' → PY post)
theorem cm_Iup {c d : Nat} {oc inn otr pg kp : Int32} (hI : cm_I c oc inn otr pg kp) (h : c ≤ d) : cm_I d oc inn otr pg kp := by
  obtain ⟨⟨n, hn, e⟩, hm⟩ := hI
  exact ⟨⟨n, by omega, e⟩, hm⟩
theorem cm_bn {x : Int32} (h : x = 0 ∨ x = 1) : narrow .boolean (.int x) = .int x ∧ fits .boolean (.int x) = true := by
  rcases h with rfl | rfl
  · exact ⟨by decide, by decide⟩
  · exact ⟨by decide, by decide⟩
theorem cm_trap {c : Nat} {oc ec st pl inn otr pg kp : Int32} {mem reg out spc : Nat → Int32} (t why : Int32) (hI : cm_I c oc inn otr pg kp) :
    ∃ (u' : SX) (v' : SY), cm_R c 1 u' v' ∧ (∀ post : SX → Prop, post u' → wpX_trap post (cm_U oc ec st pl inn pg kp mem reg out spc) why) ∧ (∀ post : SY → Prop, post v' → wpY_trap post (cm_V oc ec st pl otr pg kp t mem reg out spc) why) := by
  obtain ⟨hn, hm, hp, hk⟩ := hI
  have hb := cm_bn hp
  rcases hm with ⟨rfl, rfl⟩ | ⟨rfl, rfl⟩
  · exact ⟨_, _, ⟨oc, ec, 2, pl, 1, 0, pg, kp, mem, reg, out, spc, rfl, rfl, hn, Or.inl ⟨rfl, rfl⟩, hp, hk⟩, fun post h => br_f (by decide) h, fun post h => br_t rfl h⟩
  · by_cases hv : 0 ≤ spc 1
    · exact ⟨_, _, ⟨oc, ec, st, spc 1, 1, 0, 0, pg, mem, reg, out, upd (upd spc 2 pl) 3 why, rfl, rfl, hn, Or.inl ⟨rfl, rfl⟩, Or.inl rfl, hp⟩, fun post h => br_t rfl (br_t hv ⟨hb.1, hb.2, h⟩), fun post h => br_f (by decide) (br_t hv (nm_e (nm_e ⟨hb.1, hb.2, nm_e h⟩)))⟩
    · exact ⟨_, _, ⟨oc, ec, 2, pl, 0, 1, pg, kp, mem, reg, out, spc, rfl, rfl, hn, Or.inr ⟨rfl, rfl⟩, hp, hk⟩, fun post h => br_t rfl (br_f hv h), fun post h => br_f (by decide) (br_f hv h)⟩
theorem cm_big {p : Int32} {n : Nat} (hn : n + 1 < 2 ^ 31) (h : nI (n + 1) ≤ p) : ¬ p < 0 ∧ nI n < p := by
  have h0 : ¬ p < 0 := fun z => by
    have z1 := Int32.le_iff_toInt_le.mp h
    have z2 := Int32.lt_iff_toInt_lt.mp z
    have z3 : (0 : Int32).toInt = 0 := by decide
    rw [nI_toInt hn] at z1
    omega
  refine ⟨h0, ?_⟩
  have z1 := Int32.le_iff_toInt_le.mp h
  rw [nI_toInt hn] at z1
  apply Int32.lt_iff_toInt_lt.mpr
  rw [nI_toInt (by omega)]
  omega
/-- one answer of both translations: -1 or a place -/
theorem cm_tr {oc ec st pl inn otr pg kp t : Int32} {mem reg out spc : Nat → Int32} (p w : Int32) :
    ∃ r : Int32, (r = -1 ∨ ∃ j : Nat, j < 128 ∧ r = nI j) ∧ (∀ post : Int32 → Prop, post r → wpX_translate post (cm_U oc ec st pl inn pg kp mem reg out spc) p w) ∧ (∀ post : Int32 → Prop, post r → wpY_translate post (cm_V oc ec st pl otr pg kp t mem reg out spc) p w) := by
  rcases pk_ix p (n := 128) (by decide) with h | h | ⟨j, hj, rfl⟩
  · exact ⟨-1, Or.inl rfl, fun post hp => br_t h (br_t rfl hp), fun post hp => br_t h (br_t rfl hp)⟩
  · have hb := cm_big (n := 127) (by decide) h
    exact ⟨-1, Or.inl rfl, fun post hp => br_f hb.1 (br_t h (br_t rfl hp)), fun post hp => br_f hb.1 (br_t hb.2 (br_t rfl hp))⟩
  · have h0 : ¬ nI j < 0 := nI_pos (by omega)
    have h128 : ¬ (128 : Int32) ≤ nI j := nI_ge (b := 128) hj (by decide)
    have h127 : ¬ (127 : Int32) < nI j := nI_nlt (a := 127) (by omega) (by decide)
    have n1 : ¬ (1 : Int32) = 0 := by decide
    by_cases hz : pg = 0
    · exact ⟨nI j, Or.inr ⟨j, hj, rfl⟩, fun post hp => br_f h0 (br_f h128 (br_f n1 (br_t hz hp))), fun post hp => br_f h0 (br_f h127 (br_f n1 (br_t hz hp)))⟩
    · rcases cm_ix ((spc 0).toInt64 + ((nI j >>> ((4 : Int32) &&& 31)).toInt64)) with h | h | ⟨e, he, ee⟩
      · exact ⟨-1, Or.inl rfl, fun post hp => br_f h0 (br_f h128 (br_f n1 (br_f hz (nm_e (br_t h hp))))), fun post hp => br_f h0 (br_f h127 (br_f n1 (br_f hz (nm_e (br_t h hp)))))⟩
      · have g := cm_lbig h
        exact ⟨-1, Or.inl rfl, fun post hp => br_f h0 (br_f h128 (br_f n1 (br_f hz (nm_e (br_f g.1 (br_f g.2.1 hp)))))), fun post hp => br_f h0 (br_f h127 (br_f n1 (br_f hz (nm_e (br_f g.1 (br_f g.2.2 hp))))))⟩
      · have e1 : (lN e).toInt32 = nI e := lN_i e
        have e2 : (lN e).toInt32 &&& 127 = nI e := by rw [e1, cm_127 he]
        have g0 : ¬ lN e < 0 := fun z => by
          have := (lN_lt (a := e) (b := 0) (by omega) (by decide)).mp z
          omega
        have g1 : lN e < 128 := (lN_lt (b := 128) (by omega) (by decide)).mpr he
        have g2 : lN e ≤ 127 := (lN_le (b := 127) (by omega) (by decide)).mpr (by omega)
        have v1 : vp_in (lN e).toInt32 128 := by rw [e1]; exact vp_in_nI he (by decide)
        have v2 : vp_in ((lN e).toInt32 &&& 127) 128 := by rw [e2]; exact vp_in_nI he (by decide)
        have m1 : mem (lN e).toInt32.toNatClampNeg = mem (nI e).toNatClampNeg := by rw [e1]
        have m2 : mem ((lN e).toInt32 &&& 127).toNatClampNeg = mem (nI e).toNatClampNeg := by rw [e2]
        by_cases b1 : (mem (nI e).toNatClampNeg &&& 1) = 0
        · refine ⟨-1, Or.inl rfl, fun post hp => br_f h0 (br_f h128 (br_f n1 (br_f hz (nm_r ee (br_f g0 (br_t g1 ⟨v1, nm_r m1 (br_t b1 ?_)⟩)))))), fun post hp => br_f h0 (br_f h127 (br_f n1 (br_f hz (nm_r ee (br_f g0 (br_t g2 ⟨v2, nm_r m2 (br_t b1 hp)⟩))))))⟩
          exact br_c (fun _ => br_t rfl hp) (fun _ => br_t rfl hp)
        · by_cases hw : w = 0
          · obtain ⟨q, hq, q1, q2⟩ := cm_pg (mem (nI e).toNatClampNeg) (nI j)
            refine ⟨nI q, Or.inr ⟨q, hq, rfl⟩, fun post hp => br_f h0 (br_f h128 (br_f n1 (br_f hz (nm_r ee (br_f g0 (br_t g1 ⟨v1, nm_r m1 (br_f b1 ?_)⟩)))))), fun post hp => br_f h0 (br_f h127 (br_f n1 (br_f hz (nm_r ee (br_f g0 (br_t g2 ⟨v2, nm_r m2 (br_f b1 (br_t hw (Eq.mpr (congrArg post q2) hp)))⟩))))))⟩
            exact br_c (fun _ => br_f n1 (br_t hw (Eq.mpr (congrArg post q1) hp))) (fun _ => br_f n1 (br_t hw (Eq.mpr (congrArg post q1) hp)))
          · by_cases b2 : (mem (nI e).toNatClampNeg &&& 2) = 0
            · exact ⟨-1, Or.inl rfl, fun post hp => br_f h0 (br_f h128 (br_f n1 (br_f hz (nm_r ee (br_f g0 (br_t g1 ⟨v1, nm_r m1 (br_f b1 (br_t b2 (br_f n1 (br_f hw (br_t rfl hp)))))⟩)))))), fun post hp => br_f h0 (br_f h127 (br_f n1 (br_f hz (nm_r ee (br_f g0 (br_t g2 ⟨v2, nm_r m2 (br_f b1 (br_f hw (br_t b2 hp)))⟩))))))⟩
            · obtain ⟨q, hq, q1, q2⟩ := cm_pg (mem (nI e).toNatClampNeg) (nI j)
              exact ⟨nI q, Or.inr ⟨q, hq, rfl⟩, fun post hp => br_f h0 (br_f h128 (br_f n1 (br_f hz (nm_r ee (br_f g0 (br_t g1 ⟨v1, nm_r m1 (br_f b1 (br_f b2 (br_f n1 (br_f hw (br_f n1 (Eq.mpr (congrArg post q1) hp))))))⟩)))))), fun post hp => br_f h0 (br_f h127 (br_f n1 (br_f hz (nm_r ee (br_f g0 (br_t g2 ⟨v2, nm_r m2 (br_f b1 (br_f hw (br_f b2 (Eq.mpr (congrArg post q2) hp))))⟩))))))⟩
/-- what a place is good for -/
theorem cm_rf {r : Int32} (h : ∃ j : Nat, j < 128 ∧ r = nI j) : ¬ r = -1 ∧ 0 ≤ r ∧ ¬ r < 0 ∧ vp_in r 128 ∧ r &&& 127 = r ∧ vp_in (r &&& 127) 128 := by
  obtain ⟨j, hj, rfl⟩ := h
  have h0 : ¬ nI j < 0 := nI_pos (by omega)
  have e := cm_127 hj
  refine ⟨fun z => h0 (by rw [z]; decide), nI_pos' (by omega), h0, vp_in_nI hj (by decide), e, ?_⟩
  rw [e]
  exact vp_in_nI hj (by decide)
end
section
/-! ===== one theorem an operation (written by wip/whole/gen.py): both sides walk to related states ===== -/
theorem cm_o1 {c : Nat} {oc ec st pl inn otr pg kp : Int32} {mem reg out spc : Nat → Int32} (hI : cm_I c oc inn otr pg kp) (w : Int32) (ho : w &&& 31 = 1) : cm_B (c + 1) (fun post => wpX_calculate post (cm_U oc ec st pl inn pg kp mem reg out spc) w) (fun post => wpY_work post (cm_V oc ec st pl otr pg kp 0 mem reg out spc) w) := by
  have hA : vp_in ((w >>> ((5 : Int32) &&& 31)) &&& 7) 8 := cm_7 _
  have hB : vp_in ((w >>> ((8 : Int32) &&& 31)) &&& 7) 8 := cm_7 _
  have hC : vp_in ((w >>> ((11 : Int32) &&& 31)) &&& 7) 8 := cm_7 _
  refine ⟨cm_U oc ec st (pl + 1) inn pg kp mem (upd reg ((w >>> ((5 : Int32) &&& 31)) &&& 7).toNatClampNeg ((w >>> ((14 : Int32) &&& 31)))) out spc, cm_V oc ec st (pl + 1) otr pg kp 0 mem (upd reg ((w >>> ((5 : Int32) &&& 31)) &&& 7).toNatClampNeg ((w >>> ((14 : Int32) &&& 31)))) out spc, ⟨0, oc, ec, st, pl + 1, inn, otr, pg, kp, mem, upd reg ((w >>> ((5 : Int32) &&& 31)) &&& 7).toNatClampNeg ((w >>> ((14 : Int32) &&& 31))), out, spc, rfl, rfl, cm_Iup hI (by omega)⟩, fun post h => ?_, fun post h => ?_⟩
  · repeat' (first | exact h | refine br_t (by decide) ?_ | refine br_f (by decide) ?_ | refine br_t (by assumption) ?_ | refine br_f (by assumption) ?_ | refine And.intro (by assumption) ?_ | refine nm_r ho ?_ | refine nm_e ?_)
  · repeat' (first | exact h | refine br_t (by decide) ?_ | refine br_f (by decide) ?_ | refine br_t (by assumption) ?_ | refine br_f (by assumption) ?_ | refine And.intro (by assumption) ?_ | refine nm_r ho ?_ | refine nm_e ?_)
theorem cm_o2 {c : Nat} {oc ec st pl inn otr pg kp : Int32} {mem reg out spc : Nat → Int32} (hI : cm_I c oc inn otr pg kp) (w : Int32) (ho : w &&& 31 = 2) : cm_B (c + 1) (fun post => wpX_calculate post (cm_U oc ec st pl inn pg kp mem reg out spc) w) (fun post => wpY_work post (cm_V oc ec st pl otr pg kp 0 mem reg out spc) w) := by
  have hA : vp_in ((w >>> ((5 : Int32) &&& 31)) &&& 7) 8 := cm_7 _
  have hB : vp_in ((w >>> ((8 : Int32) &&& 31)) &&& 7) 8 := cm_7 _
  have hC : vp_in ((w >>> ((11 : Int32) &&& 31)) &&& 7) 8 := cm_7 _
  refine ⟨cm_U oc ec st (pl + 1) inn pg kp mem (upd reg ((w >>> ((5 : Int32) &&& 31)) &&& 7).toNatClampNeg (reg ((w >>> ((8 : Int32) &&& 31)) &&& 7).toNatClampNeg)) out spc, cm_V oc ec st (pl + 1) otr pg kp 0 mem (upd reg ((w >>> ((5 : Int32) &&& 31)) &&& 7).toNatClampNeg (reg ((w >>> ((8 : Int32) &&& 31)) &&& 7).toNatClampNeg)) out spc, ⟨0, oc, ec, st, pl + 1, inn, otr, pg, kp, mem, upd reg ((w >>> ((5 : Int32) &&& 31)) &&& 7).toNatClampNeg (reg ((w >>> ((8 : Int32) &&& 31)) &&& 7).toNatClampNeg), out, spc, rfl, rfl, cm_Iup hI (by omega)⟩, fun post h => ?_, fun post h => ?_⟩
  · repeat' (first | exact h | refine br_t (by decide) ?_ | refine br_f (by decide) ?_ | refine br_t (by assumption) ?_ | refine br_f (by assumption) ?_ | refine And.intro (by assumption) ?_ | refine nm_r ho ?_ | refine nm_e ?_)
  · repeat' (first | exact h | refine br_t (by decide) ?_ | refine br_f (by decide) ?_ | refine br_t (by assumption) ?_ | refine br_f (by assumption) ?_ | refine And.intro (by assumption) ?_ | refine nm_r ho ?_ | refine nm_e ?_)
theorem cm_o3 {c : Nat} {oc ec st pl inn otr pg kp : Int32} {mem reg out spc : Nat → Int32} (hI : cm_I c oc inn otr pg kp) (w : Int32) (ho : w &&& 31 = 3) : cm_B (c + 1) (fun post => wpX_calculate post (cm_U oc ec st pl inn pg kp mem reg out spc) w) (fun post => wpY_work post (cm_V oc ec st pl otr pg kp 0 mem reg out spc) w) := by
  have hA : vp_in ((w >>> ((5 : Int32) &&& 31)) &&& 7) 8 := cm_7 _
  have hB : vp_in ((w >>> ((8 : Int32) &&& 31)) &&& 7) 8 := cm_7 _
  have hC : vp_in ((w >>> ((11 : Int32) &&& 31)) &&& 7) 8 := cm_7 _
  refine ⟨cm_U oc ec st (pl + 1) inn pg kp mem (upd reg ((w >>> ((5 : Int32) &&& 31)) &&& 7).toNatClampNeg (reg ((w >>> ((8 : Int32) &&& 31)) &&& 7).toNatClampNeg + reg ((w >>> ((11 : Int32) &&& 31)) &&& 7).toNatClampNeg)) out spc, cm_V oc ec st (pl + 1) otr pg kp 0 mem (upd reg ((w >>> ((5 : Int32) &&& 31)) &&& 7).toNatClampNeg (reg ((w >>> ((8 : Int32) &&& 31)) &&& 7).toNatClampNeg + reg ((w >>> ((11 : Int32) &&& 31)) &&& 7).toNatClampNeg)) out spc, ⟨0, oc, ec, st, pl + 1, inn, otr, pg, kp, mem, upd reg ((w >>> ((5 : Int32) &&& 31)) &&& 7).toNatClampNeg (reg ((w >>> ((8 : Int32) &&& 31)) &&& 7).toNatClampNeg + reg ((w >>> ((11 : Int32) &&& 31)) &&& 7).toNatClampNeg), out, spc, rfl, rfl, cm_Iup hI (by omega)⟩, fun post h => ?_, fun post h => ?_⟩
  · repeat' (first | exact h | refine br_t (by decide) ?_ | refine br_f (by decide) ?_ | refine br_t (by assumption) ?_ | refine br_f (by assumption) ?_ | refine And.intro (by assumption) ?_ | refine nm_r ho ?_ | refine nm_e ?_)
  · repeat' (first | exact h | refine br_t (by decide) ?_ | refine br_f (by decide) ?_ | refine br_t (by assumption) ?_ | refine br_f (by assumption) ?_ | refine And.intro (by assumption) ?_ | refine nm_r ho ?_ | refine nm_e ?_)
theorem cm_o4 {c : Nat} {oc ec st pl inn otr pg kp : Int32} {mem reg out spc : Nat → Int32} (hI : cm_I c oc inn otr pg kp) (w : Int32) (ho : w &&& 31 = 4) : cm_B (c + 1) (fun post => wpX_calculate post (cm_U oc ec st pl inn pg kp mem reg out spc) w) (fun post => wpY_work post (cm_V oc ec st pl otr pg kp 0 mem reg out spc) w) := by
  have hA : vp_in ((w >>> ((5 : Int32) &&& 31)) &&& 7) 8 := cm_7 _
  have hB : vp_in ((w >>> ((8 : Int32) &&& 31)) &&& 7) 8 := cm_7 _
  have hC : vp_in ((w >>> ((11 : Int32) &&& 31)) &&& 7) 8 := cm_7 _
  refine ⟨cm_U oc ec st (pl + 1) inn pg kp mem (upd reg ((w >>> ((5 : Int32) &&& 31)) &&& 7).toNatClampNeg (reg ((w >>> ((8 : Int32) &&& 31)) &&& 7).toNatClampNeg - reg ((w >>> ((11 : Int32) &&& 31)) &&& 7).toNatClampNeg)) out spc, cm_V oc ec st (pl + 1) otr pg kp 0 mem (upd reg ((w >>> ((5 : Int32) &&& 31)) &&& 7).toNatClampNeg (reg ((w >>> ((8 : Int32) &&& 31)) &&& 7).toNatClampNeg - reg ((w >>> ((11 : Int32) &&& 31)) &&& 7).toNatClampNeg)) out spc, ⟨0, oc, ec, st, pl + 1, inn, otr, pg, kp, mem, upd reg ((w >>> ((5 : Int32) &&& 31)) &&& 7).toNatClampNeg (reg ((w >>> ((8 : Int32) &&& 31)) &&& 7).toNatClampNeg - reg ((w >>> ((11 : Int32) &&& 31)) &&& 7).toNatClampNeg), out, spc, rfl, rfl, cm_Iup hI (by omega)⟩, fun post h => ?_, fun post h => ?_⟩
  · repeat' (first | exact h | refine br_t (by decide) ?_ | refine br_f (by decide) ?_ | refine br_t (by assumption) ?_ | refine br_f (by assumption) ?_ | refine And.intro (by assumption) ?_ | refine nm_r ho ?_ | refine nm_e ?_)
  · repeat' (first | exact h | refine br_t (by decide) ?_ | refine br_f (by decide) ?_ | refine br_t (by assumption) ?_ | refine br_f (by assumption) ?_ | refine And.intro (by assumption) ?_ | refine nm_r ho ?_ | refine nm_e ?_)
theorem cm_o5 {c : Nat} {oc ec st pl inn otr pg kp : Int32} {mem reg out spc : Nat → Int32} (hI : cm_I c oc inn otr pg kp) (w : Int32) (ho : w &&& 31 = 5) : cm_B (c + 1) (fun post => wpX_calculate post (cm_U oc ec st pl inn pg kp mem reg out spc) w) (fun post => wpY_work post (cm_V oc ec st pl otr pg kp 0 mem reg out spc) w) := by
  have hA : vp_in ((w >>> ((5 : Int32) &&& 31)) &&& 7) 8 := cm_7 _
  have hB : vp_in ((w >>> ((8 : Int32) &&& 31)) &&& 7) 8 := cm_7 _
  have hC : vp_in ((w >>> ((11 : Int32) &&& 31)) &&& 7) 8 := cm_7 _
  refine ⟨cm_U oc ec st (pl + 1) inn pg kp mem (upd reg ((w >>> ((5 : Int32) &&& 31)) &&& 7).toNatClampNeg (reg ((w >>> ((8 : Int32) &&& 31)) &&& 7).toNatClampNeg * reg ((w >>> ((11 : Int32) &&& 31)) &&& 7).toNatClampNeg)) out spc, cm_V oc ec st (pl + 1) otr pg kp 0 mem (upd reg ((w >>> ((5 : Int32) &&& 31)) &&& 7).toNatClampNeg (reg ((w >>> ((8 : Int32) &&& 31)) &&& 7).toNatClampNeg * reg ((w >>> ((11 : Int32) &&& 31)) &&& 7).toNatClampNeg)) out spc, ⟨0, oc, ec, st, pl + 1, inn, otr, pg, kp, mem, upd reg ((w >>> ((5 : Int32) &&& 31)) &&& 7).toNatClampNeg (reg ((w >>> ((8 : Int32) &&& 31)) &&& 7).toNatClampNeg * reg ((w >>> ((11 : Int32) &&& 31)) &&& 7).toNatClampNeg), out, spc, rfl, rfl, cm_Iup hI (by omega)⟩, fun post h => ?_, fun post h => ?_⟩
  · repeat' (first | exact h | refine br_t (by decide) ?_ | refine br_f (by decide) ?_ | refine br_t (by assumption) ?_ | refine br_f (by assumption) ?_ | refine And.intro (by assumption) ?_ | refine nm_r ho ?_ | refine nm_e ?_)
  · repeat' (first | exact h | refine br_t (by decide) ?_ | refine br_f (by decide) ?_ | refine br_t (by assumption) ?_ | refine br_f (by assumption) ?_ | refine And.intro (by assumption) ?_ | refine nm_r ho ?_ | refine nm_e ?_)
theorem cm_o6 {c : Nat} {oc ec st pl inn otr pg kp : Int32} {mem reg out spc : Nat → Int32} (hI : cm_I c oc inn otr pg kp) (w : Int32) (ho : w &&& 31 = 6) : cm_B (c + 1) (fun post => wpX_calculate post (cm_U oc ec st pl inn pg kp mem reg out spc) w) (fun post => wpY_work post (cm_V oc ec st pl otr pg kp 0 mem reg out spc) w) := by
  have hA : vp_in ((w >>> ((5 : Int32) &&& 31)) &&& 7) 8 := cm_7 _
  have hB : vp_in ((w >>> ((8 : Int32) &&& 31)) &&& 7) 8 := cm_7 _
  have hC : vp_in ((w >>> ((11 : Int32) &&& 31)) &&& 7) 8 := cm_7 _
  refine ⟨cm_U oc ec st (pl + 1) inn pg kp mem (upd reg ((w >>> ((5 : Int32) &&& 31)) &&& 7).toNatClampNeg (reg ((w >>> ((8 : Int32) &&& 31)) &&& 7).toNatClampNeg &&& reg ((w >>> ((11 : Int32) &&& 31)) &&& 7).toNatClampNeg)) out spc, cm_V oc ec st (pl + 1) otr pg kp 0 mem (upd reg ((w >>> ((5 : Int32) &&& 31)) &&& 7).toNatClampNeg (reg ((w >>> ((8 : Int32) &&& 31)) &&& 7).toNatClampNeg &&& reg ((w >>> ((11 : Int32) &&& 31)) &&& 7).toNatClampNeg)) out spc, ⟨0, oc, ec, st, pl + 1, inn, otr, pg, kp, mem, upd reg ((w >>> ((5 : Int32) &&& 31)) &&& 7).toNatClampNeg (reg ((w >>> ((8 : Int32) &&& 31)) &&& 7).toNatClampNeg &&& reg ((w >>> ((11 : Int32) &&& 31)) &&& 7).toNatClampNeg), out, spc, rfl, rfl, cm_Iup hI (by omega)⟩, fun post h => ?_, fun post h => ?_⟩
  · repeat' (first | exact h | refine br_t (by decide) ?_ | refine br_f (by decide) ?_ | refine br_t (by assumption) ?_ | refine br_f (by assumption) ?_ | refine And.intro (by assumption) ?_ | refine nm_r ho ?_ | refine nm_e ?_)
  · repeat' (first | exact h | refine br_t (by decide) ?_ | refine br_f (by decide) ?_ | refine br_t (by assumption) ?_ | refine br_f (by assumption) ?_ | refine And.intro (by assumption) ?_ | refine nm_r ho ?_ | refine nm_e ?_)
theorem cm_o7 {c : Nat} {oc ec st pl inn otr pg kp : Int32} {mem reg out spc : Nat → Int32} (hI : cm_I c oc inn otr pg kp) (w : Int32) (ho : w &&& 31 = 7) : cm_B (c + 1) (fun post => wpX_calculate post (cm_U oc ec st pl inn pg kp mem reg out spc) w) (fun post => wpY_work post (cm_V oc ec st pl otr pg kp 0 mem reg out spc) w) := by
  have hA : vp_in ((w >>> ((5 : Int32) &&& 31)) &&& 7) 8 := cm_7 _
  have hB : vp_in ((w >>> ((8 : Int32) &&& 31)) &&& 7) 8 := cm_7 _
  have hC : vp_in ((w >>> ((11 : Int32) &&& 31)) &&& 7) 8 := cm_7 _
  refine ⟨cm_U oc ec st (pl + 1) inn pg kp mem (upd reg ((w >>> ((5 : Int32) &&& 31)) &&& 7).toNatClampNeg (reg ((w >>> ((8 : Int32) &&& 31)) &&& 7).toNatClampNeg ||| reg ((w >>> ((11 : Int32) &&& 31)) &&& 7).toNatClampNeg)) out spc, cm_V oc ec st (pl + 1) otr pg kp 0 mem (upd reg ((w >>> ((5 : Int32) &&& 31)) &&& 7).toNatClampNeg (reg ((w >>> ((8 : Int32) &&& 31)) &&& 7).toNatClampNeg ||| reg ((w >>> ((11 : Int32) &&& 31)) &&& 7).toNatClampNeg)) out spc, ⟨0, oc, ec, st, pl + 1, inn, otr, pg, kp, mem, upd reg ((w >>> ((5 : Int32) &&& 31)) &&& 7).toNatClampNeg (reg ((w >>> ((8 : Int32) &&& 31)) &&& 7).toNatClampNeg ||| reg ((w >>> ((11 : Int32) &&& 31)) &&& 7).toNatClampNeg), out, spc, rfl, rfl, cm_Iup hI (by omega)⟩, fun post h => ?_, fun post h => ?_⟩
  · repeat' (first | exact h | refine br_t (by decide) ?_ | refine br_f (by decide) ?_ | refine br_t (by assumption) ?_ | refine br_f (by assumption) ?_ | refine And.intro (by assumption) ?_ | refine nm_r ho ?_ | refine nm_e ?_)
  · repeat' (first | exact h | refine br_t (by decide) ?_ | refine br_f (by decide) ?_ | refine br_t (by assumption) ?_ | refine br_f (by assumption) ?_ | refine And.intro (by assumption) ?_ | refine nm_r ho ?_ | refine nm_e ?_)
theorem cm_o8 {c : Nat} {oc ec st pl inn otr pg kp : Int32} {mem reg out spc : Nat → Int32} (hI : cm_I c oc inn otr pg kp) (w : Int32) (ho : w &&& 31 = 8) : cm_B (c + 1) (fun post => wpX_calculate post (cm_U oc ec st pl inn pg kp mem reg out spc) w) (fun post => wpY_work post (cm_V oc ec st pl otr pg kp 0 mem reg out spc) w) := by
  have hA : vp_in ((w >>> ((5 : Int32) &&& 31)) &&& 7) 8 := cm_7 _
  have hB : vp_in ((w >>> ((8 : Int32) &&& 31)) &&& 7) 8 := cm_7 _
  have hC : vp_in ((w >>> ((11 : Int32) &&& 31)) &&& 7) 8 := cm_7 _
  refine ⟨cm_U oc ec st (pl + 1) inn pg kp mem (upd reg ((w >>> ((5 : Int32) &&& 31)) &&& 7).toNatClampNeg (reg ((w >>> ((8 : Int32) &&& 31)) &&& 7).toNatClampNeg ^^^ reg ((w >>> ((11 : Int32) &&& 31)) &&& 7).toNatClampNeg)) out spc, cm_V oc ec st (pl + 1) otr pg kp 0 mem (upd reg ((w >>> ((5 : Int32) &&& 31)) &&& 7).toNatClampNeg (reg ((w >>> ((8 : Int32) &&& 31)) &&& 7).toNatClampNeg ^^^ reg ((w >>> ((11 : Int32) &&& 31)) &&& 7).toNatClampNeg)) out spc, ⟨0, oc, ec, st, pl + 1, inn, otr, pg, kp, mem, upd reg ((w >>> ((5 : Int32) &&& 31)) &&& 7).toNatClampNeg (reg ((w >>> ((8 : Int32) &&& 31)) &&& 7).toNatClampNeg ^^^ reg ((w >>> ((11 : Int32) &&& 31)) &&& 7).toNatClampNeg), out, spc, rfl, rfl, cm_Iup hI (by omega)⟩, fun post h => ?_, fun post h => ?_⟩
  · repeat' (first | exact h | refine br_t (by decide) ?_ | refine br_f (by decide) ?_ | refine br_t (by assumption) ?_ | refine br_f (by assumption) ?_ | refine And.intro (by assumption) ?_ | refine nm_r ho ?_ | refine nm_e ?_)
  · repeat' (first | exact h | refine br_t (by decide) ?_ | refine br_f (by decide) ?_ | refine br_t (by assumption) ?_ | refine br_f (by assumption) ?_ | refine And.intro (by assumption) ?_ | refine nm_r ho ?_ | refine nm_e ?_)
theorem cm_o9 {c : Nat} {oc ec st pl inn otr pg kp : Int32} {mem reg out spc : Nat → Int32} (hI : cm_I c oc inn otr pg kp) (w : Int32) (ho : w &&& 31 = 9) : cm_B (c + 1) (fun post => wpX_calculate post (cm_U oc ec st pl inn pg kp mem reg out spc) w) (fun post => wpY_work post (cm_V oc ec st pl otr pg kp 0 mem reg out spc) w) := by
  have hA : vp_in ((w >>> ((5 : Int32) &&& 31)) &&& 7) 8 := cm_7 _
  have hB : vp_in ((w >>> ((8 : Int32) &&& 31)) &&& 7) 8 := cm_7 _
  have hC : vp_in ((w >>> ((11 : Int32) &&& 31)) &&& 7) 8 := cm_7 _
  refine ⟨cm_U oc ec st (pl + 1) inn pg kp mem (upd reg ((w >>> ((5 : Int32) &&& 31)) &&& 7).toNatClampNeg (reg ((w >>> ((8 : Int32) &&& 31)) &&& 7).toNatClampNeg <<< ((reg ((w >>> ((11 : Int32) &&& 31)) &&& 7).toNatClampNeg &&& 31) &&& 31))) out spc, cm_V oc ec st (pl + 1) otr pg kp 0 mem (upd reg ((w >>> ((5 : Int32) &&& 31)) &&& 7).toNatClampNeg (reg ((w >>> ((8 : Int32) &&& 31)) &&& 7).toNatClampNeg <<< ((reg ((w >>> ((11 : Int32) &&& 31)) &&& 7).toNatClampNeg &&& 31) &&& 31))) out spc, ⟨0, oc, ec, st, pl + 1, inn, otr, pg, kp, mem, upd reg ((w >>> ((5 : Int32) &&& 31)) &&& 7).toNatClampNeg (reg ((w >>> ((8 : Int32) &&& 31)) &&& 7).toNatClampNeg <<< ((reg ((w >>> ((11 : Int32) &&& 31)) &&& 7).toNatClampNeg &&& 31) &&& 31)), out, spc, rfl, rfl, cm_Iup hI (by omega)⟩, fun post h => ?_, fun post h => ?_⟩
  · repeat' (first | exact h | refine br_t (by decide) ?_ | refine br_f (by decide) ?_ | refine br_t (by assumption) ?_ | refine br_f (by assumption) ?_ | refine And.intro (by assumption) ?_ | refine nm_r ho ?_ | refine nm_e ?_)
  · repeat' (first | exact h | refine br_t (by decide) ?_ | refine br_f (by decide) ?_ | refine br_t (by assumption) ?_ | refine br_f (by assumption) ?_ | refine And.intro (by assumption) ?_ | refine nm_r ho ?_ | refine nm_e ?_)
theorem cm_o10 {c : Nat} {oc ec st pl inn otr pg kp : Int32} {mem reg out spc : Nat → Int32} (hI : cm_I c oc inn otr pg kp) (w : Int32) (ho : w &&& 31 = 10) : cm_B (c + 1) (fun post => wpX_calculate post (cm_U oc ec st pl inn pg kp mem reg out spc) w) (fun post => wpY_work post (cm_V oc ec st pl otr pg kp 0 mem reg out spc) w) := by
  have hA : vp_in ((w >>> ((5 : Int32) &&& 31)) &&& 7) 8 := cm_7 _
  have hB : vp_in ((w >>> ((8 : Int32) &&& 31)) &&& 7) 8 := cm_7 _
  have hC : vp_in ((w >>> ((11 : Int32) &&& 31)) &&& 7) 8 := cm_7 _
  refine ⟨cm_U oc ec st (pl + 1) inn pg kp mem (upd reg ((w >>> ((5 : Int32) &&& 31)) &&& 7).toNatClampNeg (((reg ((w >>> ((8 : Int32) &&& 31)) &&& 7).toNatClampNeg).toUInt32 >>> ((reg ((w >>> ((11 : Int32) &&& 31)) &&& 7).toNatClampNeg &&& 31).toUInt32 &&& Int32.toUInt32 31)).toInt32)) out spc, cm_V oc ec st (pl + 1) otr pg kp 0 mem (upd reg ((w >>> ((5 : Int32) &&& 31)) &&& 7).toNatClampNeg (((reg ((w >>> ((8 : Int32) &&& 31)) &&& 7).toNatClampNeg).toUInt32 >>> ((reg ((w >>> ((11 : Int32) &&& 31)) &&& 7).toNatClampNeg &&& 31).toUInt32 &&& Int32.toUInt32 31)).toInt32)) out spc, ⟨0, oc, ec, st, pl + 1, inn, otr, pg, kp, mem, upd reg ((w >>> ((5 : Int32) &&& 31)) &&& 7).toNatClampNeg (((reg ((w >>> ((8 : Int32) &&& 31)) &&& 7).toNatClampNeg).toUInt32 >>> ((reg ((w >>> ((11 : Int32) &&& 31)) &&& 7).toNatClampNeg &&& 31).toUInt32 &&& Int32.toUInt32 31)).toInt32), out, spc, rfl, rfl, cm_Iup hI (by omega)⟩, fun post h => ?_, fun post h => ?_⟩
  · repeat' (first | exact h | refine br_t (by decide) ?_ | refine br_f (by decide) ?_ | refine br_t (by assumption) ?_ | refine br_f (by assumption) ?_ | refine And.intro (by assumption) ?_ | refine nm_r ho ?_ | refine nm_e ?_)
  · repeat' (first | exact h | refine br_t (by decide) ?_ | refine br_f (by decide) ?_ | refine br_t (by assumption) ?_ | refine br_f (by assumption) ?_ | refine And.intro (by assumption) ?_ | refine nm_r ho ?_ | refine nm_e ?_)
theorem cm_o11 {c : Nat} {oc ec st pl inn otr pg kp : Int32} {mem reg out spc : Nat → Int32} (hI : cm_I c oc inn otr pg kp) (w : Int32) (ho : w &&& 31 = 11) : cm_B (c + 1) (fun post => wpX_calculate post (cm_U oc ec st pl inn pg kp mem reg out spc) w) (fun post => wpY_work post (cm_V oc ec st pl otr pg kp 0 mem reg out spc) w) := by
  have hA : vp_in ((w >>> ((5 : Int32) &&& 31)) &&& 7) 8 := cm_7 _
  have hB : vp_in ((w >>> ((8 : Int32) &&& 31)) &&& 7) 8 := cm_7 _
  have hC : vp_in ((w >>> ((11 : Int32) &&& 31)) &&& 7) 8 := cm_7 _
  refine ⟨cm_U oc ec st (pl + 1) inn pg kp mem (upd reg ((w >>> ((5 : Int32) &&& 31)) &&& 7).toNatClampNeg (reg ((w >>> ((8 : Int32) &&& 31)) &&& 7).toNatClampNeg + (w >>> ((14 : Int32) &&& 31)))) out spc, cm_V oc ec st (pl + 1) otr pg kp 0 mem (upd reg ((w >>> ((5 : Int32) &&& 31)) &&& 7).toNatClampNeg (reg ((w >>> ((8 : Int32) &&& 31)) &&& 7).toNatClampNeg + (w >>> ((14 : Int32) &&& 31)))) out spc, ⟨0, oc, ec, st, pl + 1, inn, otr, pg, kp, mem, upd reg ((w >>> ((5 : Int32) &&& 31)) &&& 7).toNatClampNeg (reg ((w >>> ((8 : Int32) &&& 31)) &&& 7).toNatClampNeg + (w >>> ((14 : Int32) &&& 31))), out, spc, rfl, rfl, cm_Iup hI (by omega)⟩, fun post h => ?_, fun post h => ?_⟩
  · repeat' (first | exact h | refine br_t (by decide) ?_ | refine br_f (by decide) ?_ | refine br_t (by assumption) ?_ | refine br_f (by assumption) ?_ | refine And.intro (by assumption) ?_ | refine nm_r ho ?_ | refine nm_e ?_)
  · repeat' (first | exact h | refine br_t (by decide) ?_ | refine br_f (by decide) ?_ | refine br_t (by assumption) ?_ | refine br_f (by assumption) ?_ | refine And.intro (by assumption) ?_ | refine nm_r ho ?_ | refine nm_e ?_)
theorem cm_o14 {c : Nat} {oc ec st pl inn otr pg kp : Int32} {mem reg out spc : Nat → Int32} (hI : cm_I c oc inn otr pg kp) (w : Int32) (ho : w &&& 31 = 14) : cm_B (c + 1) (fun post => wpX_jump post (cm_U oc ec st pl inn pg kp mem reg out spc) w) (fun post => wpY_work post (cm_V oc ec st pl otr pg kp 0 mem reg out spc) w) := by
  have hA : vp_in ((w >>> ((5 : Int32) &&& 31)) &&& 7) 8 := cm_7 _
  have hB : vp_in ((w >>> ((8 : Int32) &&& 31)) &&& 7) 8 := cm_7 _
  have hC : vp_in ((w >>> ((11 : Int32) &&& 31)) &&& 7) 8 := cm_7 _
  by_cases hz : reg ((w >>> ((5 : Int32) &&& 31)) &&& 7).toNatClampNeg = 0
  · refine ⟨cm_U oc ec st (pl + (w >>> ((14 : Int32) &&& 31))) inn pg kp mem reg out spc, cm_V oc ec st (pl + (w >>> ((14 : Int32) &&& 31))) otr pg kp 0 mem reg out spc, ⟨0, oc, ec, st, pl + (w >>> ((14 : Int32) &&& 31)), inn, otr, pg, kp, mem, reg, out, spc, rfl, rfl, cm_Iup hI (by omega)⟩, fun post h => ?_, fun post h => ?_⟩
    · repeat' (first | exact h | refine br_t (by decide) ?_ | refine br_f (by decide) ?_ | refine br_t (by assumption) ?_ | refine br_f (by assumption) ?_ | refine And.intro (by assumption) ?_ | refine nm_r ho ?_ | refine nm_e ?_)
    · repeat' (first | exact h | refine br_t (by decide) ?_ | refine br_f (by decide) ?_ | refine br_t (by assumption) ?_ | refine br_f (by assumption) ?_ | refine And.intro (by assumption) ?_ | refine nm_r ho ?_ | refine nm_e ?_)
  · refine ⟨cm_U oc ec st (pl + 1) inn pg kp mem reg out spc, cm_V oc ec st (pl + 1) otr pg kp 0 mem reg out spc, ⟨0, oc, ec, st, pl + 1, inn, otr, pg, kp, mem, reg, out, spc, rfl, rfl, cm_Iup hI (by omega)⟩, fun post h => ?_, fun post h => ?_⟩
    · repeat' (first | exact h | refine br_t (by decide) ?_ | refine br_f (by decide) ?_ | refine br_t (by assumption) ?_ | refine br_f (by assumption) ?_ | refine And.intro (by assumption) ?_ | refine nm_r ho ?_ | refine nm_e ?_)
    · repeat' (first | exact h | refine br_t (by decide) ?_ | refine br_f (by decide) ?_ | refine br_t (by assumption) ?_ | refine br_f (by assumption) ?_ | refine And.intro (by assumption) ?_ | refine nm_r ho ?_ | refine nm_e ?_)
theorem cm_o15 {c : Nat} {oc ec st pl inn otr pg kp : Int32} {mem reg out spc : Nat → Int32} (hI : cm_I c oc inn otr pg kp) (w : Int32) (ho : w &&& 31 = 15) : cm_B (c + 1) (fun post => wpX_jump post (cm_U oc ec st pl inn pg kp mem reg out spc) w) (fun post => wpY_work post (cm_V oc ec st pl otr pg kp 0 mem reg out spc) w) := by
  have hA : vp_in ((w >>> ((5 : Int32) &&& 31)) &&& 7) 8 := cm_7 _
  have hB : vp_in ((w >>> ((8 : Int32) &&& 31)) &&& 7) 8 := cm_7 _
  have hC : vp_in ((w >>> ((11 : Int32) &&& 31)) &&& 7) 8 := cm_7 _
  by_cases hz : reg ((w >>> ((5 : Int32) &&& 31)) &&& 7).toNatClampNeg = 0
  · refine ⟨cm_U oc ec st (pl + 1) inn pg kp mem reg out spc, cm_V oc ec st (pl + 1) otr pg kp 0 mem reg out spc, ⟨0, oc, ec, st, pl + 1, inn, otr, pg, kp, mem, reg, out, spc, rfl, rfl, cm_Iup hI (by omega)⟩, fun post h => ?_, fun post h => ?_⟩
    · repeat' (first | exact h | refine br_t (by decide) ?_ | refine br_f (by decide) ?_ | refine br_t (by assumption) ?_ | refine br_f (by assumption) ?_ | refine And.intro (by assumption) ?_ | refine nm_r ho ?_ | refine nm_e ?_)
    · repeat' (first | exact h | refine br_t (by decide) ?_ | refine br_f (by decide) ?_ | refine br_t (by assumption) ?_ | refine br_f (by assumption) ?_ | refine And.intro (by assumption) ?_ | refine nm_r ho ?_ | refine nm_e ?_)
  · refine ⟨cm_U oc ec st (pl + (w >>> ((14 : Int32) &&& 31))) inn pg kp mem reg out spc, cm_V oc ec st (pl + (w >>> ((14 : Int32) &&& 31))) otr pg kp 0 mem reg out spc, ⟨0, oc, ec, st, pl + (w >>> ((14 : Int32) &&& 31)), inn, otr, pg, kp, mem, reg, out, spc, rfl, rfl, cm_Iup hI (by omega)⟩, fun post h => ?_, fun post h => ?_⟩
    · repeat' (first | exact h | refine br_t (by decide) ?_ | refine br_f (by decide) ?_ | refine br_t (by assumption) ?_ | refine br_f (by assumption) ?_ | refine And.intro (by assumption) ?_ | refine nm_r ho ?_ | refine nm_e ?_)
    · repeat' (first | exact h | refine br_t (by decide) ?_ | refine br_f (by decide) ?_ | refine br_t (by assumption) ?_ | refine br_f (by assumption) ?_ | refine And.intro (by assumption) ?_ | refine nm_r ho ?_ | refine nm_e ?_)
theorem cm_o16 {c : Nat} {oc ec st pl inn otr pg kp : Int32} {mem reg out spc : Nat → Int32} (hI : cm_I c oc inn otr pg kp) (w : Int32) (ho : w &&& 31 = 16) : cm_B (c + 1) (fun post => wpX_jump post (cm_U oc ec st pl inn pg kp mem reg out spc) w) (fun post => wpY_work post (cm_V oc ec st pl otr pg kp 0 mem reg out spc) w) := by
  have hA : vp_in ((w >>> ((5 : Int32) &&& 31)) &&& 7) 8 := cm_7 _
  have hB : vp_in ((w >>> ((8 : Int32) &&& 31)) &&& 7) 8 := cm_7 _
  have hC : vp_in ((w >>> ((11 : Int32) &&& 31)) &&& 7) 8 := cm_7 _
  by_cases hz : reg ((w >>> ((5 : Int32) &&& 31)) &&& 7).toNatClampNeg < reg ((w >>> ((8 : Int32) &&& 31)) &&& 7).toNatClampNeg
  · have hy : ¬ reg ((w >>> ((8 : Int32) &&& 31)) &&& 7).toNatClampNeg ≤ reg ((w >>> ((5 : Int32) &&& 31)) &&& 7).toNatClampNeg := Int32.not_le.mpr hz
    refine ⟨cm_U oc ec st (pl + (w >>> ((14 : Int32) &&& 31))) inn pg kp mem reg out spc, cm_V oc ec st (pl + (w >>> ((14 : Int32) &&& 31))) otr pg kp 0 mem reg out spc, ⟨0, oc, ec, st, pl + (w >>> ((14 : Int32) &&& 31)), inn, otr, pg, kp, mem, reg, out, spc, rfl, rfl, cm_Iup hI (by omega)⟩, fun post h => ?_, fun post h => ?_⟩
    · repeat' (first | exact h | refine br_t (by decide) ?_ | refine br_f (by decide) ?_ | refine br_t (by assumption) ?_ | refine br_f (by assumption) ?_ | refine And.intro (by assumption) ?_ | refine nm_r ho ?_ | refine nm_e ?_)
    · repeat' (first | exact h | refine br_t (by decide) ?_ | refine br_f (by decide) ?_ | refine br_t (by assumption) ?_ | refine br_f (by assumption) ?_ | refine And.intro (by assumption) ?_ | refine nm_r ho ?_ | refine nm_e ?_)
  · have hy : reg ((w >>> ((8 : Int32) &&& 31)) &&& 7).toNatClampNeg ≤ reg ((w >>> ((5 : Int32) &&& 31)) &&& 7).toNatClampNeg := Int32.not_lt.mp hz
    refine ⟨cm_U oc ec st (pl + 1) inn pg kp mem reg out spc, cm_V oc ec st (pl + 1) otr pg kp 0 mem reg out spc, ⟨0, oc, ec, st, pl + 1, inn, otr, pg, kp, mem, reg, out, spc, rfl, rfl, cm_Iup hI (by omega)⟩, fun post h => ?_, fun post h => ?_⟩
    · repeat' (first | exact h | refine br_t (by decide) ?_ | refine br_f (by decide) ?_ | refine br_t (by assumption) ?_ | refine br_f (by assumption) ?_ | refine And.intro (by assumption) ?_ | refine nm_r ho ?_ | refine nm_e ?_)
    · repeat' (first | exact h | refine br_t (by decide) ?_ | refine br_f (by decide) ?_ | refine br_t (by assumption) ?_ | refine br_f (by assumption) ?_ | refine And.intro (by assumption) ?_ | refine nm_r ho ?_ | refine nm_e ?_)
theorem cm_o17 {c : Nat} {oc ec st pl inn otr pg kp : Int32} {mem reg out spc : Nat → Int32} (hI : cm_I c oc inn otr pg kp) (w : Int32) (ho : w &&& 31 = 17) : cm_B (c + 1) (fun post => wpX_jump post (cm_U oc ec st pl inn pg kp mem reg out spc) w) (fun post => wpY_work post (cm_V oc ec st pl otr pg kp 0 mem reg out spc) w) := by
  have hA : vp_in ((w >>> ((5 : Int32) &&& 31)) &&& 7) 8 := cm_7 _
  have hB : vp_in ((w >>> ((8 : Int32) &&& 31)) &&& 7) 8 := cm_7 _
  have hC : vp_in ((w >>> ((11 : Int32) &&& 31)) &&& 7) 8 := cm_7 _
  refine ⟨cm_U oc ec st (pl + (w >>> ((14 : Int32) &&& 31))) inn pg kp mem reg out spc, cm_V oc ec st (pl + (w >>> ((14 : Int32) &&& 31))) otr pg kp 0 mem reg out spc, ⟨0, oc, ec, st, pl + (w >>> ((14 : Int32) &&& 31)), inn, otr, pg, kp, mem, reg, out, spc, rfl, rfl, cm_Iup hI (by omega)⟩, fun post h => ?_, fun post h => ?_⟩
  · repeat' (first | exact h | refine br_t (by decide) ?_ | refine br_f (by decide) ?_ | refine br_t (by assumption) ?_ | refine br_f (by assumption) ?_ | refine And.intro (by assumption) ?_ | refine nm_r ho ?_ | refine nm_e ?_)
  · repeat' (first | exact h | refine br_t (by decide) ?_ | refine br_f (by decide) ?_ | refine br_t (by assumption) ?_ | refine br_f (by assumption) ?_ | refine And.intro (by assumption) ?_ | refine nm_r ho ?_ | refine nm_e ?_)
theorem cm_o18 {c : Nat} {oc ec st pl inn otr pg kp : Int32} {mem reg out spc : Nat → Int32} (hI : cm_I c oc inn otr pg kp) (w : Int32) (ho : w &&& 31 = 18) : cm_B (c + 1) (fun post => wpX_jump post (cm_U oc ec st pl inn pg kp mem reg out spc) w) (fun post => wpY_work post (cm_V oc ec st pl otr pg kp 0 mem reg out spc) w) := by
  have hA : vp_in ((w >>> ((5 : Int32) &&& 31)) &&& 7) 8 := cm_7 _
  have hB : vp_in ((w >>> ((8 : Int32) &&& 31)) &&& 7) 8 := cm_7 _
  have hC : vp_in ((w >>> ((11 : Int32) &&& 31)) &&& 7) 8 := cm_7 _
  refine ⟨cm_U oc ec st (pl + (w >>> ((14 : Int32) &&& 31))) inn pg kp mem (upd reg ((w >>> ((5 : Int32) &&& 31)) &&& 7).toNatClampNeg (pl + 1)) out spc, cm_V oc ec st (pl + (w >>> ((14 : Int32) &&& 31))) otr pg kp 0 mem (upd reg ((w >>> ((5 : Int32) &&& 31)) &&& 7).toNatClampNeg (pl + 1)) out spc, ⟨0, oc, ec, st, pl + (w >>> ((14 : Int32) &&& 31)), inn, otr, pg, kp, mem, upd reg ((w >>> ((5 : Int32) &&& 31)) &&& 7).toNatClampNeg (pl + 1), out, spc, rfl, rfl, cm_Iup hI (by omega)⟩, fun post h => ?_, fun post h => ?_⟩
  · repeat' (first | exact h | refine br_t (by decide) ?_ | refine br_f (by decide) ?_ | refine br_t (by assumption) ?_ | refine br_f (by assumption) ?_ | refine And.intro (by assumption) ?_ | refine nm_r ho ?_ | refine nm_e ?_)
  · repeat' (first | exact h | refine br_t (by decide) ?_ | refine br_f (by decide) ?_ | refine br_t (by assumption) ?_ | refine br_f (by assumption) ?_ | refine And.intro (by assumption) ?_ | refine nm_r ho ?_ | refine nm_e ?_)
theorem cm_o19 {c : Nat} {oc ec st pl inn otr pg kp : Int32} {mem reg out spc : Nat → Int32} (hI : cm_I c oc inn otr pg kp) (w : Int32) (ho : w &&& 31 = 19) : cm_B (c + 1) (fun post => wpX_jump post (cm_U oc ec st pl inn pg kp mem reg out spc) w) (fun post => wpY_work post (cm_V oc ec st pl otr pg kp 0 mem reg out spc) w) := by
  have hA : vp_in ((w >>> ((5 : Int32) &&& 31)) &&& 7) 8 := cm_7 _
  have hB : vp_in ((w >>> ((8 : Int32) &&& 31)) &&& 7) 8 := cm_7 _
  have hC : vp_in ((w >>> ((11 : Int32) &&& 31)) &&& 7) 8 := cm_7 _
  refine ⟨cm_U oc ec st (reg ((w >>> ((5 : Int32) &&& 31)) &&& 7).toNatClampNeg) inn pg kp mem reg out spc, cm_V oc ec st (reg ((w >>> ((5 : Int32) &&& 31)) &&& 7).toNatClampNeg) otr pg kp 0 mem reg out spc, ⟨0, oc, ec, st, reg ((w >>> ((5 : Int32) &&& 31)) &&& 7).toNatClampNeg, inn, otr, pg, kp, mem, reg, out, spc, rfl, rfl, cm_Iup hI (by omega)⟩, fun post h => ?_, fun post h => ?_⟩
  · repeat' (first | exact h | refine br_t (by decide) ?_ | refine br_f (by decide) ?_ | refine br_t (by assumption) ?_ | refine br_f (by assumption) ?_ | refine And.intro (by assumption) ?_ | refine nm_r ho ?_ | refine nm_e ?_)
  · repeat' (first | exact h | refine br_t (by decide) ?_ | refine br_f (by decide) ?_ | refine br_t (by assumption) ?_ | refine br_f (by assumption) ?_ | refine And.intro (by assumption) ?_ | refine nm_r ho ?_ | refine nm_e ?_)
end
section
/-! ===== loads, stores, traps, control, print (written by wip/whole/gen.py) ===== -/
theorem cm_012 {x : Int32} (h0 : ¬ x < 0) (h2 : ¬ 2 < x) : x = 0 ∨ x = 1 ∨ x = 2 := by
  obtain ⟨j, hj, rfl⟩ := nI_of h0
  rw [show (2 : Int32) = nI 2 from rfl, nI_ltI (by decide) hj] at h2
  match j, h2 with
  | 0, _ => exact Or.inl rfl
  | 1, _ => exact Or.inr (Or.inl rfl)
  | 2, _ => exact Or.inr (Or.inr rfl)
  | j + 3, h2 => omega
theorem cm_o12 {c : Nat} {oc ec st pl inn otr pg kp : Int32} {mem reg out spc : Nat → Int32} (hI : cm_I c oc inn otr pg kp) (w : Int32) (ho : w &&& 31 = 12) : cm_B (c + 1) (fun post => wpX_load post (cm_U oc ec st pl inn pg kp mem reg out spc) w) (fun post => wpY_work post (cm_V oc ec st pl otr pg kp 0 mem reg out spc) w) := by
  have hA : vp_in ((w >>> ((5 : Int32) &&& 31)) &&& 7) 8 := cm_7 _
  have hB : vp_in ((w >>> ((8 : Int32) &&& 31)) &&& 7) 8 := cm_7 _
  have hC : vp_in ((w >>> ((11 : Int32) &&& 31)) &&& 7) 8 := cm_7 _
  obtain ⟨r, hr, hX, hY⟩ := cm_tr (oc := oc) (ec := ec) (st := st) (pl := pl) (inn := inn) (otr := otr) (pg := pg) (kp := kp) (t := 0) (mem := mem) (reg := reg) (out := out) (spc := spc) (reg ((w >>> ((8 : Int32) &&& 31)) &&& 7).toNatClampNeg + (w >>> ((14 : Int32) &&& 31))) 0
  rcases hr with rfl | hr
  · obtain ⟨u', v', ⟨oc', ec', st', pl', inn', otr', pg', kp', mem', reg', out', spc', rfl, rfl, hI'⟩, hTX, hTY⟩ := cm_trap (ec := ec) (st := st) (pl := pl) (mem := mem) (reg := reg) (out := out) (spc := (upd spc 4 (reg ((w >>> ((8 : Int32) &&& 31)) &&& 7).toNatClampNeg + (w >>> ((14 : Int32) &&& 31))))) 0 3 hI
    refine ⟨_, _, ⟨1, oc', ec', st', pl', inn', otr', pg', kp', mem', reg', out', spc', rfl, rfl, cm_Iup hI' (by omega)⟩, fun post h => ?_, fun post h => ?_⟩
    · repeat' (first | exact h | refine hTX _ ?_ | refine hX _ ?_ | refine br_t (by decide) ?_ | refine br_f (by decide) ?_ | refine br_t (by assumption) ?_ | refine br_f (by assumption) ?_ | refine And.intro (by assumption) ?_ | refine nm_r ho ?_ | refine nm_e ?_)
    · repeat' (first | exact h | refine hTY _ ?_ | (unfold wY_access_13 wpY_reach; refine hY _ ?_) | refine br_t (by decide) ?_ | refine br_f (by decide) ?_ | refine br_t (by assumption) ?_ | refine br_f (by assumption) ?_ | refine And.intro (by assumption) ?_ | refine nm_r ho ?_ | refine nm_e ?_)
  · obtain ⟨r1, r2, r3, r4, r5, r6⟩ := cm_rf hr
    refine ⟨cm_U oc ec st (pl + 1) inn pg kp mem (upd reg ((w >>> ((5 : Int32) &&& 31)) &&& 7).toNatClampNeg (mem r.toNatClampNeg)) out spc, cm_V oc ec st (pl + 1) otr pg kp 0 mem (upd reg ((w >>> ((5 : Int32) &&& 31)) &&& 7).toNatClampNeg (mem r.toNatClampNeg)) out spc, ⟨0, oc, ec, st, pl + 1, inn, otr, pg, kp, mem, upd reg ((w >>> ((5 : Int32) &&& 31)) &&& 7).toNatClampNeg (mem r.toNatClampNeg), out, spc, rfl, rfl, cm_Iup hI (by omega)⟩, fun post h => ?_, fun post h => ?_⟩
    · repeat' (first | exact h | refine hX _ ?_ | refine br_t (by decide) ?_ | refine br_f (by decide) ?_ | refine br_t (by assumption) ?_ | refine br_f (by assumption) ?_ | refine And.intro (by assumption) ?_ | refine nm_r ho ?_ | refine nm_e ?_)
    · repeat' (first | exact h | (unfold wY_access_13 wpY_reach; refine hY _ ?_) | (rw [r5]; exact h) | refine br_t (by decide) ?_ | refine br_f (by decide) ?_ | refine br_t (by assumption) ?_ | refine br_f (by assumption) ?_ | refine And.intro (by assumption) ?_ | refine nm_r ho ?_ | refine nm_e ?_)
theorem cm_o13 {c : Nat} {oc ec st pl inn otr pg kp : Int32} {mem reg out spc : Nat → Int32} (hI : cm_I c oc inn otr pg kp) (w : Int32) (ho : w &&& 31 = 13) : cm_B (c + 1) (fun post => wpX_store post (cm_U oc ec st pl inn pg kp mem reg out spc) w) (fun post => wpY_work post (cm_V oc ec st pl otr pg kp 0 mem reg out spc) w) := by
  have hA : vp_in ((w >>> ((5 : Int32) &&& 31)) &&& 7) 8 := cm_7 _
  have hB : vp_in ((w >>> ((8 : Int32) &&& 31)) &&& 7) 8 := cm_7 _
  have hC : vp_in ((w >>> ((11 : Int32) &&& 31)) &&& 7) 8 := cm_7 _
  obtain ⟨r, hr, hX, hY⟩ := cm_tr (oc := oc) (ec := ec) (st := st) (pl := pl) (inn := inn) (otr := otr) (pg := pg) (kp := kp) (t := 0) (mem := mem) (reg := reg) (out := out) (spc := spc) (reg ((w >>> ((8 : Int32) &&& 31)) &&& 7).toNatClampNeg + (w >>> ((14 : Int32) &&& 31))) 1
  rcases hr with rfl | hr
  · obtain ⟨u', v', ⟨oc', ec', st', pl', inn', otr', pg', kp', mem', reg', out', spc', rfl, rfl, hI'⟩, hTX, hTY⟩ := cm_trap (ec := ec) (st := st) (pl := pl) (mem := mem) (reg := reg) (out := out) (spc := (upd spc 4 (reg ((w >>> ((8 : Int32) &&& 31)) &&& 7).toNatClampNeg + (w >>> ((14 : Int32) &&& 31))))) 0 3 hI
    refine ⟨_, _, ⟨1, oc', ec', st', pl', inn', otr', pg', kp', mem', reg', out', spc', rfl, rfl, cm_Iup hI' (by omega)⟩, fun post h => ?_, fun post h => ?_⟩
    · repeat' (first | exact h | refine hTX _ ?_ | refine hX _ ?_ | refine br_t (by decide) ?_ | refine br_f (by decide) ?_ | refine br_t (by assumption) ?_ | refine br_f (by assumption) ?_ | refine And.intro (by assumption) ?_ | refine nm_r ho ?_ | refine nm_e ?_)
    · repeat' (first | exact h | refine hTY _ ?_ | (unfold wY_access_13 wpY_reach; refine hY _ ?_) | refine br_t (by decide) ?_ | refine br_f (by decide) ?_ | refine br_t (by assumption) ?_ | refine br_f (by assumption) ?_ | refine And.intro (by assumption) ?_ | refine nm_r ho ?_ | refine nm_e ?_)
  · obtain ⟨r1, r2, r3, r4, r5, r6⟩ := cm_rf hr
    refine ⟨cm_U oc ec st (pl + 1) inn pg kp (upd mem r.toNatClampNeg (reg ((w >>> ((5 : Int32) &&& 31)) &&& 7).toNatClampNeg)) reg out spc, cm_V oc ec st (pl + 1) otr pg kp 0 (upd mem r.toNatClampNeg (reg ((w >>> ((5 : Int32) &&& 31)) &&& 7).toNatClampNeg)) reg out spc, ⟨0, oc, ec, st, pl + 1, inn, otr, pg, kp, upd mem r.toNatClampNeg (reg ((w >>> ((5 : Int32) &&& 31)) &&& 7).toNatClampNeg), reg, out, spc, rfl, rfl, cm_Iup hI (by omega)⟩, fun post h => ?_, fun post h => ?_⟩
    · repeat' (first | exact h | refine hX _ ?_ | refine br_t (by decide) ?_ | refine br_f (by decide) ?_ | refine br_t (by assumption) ?_ | refine br_f (by assumption) ?_ | refine And.intro (by assumption) ?_ | refine nm_r ho ?_ | refine nm_e ?_)
    · repeat' (first | exact h | (unfold wY_access_13 wpY_reach; refine hY _ ?_) | (rw [r5]; exact h) | refine br_t (by decide) ?_ | refine br_f (by decide) ?_ | refine br_t (by assumption) ?_ | refine br_f (by assumption) ?_ | refine And.intro (by assumption) ?_ | refine nm_r ho ?_ | refine nm_e ?_)
theorem cm_o20 {c : Nat} {oc ec st pl inn otr pg kp : Int32} {mem reg out spc : Nat → Int32} (hI : cm_I c oc inn otr pg kp) (w : Int32) (ho : w &&& 31 = 20) : cm_B (c + 1) (fun post => wpX_trap post (cm_U oc ec st pl inn pg kp mem reg out spc) 4) (fun post => wpY_work post (cm_V oc ec st pl otr pg kp 0 mem reg out spc) w) := by
  have hA : vp_in ((w >>> ((5 : Int32) &&& 31)) &&& 7) 8 := cm_7 _
  have hB : vp_in ((w >>> ((8 : Int32) &&& 31)) &&& 7) 8 := cm_7 _
  have hC : vp_in ((w >>> ((11 : Int32) &&& 31)) &&& 7) 8 := cm_7 _
  obtain ⟨u', v', ⟨oc', ec', st', pl', inn', otr', pg', kp', mem', reg', out', spc', rfl, rfl, hI'⟩, hTX, hTY⟩ := cm_trap (ec := ec) (st := st) (pl := pl) (mem := mem) (reg := reg) (out := out) (spc := spc) 0 4 hI
  refine ⟨_, _, ⟨1, oc', ec', st', pl', inn', otr', pg', kp', mem', reg', out', spc', rfl, rfl, cm_Iup hI' (by omega)⟩, fun post h => ?_, fun post h => ?_⟩
  · repeat' (first | exact h | refine hTX _ ?_ | refine br_t (by decide) ?_ | refine br_f (by decide) ?_ | refine br_t (by assumption) ?_ | refine br_f (by assumption) ?_ | refine And.intro (by assumption) ?_ | refine nm_r ho ?_ | refine nm_e ?_)
  · repeat' (first | exact h | refine hTY _ ?_ | refine br_t (by decide) ?_ | refine br_f (by decide) ?_ | refine br_t (by assumption) ?_ | refine br_f (by assumption) ?_ | refine And.intro (by assumption) ?_ | refine nm_r ho ?_ | refine nm_e ?_)
theorem cm_o27 {c : Nat} {oc ec st pl inn otr pg kp : Int32} {mem reg out spc : Nat → Int32} (hI : cm_I c oc inn otr pg kp) (w : Int32) (ho : w &&& 31 = 27) : cm_B (c + 1) (fun post => wpX_trap post (cm_U oc ec st pl inn pg kp mem reg out spc) 1) (fun post => wpY_work post (cm_V oc ec st pl otr pg kp 0 mem reg out spc) w) := by
  have hA : vp_in ((w >>> ((5 : Int32) &&& 31)) &&& 7) 8 := cm_7 _
  have hB : vp_in ((w >>> ((8 : Int32) &&& 31)) &&& 7) 8 := cm_7 _
  have hC : vp_in ((w >>> ((11 : Int32) &&& 31)) &&& 7) 8 := cm_7 _
  obtain ⟨u', v', ⟨oc', ec', st', pl', inn', otr', pg', kp', mem', reg', out', spc', rfl, rfl, hI'⟩, hTX, hTY⟩ := cm_trap (ec := ec) (st := st) (pl := pl) (mem := mem) (reg := reg) (out := out) (spc := spc) 0 1 hI
  refine ⟨_, _, ⟨1, oc', ec', st', pl', inn', otr', pg', kp', mem', reg', out', spc', rfl, rfl, cm_Iup hI' (by omega)⟩, fun post h => ?_, fun post h => ?_⟩
  · repeat' (first | exact h | refine hTX _ ?_ | refine br_t (by decide) ?_ | refine br_f (by decide) ?_ | refine br_t (by assumption) ?_ | refine br_f (by assumption) ?_ | refine And.intro (by assumption) ?_ | refine nm_r ho ?_ | refine nm_e ?_)
  · repeat' (first | exact h | refine hTY _ ?_ | refine br_t (by decide) ?_ | refine br_f (by decide) ?_ | refine br_t (by assumption) ?_ | refine br_f (by assumption) ?_ | refine And.intro (by assumption) ?_ | refine nm_r ho ?_ | refine nm_e ?_)
theorem cm_o28 {c : Nat} {oc ec st pl inn otr pg kp : Int32} {mem reg out spc : Nat → Int32} (hI : cm_I c oc inn otr pg kp) (w : Int32) (ho : w &&& 31 = 28) : cm_B (c + 1) (fun post => wpX_trap post (cm_U oc ec st pl inn pg kp mem reg out spc) 1) (fun post => wpY_work post (cm_V oc ec st pl otr pg kp 0 mem reg out spc) w) := by
  have hA : vp_in ((w >>> ((5 : Int32) &&& 31)) &&& 7) 8 := cm_7 _
  have hB : vp_in ((w >>> ((8 : Int32) &&& 31)) &&& 7) 8 := cm_7 _
  have hC : vp_in ((w >>> ((11 : Int32) &&& 31)) &&& 7) 8 := cm_7 _
  obtain ⟨u', v', ⟨oc', ec', st', pl', inn', otr', pg', kp', mem', reg', out', spc', rfl, rfl, hI'⟩, hTX, hTY⟩ := cm_trap (ec := ec) (st := st) (pl := pl) (mem := mem) (reg := reg) (out := out) (spc := spc) 0 1 hI
  refine ⟨_, _, ⟨1, oc', ec', st', pl', inn', otr', pg', kp', mem', reg', out', spc', rfl, rfl, cm_Iup hI' (by omega)⟩, fun post h => ?_, fun post h => ?_⟩
  · repeat' (first | exact h | refine hTX _ ?_ | refine br_t (by decide) ?_ | refine br_f (by decide) ?_ | refine br_t (by assumption) ?_ | refine br_f (by assumption) ?_ | refine And.intro (by assumption) ?_ | refine nm_r ho ?_ | refine nm_e ?_)
  · repeat' (first | exact h | refine hTY _ ?_ | refine br_t (by decide) ?_ | refine br_f (by decide) ?_ | refine br_t (by assumption) ?_ | refine br_f (by assumption) ?_ | refine And.intro (by assumption) ?_ | refine nm_r ho ?_ | refine nm_e ?_)
theorem cm_o29 {c : Nat} {oc ec st pl inn otr pg kp : Int32} {mem reg out spc : Nat → Int32} (hI : cm_I c oc inn otr pg kp) (w : Int32) (ho : w &&& 31 = 29) : cm_B (c + 1) (fun post => wpX_trap post (cm_U oc ec st pl inn pg kp mem reg out spc) 1) (fun post => wpY_work post (cm_V oc ec st pl otr pg kp 0 mem reg out spc) w) := by
  have hA : vp_in ((w >>> ((5 : Int32) &&& 31)) &&& 7) 8 := cm_7 _
  have hB : vp_in ((w >>> ((8 : Int32) &&& 31)) &&& 7) 8 := cm_7 _
  have hC : vp_in ((w >>> ((11 : Int32) &&& 31)) &&& 7) 8 := cm_7 _
  obtain ⟨u', v', ⟨oc', ec', st', pl', inn', otr', pg', kp', mem', reg', out', spc', rfl, rfl, hI'⟩, hTX, hTY⟩ := cm_trap (ec := ec) (st := st) (pl := pl) (mem := mem) (reg := reg) (out := out) (spc := spc) 0 1 hI
  refine ⟨_, _, ⟨1, oc', ec', st', pl', inn', otr', pg', kp', mem', reg', out', spc', rfl, rfl, cm_Iup hI' (by omega)⟩, fun post h => ?_, fun post h => ?_⟩
  · repeat' (first | exact h | refine hTX _ ?_ | refine br_t (by decide) ?_ | refine br_f (by decide) ?_ | refine br_t (by assumption) ?_ | refine br_f (by assumption) ?_ | refine And.intro (by assumption) ?_ | refine nm_r ho ?_ | refine nm_e ?_)
  · repeat' (first | exact h | refine hTY _ ?_ | refine br_t (by decide) ?_ | refine br_f (by decide) ?_ | refine br_t (by assumption) ?_ | refine br_f (by assumption) ?_ | refine And.intro (by assumption) ?_ | refine nm_r ho ?_ | refine nm_e ?_)
theorem cm_o30 {c : Nat} {oc ec st pl inn otr pg kp : Int32} {mem reg out spc : Nat → Int32} (hI : cm_I c oc inn otr pg kp) (w : Int32) (ho : w &&& 31 = 30) : cm_B (c + 1) (fun post => wpX_trap post (cm_U oc ec st pl inn pg kp mem reg out spc) 1) (fun post => wpY_work post (cm_V oc ec st pl otr pg kp 0 mem reg out spc) w) := by
  have hA : vp_in ((w >>> ((5 : Int32) &&& 31)) &&& 7) 8 := cm_7 _
  have hB : vp_in ((w >>> ((8 : Int32) &&& 31)) &&& 7) 8 := cm_7 _
  have hC : vp_in ((w >>> ((11 : Int32) &&& 31)) &&& 7) 8 := cm_7 _
  obtain ⟨u', v', ⟨oc', ec', st', pl', inn', otr', pg', kp', mem', reg', out', spc', rfl, rfl, hI'⟩, hTX, hTY⟩ := cm_trap (ec := ec) (st := st) (pl := pl) (mem := mem) (reg := reg) (out := out) (spc := spc) 0 1 hI
  refine ⟨_, _, ⟨1, oc', ec', st', pl', inn', otr', pg', kp', mem', reg', out', spc', rfl, rfl, cm_Iup hI' (by omega)⟩, fun post h => ?_, fun post h => ?_⟩
  · repeat' (first | exact h | refine hTX _ ?_ | refine br_t (by decide) ?_ | refine br_f (by decide) ?_ | refine br_t (by assumption) ?_ | refine br_f (by assumption) ?_ | refine And.intro (by assumption) ?_ | refine nm_r ho ?_ | refine nm_e ?_)
  · repeat' (first | exact h | refine hTY _ ?_ | refine br_t (by decide) ?_ | refine br_f (by decide) ?_ | refine br_t (by assumption) ?_ | refine br_f (by assumption) ?_ | refine And.intro (by assumption) ?_ | refine nm_r ho ?_ | refine nm_e ?_)
theorem cm_o31 {c : Nat} {oc ec st pl inn otr pg kp : Int32} {mem reg out spc : Nat → Int32} (hI : cm_I c oc inn otr pg kp) (w : Int32) (ho : w &&& 31 = 31) : cm_B (c + 1) (fun post => wpX_trap post (cm_U oc ec st pl inn pg kp mem reg out spc) 1) (fun post => wpY_work post (cm_V oc ec st pl otr pg kp 0 mem reg out spc) w) := by
  have hA : vp_in ((w >>> ((5 : Int32) &&& 31)) &&& 7) 8 := cm_7 _
  have hB : vp_in ((w >>> ((8 : Int32) &&& 31)) &&& 7) 8 := cm_7 _
  have hC : vp_in ((w >>> ((11 : Int32) &&& 31)) &&& 7) 8 := cm_7 _
  obtain ⟨u', v', ⟨oc', ec', st', pl', inn', otr', pg', kp', mem', reg', out', spc', rfl, rfl, hI'⟩, hTX, hTY⟩ := cm_trap (ec := ec) (st := st) (pl := pl) (mem := mem) (reg := reg) (out := out) (spc := spc) 0 1 hI
  refine ⟨_, _, ⟨1, oc', ec', st', pl', inn', otr', pg', kp', mem', reg', out', spc', rfl, rfl, cm_Iup hI' (by omega)⟩, fun post h => ?_, fun post h => ?_⟩
  · repeat' (first | exact h | refine hTX _ ?_ | refine br_t (by decide) ?_ | refine br_f (by decide) ?_ | refine br_t (by assumption) ?_ | refine br_f (by assumption) ?_ | refine And.intro (by assumption) ?_ | refine nm_r ho ?_ | refine nm_e ?_)
  · repeat' (first | exact h | refine hTY _ ?_ | refine br_t (by decide) ?_ | refine br_f (by decide) ?_ | refine br_t (by assumption) ?_ | refine br_f (by assumption) ?_ | refine And.intro (by assumption) ?_ | refine nm_r ho ?_ | refine nm_e ?_)
theorem cm_o21 {c : Nat} {oc ec st pl inn otr pg kp : Int32} {mem reg out spc : Nat → Int32} (hI : cm_I c oc inn otr pg kp) (w : Int32) (ho : w &&& 31 = 21) : cm_B (c + 1) (fun post => wpX_control post (cm_U oc ec st pl inn pg kp mem reg out spc) w) (fun post => wpY_work post (cm_V oc ec st pl otr pg kp 0 mem reg out spc) w) := by
  have hA : vp_in ((w >>> ((5 : Int32) &&& 31)) &&& 7) 8 := cm_7 _
  have hB : vp_in ((w >>> ((8 : Int32) &&& 31)) &&& 7) 8 := cm_7 _
  have hC : vp_in ((w >>> ((11 : Int32) &&& 31)) &&& 7) 8 := cm_7 _
  by_cases hm : inn = 0
  · have hm' : ¬ otr = 0 := by
      obtain ⟨-, ⟨rfl, rfl⟩ | ⟨rfl, rfl⟩, -⟩ := hI
      · exact absurd hm (by decide)
      · decide
    obtain ⟨u', v', ⟨oc', ec', st', pl', inn', otr', pg', kp', mem', reg', out', spc', rfl, rfl, hI'⟩, hTX, hTY⟩ := cm_trap (ec := ec) (st := st) (pl := pl) (mem := mem) (reg := reg) (out := out) (spc := spc) 0 2 hI
    refine ⟨_, _, ⟨1, oc', ec', st', pl', inn', otr', pg', kp', mem', reg', out', spc', rfl, rfl, cm_Iup hI' (by omega)⟩, fun post h => ?_, fun post h => ?_⟩
    · repeat' (first | exact h | refine hTX _ ?_ | refine br_t (by decide) ?_ | refine br_f (by decide) ?_ | refine br_t (by assumption) ?_ | refine br_f (by assumption) ?_ | refine And.intro (by assumption) ?_ | refine nm_r ho ?_ | refine nm_e ?_)
    · repeat' (first | exact h | refine hTY _ ?_ | refine br_t (by decide) ?_ | refine br_f (by decide) ?_ | refine br_t (by assumption) ?_ | refine br_f (by assumption) ?_ | refine And.intro (by assumption) ?_ | refine nm_r ho ?_ | refine nm_e ?_)
  · have hm' : otr = 0 := by
      obtain ⟨-, ⟨rfl, rfl⟩ | ⟨rfl, rfl⟩, -⟩ := hI
      · rfl
      · exact absurd rfl hm
    refine ⟨cm_U oc ec st (pl + 1) inn pg kp mem reg out (upd spc 0 (reg ((w >>> ((5 : Int32) &&& 31)) &&& 7).toNatClampNeg)), cm_V oc ec st (pl + 1) otr pg kp 0 mem reg out (upd spc 0 (reg ((w >>> ((5 : Int32) &&& 31)) &&& 7).toNatClampNeg)), ⟨0, oc, ec, st, pl + 1, inn, otr, pg, kp, mem, reg, out, upd spc 0 (reg ((w >>> ((5 : Int32) &&& 31)) &&& 7).toNatClampNeg), rfl, rfl, cm_Iup hI (by omega)⟩, fun post h => ?_, fun post h => ?_⟩
    · repeat' (first | exact h | refine br_t (by decide) ?_ | refine br_f (by decide) ?_ | refine br_t (by assumption) ?_ | refine br_f (by assumption) ?_ | refine And.intro (by assumption) ?_ | refine nm_r ho ?_ | refine nm_e ?_)
    · repeat' (first | exact h | refine br_t (by decide) ?_ | refine br_f (by decide) ?_ | refine br_t (by assumption) ?_ | refine br_f (by assumption) ?_ | refine And.intro (by assumption) ?_ | refine nm_r ho ?_ | refine nm_e ?_)
theorem cm_o22 {c : Nat} {oc ec st pl inn otr pg kp : Int32} {mem reg out spc : Nat → Int32} (hI : cm_I c oc inn otr pg kp) (w : Int32) (ho : w &&& 31 = 22) : cm_B (c + 1) (fun post => wpX_control post (cm_U oc ec st pl inn pg kp mem reg out spc) w) (fun post => wpY_work post (cm_V oc ec st pl otr pg kp 0 mem reg out spc) w) := by
  have hA : vp_in ((w >>> ((5 : Int32) &&& 31)) &&& 7) 8 := cm_7 _
  have hB : vp_in ((w >>> ((8 : Int32) &&& 31)) &&& 7) 8 := cm_7 _
  have hC : vp_in ((w >>> ((11 : Int32) &&& 31)) &&& 7) 8 := cm_7 _
  by_cases hm : inn = 0
  · have hm' : ¬ otr = 0 := by
      obtain ⟨-, ⟨rfl, rfl⟩ | ⟨rfl, rfl⟩, -⟩ := hI
      · exact absurd hm (by decide)
      · decide
    obtain ⟨u', v', ⟨oc', ec', st', pl', inn', otr', pg', kp', mem', reg', out', spc', rfl, rfl, hI'⟩, hTX, hTY⟩ := cm_trap (ec := ec) (st := st) (pl := pl) (mem := mem) (reg := reg) (out := out) (spc := spc) 0 2 hI
    refine ⟨_, _, ⟨1, oc', ec', st', pl', inn', otr', pg', kp', mem', reg', out', spc', rfl, rfl, cm_Iup hI' (by omega)⟩, fun post h => ?_, fun post h => ?_⟩
    · repeat' (first | exact h | refine hTX _ ?_ | refine br_t (by decide) ?_ | refine br_f (by decide) ?_ | refine br_t (by assumption) ?_ | refine br_f (by assumption) ?_ | refine And.intro (by assumption) ?_ | refine nm_r ho ?_ | refine nm_e ?_)
    · repeat' (first | exact h | refine hTY _ ?_ | refine br_t (by decide) ?_ | refine br_f (by decide) ?_ | refine br_t (by assumption) ?_ | refine br_f (by assumption) ?_ | refine And.intro (by assumption) ?_ | refine nm_r ho ?_ | refine nm_e ?_)
  · have hm' : otr = 0 := by
      obtain ⟨-, ⟨rfl, rfl⟩ | ⟨rfl, rfl⟩, -⟩ := hI
      · rfl
      · exact absurd rfl hm
    have b0 : narrow .boolean (.int (0 : Int32)) = .int 0 := by decide
    have b1 : narrow .boolean (.int (1 : Int32)) = .int 1 := by decide
    have f0 : fits .boolean (.int (0 : Int32)) = true := by decide
    have f1 : fits .boolean (.int (1 : Int32)) = true := by decide
    by_cases hz : reg ((w >>> ((5 : Int32) &&& 31)) &&& 7).toNatClampNeg = 0
    · refine ⟨cm_U oc ec st (pl + 1) inn (0) kp mem reg out spc, cm_V oc ec st (pl + 1) otr (0) kp 0 mem reg out spc, ⟨0, oc, ec, st, pl + 1, inn, otr, 0, kp, mem, reg, out, spc, rfl, rfl, ⟨(cm_Iup hI (Nat.le_succ c)).1, hI.2.1, Or.inl rfl, hI.2.2.2⟩⟩, fun post h => ?_, fun post h => ?_⟩
      · repeat' (first | exact h | refine br_t (by decide) ?_ | refine br_f (by decide) ?_ | refine br_t (by assumption) ?_ | refine br_f (by assumption) ?_ | refine And.intro (by assumption) ?_ | refine nm_r ho ?_ | refine nm_e ?_)
      · repeat' (first | exact h | refine br_t (by decide) ?_ | refine br_f (by decide) ?_ | refine br_t (by assumption) ?_ | refine br_f (by assumption) ?_ | refine And.intro (by assumption) ?_ | refine nm_r ho ?_ | refine nm_e ?_)
    · refine ⟨cm_U oc ec st (pl + 1) inn (1) kp mem reg out spc, cm_V oc ec st (pl + 1) otr (1) kp 0 mem reg out spc, ⟨0, oc, ec, st, pl + 1, inn, otr, 1, kp, mem, reg, out, spc, rfl, rfl, ⟨(cm_Iup hI (Nat.le_succ c)).1, hI.2.1, Or.inr rfl, hI.2.2.2⟩⟩, fun post h => ?_, fun post h => ?_⟩
      · repeat' (first | exact h | refine br_t (by decide) ?_ | refine br_f (by decide) ?_ | refine br_t (by assumption) ?_ | refine br_f (by assumption) ?_ | refine And.intro (by assumption) ?_ | refine nm_r ho ?_ | refine nm_e ?_)
      · repeat' (first | exact h | refine br_t (by decide) ?_ | refine br_f (by decide) ?_ | refine br_t (by assumption) ?_ | refine br_f (by assumption) ?_ | refine And.intro (by assumption) ?_ | refine nm_r ho ?_ | refine nm_e ?_)
theorem cm_o23 {c : Nat} {oc ec st pl inn otr pg kp : Int32} {mem reg out spc : Nat → Int32} (hI : cm_I c oc inn otr pg kp) (w : Int32) (ho : w &&& 31 = 23) : cm_B (c + 1) (fun post => wpX_control post (cm_U oc ec st pl inn pg kp mem reg out spc) w) (fun post => wpY_work post (cm_V oc ec st pl otr pg kp 0 mem reg out spc) w) := by
  have hA : vp_in ((w >>> ((5 : Int32) &&& 31)) &&& 7) 8 := cm_7 _
  have hB : vp_in ((w >>> ((8 : Int32) &&& 31)) &&& 7) 8 := cm_7 _
  have hC : vp_in ((w >>> ((11 : Int32) &&& 31)) &&& 7) 8 := cm_7 _
  by_cases hm : inn = 0
  · have hm' : ¬ otr = 0 := by
      obtain ⟨-, ⟨rfl, rfl⟩ | ⟨rfl, rfl⟩, -⟩ := hI
      · exact absurd hm (by decide)
      · decide
    obtain ⟨u', v', ⟨oc', ec', st', pl', inn', otr', pg', kp', mem', reg', out', spc', rfl, rfl, hI'⟩, hTX, hTY⟩ := cm_trap (ec := ec) (st := st) (pl := pl) (mem := mem) (reg := reg) (out := out) (spc := spc) 0 2 hI
    refine ⟨_, _, ⟨1, oc', ec', st', pl', inn', otr', pg', kp', mem', reg', out', spc', rfl, rfl, cm_Iup hI' (by omega)⟩, fun post h => ?_, fun post h => ?_⟩
    · repeat' (first | exact h | refine hTX _ ?_ | refine br_t (by decide) ?_ | refine br_f (by decide) ?_ | refine br_t (by assumption) ?_ | refine br_f (by assumption) ?_ | refine And.intro (by assumption) ?_ | refine nm_r ho ?_ | refine nm_e ?_)
    · repeat' (first | exact h | refine hTY _ ?_ | refine br_t (by decide) ?_ | refine br_f (by decide) ?_ | refine br_t (by assumption) ?_ | refine br_f (by assumption) ?_ | refine And.intro (by assumption) ?_ | refine nm_r ho ?_ | refine nm_e ?_)
  · have hm' : otr = 0 := by
      obtain ⟨-, ⟨rfl, rfl⟩ | ⟨rfl, rfl⟩, -⟩ := hI
      · rfl
      · exact absurd rfl hm
    refine ⟨cm_U oc ec st (pl + 1) inn pg kp mem reg out (upd spc 1 (reg ((w >>> ((5 : Int32) &&& 31)) &&& 7).toNatClampNeg)), cm_V oc ec st (pl + 1) otr pg kp 0 mem reg out (upd spc 1 (reg ((w >>> ((5 : Int32) &&& 31)) &&& 7).toNatClampNeg)), ⟨0, oc, ec, st, pl + 1, inn, otr, pg, kp, mem, reg, out, upd spc 1 (reg ((w >>> ((5 : Int32) &&& 31)) &&& 7).toNatClampNeg), rfl, rfl, cm_Iup hI (by omega)⟩, fun post h => ?_, fun post h => ?_⟩
    · repeat' (first | exact h | refine br_t (by decide) ?_ | refine br_f (by decide) ?_ | refine br_t (by assumption) ?_ | refine br_f (by assumption) ?_ | refine And.intro (by assumption) ?_ | refine nm_r ho ?_ | refine nm_e ?_)
    · repeat' (first | exact h | refine br_t (by decide) ?_ | refine br_f (by decide) ?_ | refine br_t (by assumption) ?_ | refine br_f (by assumption) ?_ | refine And.intro (by assumption) ?_ | refine nm_r ho ?_ | refine nm_e ?_)
theorem cm_o24 {c : Nat} {oc ec st pl inn otr pg kp : Int32} {mem reg out spc : Nat → Int32} (hI : cm_I c oc inn otr pg kp) (w : Int32) (ho : w &&& 31 = 24) : cm_B (c + 1) (fun post => wpX_control post (cm_U oc ec st pl inn pg kp mem reg out spc) w) (fun post => wpY_work post (cm_V oc ec st pl otr pg kp 0 mem reg out spc) w) := by
  have hA : vp_in ((w >>> ((5 : Int32) &&& 31)) &&& 7) 8 := cm_7 _
  have hB : vp_in ((w >>> ((8 : Int32) &&& 31)) &&& 7) 8 := cm_7 _
  have hC : vp_in ((w >>> ((11 : Int32) &&& 31)) &&& 7) 8 := cm_7 _
  by_cases hm : inn = 0
  · have hm' : ¬ otr = 0 := by
      obtain ⟨-, ⟨rfl, rfl⟩ | ⟨rfl, rfl⟩, -⟩ := hI
      · exact absurd hm (by decide)
      · decide
    obtain ⟨u', v', ⟨oc', ec', st', pl', inn', otr', pg', kp', mem', reg', out', spc', rfl, rfl, hI'⟩, hTX, hTY⟩ := cm_trap (ec := ec) (st := st) (pl := pl) (mem := mem) (reg := reg) (out := out) (spc := spc) 0 2 hI
    refine ⟨_, _, ⟨1, oc', ec', st', pl', inn', otr', pg', kp', mem', reg', out', spc', rfl, rfl, cm_Iup hI' (by omega)⟩, fun post h => ?_, fun post h => ?_⟩
    · repeat' (first | exact h | refine hTX _ ?_ | refine br_t (by decide) ?_ | refine br_f (by decide) ?_ | refine br_t (by assumption) ?_ | refine br_f (by assumption) ?_ | refine And.intro (by assumption) ?_ | refine nm_r ho ?_ | refine nm_e ?_)
    · repeat' (first | exact h | refine hTY _ ?_ | refine br_t (by decide) ?_ | refine br_f (by decide) ?_ | refine br_t (by assumption) ?_ | refine br_f (by assumption) ?_ | refine And.intro (by assumption) ?_ | refine nm_r ho ?_ | refine nm_e ?_)
  · have hm' : otr = 0 := by
      obtain ⟨-, ⟨rfl, rfl⟩ | ⟨rfl, rfl⟩, -⟩ := hI
      · rfl
      · exact absurd rfl hm
    have hb := cm_bn hI.2.2.2
    have hb1 := hb.1
    have hb2 := hb.2
    have e24 : spc 2 - 1 + 1 = spc 2 := Int32.sub_add_cancel _ _
    refine ⟨cm_U oc ec st (spc 2) (0) (kp) kp mem reg out spc, cm_V oc ec st (spc 2) (1) (kp) kp 0 mem reg out spc, ⟨0, oc, ec, st, spc 2, 0, 1, kp, kp, mem, reg, out, spc, rfl, rfl, ⟨(cm_Iup hI (Nat.le_succ c)).1, Or.inr ⟨rfl, rfl⟩, hI.2.2.2, hI.2.2.2⟩⟩, fun post h => ?_, fun post h => ?_⟩
    · repeat' (first | exact h | refine br_t (by decide) ?_ | refine br_f (by decide) ?_ | refine br_t (by assumption) ?_ | refine br_f (by assumption) ?_ | refine And.intro (by assumption) ?_ | refine nm_r ho ?_ | refine nm_e ?_)
    · repeat' (first | exact h | (rw [e24]; exact h) | refine br_t (by decide) ?_ | refine br_f (by decide) ?_ | refine br_t (by assumption) ?_ | refine br_f (by assumption) ?_ | refine And.intro (by assumption) ?_ | refine nm_r ho ?_ | refine nm_e ?_)
theorem cm_o25 {c : Nat} {oc ec st pl inn otr pg kp : Int32} {mem reg out spc : Nat → Int32} (hI : cm_I c oc inn otr pg kp) (w : Int32) (ho : w &&& 31 = 25) : cm_B (c + 1) (fun post => wpX_control post (cm_U oc ec st pl inn pg kp mem reg out spc) w) (fun post => wpY_work post (cm_V oc ec st pl otr pg kp 0 mem reg out spc) w) := by
  have hA : vp_in ((w >>> ((5 : Int32) &&& 31)) &&& 7) 8 := cm_7 _
  have hB : vp_in ((w >>> ((8 : Int32) &&& 31)) &&& 7) 8 := cm_7 _
  have hC : vp_in ((w >>> ((11 : Int32) &&& 31)) &&& 7) 8 := cm_7 _
  by_cases hm : inn = 0
  · have hm' : ¬ otr = 0 := by
      obtain ⟨-, ⟨rfl, rfl⟩ | ⟨rfl, rfl⟩, -⟩ := hI
      · exact absurd hm (by decide)
      · decide
    obtain ⟨u', v', ⟨oc', ec', st', pl', inn', otr', pg', kp', mem', reg', out', spc', rfl, rfl, hI'⟩, hTX, hTY⟩ := cm_trap (ec := ec) (st := st) (pl := pl) (mem := mem) (reg := reg) (out := out) (spc := spc) 0 2 hI
    refine ⟨_, _, ⟨1, oc', ec', st', pl', inn', otr', pg', kp', mem', reg', out', spc', rfl, rfl, cm_Iup hI' (by omega)⟩, fun post h => ?_, fun post h => ?_⟩
    · repeat' (first | exact h | refine hTX _ ?_ | refine br_t (by decide) ?_ | refine br_f (by decide) ?_ | refine br_t (by assumption) ?_ | refine br_f (by assumption) ?_ | refine And.intro (by assumption) ?_ | refine nm_r ho ?_ | refine nm_e ?_)
    · repeat' (first | exact h | refine hTY _ ?_ | refine br_t (by decide) ?_ | refine br_f (by decide) ?_ | refine br_t (by assumption) ?_ | refine br_f (by assumption) ?_ | refine And.intro (by assumption) ?_ | refine nm_r ho ?_ | refine nm_e ?_)
  · have hm' : otr = 0 := by
      obtain ⟨-, ⟨rfl, rfl⟩ | ⟨rfl, rfl⟩, -⟩ := hI
      · rfl
      · exact absurd rfl hm
    by_cases n0 : (w >>> ((14 : Int32) &&& 31)) < 0
    · obtain ⟨u', v', ⟨oc', ec', st', pl', inn', otr', pg', kp', mem', reg', out', spc', rfl, rfl, hI'⟩, hTX, hTY⟩ := cm_trap (ec := ec) (st := st) (pl := pl) (mem := mem) (reg := reg) (out := out) (spc := spc) 0 1 hI
      refine ⟨_, _, ⟨1, oc', ec', st', pl', inn', otr', pg', kp', mem', reg', out', spc', rfl, rfl, cm_Iup hI' (by omega)⟩, fun post h => ?_, fun post h => ?_⟩
      · repeat' (first | exact h | refine hTX _ ?_ | refine br_t (by decide) ?_ | refine br_f (by decide) ?_ | refine br_t (by assumption) ?_ | refine br_f (by assumption) ?_ | refine And.intro (by assumption) ?_ | refine nm_r ho ?_ | refine nm_e ?_)
      · repeat' (first | exact h | refine hTY _ ?_ | refine br_t (by decide) ?_ | refine br_f (by decide) ?_ | refine br_t (by assumption) ?_ | refine br_f (by assumption) ?_ | refine And.intro (by assumption) ?_ | refine nm_r ho ?_ | refine nm_e ?_)
    · by_cases n2 : 2 < (w >>> ((14 : Int32) &&& 31))
      · obtain ⟨u', v', ⟨oc', ec', st', pl', inn', otr', pg', kp', mem', reg', out', spc', rfl, rfl, hI'⟩, hTX, hTY⟩ := cm_trap (ec := ec) (st := st) (pl := pl) (mem := mem) (reg := reg) (out := out) (spc := spc) 0 1 hI
        refine ⟨_, _, ⟨1, oc', ec', st', pl', inn', otr', pg', kp', mem', reg', out', spc', rfl, rfl, cm_Iup hI' (by omega)⟩, fun post h => ?_, fun post h => ?_⟩
        · repeat' (first | exact h | refine hTX _ ?_ | refine br_t (by decide) ?_ | refine br_f (by decide) ?_ | refine br_t (by assumption) ?_ | refine br_f (by assumption) ?_ | refine And.intro (by assumption) ?_ | refine nm_r ho ?_ | refine nm_e ?_)
        · repeat' (first | exact h | refine hTY _ ?_ | refine br_t (by decide) ?_ | refine br_f (by decide) ?_ | refine br_t (by assumption) ?_ | refine br_f (by assumption) ?_ | refine And.intro (by assumption) ?_ | refine nm_r ho ?_ | refine nm_e ?_)
      · rcases cm_012 n0 n2 with q | q | q
        · have q5 : vp_in (2 + (w >>> ((14 : Int32) &&& 31))) 5 := by rw [q]; exact vp_in_iff.mpr (by decide)
          have qs : spc (2 + (w >>> ((14 : Int32) &&& 31))).toNatClampNeg = spc 2 := by rw [q]; rfl
          refine ⟨cm_U oc ec st (pl + 1) inn pg kp mem (upd reg ((w >>> ((5 : Int32) &&& 31)) &&& 7).toNatClampNeg (spc 2)) out spc, cm_V oc ec st (pl + 1) otr pg kp 0 mem (upd reg ((w >>> ((5 : Int32) &&& 31)) &&& 7).toNatClampNeg (spc 2)) out spc, ⟨0, oc, ec, st, pl + 1, inn, otr, pg, kp, mem, upd reg ((w >>> ((5 : Int32) &&& 31)) &&& 7).toNatClampNeg (spc 2), out, spc, rfl, rfl, cm_Iup hI (by omega)⟩, fun post h => ?_, fun post h => ?_⟩
          · repeat' (first | exact h | refine br_t (by decide) ?_ | refine br_f (by decide) ?_ | refine br_t (by assumption) ?_ | refine br_f (by assumption) ?_ | refine And.intro (by assumption) ?_ | refine nm_r ho ?_ | refine nm_e ?_)
          · repeat' (first | exact h | (rw [qs]; exact h) | refine br_t (by decide) ?_ | refine br_f (by decide) ?_ | refine br_t (by assumption) ?_ | refine br_f (by assumption) ?_ | refine And.intro (by assumption) ?_ | refine nm_r ho ?_ | refine nm_e ?_)
        · have q5 : vp_in (2 + (w >>> ((14 : Int32) &&& 31))) 5 := by rw [q]; exact vp_in_iff.mpr (by decide)
          have q0 : ¬ (w >>> ((14 : Int32) &&& 31)) = 0 := by rw [q]; decide
          have qs : spc (2 + (w >>> ((14 : Int32) &&& 31))).toNatClampNeg = spc 3 := by rw [q]; rfl
          refine ⟨cm_U oc ec st (pl + 1) inn pg kp mem (upd reg ((w >>> ((5 : Int32) &&& 31)) &&& 7).toNatClampNeg (spc 3)) out spc, cm_V oc ec st (pl + 1) otr pg kp 0 mem (upd reg ((w >>> ((5 : Int32) &&& 31)) &&& 7).toNatClampNeg (spc 3)) out spc, ⟨0, oc, ec, st, pl + 1, inn, otr, pg, kp, mem, upd reg ((w >>> ((5 : Int32) &&& 31)) &&& 7).toNatClampNeg (spc 3), out, spc, rfl, rfl, cm_Iup hI (by omega)⟩, fun post h => ?_, fun post h => ?_⟩
          · repeat' (first | exact h | refine br_t (by decide) ?_ | refine br_f (by decide) ?_ | refine br_t (by assumption) ?_ | refine br_f (by assumption) ?_ | refine And.intro (by assumption) ?_ | refine nm_r ho ?_ | refine nm_e ?_)
          · repeat' (first | exact h | (rw [qs]; exact h) | refine br_t (by decide) ?_ | refine br_f (by decide) ?_ | refine br_t (by assumption) ?_ | refine br_f (by assumption) ?_ | refine And.intro (by assumption) ?_ | refine nm_r ho ?_ | refine nm_e ?_)
        · have q5 : vp_in (2 + (w >>> ((14 : Int32) &&& 31))) 5 := by rw [q]; exact vp_in_iff.mpr (by decide)
          have q0 : ¬ (w >>> ((14 : Int32) &&& 31)) = 0 := by rw [q]; decide
          have q1 : ¬ (w >>> ((14 : Int32) &&& 31)) = 1 := by rw [q]; decide
          have qs : spc (2 + (w >>> ((14 : Int32) &&& 31))).toNatClampNeg = spc 4 := by rw [q]; rfl
          refine ⟨cm_U oc ec st (pl + 1) inn pg kp mem (upd reg ((w >>> ((5 : Int32) &&& 31)) &&& 7).toNatClampNeg (spc 4)) out spc, cm_V oc ec st (pl + 1) otr pg kp 0 mem (upd reg ((w >>> ((5 : Int32) &&& 31)) &&& 7).toNatClampNeg (spc 4)) out spc, ⟨0, oc, ec, st, pl + 1, inn, otr, pg, kp, mem, upd reg ((w >>> ((5 : Int32) &&& 31)) &&& 7).toNatClampNeg (spc 4), out, spc, rfl, rfl, cm_Iup hI (by omega)⟩, fun post h => ?_, fun post h => ?_⟩
          · repeat' (first | exact h | refine br_t (by decide) ?_ | refine br_f (by decide) ?_ | refine br_t (by assumption) ?_ | refine br_f (by assumption) ?_ | refine And.intro (by assumption) ?_ | refine nm_r ho ?_ | refine nm_e ?_)
          · repeat' (first | exact h | (rw [qs]; exact h) | refine br_t (by decide) ?_ | refine br_f (by decide) ?_ | refine br_t (by assumption) ?_ | refine br_f (by assumption) ?_ | refine And.intro (by assumption) ?_ | refine nm_r ho ?_ | refine nm_e ?_)
theorem cm_o26 {c : Nat} {oc ec st pl inn otr pg kp : Int32} {mem reg out spc : Nat → Int32} (hI : cm_I c oc inn otr pg kp) (w : Int32) (ho : w &&& 31 = 26) (hc : c < 2 ^ 30) : cm_B (c + 1) (fun post => wpX_print post (cm_U oc ec st pl inn pg kp mem reg out spc) w) (fun post => wpY_work post (cm_V oc ec st pl otr pg kp 0 mem reg out spc) w) := by
  have hA : vp_in ((w >>> ((5 : Int32) &&& 31)) &&& 7) 8 := cm_7 _
  have hB : vp_in ((w >>> ((8 : Int32) &&& 31)) &&& 7) 8 := cm_7 _
  have hC : vp_in ((w >>> ((11 : Int32) &&& 31)) &&& 7) 8 := cm_7 _
  obtain ⟨⟨n, hn, e⟩, hm⟩ := hI
  have p0 : ¬ oc < 0 := by rw [e]; exact nI_pos (by omega)
  have p1 : oc + 1 = nI (n + 1) := by rw [e]; exact nI_1 n
  by_cases p2 : 20 ≤ oc
  · refine ⟨cm_U (oc + 1) ec st (pl + 1) inn pg kp mem reg out spc, cm_V (oc + 1) ec st (pl + 1) otr pg kp 0 mem reg out spc, ⟨0, oc + 1, ec, st, pl + 1, inn, otr, pg, kp, mem, reg, out, spc, rfl, rfl, ⟨⟨n + 1, by omega, p1⟩, hm⟩⟩, fun post h => ?_, fun post h => ?_⟩
    · repeat' (first | exact h | refine br_t (by decide) ?_ | refine br_f (by decide) ?_ | refine br_t (by assumption) ?_ | refine br_f (by assumption) ?_ | refine And.intro (by assumption) ?_ | refine nm_r ho ?_ | refine nm_e ?_)
    · repeat' (first | exact h | refine br_t (by decide) ?_ | refine br_f (by decide) ?_ | refine br_t (by assumption) ?_ | refine br_f (by assumption) ?_ | refine And.intro (by assumption) ?_ | refine nm_r ho ?_ | refine nm_e ?_)
  · have p3 : vp_in oc 20 := by
      rw [e]
      rw [e, show (20 : Int32) = nI 20 from rfl, nI_leI (by decide) (by omega)] at p2
      exact vp_in_nI (by omega) (by decide)
    refine ⟨cm_U (oc + 1) ec st (pl + 1) inn pg kp mem reg (upd out oc.toNatClampNeg (reg ((w >>> ((5 : Int32) &&& 31)) &&& 7).toNatClampNeg)) spc, cm_V (oc + 1) ec st (pl + 1) otr pg kp 0 mem reg (upd out oc.toNatClampNeg (reg ((w >>> ((5 : Int32) &&& 31)) &&& 7).toNatClampNeg)) spc, ⟨0, oc + 1, ec, st, pl + 1, inn, otr, pg, kp, mem, reg, upd out oc.toNatClampNeg (reg ((w >>> ((5 : Int32) &&& 31)) &&& 7).toNatClampNeg), spc, rfl, rfl, ⟨⟨n + 1, by omega, p1⟩, hm⟩⟩, fun post h => ?_, fun post h => ?_⟩
    · repeat' (first | exact h | refine br_t (by decide) ?_ | refine br_f (by decide) ?_ | refine br_t (by assumption) ?_ | refine br_f (by assumption) ?_ | refine And.intro (by assumption) ?_ | refine nm_r ho ?_ | refine nm_e ?_)
    · repeat' (first | exact h | refine br_t (by decide) ?_ | refine br_f (by decide) ?_ | refine br_t (by assumption) ?_ | refine br_f (by assumption) ?_ | refine And.intro (by assumption) ?_ | refine nm_r ho ?_ | refine nm_e ?_)
end
section
/-! ===== one step (written by wip/whole/gen2.py) ===== -/
theorem cm_s0 {c : Nat} {oc ec st pl inn otr pg kp : Int32} {mem reg out spc : Nat → Int32} {t r : Int32} (hI : cm_I c oc inn otr pg kp) (hc : c < 2 ^ 30) (hr : ∃ j : Nat, j < 128 ∧ r = nI j) (hX : ∀ post : Int32 → Prop, post r → wpX_translate post (cm_U oc (ec + 1) st pl inn pg kp mem reg out spc) pl 0) (hY : ∀ post : Int32 → Prop, post r → wpY_translate post (cm_V oc (ec + 1) st pl otr pg kp 0 mem reg out spc) pl 0) (ho : mem r.toNatClampNeg &&& 31 = 0) : cm_B (c + 1) (fun post => wpX_step post (cm_U oc ec st pl inn pg kp mem reg out spc)) (fun post => wpY_step post (cm_V oc ec st pl otr pg kp t mem reg out spc)) := by
  obtain ⟨r1, r2, r3, r4, r5, r6⟩ := cm_rf hr
  refine ⟨cm_U oc (ec + 1) (1) pl inn pg kp mem reg out spc, cm_V oc (ec + 1) (1) pl otr pg kp 0 mem reg out spc, ⟨0, oc, ec + 1, 1, pl, inn, otr, pg, kp, mem, reg, out, spc, rfl, rfl, cm_Iup hI (by omega)⟩, fun post h => ?_, fun post h => ?_⟩
  · repeat' (first | exact h | refine hX _ ?_ | refine br_t (by decide) ?_ | refine br_f (by decide) ?_ | refine br_t (by assumption) ?_ | refine br_f (by assumption) ?_ | refine And.intro (by assumption) ?_ | refine nm_r ho ?_ | refine nm_e ?_)
  · have ho' : mem (r &&& 127).toNatClampNeg &&& 31 = 0 := by rw [r5]; exact ho
    repeat' (first | exact h | (unfold wpY_reach; refine hY _ ?_) | refine nm_r ho' ?_ | refine br_t (by decide) ?_ | refine br_f (by decide) ?_ | refine br_t (by assumption) ?_ | refine br_f (by assumption) ?_ | refine And.intro (by assumption) ?_ | refine nm_r ho ?_ | refine nm_e ?_)
theorem cm_s1 {c : Nat} {oc ec st pl inn otr pg kp : Int32} {mem reg out spc : Nat → Int32} {t r : Int32} (hI : cm_I c oc inn otr pg kp) (hc : c < 2 ^ 30) (hr : ∃ j : Nat, j < 128 ∧ r = nI j) (hX : ∀ post : Int32 → Prop, post r → wpX_translate post (cm_U oc (ec + 1) st pl inn pg kp mem reg out spc) pl 0) (hY : ∀ post : Int32 → Prop, post r → wpY_translate post (cm_V oc (ec + 1) st pl otr pg kp 0 mem reg out spc) pl 0) (ho : mem r.toNatClampNeg &&& 31 = 1) : cm_B (c + 1) (fun post => wpX_step post (cm_U oc ec st pl inn pg kp mem reg out spc)) (fun post => wpY_step post (cm_V oc ec st pl otr pg kp t mem reg out spc)) := by
  obtain ⟨r1, r2, r3, r4, r5, r6⟩ := cm_rf hr
  obtain ⟨u', v', ⟨t', oc', ec', st', pl', inn', otr', pg', kp', mem', reg', out', spc', rfl, rfl, hI'⟩, hOX, hOY⟩ := cm_o1 (ec := ec + 1) (st := st) (pl := pl) (mem := mem) (reg := reg) (out := out) (spc := spc) hI (mem r.toNatClampNeg) ho
  refine ⟨_, _, ⟨t', oc', ec', st', pl', inn', otr', pg', kp', mem', reg', out', spc', rfl, rfl, hI'⟩, fun post h => ?_, fun post h => ?_⟩
  · repeat' (first | exact h | refine hX _ ?_ | refine hOX _ ?_ | refine br_t (by decide) ?_ | refine br_f (by decide) ?_ | refine br_t (by assumption) ?_ | refine br_f (by assumption) ?_ | refine And.intro (by assumption) ?_ | refine nm_r ho ?_ | refine nm_e ?_)
  · repeat' (first | exact h | (unfold wpY_reach; refine hY _ ?_) | (rw [r5]; refine hOY _ ?_) | refine br_t (by decide) ?_ | refine br_f (by decide) ?_ | refine br_t (by assumption) ?_ | refine br_f (by assumption) ?_ | refine And.intro (by assumption) ?_ | refine nm_r ho ?_ | refine nm_e ?_)
theorem cm_s2 {c : Nat} {oc ec st pl inn otr pg kp : Int32} {mem reg out spc : Nat → Int32} {t r : Int32} (hI : cm_I c oc inn otr pg kp) (hc : c < 2 ^ 30) (hr : ∃ j : Nat, j < 128 ∧ r = nI j) (hX : ∀ post : Int32 → Prop, post r → wpX_translate post (cm_U oc (ec + 1) st pl inn pg kp mem reg out spc) pl 0) (hY : ∀ post : Int32 → Prop, post r → wpY_translate post (cm_V oc (ec + 1) st pl otr pg kp 0 mem reg out spc) pl 0) (ho : mem r.toNatClampNeg &&& 31 = 2) : cm_B (c + 1) (fun post => wpX_step post (cm_U oc ec st pl inn pg kp mem reg out spc)) (fun post => wpY_step post (cm_V oc ec st pl otr pg kp t mem reg out spc)) := by
  obtain ⟨r1, r2, r3, r4, r5, r6⟩ := cm_rf hr
  obtain ⟨u', v', ⟨t', oc', ec', st', pl', inn', otr', pg', kp', mem', reg', out', spc', rfl, rfl, hI'⟩, hOX, hOY⟩ := cm_o2 (ec := ec + 1) (st := st) (pl := pl) (mem := mem) (reg := reg) (out := out) (spc := spc) hI (mem r.toNatClampNeg) ho
  refine ⟨_, _, ⟨t', oc', ec', st', pl', inn', otr', pg', kp', mem', reg', out', spc', rfl, rfl, hI'⟩, fun post h => ?_, fun post h => ?_⟩
  · repeat' (first | exact h | refine hX _ ?_ | refine hOX _ ?_ | refine br_t (by decide) ?_ | refine br_f (by decide) ?_ | refine br_t (by assumption) ?_ | refine br_f (by assumption) ?_ | refine And.intro (by assumption) ?_ | refine nm_r ho ?_ | refine nm_e ?_)
  · repeat' (first | exact h | (unfold wpY_reach; refine hY _ ?_) | (rw [r5]; refine hOY _ ?_) | refine br_t (by decide) ?_ | refine br_f (by decide) ?_ | refine br_t (by assumption) ?_ | refine br_f (by assumption) ?_ | refine And.intro (by assumption) ?_ | refine nm_r ho ?_ | refine nm_e ?_)
theorem cm_s3 {c : Nat} {oc ec st pl inn otr pg kp : Int32} {mem reg out spc : Nat → Int32} {t r : Int32} (hI : cm_I c oc inn otr pg kp) (hc : c < 2 ^ 30) (hr : ∃ j : Nat, j < 128 ∧ r = nI j) (hX : ∀ post : Int32 → Prop, post r → wpX_translate post (cm_U oc (ec + 1) st pl inn pg kp mem reg out spc) pl 0) (hY : ∀ post : Int32 → Prop, post r → wpY_translate post (cm_V oc (ec + 1) st pl otr pg kp 0 mem reg out spc) pl 0) (ho : mem r.toNatClampNeg &&& 31 = 3) : cm_B (c + 1) (fun post => wpX_step post (cm_U oc ec st pl inn pg kp mem reg out spc)) (fun post => wpY_step post (cm_V oc ec st pl otr pg kp t mem reg out spc)) := by
  obtain ⟨r1, r2, r3, r4, r5, r6⟩ := cm_rf hr
  obtain ⟨u', v', ⟨t', oc', ec', st', pl', inn', otr', pg', kp', mem', reg', out', spc', rfl, rfl, hI'⟩, hOX, hOY⟩ := cm_o3 (ec := ec + 1) (st := st) (pl := pl) (mem := mem) (reg := reg) (out := out) (spc := spc) hI (mem r.toNatClampNeg) ho
  refine ⟨_, _, ⟨t', oc', ec', st', pl', inn', otr', pg', kp', mem', reg', out', spc', rfl, rfl, hI'⟩, fun post h => ?_, fun post h => ?_⟩
  · repeat' (first | exact h | refine hX _ ?_ | refine hOX _ ?_ | refine br_t (by decide) ?_ | refine br_f (by decide) ?_ | refine br_t (by assumption) ?_ | refine br_f (by assumption) ?_ | refine And.intro (by assumption) ?_ | refine nm_r ho ?_ | refine nm_e ?_)
  · repeat' (first | exact h | (unfold wpY_reach; refine hY _ ?_) | (rw [r5]; refine hOY _ ?_) | refine br_t (by decide) ?_ | refine br_f (by decide) ?_ | refine br_t (by assumption) ?_ | refine br_f (by assumption) ?_ | refine And.intro (by assumption) ?_ | refine nm_r ho ?_ | refine nm_e ?_)
theorem cm_s4 {c : Nat} {oc ec st pl inn otr pg kp : Int32} {mem reg out spc : Nat → Int32} {t r : Int32} (hI : cm_I c oc inn otr pg kp) (hc : c < 2 ^ 30) (hr : ∃ j : Nat, j < 128 ∧ r = nI j) (hX : ∀ post : Int32 → Prop, post r → wpX_translate post (cm_U oc (ec + 1) st pl inn pg kp mem reg out spc) pl 0) (hY : ∀ post : Int32 → Prop, post r → wpY_translate post (cm_V oc (ec + 1) st pl otr pg kp 0 mem reg out spc) pl 0) (ho : mem r.toNatClampNeg &&& 31 = 4) : cm_B (c + 1) (fun post => wpX_step post (cm_U oc ec st pl inn pg kp mem reg out spc)) (fun post => wpY_step post (cm_V oc ec st pl otr pg kp t mem reg out spc)) := by
  obtain ⟨r1, r2, r3, r4, r5, r6⟩ := cm_rf hr
  obtain ⟨u', v', ⟨t', oc', ec', st', pl', inn', otr', pg', kp', mem', reg', out', spc', rfl, rfl, hI'⟩, hOX, hOY⟩ := cm_o4 (ec := ec + 1) (st := st) (pl := pl) (mem := mem) (reg := reg) (out := out) (spc := spc) hI (mem r.toNatClampNeg) ho
  refine ⟨_, _, ⟨t', oc', ec', st', pl', inn', otr', pg', kp', mem', reg', out', spc', rfl, rfl, hI'⟩, fun post h => ?_, fun post h => ?_⟩
  · repeat' (first | exact h | refine hX _ ?_ | refine hOX _ ?_ | refine br_t (by decide) ?_ | refine br_f (by decide) ?_ | refine br_t (by assumption) ?_ | refine br_f (by assumption) ?_ | refine And.intro (by assumption) ?_ | refine nm_r ho ?_ | refine nm_e ?_)
  · repeat' (first | exact h | (unfold wpY_reach; refine hY _ ?_) | (rw [r5]; refine hOY _ ?_) | refine br_t (by decide) ?_ | refine br_f (by decide) ?_ | refine br_t (by assumption) ?_ | refine br_f (by assumption) ?_ | refine And.intro (by assumption) ?_ | refine nm_r ho ?_ | refine nm_e ?_)
theorem cm_s5 {c : Nat} {oc ec st pl inn otr pg kp : Int32} {mem reg out spc : Nat → Int32} {t r : Int32} (hI : cm_I c oc inn otr pg kp) (hc : c < 2 ^ 30) (hr : ∃ j : Nat, j < 128 ∧ r = nI j) (hX : ∀ post : Int32 → Prop, post r → wpX_translate post (cm_U oc (ec + 1) st pl inn pg kp mem reg out spc) pl 0) (hY : ∀ post : Int32 → Prop, post r → wpY_translate post (cm_V oc (ec + 1) st pl otr pg kp 0 mem reg out spc) pl 0) (ho : mem r.toNatClampNeg &&& 31 = 5) : cm_B (c + 1) (fun post => wpX_step post (cm_U oc ec st pl inn pg kp mem reg out spc)) (fun post => wpY_step post (cm_V oc ec st pl otr pg kp t mem reg out spc)) := by
  obtain ⟨r1, r2, r3, r4, r5, r6⟩ := cm_rf hr
  obtain ⟨u', v', ⟨t', oc', ec', st', pl', inn', otr', pg', kp', mem', reg', out', spc', rfl, rfl, hI'⟩, hOX, hOY⟩ := cm_o5 (ec := ec + 1) (st := st) (pl := pl) (mem := mem) (reg := reg) (out := out) (spc := spc) hI (mem r.toNatClampNeg) ho
  refine ⟨_, _, ⟨t', oc', ec', st', pl', inn', otr', pg', kp', mem', reg', out', spc', rfl, rfl, hI'⟩, fun post h => ?_, fun post h => ?_⟩
  · repeat' (first | exact h | refine hX _ ?_ | refine hOX _ ?_ | refine br_t (by decide) ?_ | refine br_f (by decide) ?_ | refine br_t (by assumption) ?_ | refine br_f (by assumption) ?_ | refine And.intro (by assumption) ?_ | refine nm_r ho ?_ | refine nm_e ?_)
  · repeat' (first | exact h | (unfold wpY_reach; refine hY _ ?_) | (rw [r5]; refine hOY _ ?_) | refine br_t (by decide) ?_ | refine br_f (by decide) ?_ | refine br_t (by assumption) ?_ | refine br_f (by assumption) ?_ | refine And.intro (by assumption) ?_ | refine nm_r ho ?_ | refine nm_e ?_)
theorem cm_s6 {c : Nat} {oc ec st pl inn otr pg kp : Int32} {mem reg out spc : Nat → Int32} {t r : Int32} (hI : cm_I c oc inn otr pg kp) (hc : c < 2 ^ 30) (hr : ∃ j : Nat, j < 128 ∧ r = nI j) (hX : ∀ post : Int32 → Prop, post r → wpX_translate post (cm_U oc (ec + 1) st pl inn pg kp mem reg out spc) pl 0) (hY : ∀ post : Int32 → Prop, post r → wpY_translate post (cm_V oc (ec + 1) st pl otr pg kp 0 mem reg out spc) pl 0) (ho : mem r.toNatClampNeg &&& 31 = 6) : cm_B (c + 1) (fun post => wpX_step post (cm_U oc ec st pl inn pg kp mem reg out spc)) (fun post => wpY_step post (cm_V oc ec st pl otr pg kp t mem reg out spc)) := by
  obtain ⟨r1, r2, r3, r4, r5, r6⟩ := cm_rf hr
  obtain ⟨u', v', ⟨t', oc', ec', st', pl', inn', otr', pg', kp', mem', reg', out', spc', rfl, rfl, hI'⟩, hOX, hOY⟩ := cm_o6 (ec := ec + 1) (st := st) (pl := pl) (mem := mem) (reg := reg) (out := out) (spc := spc) hI (mem r.toNatClampNeg) ho
  refine ⟨_, _, ⟨t', oc', ec', st', pl', inn', otr', pg', kp', mem', reg', out', spc', rfl, rfl, hI'⟩, fun post h => ?_, fun post h => ?_⟩
  · repeat' (first | exact h | refine hX _ ?_ | refine hOX _ ?_ | refine br_t (by decide) ?_ | refine br_f (by decide) ?_ | refine br_t (by assumption) ?_ | refine br_f (by assumption) ?_ | refine And.intro (by assumption) ?_ | refine nm_r ho ?_ | refine nm_e ?_)
  · repeat' (first | exact h | (unfold wpY_reach; refine hY _ ?_) | (rw [r5]; refine hOY _ ?_) | refine br_t (by decide) ?_ | refine br_f (by decide) ?_ | refine br_t (by assumption) ?_ | refine br_f (by assumption) ?_ | refine And.intro (by assumption) ?_ | refine nm_r ho ?_ | refine nm_e ?_)
theorem cm_s7 {c : Nat} {oc ec st pl inn otr pg kp : Int32} {mem reg out spc : Nat → Int32} {t r : Int32} (hI : cm_I c oc inn otr pg kp) (hc : c < 2 ^ 30) (hr : ∃ j : Nat, j < 128 ∧ r = nI j) (hX : ∀ post : Int32 → Prop, post r → wpX_translate post (cm_U oc (ec + 1) st pl inn pg kp mem reg out spc) pl 0) (hY : ∀ post : Int32 → Prop, post r → wpY_translate post (cm_V oc (ec + 1) st pl otr pg kp 0 mem reg out spc) pl 0) (ho : mem r.toNatClampNeg &&& 31 = 7) : cm_B (c + 1) (fun post => wpX_step post (cm_U oc ec st pl inn pg kp mem reg out spc)) (fun post => wpY_step post (cm_V oc ec st pl otr pg kp t mem reg out spc)) := by
  obtain ⟨r1, r2, r3, r4, r5, r6⟩ := cm_rf hr
  obtain ⟨u', v', ⟨t', oc', ec', st', pl', inn', otr', pg', kp', mem', reg', out', spc', rfl, rfl, hI'⟩, hOX, hOY⟩ := cm_o7 (ec := ec + 1) (st := st) (pl := pl) (mem := mem) (reg := reg) (out := out) (spc := spc) hI (mem r.toNatClampNeg) ho
  refine ⟨_, _, ⟨t', oc', ec', st', pl', inn', otr', pg', kp', mem', reg', out', spc', rfl, rfl, hI'⟩, fun post h => ?_, fun post h => ?_⟩
  · repeat' (first | exact h | refine hX _ ?_ | refine hOX _ ?_ | refine br_t (by decide) ?_ | refine br_f (by decide) ?_ | refine br_t (by assumption) ?_ | refine br_f (by assumption) ?_ | refine And.intro (by assumption) ?_ | refine nm_r ho ?_ | refine nm_e ?_)
  · repeat' (first | exact h | (unfold wpY_reach; refine hY _ ?_) | (rw [r5]; refine hOY _ ?_) | refine br_t (by decide) ?_ | refine br_f (by decide) ?_ | refine br_t (by assumption) ?_ | refine br_f (by assumption) ?_ | refine And.intro (by assumption) ?_ | refine nm_r ho ?_ | refine nm_e ?_)
theorem cm_s8 {c : Nat} {oc ec st pl inn otr pg kp : Int32} {mem reg out spc : Nat → Int32} {t r : Int32} (hI : cm_I c oc inn otr pg kp) (hc : c < 2 ^ 30) (hr : ∃ j : Nat, j < 128 ∧ r = nI j) (hX : ∀ post : Int32 → Prop, post r → wpX_translate post (cm_U oc (ec + 1) st pl inn pg kp mem reg out spc) pl 0) (hY : ∀ post : Int32 → Prop, post r → wpY_translate post (cm_V oc (ec + 1) st pl otr pg kp 0 mem reg out spc) pl 0) (ho : mem r.toNatClampNeg &&& 31 = 8) : cm_B (c + 1) (fun post => wpX_step post (cm_U oc ec st pl inn pg kp mem reg out spc)) (fun post => wpY_step post (cm_V oc ec st pl otr pg kp t mem reg out spc)) := by
  obtain ⟨r1, r2, r3, r4, r5, r6⟩ := cm_rf hr
  obtain ⟨u', v', ⟨t', oc', ec', st', pl', inn', otr', pg', kp', mem', reg', out', spc', rfl, rfl, hI'⟩, hOX, hOY⟩ := cm_o8 (ec := ec + 1) (st := st) (pl := pl) (mem := mem) (reg := reg) (out := out) (spc := spc) hI (mem r.toNatClampNeg) ho
  refine ⟨_, _, ⟨t', oc', ec', st', pl', inn', otr', pg', kp', mem', reg', out', spc', rfl, rfl, hI'⟩, fun post h => ?_, fun post h => ?_⟩
  · repeat' (first | exact h | refine hX _ ?_ | refine hOX _ ?_ | refine br_t (by decide) ?_ | refine br_f (by decide) ?_ | refine br_t (by assumption) ?_ | refine br_f (by assumption) ?_ | refine And.intro (by assumption) ?_ | refine nm_r ho ?_ | refine nm_e ?_)
  · repeat' (first | exact h | (unfold wpY_reach; refine hY _ ?_) | (rw [r5]; refine hOY _ ?_) | refine br_t (by decide) ?_ | refine br_f (by decide) ?_ | refine br_t (by assumption) ?_ | refine br_f (by assumption) ?_ | refine And.intro (by assumption) ?_ | refine nm_r ho ?_ | refine nm_e ?_)
theorem cm_s9 {c : Nat} {oc ec st pl inn otr pg kp : Int32} {mem reg out spc : Nat → Int32} {t r : Int32} (hI : cm_I c oc inn otr pg kp) (hc : c < 2 ^ 30) (hr : ∃ j : Nat, j < 128 ∧ r = nI j) (hX : ∀ post : Int32 → Prop, post r → wpX_translate post (cm_U oc (ec + 1) st pl inn pg kp mem reg out spc) pl 0) (hY : ∀ post : Int32 → Prop, post r → wpY_translate post (cm_V oc (ec + 1) st pl otr pg kp 0 mem reg out spc) pl 0) (ho : mem r.toNatClampNeg &&& 31 = 9) : cm_B (c + 1) (fun post => wpX_step post (cm_U oc ec st pl inn pg kp mem reg out spc)) (fun post => wpY_step post (cm_V oc ec st pl otr pg kp t mem reg out spc)) := by
  obtain ⟨r1, r2, r3, r4, r5, r6⟩ := cm_rf hr
  obtain ⟨u', v', ⟨t', oc', ec', st', pl', inn', otr', pg', kp', mem', reg', out', spc', rfl, rfl, hI'⟩, hOX, hOY⟩ := cm_o9 (ec := ec + 1) (st := st) (pl := pl) (mem := mem) (reg := reg) (out := out) (spc := spc) hI (mem r.toNatClampNeg) ho
  refine ⟨_, _, ⟨t', oc', ec', st', pl', inn', otr', pg', kp', mem', reg', out', spc', rfl, rfl, hI'⟩, fun post h => ?_, fun post h => ?_⟩
  · repeat' (first | exact h | refine hX _ ?_ | refine hOX _ ?_ | refine br_t (by decide) ?_ | refine br_f (by decide) ?_ | refine br_t (by assumption) ?_ | refine br_f (by assumption) ?_ | refine And.intro (by assumption) ?_ | refine nm_r ho ?_ | refine nm_e ?_)
  · repeat' (first | exact h | (unfold wpY_reach; refine hY _ ?_) | (rw [r5]; refine hOY _ ?_) | refine br_t (by decide) ?_ | refine br_f (by decide) ?_ | refine br_t (by assumption) ?_ | refine br_f (by assumption) ?_ | refine And.intro (by assumption) ?_ | refine nm_r ho ?_ | refine nm_e ?_)
theorem cm_s10 {c : Nat} {oc ec st pl inn otr pg kp : Int32} {mem reg out spc : Nat → Int32} {t r : Int32} (hI : cm_I c oc inn otr pg kp) (hc : c < 2 ^ 30) (hr : ∃ j : Nat, j < 128 ∧ r = nI j) (hX : ∀ post : Int32 → Prop, post r → wpX_translate post (cm_U oc (ec + 1) st pl inn pg kp mem reg out spc) pl 0) (hY : ∀ post : Int32 → Prop, post r → wpY_translate post (cm_V oc (ec + 1) st pl otr pg kp 0 mem reg out spc) pl 0) (ho : mem r.toNatClampNeg &&& 31 = 10) : cm_B (c + 1) (fun post => wpX_step post (cm_U oc ec st pl inn pg kp mem reg out spc)) (fun post => wpY_step post (cm_V oc ec st pl otr pg kp t mem reg out spc)) := by
  obtain ⟨r1, r2, r3, r4, r5, r6⟩ := cm_rf hr
  obtain ⟨u', v', ⟨t', oc', ec', st', pl', inn', otr', pg', kp', mem', reg', out', spc', rfl, rfl, hI'⟩, hOX, hOY⟩ := cm_o10 (ec := ec + 1) (st := st) (pl := pl) (mem := mem) (reg := reg) (out := out) (spc := spc) hI (mem r.toNatClampNeg) ho
  refine ⟨_, _, ⟨t', oc', ec', st', pl', inn', otr', pg', kp', mem', reg', out', spc', rfl, rfl, hI'⟩, fun post h => ?_, fun post h => ?_⟩
  · repeat' (first | exact h | refine hX _ ?_ | refine hOX _ ?_ | refine br_t (by decide) ?_ | refine br_f (by decide) ?_ | refine br_t (by assumption) ?_ | refine br_f (by assumption) ?_ | refine And.intro (by assumption) ?_ | refine nm_r ho ?_ | refine nm_e ?_)
  · repeat' (first | exact h | (unfold wpY_reach; refine hY _ ?_) | (rw [r5]; refine hOY _ ?_) | refine br_t (by decide) ?_ | refine br_f (by decide) ?_ | refine br_t (by assumption) ?_ | refine br_f (by assumption) ?_ | refine And.intro (by assumption) ?_ | refine nm_r ho ?_ | refine nm_e ?_)
theorem cm_s11 {c : Nat} {oc ec st pl inn otr pg kp : Int32} {mem reg out spc : Nat → Int32} {t r : Int32} (hI : cm_I c oc inn otr pg kp) (hc : c < 2 ^ 30) (hr : ∃ j : Nat, j < 128 ∧ r = nI j) (hX : ∀ post : Int32 → Prop, post r → wpX_translate post (cm_U oc (ec + 1) st pl inn pg kp mem reg out spc) pl 0) (hY : ∀ post : Int32 → Prop, post r → wpY_translate post (cm_V oc (ec + 1) st pl otr pg kp 0 mem reg out spc) pl 0) (ho : mem r.toNatClampNeg &&& 31 = 11) : cm_B (c + 1) (fun post => wpX_step post (cm_U oc ec st pl inn pg kp mem reg out spc)) (fun post => wpY_step post (cm_V oc ec st pl otr pg kp t mem reg out spc)) := by
  obtain ⟨r1, r2, r3, r4, r5, r6⟩ := cm_rf hr
  obtain ⟨u', v', ⟨t', oc', ec', st', pl', inn', otr', pg', kp', mem', reg', out', spc', rfl, rfl, hI'⟩, hOX, hOY⟩ := cm_o11 (ec := ec + 1) (st := st) (pl := pl) (mem := mem) (reg := reg) (out := out) (spc := spc) hI (mem r.toNatClampNeg) ho
  refine ⟨_, _, ⟨t', oc', ec', st', pl', inn', otr', pg', kp', mem', reg', out', spc', rfl, rfl, hI'⟩, fun post h => ?_, fun post h => ?_⟩
  · repeat' (first | exact h | refine hX _ ?_ | refine hOX _ ?_ | refine br_t (by decide) ?_ | refine br_f (by decide) ?_ | refine br_t (by assumption) ?_ | refine br_f (by assumption) ?_ | refine And.intro (by assumption) ?_ | refine nm_r ho ?_ | refine nm_e ?_)
  · repeat' (first | exact h | (unfold wpY_reach; refine hY _ ?_) | (rw [r5]; refine hOY _ ?_) | refine br_t (by decide) ?_ | refine br_f (by decide) ?_ | refine br_t (by assumption) ?_ | refine br_f (by assumption) ?_ | refine And.intro (by assumption) ?_ | refine nm_r ho ?_ | refine nm_e ?_)
theorem cm_s12 {c : Nat} {oc ec st pl inn otr pg kp : Int32} {mem reg out spc : Nat → Int32} {t r : Int32} (hI : cm_I c oc inn otr pg kp) (hc : c < 2 ^ 30) (hr : ∃ j : Nat, j < 128 ∧ r = nI j) (hX : ∀ post : Int32 → Prop, post r → wpX_translate post (cm_U oc (ec + 1) st pl inn pg kp mem reg out spc) pl 0) (hY : ∀ post : Int32 → Prop, post r → wpY_translate post (cm_V oc (ec + 1) st pl otr pg kp 0 mem reg out spc) pl 0) (ho : mem r.toNatClampNeg &&& 31 = 12) : cm_B (c + 1) (fun post => wpX_step post (cm_U oc ec st pl inn pg kp mem reg out spc)) (fun post => wpY_step post (cm_V oc ec st pl otr pg kp t mem reg out spc)) := by
  obtain ⟨r1, r2, r3, r4, r5, r6⟩ := cm_rf hr
  obtain ⟨u', v', ⟨t', oc', ec', st', pl', inn', otr', pg', kp', mem', reg', out', spc', rfl, rfl, hI'⟩, hOX, hOY⟩ := cm_o12 (ec := ec + 1) (st := st) (pl := pl) (mem := mem) (reg := reg) (out := out) (spc := spc) hI (mem r.toNatClampNeg) ho
  refine ⟨_, _, ⟨t', oc', ec', st', pl', inn', otr', pg', kp', mem', reg', out', spc', rfl, rfl, hI'⟩, fun post h => ?_, fun post h => ?_⟩
  · repeat' (first | exact h | refine hX _ ?_ | refine hOX _ ?_ | refine br_t (by decide) ?_ | refine br_f (by decide) ?_ | refine br_t (by assumption) ?_ | refine br_f (by assumption) ?_ | refine And.intro (by assumption) ?_ | refine nm_r ho ?_ | refine nm_e ?_)
  · repeat' (first | exact h | (unfold wpY_reach; refine hY _ ?_) | (rw [r5]; refine hOY _ ?_) | refine br_t (by decide) ?_ | refine br_f (by decide) ?_ | refine br_t (by assumption) ?_ | refine br_f (by assumption) ?_ | refine And.intro (by assumption) ?_ | refine nm_r ho ?_ | refine nm_e ?_)
theorem cm_s13 {c : Nat} {oc ec st pl inn otr pg kp : Int32} {mem reg out spc : Nat → Int32} {t r : Int32} (hI : cm_I c oc inn otr pg kp) (hc : c < 2 ^ 30) (hr : ∃ j : Nat, j < 128 ∧ r = nI j) (hX : ∀ post : Int32 → Prop, post r → wpX_translate post (cm_U oc (ec + 1) st pl inn pg kp mem reg out spc) pl 0) (hY : ∀ post : Int32 → Prop, post r → wpY_translate post (cm_V oc (ec + 1) st pl otr pg kp 0 mem reg out spc) pl 0) (ho : mem r.toNatClampNeg &&& 31 = 13) : cm_B (c + 1) (fun post => wpX_step post (cm_U oc ec st pl inn pg kp mem reg out spc)) (fun post => wpY_step post (cm_V oc ec st pl otr pg kp t mem reg out spc)) := by
  obtain ⟨r1, r2, r3, r4, r5, r6⟩ := cm_rf hr
  obtain ⟨u', v', ⟨t', oc', ec', st', pl', inn', otr', pg', kp', mem', reg', out', spc', rfl, rfl, hI'⟩, hOX, hOY⟩ := cm_o13 (ec := ec + 1) (st := st) (pl := pl) (mem := mem) (reg := reg) (out := out) (spc := spc) hI (mem r.toNatClampNeg) ho
  refine ⟨_, _, ⟨t', oc', ec', st', pl', inn', otr', pg', kp', mem', reg', out', spc', rfl, rfl, hI'⟩, fun post h => ?_, fun post h => ?_⟩
  · repeat' (first | exact h | refine hX _ ?_ | refine hOX _ ?_ | refine br_t (by decide) ?_ | refine br_f (by decide) ?_ | refine br_t (by assumption) ?_ | refine br_f (by assumption) ?_ | refine And.intro (by assumption) ?_ | refine nm_r ho ?_ | refine nm_e ?_)
  · repeat' (first | exact h | (unfold wpY_reach; refine hY _ ?_) | (rw [r5]; refine hOY _ ?_) | refine br_t (by decide) ?_ | refine br_f (by decide) ?_ | refine br_t (by assumption) ?_ | refine br_f (by assumption) ?_ | refine And.intro (by assumption) ?_ | refine nm_r ho ?_ | refine nm_e ?_)
theorem cm_s14 {c : Nat} {oc ec st pl inn otr pg kp : Int32} {mem reg out spc : Nat → Int32} {t r : Int32} (hI : cm_I c oc inn otr pg kp) (hc : c < 2 ^ 30) (hr : ∃ j : Nat, j < 128 ∧ r = nI j) (hX : ∀ post : Int32 → Prop, post r → wpX_translate post (cm_U oc (ec + 1) st pl inn pg kp mem reg out spc) pl 0) (hY : ∀ post : Int32 → Prop, post r → wpY_translate post (cm_V oc (ec + 1) st pl otr pg kp 0 mem reg out spc) pl 0) (ho : mem r.toNatClampNeg &&& 31 = 14) : cm_B (c + 1) (fun post => wpX_step post (cm_U oc ec st pl inn pg kp mem reg out spc)) (fun post => wpY_step post (cm_V oc ec st pl otr pg kp t mem reg out spc)) := by
  obtain ⟨r1, r2, r3, r4, r5, r6⟩ := cm_rf hr
  obtain ⟨u', v', ⟨t', oc', ec', st', pl', inn', otr', pg', kp', mem', reg', out', spc', rfl, rfl, hI'⟩, hOX, hOY⟩ := cm_o14 (ec := ec + 1) (st := st) (pl := pl) (mem := mem) (reg := reg) (out := out) (spc := spc) hI (mem r.toNatClampNeg) ho
  refine ⟨_, _, ⟨t', oc', ec', st', pl', inn', otr', pg', kp', mem', reg', out', spc', rfl, rfl, hI'⟩, fun post h => ?_, fun post h => ?_⟩
  · repeat' (first | exact h | refine hX _ ?_ | refine hOX _ ?_ | refine br_t (by decide) ?_ | refine br_f (by decide) ?_ | refine br_t (by assumption) ?_ | refine br_f (by assumption) ?_ | refine And.intro (by assumption) ?_ | refine nm_r ho ?_ | refine nm_e ?_)
  · repeat' (first | exact h | (unfold wpY_reach; refine hY _ ?_) | (rw [r5]; refine hOY _ ?_) | refine br_t (by decide) ?_ | refine br_f (by decide) ?_ | refine br_t (by assumption) ?_ | refine br_f (by assumption) ?_ | refine And.intro (by assumption) ?_ | refine nm_r ho ?_ | refine nm_e ?_)
theorem cm_s15 {c : Nat} {oc ec st pl inn otr pg kp : Int32} {mem reg out spc : Nat → Int32} {t r : Int32} (hI : cm_I c oc inn otr pg kp) (hc : c < 2 ^ 30) (hr : ∃ j : Nat, j < 128 ∧ r = nI j) (hX : ∀ post : Int32 → Prop, post r → wpX_translate post (cm_U oc (ec + 1) st pl inn pg kp mem reg out spc) pl 0) (hY : ∀ post : Int32 → Prop, post r → wpY_translate post (cm_V oc (ec + 1) st pl otr pg kp 0 mem reg out spc) pl 0) (ho : mem r.toNatClampNeg &&& 31 = 15) : cm_B (c + 1) (fun post => wpX_step post (cm_U oc ec st pl inn pg kp mem reg out spc)) (fun post => wpY_step post (cm_V oc ec st pl otr pg kp t mem reg out spc)) := by
  obtain ⟨r1, r2, r3, r4, r5, r6⟩ := cm_rf hr
  obtain ⟨u', v', ⟨t', oc', ec', st', pl', inn', otr', pg', kp', mem', reg', out', spc', rfl, rfl, hI'⟩, hOX, hOY⟩ := cm_o15 (ec := ec + 1) (st := st) (pl := pl) (mem := mem) (reg := reg) (out := out) (spc := spc) hI (mem r.toNatClampNeg) ho
  refine ⟨_, _, ⟨t', oc', ec', st', pl', inn', otr', pg', kp', mem', reg', out', spc', rfl, rfl, hI'⟩, fun post h => ?_, fun post h => ?_⟩
  · repeat' (first | exact h | refine hX _ ?_ | refine hOX _ ?_ | refine br_t (by decide) ?_ | refine br_f (by decide) ?_ | refine br_t (by assumption) ?_ | refine br_f (by assumption) ?_ | refine And.intro (by assumption) ?_ | refine nm_r ho ?_ | refine nm_e ?_)
  · repeat' (first | exact h | (unfold wpY_reach; refine hY _ ?_) | (rw [r5]; refine hOY _ ?_) | refine br_t (by decide) ?_ | refine br_f (by decide) ?_ | refine br_t (by assumption) ?_ | refine br_f (by assumption) ?_ | refine And.intro (by assumption) ?_ | refine nm_r ho ?_ | refine nm_e ?_)
theorem cm_s16 {c : Nat} {oc ec st pl inn otr pg kp : Int32} {mem reg out spc : Nat → Int32} {t r : Int32} (hI : cm_I c oc inn otr pg kp) (hc : c < 2 ^ 30) (hr : ∃ j : Nat, j < 128 ∧ r = nI j) (hX : ∀ post : Int32 → Prop, post r → wpX_translate post (cm_U oc (ec + 1) st pl inn pg kp mem reg out spc) pl 0) (hY : ∀ post : Int32 → Prop, post r → wpY_translate post (cm_V oc (ec + 1) st pl otr pg kp 0 mem reg out spc) pl 0) (ho : mem r.toNatClampNeg &&& 31 = 16) : cm_B (c + 1) (fun post => wpX_step post (cm_U oc ec st pl inn pg kp mem reg out spc)) (fun post => wpY_step post (cm_V oc ec st pl otr pg kp t mem reg out spc)) := by
  obtain ⟨r1, r2, r3, r4, r5, r6⟩ := cm_rf hr
  obtain ⟨u', v', ⟨t', oc', ec', st', pl', inn', otr', pg', kp', mem', reg', out', spc', rfl, rfl, hI'⟩, hOX, hOY⟩ := cm_o16 (ec := ec + 1) (st := st) (pl := pl) (mem := mem) (reg := reg) (out := out) (spc := spc) hI (mem r.toNatClampNeg) ho
  refine ⟨_, _, ⟨t', oc', ec', st', pl', inn', otr', pg', kp', mem', reg', out', spc', rfl, rfl, hI'⟩, fun post h => ?_, fun post h => ?_⟩
  · repeat' (first | exact h | refine hX _ ?_ | refine hOX _ ?_ | refine br_t (by decide) ?_ | refine br_f (by decide) ?_ | refine br_t (by assumption) ?_ | refine br_f (by assumption) ?_ | refine And.intro (by assumption) ?_ | refine nm_r ho ?_ | refine nm_e ?_)
  · repeat' (first | exact h | (unfold wpY_reach; refine hY _ ?_) | (rw [r5]; refine hOY _ ?_) | refine br_t (by decide) ?_ | refine br_f (by decide) ?_ | refine br_t (by assumption) ?_ | refine br_f (by assumption) ?_ | refine And.intro (by assumption) ?_ | refine nm_r ho ?_ | refine nm_e ?_)
theorem cm_s17 {c : Nat} {oc ec st pl inn otr pg kp : Int32} {mem reg out spc : Nat → Int32} {t r : Int32} (hI : cm_I c oc inn otr pg kp) (hc : c < 2 ^ 30) (hr : ∃ j : Nat, j < 128 ∧ r = nI j) (hX : ∀ post : Int32 → Prop, post r → wpX_translate post (cm_U oc (ec + 1) st pl inn pg kp mem reg out spc) pl 0) (hY : ∀ post : Int32 → Prop, post r → wpY_translate post (cm_V oc (ec + 1) st pl otr pg kp 0 mem reg out spc) pl 0) (ho : mem r.toNatClampNeg &&& 31 = 17) : cm_B (c + 1) (fun post => wpX_step post (cm_U oc ec st pl inn pg kp mem reg out spc)) (fun post => wpY_step post (cm_V oc ec st pl otr pg kp t mem reg out spc)) := by
  obtain ⟨r1, r2, r3, r4, r5, r6⟩ := cm_rf hr
  obtain ⟨u', v', ⟨t', oc', ec', st', pl', inn', otr', pg', kp', mem', reg', out', spc', rfl, rfl, hI'⟩, hOX, hOY⟩ := cm_o17 (ec := ec + 1) (st := st) (pl := pl) (mem := mem) (reg := reg) (out := out) (spc := spc) hI (mem r.toNatClampNeg) ho
  refine ⟨_, _, ⟨t', oc', ec', st', pl', inn', otr', pg', kp', mem', reg', out', spc', rfl, rfl, hI'⟩, fun post h => ?_, fun post h => ?_⟩
  · repeat' (first | exact h | refine hX _ ?_ | refine hOX _ ?_ | refine br_t (by decide) ?_ | refine br_f (by decide) ?_ | refine br_t (by assumption) ?_ | refine br_f (by assumption) ?_ | refine And.intro (by assumption) ?_ | refine nm_r ho ?_ | refine nm_e ?_)
  · repeat' (first | exact h | (unfold wpY_reach; refine hY _ ?_) | (rw [r5]; refine hOY _ ?_) | refine br_t (by decide) ?_ | refine br_f (by decide) ?_ | refine br_t (by assumption) ?_ | refine br_f (by assumption) ?_ | refine And.intro (by assumption) ?_ | refine nm_r ho ?_ | refine nm_e ?_)
theorem cm_s18 {c : Nat} {oc ec st pl inn otr pg kp : Int32} {mem reg out spc : Nat → Int32} {t r : Int32} (hI : cm_I c oc inn otr pg kp) (hc : c < 2 ^ 30) (hr : ∃ j : Nat, j < 128 ∧ r = nI j) (hX : ∀ post : Int32 → Prop, post r → wpX_translate post (cm_U oc (ec + 1) st pl inn pg kp mem reg out spc) pl 0) (hY : ∀ post : Int32 → Prop, post r → wpY_translate post (cm_V oc (ec + 1) st pl otr pg kp 0 mem reg out spc) pl 0) (ho : mem r.toNatClampNeg &&& 31 = 18) : cm_B (c + 1) (fun post => wpX_step post (cm_U oc ec st pl inn pg kp mem reg out spc)) (fun post => wpY_step post (cm_V oc ec st pl otr pg kp t mem reg out spc)) := by
  obtain ⟨r1, r2, r3, r4, r5, r6⟩ := cm_rf hr
  obtain ⟨u', v', ⟨t', oc', ec', st', pl', inn', otr', pg', kp', mem', reg', out', spc', rfl, rfl, hI'⟩, hOX, hOY⟩ := cm_o18 (ec := ec + 1) (st := st) (pl := pl) (mem := mem) (reg := reg) (out := out) (spc := spc) hI (mem r.toNatClampNeg) ho
  refine ⟨_, _, ⟨t', oc', ec', st', pl', inn', otr', pg', kp', mem', reg', out', spc', rfl, rfl, hI'⟩, fun post h => ?_, fun post h => ?_⟩
  · repeat' (first | exact h | refine hX _ ?_ | refine hOX _ ?_ | refine br_t (by decide) ?_ | refine br_f (by decide) ?_ | refine br_t (by assumption) ?_ | refine br_f (by assumption) ?_ | refine And.intro (by assumption) ?_ | refine nm_r ho ?_ | refine nm_e ?_)
  · repeat' (first | exact h | (unfold wpY_reach; refine hY _ ?_) | (rw [r5]; refine hOY _ ?_) | refine br_t (by decide) ?_ | refine br_f (by decide) ?_ | refine br_t (by assumption) ?_ | refine br_f (by assumption) ?_ | refine And.intro (by assumption) ?_ | refine nm_r ho ?_ | refine nm_e ?_)
theorem cm_s19 {c : Nat} {oc ec st pl inn otr pg kp : Int32} {mem reg out spc : Nat → Int32} {t r : Int32} (hI : cm_I c oc inn otr pg kp) (hc : c < 2 ^ 30) (hr : ∃ j : Nat, j < 128 ∧ r = nI j) (hX : ∀ post : Int32 → Prop, post r → wpX_translate post (cm_U oc (ec + 1) st pl inn pg kp mem reg out spc) pl 0) (hY : ∀ post : Int32 → Prop, post r → wpY_translate post (cm_V oc (ec + 1) st pl otr pg kp 0 mem reg out spc) pl 0) (ho : mem r.toNatClampNeg &&& 31 = 19) : cm_B (c + 1) (fun post => wpX_step post (cm_U oc ec st pl inn pg kp mem reg out spc)) (fun post => wpY_step post (cm_V oc ec st pl otr pg kp t mem reg out spc)) := by
  obtain ⟨r1, r2, r3, r4, r5, r6⟩ := cm_rf hr
  obtain ⟨u', v', ⟨t', oc', ec', st', pl', inn', otr', pg', kp', mem', reg', out', spc', rfl, rfl, hI'⟩, hOX, hOY⟩ := cm_o19 (ec := ec + 1) (st := st) (pl := pl) (mem := mem) (reg := reg) (out := out) (spc := spc) hI (mem r.toNatClampNeg) ho
  refine ⟨_, _, ⟨t', oc', ec', st', pl', inn', otr', pg', kp', mem', reg', out', spc', rfl, rfl, hI'⟩, fun post h => ?_, fun post h => ?_⟩
  · repeat' (first | exact h | refine hX _ ?_ | refine hOX _ ?_ | refine br_t (by decide) ?_ | refine br_f (by decide) ?_ | refine br_t (by assumption) ?_ | refine br_f (by assumption) ?_ | refine And.intro (by assumption) ?_ | refine nm_r ho ?_ | refine nm_e ?_)
  · repeat' (first | exact h | (unfold wpY_reach; refine hY _ ?_) | (rw [r5]; refine hOY _ ?_) | refine br_t (by decide) ?_ | refine br_f (by decide) ?_ | refine br_t (by assumption) ?_ | refine br_f (by assumption) ?_ | refine And.intro (by assumption) ?_ | refine nm_r ho ?_ | refine nm_e ?_)
theorem cm_s20 {c : Nat} {oc ec st pl inn otr pg kp : Int32} {mem reg out spc : Nat → Int32} {t r : Int32} (hI : cm_I c oc inn otr pg kp) (hc : c < 2 ^ 30) (hr : ∃ j : Nat, j < 128 ∧ r = nI j) (hX : ∀ post : Int32 → Prop, post r → wpX_translate post (cm_U oc (ec + 1) st pl inn pg kp mem reg out spc) pl 0) (hY : ∀ post : Int32 → Prop, post r → wpY_translate post (cm_V oc (ec + 1) st pl otr pg kp 0 mem reg out spc) pl 0) (ho : mem r.toNatClampNeg &&& 31 = 20) : cm_B (c + 1) (fun post => wpX_step post (cm_U oc ec st pl inn pg kp mem reg out spc)) (fun post => wpY_step post (cm_V oc ec st pl otr pg kp t mem reg out spc)) := by
  obtain ⟨r1, r2, r3, r4, r5, r6⟩ := cm_rf hr
  obtain ⟨u', v', ⟨t', oc', ec', st', pl', inn', otr', pg', kp', mem', reg', out', spc', rfl, rfl, hI'⟩, hOX, hOY⟩ := cm_o20 (ec := ec + 1) (st := st) (pl := pl) (mem := mem) (reg := reg) (out := out) (spc := spc) hI (mem r.toNatClampNeg) ho
  refine ⟨_, _, ⟨t', oc', ec', st', pl', inn', otr', pg', kp', mem', reg', out', spc', rfl, rfl, hI'⟩, fun post h => ?_, fun post h => ?_⟩
  · repeat' (first | exact h | refine hX _ ?_ | refine hOX _ ?_ | refine br_t (by decide) ?_ | refine br_f (by decide) ?_ | refine br_t (by assumption) ?_ | refine br_f (by assumption) ?_ | refine And.intro (by assumption) ?_ | refine nm_r ho ?_ | refine nm_e ?_)
  · repeat' (first | exact h | (unfold wpY_reach; refine hY _ ?_) | (rw [r5]; refine hOY _ ?_) | refine br_t (by decide) ?_ | refine br_f (by decide) ?_ | refine br_t (by assumption) ?_ | refine br_f (by assumption) ?_ | refine And.intro (by assumption) ?_ | refine nm_r ho ?_ | refine nm_e ?_)
theorem cm_s21 {c : Nat} {oc ec st pl inn otr pg kp : Int32} {mem reg out spc : Nat → Int32} {t r : Int32} (hI : cm_I c oc inn otr pg kp) (hc : c < 2 ^ 30) (hr : ∃ j : Nat, j < 128 ∧ r = nI j) (hX : ∀ post : Int32 → Prop, post r → wpX_translate post (cm_U oc (ec + 1) st pl inn pg kp mem reg out spc) pl 0) (hY : ∀ post : Int32 → Prop, post r → wpY_translate post (cm_V oc (ec + 1) st pl otr pg kp 0 mem reg out spc) pl 0) (ho : mem r.toNatClampNeg &&& 31 = 21) : cm_B (c + 1) (fun post => wpX_step post (cm_U oc ec st pl inn pg kp mem reg out spc)) (fun post => wpY_step post (cm_V oc ec st pl otr pg kp t mem reg out spc)) := by
  obtain ⟨r1, r2, r3, r4, r5, r6⟩ := cm_rf hr
  obtain ⟨u', v', ⟨t', oc', ec', st', pl', inn', otr', pg', kp', mem', reg', out', spc', rfl, rfl, hI'⟩, hOX, hOY⟩ := cm_o21 (ec := ec + 1) (st := st) (pl := pl) (mem := mem) (reg := reg) (out := out) (spc := spc) hI (mem r.toNatClampNeg) ho
  refine ⟨_, _, ⟨t', oc', ec', st', pl', inn', otr', pg', kp', mem', reg', out', spc', rfl, rfl, hI'⟩, fun post h => ?_, fun post h => ?_⟩
  · repeat' (first | exact h | refine hX _ ?_ | refine hOX _ ?_ | refine br_t (by decide) ?_ | refine br_f (by decide) ?_ | refine br_t (by assumption) ?_ | refine br_f (by assumption) ?_ | refine And.intro (by assumption) ?_ | refine nm_r ho ?_ | refine nm_e ?_)
  · repeat' (first | exact h | (unfold wpY_reach; refine hY _ ?_) | (rw [r5]; refine hOY _ ?_) | refine br_t (by decide) ?_ | refine br_f (by decide) ?_ | refine br_t (by assumption) ?_ | refine br_f (by assumption) ?_ | refine And.intro (by assumption) ?_ | refine nm_r ho ?_ | refine nm_e ?_)
theorem cm_s22 {c : Nat} {oc ec st pl inn otr pg kp : Int32} {mem reg out spc : Nat → Int32} {t r : Int32} (hI : cm_I c oc inn otr pg kp) (hc : c < 2 ^ 30) (hr : ∃ j : Nat, j < 128 ∧ r = nI j) (hX : ∀ post : Int32 → Prop, post r → wpX_translate post (cm_U oc (ec + 1) st pl inn pg kp mem reg out spc) pl 0) (hY : ∀ post : Int32 → Prop, post r → wpY_translate post (cm_V oc (ec + 1) st pl otr pg kp 0 mem reg out spc) pl 0) (ho : mem r.toNatClampNeg &&& 31 = 22) : cm_B (c + 1) (fun post => wpX_step post (cm_U oc ec st pl inn pg kp mem reg out spc)) (fun post => wpY_step post (cm_V oc ec st pl otr pg kp t mem reg out spc)) := by
  obtain ⟨r1, r2, r3, r4, r5, r6⟩ := cm_rf hr
  obtain ⟨u', v', ⟨t', oc', ec', st', pl', inn', otr', pg', kp', mem', reg', out', spc', rfl, rfl, hI'⟩, hOX, hOY⟩ := cm_o22 (ec := ec + 1) (st := st) (pl := pl) (mem := mem) (reg := reg) (out := out) (spc := spc) hI (mem r.toNatClampNeg) ho
  refine ⟨_, _, ⟨t', oc', ec', st', pl', inn', otr', pg', kp', mem', reg', out', spc', rfl, rfl, hI'⟩, fun post h => ?_, fun post h => ?_⟩
  · repeat' (first | exact h | refine hX _ ?_ | refine hOX _ ?_ | refine br_t (by decide) ?_ | refine br_f (by decide) ?_ | refine br_t (by assumption) ?_ | refine br_f (by assumption) ?_ | refine And.intro (by assumption) ?_ | refine nm_r ho ?_ | refine nm_e ?_)
  · repeat' (first | exact h | (unfold wpY_reach; refine hY _ ?_) | (rw [r5]; refine hOY _ ?_) | refine br_t (by decide) ?_ | refine br_f (by decide) ?_ | refine br_t (by assumption) ?_ | refine br_f (by assumption) ?_ | refine And.intro (by assumption) ?_ | refine nm_r ho ?_ | refine nm_e ?_)
theorem cm_s23 {c : Nat} {oc ec st pl inn otr pg kp : Int32} {mem reg out spc : Nat → Int32} {t r : Int32} (hI : cm_I c oc inn otr pg kp) (hc : c < 2 ^ 30) (hr : ∃ j : Nat, j < 128 ∧ r = nI j) (hX : ∀ post : Int32 → Prop, post r → wpX_translate post (cm_U oc (ec + 1) st pl inn pg kp mem reg out spc) pl 0) (hY : ∀ post : Int32 → Prop, post r → wpY_translate post (cm_V oc (ec + 1) st pl otr pg kp 0 mem reg out spc) pl 0) (ho : mem r.toNatClampNeg &&& 31 = 23) : cm_B (c + 1) (fun post => wpX_step post (cm_U oc ec st pl inn pg kp mem reg out spc)) (fun post => wpY_step post (cm_V oc ec st pl otr pg kp t mem reg out spc)) := by
  obtain ⟨r1, r2, r3, r4, r5, r6⟩ := cm_rf hr
  obtain ⟨u', v', ⟨t', oc', ec', st', pl', inn', otr', pg', kp', mem', reg', out', spc', rfl, rfl, hI'⟩, hOX, hOY⟩ := cm_o23 (ec := ec + 1) (st := st) (pl := pl) (mem := mem) (reg := reg) (out := out) (spc := spc) hI (mem r.toNatClampNeg) ho
  refine ⟨_, _, ⟨t', oc', ec', st', pl', inn', otr', pg', kp', mem', reg', out', spc', rfl, rfl, hI'⟩, fun post h => ?_, fun post h => ?_⟩
  · repeat' (first | exact h | refine hX _ ?_ | refine hOX _ ?_ | refine br_t (by decide) ?_ | refine br_f (by decide) ?_ | refine br_t (by assumption) ?_ | refine br_f (by assumption) ?_ | refine And.intro (by assumption) ?_ | refine nm_r ho ?_ | refine nm_e ?_)
  · repeat' (first | exact h | (unfold wpY_reach; refine hY _ ?_) | (rw [r5]; refine hOY _ ?_) | refine br_t (by decide) ?_ | refine br_f (by decide) ?_ | refine br_t (by assumption) ?_ | refine br_f (by assumption) ?_ | refine And.intro (by assumption) ?_ | refine nm_r ho ?_ | refine nm_e ?_)
theorem cm_s24 {c : Nat} {oc ec st pl inn otr pg kp : Int32} {mem reg out spc : Nat → Int32} {t r : Int32} (hI : cm_I c oc inn otr pg kp) (hc : c < 2 ^ 30) (hr : ∃ j : Nat, j < 128 ∧ r = nI j) (hX : ∀ post : Int32 → Prop, post r → wpX_translate post (cm_U oc (ec + 1) st pl inn pg kp mem reg out spc) pl 0) (hY : ∀ post : Int32 → Prop, post r → wpY_translate post (cm_V oc (ec + 1) st pl otr pg kp 0 mem reg out spc) pl 0) (ho : mem r.toNatClampNeg &&& 31 = 24) : cm_B (c + 1) (fun post => wpX_step post (cm_U oc ec st pl inn pg kp mem reg out spc)) (fun post => wpY_step post (cm_V oc ec st pl otr pg kp t mem reg out spc)) := by
  obtain ⟨r1, r2, r3, r4, r5, r6⟩ := cm_rf hr
  obtain ⟨u', v', ⟨t', oc', ec', st', pl', inn', otr', pg', kp', mem', reg', out', spc', rfl, rfl, hI'⟩, hOX, hOY⟩ := cm_o24 (ec := ec + 1) (st := st) (pl := pl) (mem := mem) (reg := reg) (out := out) (spc := spc) hI (mem r.toNatClampNeg) ho
  refine ⟨_, _, ⟨t', oc', ec', st', pl', inn', otr', pg', kp', mem', reg', out', spc', rfl, rfl, hI'⟩, fun post h => ?_, fun post h => ?_⟩
  · repeat' (first | exact h | refine hX _ ?_ | refine hOX _ ?_ | refine br_t (by decide) ?_ | refine br_f (by decide) ?_ | refine br_t (by assumption) ?_ | refine br_f (by assumption) ?_ | refine And.intro (by assumption) ?_ | refine nm_r ho ?_ | refine nm_e ?_)
  · repeat' (first | exact h | (unfold wpY_reach; refine hY _ ?_) | (rw [r5]; refine hOY _ ?_) | refine br_t (by decide) ?_ | refine br_f (by decide) ?_ | refine br_t (by assumption) ?_ | refine br_f (by assumption) ?_ | refine And.intro (by assumption) ?_ | refine nm_r ho ?_ | refine nm_e ?_)
theorem cm_s25 {c : Nat} {oc ec st pl inn otr pg kp : Int32} {mem reg out spc : Nat → Int32} {t r : Int32} (hI : cm_I c oc inn otr pg kp) (hc : c < 2 ^ 30) (hr : ∃ j : Nat, j < 128 ∧ r = nI j) (hX : ∀ post : Int32 → Prop, post r → wpX_translate post (cm_U oc (ec + 1) st pl inn pg kp mem reg out spc) pl 0) (hY : ∀ post : Int32 → Prop, post r → wpY_translate post (cm_V oc (ec + 1) st pl otr pg kp 0 mem reg out spc) pl 0) (ho : mem r.toNatClampNeg &&& 31 = 25) : cm_B (c + 1) (fun post => wpX_step post (cm_U oc ec st pl inn pg kp mem reg out spc)) (fun post => wpY_step post (cm_V oc ec st pl otr pg kp t mem reg out spc)) := by
  obtain ⟨r1, r2, r3, r4, r5, r6⟩ := cm_rf hr
  obtain ⟨u', v', ⟨t', oc', ec', st', pl', inn', otr', pg', kp', mem', reg', out', spc', rfl, rfl, hI'⟩, hOX, hOY⟩ := cm_o25 (ec := ec + 1) (st := st) (pl := pl) (mem := mem) (reg := reg) (out := out) (spc := spc) hI (mem r.toNatClampNeg) ho
  refine ⟨_, _, ⟨t', oc', ec', st', pl', inn', otr', pg', kp', mem', reg', out', spc', rfl, rfl, hI'⟩, fun post h => ?_, fun post h => ?_⟩
  · repeat' (first | exact h | refine hX _ ?_ | refine hOX _ ?_ | refine br_t (by decide) ?_ | refine br_f (by decide) ?_ | refine br_t (by assumption) ?_ | refine br_f (by assumption) ?_ | refine And.intro (by assumption) ?_ | refine nm_r ho ?_ | refine nm_e ?_)
  · repeat' (first | exact h | (unfold wpY_reach; refine hY _ ?_) | (rw [r5]; refine hOY _ ?_) | refine br_t (by decide) ?_ | refine br_f (by decide) ?_ | refine br_t (by assumption) ?_ | refine br_f (by assumption) ?_ | refine And.intro (by assumption) ?_ | refine nm_r ho ?_ | refine nm_e ?_)
theorem cm_s26 {c : Nat} {oc ec st pl inn otr pg kp : Int32} {mem reg out spc : Nat → Int32} {t r : Int32} (hI : cm_I c oc inn otr pg kp) (hc : c < 2 ^ 30) (hr : ∃ j : Nat, j < 128 ∧ r = nI j) (hX : ∀ post : Int32 → Prop, post r → wpX_translate post (cm_U oc (ec + 1) st pl inn pg kp mem reg out spc) pl 0) (hY : ∀ post : Int32 → Prop, post r → wpY_translate post (cm_V oc (ec + 1) st pl otr pg kp 0 mem reg out spc) pl 0) (ho : mem r.toNatClampNeg &&& 31 = 26) : cm_B (c + 1) (fun post => wpX_step post (cm_U oc ec st pl inn pg kp mem reg out spc)) (fun post => wpY_step post (cm_V oc ec st pl otr pg kp t mem reg out spc)) := by
  obtain ⟨r1, r2, r3, r4, r5, r6⟩ := cm_rf hr
  obtain ⟨u', v', ⟨t', oc', ec', st', pl', inn', otr', pg', kp', mem', reg', out', spc', rfl, rfl, hI'⟩, hOX, hOY⟩ := cm_o26 (ec := ec + 1) (st := st) (pl := pl) (mem := mem) (reg := reg) (out := out) (spc := spc) hI (mem r.toNatClampNeg) ho hc
  refine ⟨_, _, ⟨t', oc', ec', st', pl', inn', otr', pg', kp', mem', reg', out', spc', rfl, rfl, hI'⟩, fun post h => ?_, fun post h => ?_⟩
  · repeat' (first | exact h | refine hX _ ?_ | refine hOX _ ?_ | refine br_t (by decide) ?_ | refine br_f (by decide) ?_ | refine br_t (by assumption) ?_ | refine br_f (by assumption) ?_ | refine And.intro (by assumption) ?_ | refine nm_r ho ?_ | refine nm_e ?_)
  · repeat' (first | exact h | (unfold wpY_reach; refine hY _ ?_) | (rw [r5]; refine hOY _ ?_) | refine br_t (by decide) ?_ | refine br_f (by decide) ?_ | refine br_t (by assumption) ?_ | refine br_f (by assumption) ?_ | refine And.intro (by assumption) ?_ | refine nm_r ho ?_ | refine nm_e ?_)
theorem cm_s27 {c : Nat} {oc ec st pl inn otr pg kp : Int32} {mem reg out spc : Nat → Int32} {t r : Int32} (hI : cm_I c oc inn otr pg kp) (hc : c < 2 ^ 30) (hr : ∃ j : Nat, j < 128 ∧ r = nI j) (hX : ∀ post : Int32 → Prop, post r → wpX_translate post (cm_U oc (ec + 1) st pl inn pg kp mem reg out spc) pl 0) (hY : ∀ post : Int32 → Prop, post r → wpY_translate post (cm_V oc (ec + 1) st pl otr pg kp 0 mem reg out spc) pl 0) (ho : mem r.toNatClampNeg &&& 31 = 27) : cm_B (c + 1) (fun post => wpX_step post (cm_U oc ec st pl inn pg kp mem reg out spc)) (fun post => wpY_step post (cm_V oc ec st pl otr pg kp t mem reg out spc)) := by
  obtain ⟨r1, r2, r3, r4, r5, r6⟩ := cm_rf hr
  obtain ⟨u', v', ⟨t', oc', ec', st', pl', inn', otr', pg', kp', mem', reg', out', spc', rfl, rfl, hI'⟩, hOX, hOY⟩ := cm_o27 (ec := ec + 1) (st := st) (pl := pl) (mem := mem) (reg := reg) (out := out) (spc := spc) hI (mem r.toNatClampNeg) ho
  refine ⟨_, _, ⟨t', oc', ec', st', pl', inn', otr', pg', kp', mem', reg', out', spc', rfl, rfl, hI'⟩, fun post h => ?_, fun post h => ?_⟩
  · repeat' (first | exact h | refine hX _ ?_ | refine hOX _ ?_ | refine br_t (by decide) ?_ | refine br_f (by decide) ?_ | refine br_t (by assumption) ?_ | refine br_f (by assumption) ?_ | refine And.intro (by assumption) ?_ | refine nm_r ho ?_ | refine nm_e ?_)
  · repeat' (first | exact h | (unfold wpY_reach; refine hY _ ?_) | (rw [r5]; refine hOY _ ?_) | refine br_t (by decide) ?_ | refine br_f (by decide) ?_ | refine br_t (by assumption) ?_ | refine br_f (by assumption) ?_ | refine And.intro (by assumption) ?_ | refine nm_r ho ?_ | refine nm_e ?_)
theorem cm_s28 {c : Nat} {oc ec st pl inn otr pg kp : Int32} {mem reg out spc : Nat → Int32} {t r : Int32} (hI : cm_I c oc inn otr pg kp) (hc : c < 2 ^ 30) (hr : ∃ j : Nat, j < 128 ∧ r = nI j) (hX : ∀ post : Int32 → Prop, post r → wpX_translate post (cm_U oc (ec + 1) st pl inn pg kp mem reg out spc) pl 0) (hY : ∀ post : Int32 → Prop, post r → wpY_translate post (cm_V oc (ec + 1) st pl otr pg kp 0 mem reg out spc) pl 0) (ho : mem r.toNatClampNeg &&& 31 = 28) : cm_B (c + 1) (fun post => wpX_step post (cm_U oc ec st pl inn pg kp mem reg out spc)) (fun post => wpY_step post (cm_V oc ec st pl otr pg kp t mem reg out spc)) := by
  obtain ⟨r1, r2, r3, r4, r5, r6⟩ := cm_rf hr
  obtain ⟨u', v', ⟨t', oc', ec', st', pl', inn', otr', pg', kp', mem', reg', out', spc', rfl, rfl, hI'⟩, hOX, hOY⟩ := cm_o28 (ec := ec + 1) (st := st) (pl := pl) (mem := mem) (reg := reg) (out := out) (spc := spc) hI (mem r.toNatClampNeg) ho
  refine ⟨_, _, ⟨t', oc', ec', st', pl', inn', otr', pg', kp', mem', reg', out', spc', rfl, rfl, hI'⟩, fun post h => ?_, fun post h => ?_⟩
  · repeat' (first | exact h | refine hX _ ?_ | refine hOX _ ?_ | refine br_t (by decide) ?_ | refine br_f (by decide) ?_ | refine br_t (by assumption) ?_ | refine br_f (by assumption) ?_ | refine And.intro (by assumption) ?_ | refine nm_r ho ?_ | refine nm_e ?_)
  · repeat' (first | exact h | (unfold wpY_reach; refine hY _ ?_) | (rw [r5]; refine hOY _ ?_) | refine br_t (by decide) ?_ | refine br_f (by decide) ?_ | refine br_t (by assumption) ?_ | refine br_f (by assumption) ?_ | refine And.intro (by assumption) ?_ | refine nm_r ho ?_ | refine nm_e ?_)
theorem cm_s29 {c : Nat} {oc ec st pl inn otr pg kp : Int32} {mem reg out spc : Nat → Int32} {t r : Int32} (hI : cm_I c oc inn otr pg kp) (hc : c < 2 ^ 30) (hr : ∃ j : Nat, j < 128 ∧ r = nI j) (hX : ∀ post : Int32 → Prop, post r → wpX_translate post (cm_U oc (ec + 1) st pl inn pg kp mem reg out spc) pl 0) (hY : ∀ post : Int32 → Prop, post r → wpY_translate post (cm_V oc (ec + 1) st pl otr pg kp 0 mem reg out spc) pl 0) (ho : mem r.toNatClampNeg &&& 31 = 29) : cm_B (c + 1) (fun post => wpX_step post (cm_U oc ec st pl inn pg kp mem reg out spc)) (fun post => wpY_step post (cm_V oc ec st pl otr pg kp t mem reg out spc)) := by
  obtain ⟨r1, r2, r3, r4, r5, r6⟩ := cm_rf hr
  obtain ⟨u', v', ⟨t', oc', ec', st', pl', inn', otr', pg', kp', mem', reg', out', spc', rfl, rfl, hI'⟩, hOX, hOY⟩ := cm_o29 (ec := ec + 1) (st := st) (pl := pl) (mem := mem) (reg := reg) (out := out) (spc := spc) hI (mem r.toNatClampNeg) ho
  refine ⟨_, _, ⟨t', oc', ec', st', pl', inn', otr', pg', kp', mem', reg', out', spc', rfl, rfl, hI'⟩, fun post h => ?_, fun post h => ?_⟩
  · repeat' (first | exact h | refine hX _ ?_ | refine hOX _ ?_ | refine br_t (by decide) ?_ | refine br_f (by decide) ?_ | refine br_t (by assumption) ?_ | refine br_f (by assumption) ?_ | refine And.intro (by assumption) ?_ | refine nm_r ho ?_ | refine nm_e ?_)
  · repeat' (first | exact h | (unfold wpY_reach; refine hY _ ?_) | (rw [r5]; refine hOY _ ?_) | refine br_t (by decide) ?_ | refine br_f (by decide) ?_ | refine br_t (by assumption) ?_ | refine br_f (by assumption) ?_ | refine And.intro (by assumption) ?_ | refine nm_r ho ?_ | refine nm_e ?_)
theorem cm_s30 {c : Nat} {oc ec st pl inn otr pg kp : Int32} {mem reg out spc : Nat → Int32} {t r : Int32} (hI : cm_I c oc inn otr pg kp) (hc : c < 2 ^ 30) (hr : ∃ j : Nat, j < 128 ∧ r = nI j) (hX : ∀ post : Int32 → Prop, post r → wpX_translate post (cm_U oc (ec + 1) st pl inn pg kp mem reg out spc) pl 0) (hY : ∀ post : Int32 → Prop, post r → wpY_translate post (cm_V oc (ec + 1) st pl otr pg kp 0 mem reg out spc) pl 0) (ho : mem r.toNatClampNeg &&& 31 = 30) : cm_B (c + 1) (fun post => wpX_step post (cm_U oc ec st pl inn pg kp mem reg out spc)) (fun post => wpY_step post (cm_V oc ec st pl otr pg kp t mem reg out spc)) := by
  obtain ⟨r1, r2, r3, r4, r5, r6⟩ := cm_rf hr
  obtain ⟨u', v', ⟨t', oc', ec', st', pl', inn', otr', pg', kp', mem', reg', out', spc', rfl, rfl, hI'⟩, hOX, hOY⟩ := cm_o30 (ec := ec + 1) (st := st) (pl := pl) (mem := mem) (reg := reg) (out := out) (spc := spc) hI (mem r.toNatClampNeg) ho
  refine ⟨_, _, ⟨t', oc', ec', st', pl', inn', otr', pg', kp', mem', reg', out', spc', rfl, rfl, hI'⟩, fun post h => ?_, fun post h => ?_⟩
  · repeat' (first | exact h | refine hX _ ?_ | refine hOX _ ?_ | refine br_t (by decide) ?_ | refine br_f (by decide) ?_ | refine br_t (by assumption) ?_ | refine br_f (by assumption) ?_ | refine And.intro (by assumption) ?_ | refine nm_r ho ?_ | refine nm_e ?_)
  · repeat' (first | exact h | (unfold wpY_reach; refine hY _ ?_) | (rw [r5]; refine hOY _ ?_) | refine br_t (by decide) ?_ | refine br_f (by decide) ?_ | refine br_t (by assumption) ?_ | refine br_f (by assumption) ?_ | refine And.intro (by assumption) ?_ | refine nm_r ho ?_ | refine nm_e ?_)
theorem cm_s31 {c : Nat} {oc ec st pl inn otr pg kp : Int32} {mem reg out spc : Nat → Int32} {t r : Int32} (hI : cm_I c oc inn otr pg kp) (hc : c < 2 ^ 30) (hr : ∃ j : Nat, j < 128 ∧ r = nI j) (hX : ∀ post : Int32 → Prop, post r → wpX_translate post (cm_U oc (ec + 1) st pl inn pg kp mem reg out spc) pl 0) (hY : ∀ post : Int32 → Prop, post r → wpY_translate post (cm_V oc (ec + 1) st pl otr pg kp 0 mem reg out spc) pl 0) (ho : mem r.toNatClampNeg &&& 31 = 31) : cm_B (c + 1) (fun post => wpX_step post (cm_U oc ec st pl inn pg kp mem reg out spc)) (fun post => wpY_step post (cm_V oc ec st pl otr pg kp t mem reg out spc)) := by
  obtain ⟨r1, r2, r3, r4, r5, r6⟩ := cm_rf hr
  obtain ⟨u', v', ⟨t', oc', ec', st', pl', inn', otr', pg', kp', mem', reg', out', spc', rfl, rfl, hI'⟩, hOX, hOY⟩ := cm_o31 (ec := ec + 1) (st := st) (pl := pl) (mem := mem) (reg := reg) (out := out) (spc := spc) hI (mem r.toNatClampNeg) ho
  refine ⟨_, _, ⟨t', oc', ec', st', pl', inn', otr', pg', kp', mem', reg', out', spc', rfl, rfl, hI'⟩, fun post h => ?_, fun post h => ?_⟩
  · repeat' (first | exact h | refine hX _ ?_ | refine hOX _ ?_ | refine br_t (by decide) ?_ | refine br_f (by decide) ?_ | refine br_t (by assumption) ?_ | refine br_f (by assumption) ?_ | refine And.intro (by assumption) ?_ | refine nm_r ho ?_ | refine nm_e ?_)
  · repeat' (first | exact h | (unfold wpY_reach; refine hY _ ?_) | (rw [r5]; refine hOY _ ?_) | refine br_t (by decide) ?_ | refine br_f (by decide) ?_ | refine br_t (by assumption) ?_ | refine br_f (by assumption) ?_ | refine And.intro (by assumption) ?_ | refine nm_r ho ?_ | refine nm_e ?_)
theorem cm_step {c : Nat} {t : Int32} {u : SX} {v : SY} (hR : cm_R c t u v) (hc : c < 2 ^ 30) : cm_B (c + 1) (fun post => wpX_step post u) (fun post => wpY_step post v) := by
  obtain ⟨oc, ec, st, pl, inn, otr, pg, kp, mem, reg, out, spc, rfl, rfl, hI⟩ := hR
  obtain ⟨r, hr, hX, hY⟩ := cm_tr (oc := oc) (ec := ec + 1) (st := st) (pl := pl) (inn := inn) (otr := otr) (pg := pg) (kp := kp) (t := 0) (mem := mem) (reg := reg) (out := out) (spc := spc) pl 0
  rcases hr with rfl | hr
  · obtain ⟨u', v', ⟨oc', ec', st', pl', inn', otr', pg', kp', mem', reg', out', spc', rfl, rfl, hI'⟩, hTX, hTY⟩ := cm_trap (ec := ec + 1) (st := st) (pl := pl) (mem := mem) (reg := reg) (out := out) (spc := upd spc 4 pl) 0 3 hI
    refine ⟨_, _, ⟨1, oc', ec', st', pl', inn', otr', pg', kp', mem', reg', out', spc', rfl, rfl, cm_Iup hI' (by omega)⟩, fun post h => ?_, fun post h => ?_⟩
    · repeat' (first | exact h | refine hTX _ ?_ | refine hX _ ?_ | refine br_t (by decide) ?_ | refine br_f (by decide) ?_ | refine br_t (by assumption) ?_ | refine br_f (by assumption) ?_ | refine And.intro (by assumption) ?_ | refine nm_e ?_)
    · repeat' (first | exact h | refine hTY _ ?_ | (unfold wpY_reach; refine hY _ ?_) | refine br_t (by decide) ?_ | refine br_f (by decide) ?_ | refine br_t (by assumption) ?_ | refine br_f (by assumption) ?_ | refine And.intro (by assumption) ?_ | refine nm_e ?_)
  · obtain ⟨j, hj, ho⟩ := cm_31 (mem r.toNatClampNeg)
    match j, hj, ho with
    | 0, _, ho => exact cm_s0 hI hc hr hX hY ho
    | 1, _, ho => exact cm_s1 hI hc hr hX hY ho
    | 2, _, ho => exact cm_s2 hI hc hr hX hY ho
    | 3, _, ho => exact cm_s3 hI hc hr hX hY ho
    | 4, _, ho => exact cm_s4 hI hc hr hX hY ho
    | 5, _, ho => exact cm_s5 hI hc hr hX hY ho
    | 6, _, ho => exact cm_s6 hI hc hr hX hY ho
    | 7, _, ho => exact cm_s7 hI hc hr hX hY ho
    | 8, _, ho => exact cm_s8 hI hc hr hX hY ho
    | 9, _, ho => exact cm_s9 hI hc hr hX hY ho
    | 10, _, ho => exact cm_s10 hI hc hr hX hY ho
    | 11, _, ho => exact cm_s11 hI hc hr hX hY ho
    | 12, _, ho => exact cm_s12 hI hc hr hX hY ho
    | 13, _, ho => exact cm_s13 hI hc hr hX hY ho
    | 14, _, ho => exact cm_s14 hI hc hr hX hY ho
    | 15, _, ho => exact cm_s15 hI hc hr hX hY ho
    | 16, _, ho => exact cm_s16 hI hc hr hX hY ho
    | 17, _, ho => exact cm_s17 hI hc hr hX hY ho
    | 18, _, ho => exact cm_s18 hI hc hr hX hY ho
    | 19, _, ho => exact cm_s19 hI hc hr hX hY ho
    | 20, _, ho => exact cm_s20 hI hc hr hX hY ho
    | 21, _, ho => exact cm_s21 hI hc hr hX hY ho
    | 22, _, ho => exact cm_s22 hI hc hr hX hY ho
    | 23, _, ho => exact cm_s23 hI hc hr hX hY ho
    | 24, _, ho => exact cm_s24 hI hc hr hX hY ho
    | 25, _, ho => exact cm_s25 hI hc hr hX hY ho
    | 26, _, ho => exact cm_s26 hI hc hr hX hY ho
    | 27, _, ho => exact cm_s27 hI hc hr hX hY ho
    | 28, _, ho => exact cm_s28 hI hc hr hX hY ho
    | 29, _, ho => exact cm_s29 hI hc hr hX hY ho
    | 30, _, ho => exact cm_s30 hI hc hr hX hY ho
    | 31, _, ho => exact cm_s31 hI hc hr hX hY ho
    | j + 32, hj, _ => omega
end
section
/-! ===== run; the start (written by wip/whole/gen2.py) ===== -/
theorem cm_run (m : Nat) (hm : m ≤ 400) : ∀ (d i c : Nat), i + d = m → c + d < 2 ^ 30 → ∀ (oc ec st pl inn otr pg kp t : Int32) (mem reg out spc : Nat → Int32), cm_I c oc inn otr pg kp →
    ∃ (oc' ec' st' pl' inn' otr' pg' kp' t' : Int32) (mem' reg' out' spc' : Nat → Int32), cm_I (c + d) oc' inn' otr' pg' kp' ∧ (∀ post : Int32 → SX → Prop, post st' (cm_U oc' ec' st' pl' inn' pg' kp' mem' reg' out' spc') → wX_run_17 post (nI m) (d + 1) (nI i) oc ec st pl inn pg kp (spc 0) (spc 1) (spc 2) (spc 3) (spc 4) mem reg out) ∧ (∀ post : Int32 → SY → Prop, post st' (cm_V oc' ec' st' pl' otr' pg' kp' t' mem' reg' out' spc') → wY_run_25 post (nI m) (d + 1) (nI i) pl otr pg kp st ec oc t mem reg spc out) := by
  intro d
  induction d with
  | zero =>
    intro i c hi hc oc ec st pl inn otr pg kp t mem reg out spc hI
    have hle : nI m ≤ nI i := nI_le (by omega) (by omega)
    exact ⟨oc, ec, st, pl, inn, otr, pg, kp, t, mem, reg, out, spc, hI, fun post h => br_t hle h, fun post h => br_t hle h⟩
  | succ d ih =>
    intro i c hi hc oc ec st pl inn otr pg kp t mem reg out spc hI
    have hle : ¬ nI m ≤ nI i := nI_ge (by omega) (by omega)
    by_cases hs : st = 0
    · obtain ⟨u', v', ⟨t1, oc1, ec1, st1, pl1, inn1, otr1, pg1, kp1, mem1, reg1, out1, spc1, rfl, rfl, hI1⟩, hSX, hSY⟩ := cm_step (c := c) (t := t) ⟨oc, ec, st, pl, inn, otr, pg, kp, mem, reg, out, spc, rfl, rfl, hI⟩ (by omega)
      obtain ⟨oc', ec', st', pl', inn', otr', pg', kp', t', mem', reg', out', spc', hI', hX, hY⟩ := ih (i + 1) (c + 1) (by omega) (by omega) oc1 ec1 st1 pl1 inn1 otr1 pg1 kp1 t1 mem1 reg1 out1 spc1 hI1
      refine ⟨oc', ec', st', pl', inn', otr', pg', kp', t', mem', reg', out', spc', cm_Iup hI' (by omega), fun post h => br_f hle (br_t hs (hSX _ ?_)), fun post h => br_f hle (br_t hs (hSY _ ?_))⟩
      · exact nm_r (nI_1 i) (hX post h)
      · exact nm_r (nI_1 i) (hY post h)
    · exact ⟨oc, ec, st, pl, inn, otr, pg, kp, t, mem, reg, out, spc, cm_Iup hI (by omega), fun post h => br_f hle (br_f hs h), fun post h => br_f hle (br_f hs h)⟩
def cm_z (reg : Nat → Int32) : Nat → Int32 := upd (upd (upd (upd (upd (upd (upd (upd reg (0 : Int32).toNatClampNeg 0) ((0 : Int32) + 1).toNatClampNeg 0) ((0 : Int32) + 1 + 1).toNatClampNeg 0) ((0 : Int32) + 1 + 1 + 1).toNatClampNeg 0) ((0 : Int32) + 1 + 1 + 1 + 1).toNatClampNeg 0) ((0 : Int32) + 1 + 1 + 1 + 1 + 1).toNatClampNeg 0) ((0 : Int32) + 1 + 1 + 1 + 1 + 1 + 1).toNatClampNeg 0) ((0 : Int32) + 1 + 1 + 1 + 1 + 1 + 1 + 1).toNatClampNeg 0
def cm_zs (spc : Nat → Int32) : Nat → Int32 := upd (upd (upd (upd (upd (spc) (0 : Int32).toNatClampNeg 0) ((0 : Int32) + 1).toNatClampNeg (-1)) ((0 : Int32) + 1 + 1).toNatClampNeg 0) ((0 : Int32) + 1 + 1 + 1).toNatClampNeg 0) ((0 : Int32) + 1 + 1 + 1 + 1).toNatClampNeg 0
theorem cm_sx {post : SX → Prop} {p oc ec st pl inn pg kp tb vc rp ca sp : Int32} {mem reg out : Nat → Int32} (h : post (0, 0, 0, p, 1, 0, 0, 0, (-1), 0, 0, 0, mem, cm_z reg, out)) : wX_startAt_2 post p oc ec st pl inn pg kp tb vc rp ca sp 9 0 mem reg out :=
  br_f (by decide) ⟨vp_in_iff.mpr (by decide), nm_e (nm_e (br_f (by decide) ⟨vp_in_iff.mpr (by decide), nm_e (nm_e (br_f (by decide) ⟨vp_in_iff.mpr (by decide), nm_e (nm_e (br_f (by decide) ⟨vp_in_iff.mpr (by decide), nm_e (nm_e (br_f (by decide) ⟨vp_in_iff.mpr (by decide), nm_e (nm_e (br_f (by decide) ⟨vp_in_iff.mpr (by decide), nm_e (nm_e (br_f (by decide) ⟨vp_in_iff.mpr (by decide), nm_e (nm_e (br_f (by decide) ⟨vp_in_iff.mpr (by decide), nm_e (nm_e (br_t (by decide) h))⟩))⟩))⟩))⟩))⟩))⟩))⟩))⟩
theorem cm_sy2 {post : SY → Prop} {p otr pg kp st ec oc t : Int32} {mem reg out spc : Nat → Int32} (h : post (p, 0, 0, 0, 0, 0, 0, t, mem, reg, cm_zs spc, out)) : wY_reset_28 post p otr pg kp st ec oc t 6 0 mem reg spc out :=
  br_f (by decide) (br_f (by decide) ⟨vp_in_iff.mpr (by decide), nm_e (nm_e (br_f (by decide) (br_t (by decide) ⟨vp_in_iff.mpr (by decide), nm_e (nm_e (br_f (by decide) (br_f (by decide) ⟨vp_in_iff.mpr (by decide), nm_e (nm_e (br_f (by decide) (br_f (by decide) ⟨vp_in_iff.mpr (by decide), nm_e (nm_e (br_f (by decide) (br_f (by decide) ⟨vp_in_iff.mpr (by decide), nm_e (nm_e (br_t (by decide) h))⟩)))⟩)))⟩)))⟩)))⟩)
theorem cm_sy {post : SY → Prop} {p otr pg kp st ec oc t : Int32} {mem reg out spc : Nat → Int32} (h : post (p, 0, 0, 0, 0, 0, 0, t, mem, cm_z reg, cm_zs spc, out)) : wY_reset_7 post p otr pg kp st ec oc t 9 0 mem reg spc out :=
  br_f (by decide) ⟨vp_in_iff.mpr (by decide), nm_e (nm_e (br_f (by decide) ⟨vp_in_iff.mpr (by decide), nm_e (nm_e (br_f (by decide) ⟨vp_in_iff.mpr (by decide), nm_e (nm_e (br_f (by decide) ⟨vp_in_iff.mpr (by decide), nm_e (nm_e (br_f (by decide) ⟨vp_in_iff.mpr (by decide), nm_e (nm_e (br_f (by decide) ⟨vp_in_iff.mpr (by decide), nm_e (nm_e (br_f (by decide) ⟨vp_in_iff.mpr (by decide), nm_e (nm_e (br_f (by decide) ⟨vp_in_iff.mpr (by decide), nm_e (nm_e (br_t (by decide) ⟨6, cm_sy2 h⟩))⟩))⟩))⟩))⟩))⟩))⟩))⟩))⟩
theorem cm_zs0 (spc : Nat → Int32) : cm_zs spc 0 = 0 := rfl
theorem cm_zs1 (spc : Nat → Int32) : cm_zs spc 1 = (-1) := rfl
theorem cm_zs2 (spc : Nat → Int32) : cm_zs spc 2 = 0 := rfl
theorem cm_zs3 (spc : Nat → Int32) : cm_zs spc 3 = 0 := rfl
theorem cm_zs4 (spc : Nat → Int32) : cm_zs spc 4 = 0 := rfl
theorem cm_u0 (i : Nat) : upd (fun _ => 0) i 0 = fun _ => 0 := by
  funext j
  unfold upd
  split
  · rfl
  · rfl
theorem cm_z0 : cm_z (fun _ => 0) = fun _ => 0 := by
  unfold cm_z
  rw [cm_u0, cm_u0, cm_u0, cm_u0, cm_u0, cm_u0, cm_u0, cm_u0]
theorem cm_in0 {c : Nat} : cm_I c 0 1 0 0 0 := ⟨⟨0, by omega, rfl⟩, Or.inl ⟨rfl, rfl⟩, Or.inl rfl, Or.inl rfl⟩
end
section
/-! ===== the relation and what is owed (written by wip/whole/gen3.py) ===== -/
def i_Rel (k : Nat) (u : SX) (v : SY) : Prop := ∃ t, cm_R (100 * k) t u v
theorem cm_lo {j n : Nat} (h : j < n + 1) (hn : n + 1 < 2 ^ 31) : ¬ nI j < 0 ∧ ¬ nI (n + 1) ≤ nI j ∧ ¬ nI n < nI j ∧ vp_in (nI j) (n + 1) := ⟨nI_pos (by omega), nI_ge h hn, nI_nlt (by omega) (by omega), vp_in_nI h hn⟩
theorem i_up {k : Nat} {u : SX} {v : SY} (h : i_Rel k u v) : i_Rel (k + 4) u v := by
  obtain ⟨t, oc, ec, st, pl, inn, otr, pg, kp, mem, reg, out, spc, e1, e2, hI⟩ := h
  exact ⟨t, oc, ec, st, pl, inn, otr, pg, kp, mem, reg, out, spc, e1, e2, cm_Iup hI (by omega)⟩
theorem i_vc0 : wpX_init (fun u => wpY_init (fun v => i_Rel 0 u v)) := by
  refine Exists.intro 9 (cm_sx ?_)
  refine nm_e ⟨0, 0, 0, 0, 0, 1, 0, 0, 0, fun _ => 0, fun _ => 0, fun _ => 0, upd (fun _ => 0) 1 (-1), ?_, rfl, cm_in0⟩
  rw [cm_z0]
  rfl
theorem i_vc_poke {k : Nat} {u : SX} {v : SY} (I : i_Rel k u v) (hk : k + 4 ≤ 2048) (v1 : Int32) (v2 : Int32) : wpX_poke (fun r u' => wpY_poke (fun r' v' => r' = r ∧ i_Rel (k + 4) u' v') v v1 v2) u v1 v2 := by
  obtain ⟨t, oc, ec, st, pl, inn, otr, pg, kp, mem, reg, out, spc, rfl, rfl, hI⟩ := I
  have hJ : cm_I (100 * (k + 4)) oc inn otr pg kp := cm_Iup hI (by omega)
  rcases pk_ix v1 (n := 128) (by decide) with h | h | ⟨j, hj, rfl⟩
  · repeat' (first | exact ⟨rfl, t, oc, ec, st, pl, inn, otr, pg, kp, mem, reg, out, spc, rfl, rfl, hJ⟩ | exact ⟨rfl, t, oc, ec, st, pl, inn, otr, pg, kp, upd mem (nI j).toNatClampNeg v2, reg, out, spc, rfl, rfl, hJ⟩ | refine br_t (by decide) ?_ | refine br_f (by decide) ?_ | refine br_t (by assumption) ?_ | refine br_f (by assumption) ?_ | refine And.intro (by assumption) ?_ | refine nm_e ?_)
  · have h1 : (128 : Int32) ≤ v1 := h
    have h3 : ¬ v1 < (128 : Int32) := Int32.not_lt.mpr h
    obtain ⟨h0, h2⟩ := cm_big (n := 127) (by decide) h
    have h2' : (127 : Int32) < v1 := h2
    repeat' (first | exact ⟨rfl, t, oc, ec, st, pl, inn, otr, pg, kp, mem, reg, out, spc, rfl, rfl, hJ⟩ | exact ⟨rfl, t, oc, ec, st, pl, inn, otr, pg, kp, upd mem (nI j).toNatClampNeg v2, reg, out, spc, rfl, rfl, hJ⟩ | refine br_t (by decide) ?_ | refine br_f (by decide) ?_ | refine br_t (by assumption) ?_ | refine br_f (by assumption) ?_ | refine And.intro (by assumption) ?_ | refine nm_e ?_)
  · obtain ⟨h0, h1, h2, h4⟩ := cm_lo (n := 127) hj (by decide)
    have h1' : ¬ (128 : Int32) ≤ nI j := h1
    have h2' : ¬ (127 : Int32) < nI j := h2
    have h3 : nI j < (128 : Int32) := Int32.not_le.mp h1
    have h4' : vp_in (nI j) 128 := h4
    repeat' (first | exact ⟨rfl, t, oc, ec, st, pl, inn, otr, pg, kp, mem, reg, out, spc, rfl, rfl, hJ⟩ | exact ⟨rfl, t, oc, ec, st, pl, inn, otr, pg, kp, upd mem (nI j).toNatClampNeg v2, reg, out, spc, rfl, rfl, hJ⟩ | refine br_t (by decide) ?_ | refine br_f (by decide) ?_ | refine br_t (by assumption) ?_ | refine br_f (by assumption) ?_ | refine And.intro (by assumption) ?_ | refine nm_e ?_)
theorem i_vc_code {k : Nat} {u : SX} {v : SY} (I : i_Rel k u v) (hk : k + 4 ≤ 2048) (v1 : Int32) (v2 : Int32) (v3 : Int32) : wpX_code (fun r u' => wpY_code (fun r' v' => r' = r ∧ i_Rel (k + 4) u' v') v v1 v2 v3) u v1 v2 v3 := by
  obtain ⟨t, oc, ec, st, pl, inn, otr, pg, kp, mem, reg, out, spc, rfl, rfl, hI⟩ := I
  have hJ : cm_I (100 * (k + 4)) oc inn otr pg kp := cm_Iup hI (by omega)
  rcases pk_ix v1 (n := 128) (by decide) with h | h | ⟨j, hj, rfl⟩
  · repeat' (first | exact ⟨rfl, t, oc, ec, st, pl, inn, otr, pg, kp, mem, reg, out, spc, rfl, rfl, hJ⟩ | refine br_t (by decide) ?_ | refine br_f (by decide) ?_ | refine br_t (by assumption) ?_ | refine br_f (by assumption) ?_ | refine And.intro (by assumption) ?_ | refine nm_e ?_)
  · have h1 : (128 : Int32) ≤ v1 := h
    have h3 : ¬ v1 < (128 : Int32) := Int32.not_lt.mpr h
    obtain ⟨h0, h2⟩ := cm_big (n := 127) (by decide) h
    have h2' : (127 : Int32) < v1 := h2
    repeat' (first | exact ⟨rfl, t, oc, ec, st, pl, inn, otr, pg, kp, mem, reg, out, spc, rfl, rfl, hJ⟩ | refine br_t (by decide) ?_ | refine br_f (by decide) ?_ | refine br_t (by assumption) ?_ | refine br_f (by assumption) ?_ | refine And.intro (by assumption) ?_ | refine nm_e ?_)
  · obtain ⟨h0, h1, h2, h4⟩ := cm_lo (n := 127) hj (by decide)
    have h1' : ¬ (128 : Int32) ≤ nI j := h1
    have h2' : ¬ (127 : Int32) < nI j := h2
    have h3 : nI j < (128 : Int32) := Int32.not_le.mp h1
    have h4' : vp_in (nI j) 128 := h4
    rcases pk_ix v2 (n := 16384) (by decide) with g | g | ⟨i, hi, rfl⟩
    · repeat' (first | exact ⟨rfl, t, oc, ec, st, pl, inn, otr, pg, kp, mem, reg, out, spc, rfl, rfl, hJ⟩ | refine br_t (by decide) ?_ | refine br_f (by decide) ?_ | refine br_t (by assumption) ?_ | refine br_f (by assumption) ?_ | refine And.intro (by assumption) ?_ | refine nm_e ?_)
    · have g1 : ¬ v2 < (16384 : Int32) := Int32.not_lt.mpr g
      obtain ⟨g0, g2⟩ := cm_big (n := 16383) (by decide) g
      have g2' : (16383 : Int32) < v2 := g2
      repeat' (first | exact ⟨rfl, t, oc, ec, st, pl, inn, otr, pg, kp, mem, reg, out, spc, rfl, rfl, hJ⟩ | refine br_t (by decide) ?_ | refine br_f (by decide) ?_ | refine br_t (by assumption) ?_ | refine br_f (by assumption) ?_ | refine And.intro (by assumption) ?_ | refine nm_e ?_)
    · obtain ⟨g0, g1, g2, g4⟩ := cm_lo (n := 16383) hi (by decide)
      have g2' : ¬ (16383 : Int32) < nI i := g2
      have g3 : nI i < (16384 : Int32) := Int32.not_le.mp g1
      repeat' (first | exact ⟨rfl, t, oc, ec, st, pl, inn, otr, pg, kp, upd mem (nI j).toNatClampNeg (nI i ||| (v3 <<< ((14 : Int32) &&& 31))), reg, out, spc, rfl, rfl, hJ⟩ | refine br_t (by decide) ?_ | refine br_f (by decide) ?_ | refine br_t (by assumption) ?_ | refine br_f (by assumption) ?_ | refine And.intro (by assumption) ?_ | refine nm_e ?_)
theorem i_vc_executed {k : Nat} {u : SX} {v : SY} (I : i_Rel k u v) (hk : k + 4 ≤ 2048) : wpX_executed (fun r => wpY_executed (fun r' => r' = r ∧ i_Rel (k + 4) u v) v) u := by
  obtain ⟨t, oc, ec, st, pl, inn, otr, pg, kp, mem, reg, out, spc, rfl, rfl, hI⟩ := I
  have hJ : cm_I (100 * (k + 4)) oc inn otr pg kp := cm_Iup hI (by omega)
  exact ⟨rfl, t, oc, ec, st, pl, inn, otr, pg, kp, mem, reg, out, spc, rfl, rfl, hJ⟩
theorem i_vc_place {k : Nat} {u : SX} {v : SY} (I : i_Rel k u v) (hk : k + 4 ≤ 2048) : wpX_place (fun r => wpY_place (fun r' => r' = r ∧ i_Rel (k + 4) u v) v) u := by
  obtain ⟨t, oc, ec, st, pl, inn, otr, pg, kp, mem, reg, out, spc, rfl, rfl, hI⟩ := I
  have hJ : cm_I (100 * (k + 4)) oc inn otr pg kp := cm_Iup hI (by omega)
  exact ⟨rfl, t, oc, ec, st, pl, inn, otr, pg, kp, mem, reg, out, spc, rfl, rfl, hJ⟩
theorem i_vc_printed {k : Nat} {u : SX} {v : SY} (I : i_Rel k u v) (hk : k + 4 ≤ 2048) : wpX_printed (fun r => wpY_printed (fun r' => r' = r ∧ i_Rel (k + 4) u v) v) u := by
  obtain ⟨t, oc, ec, st, pl, inn, otr, pg, kp, mem, reg, out, spc, rfl, rfl, hI⟩ := I
  have hJ : cm_I (100 * (k + 4)) oc inn otr pg kp := cm_Iup hI (by omega)
  exact ⟨rfl, t, oc, ec, st, pl, inn, otr, pg, kp, mem, reg, out, spc, rfl, rfl, hJ⟩
theorem i_vc_peek {k : Nat} {u : SX} {v : SY} (I : i_Rel k u v) (hk : k + 4 ≤ 2048) (v1 : Int32) : wpX_peek (fun r => wpY_peek (fun r' => r' = r ∧ i_Rel (k + 4) u v) v v1) u v1 := by
  obtain ⟨t, oc, ec, st, pl, inn, otr, pg, kp, mem, reg, out, spc, rfl, rfl, hI⟩ := I
  have hJ : cm_I (100 * (k + 4)) oc inn otr pg kp := cm_Iup hI (by omega)
  rcases pk_ix v1 (n := 128) (by decide) with h | h | ⟨j, hj, rfl⟩
  · repeat' (first | exact ⟨rfl, t, oc, ec, st, pl, inn, otr, pg, kp, mem, reg, out, spc, rfl, rfl, hJ⟩ | refine br_t (by decide) ?_ | refine br_f (by decide) ?_ | refine br_t (by assumption) ?_ | refine br_f (by assumption) ?_ | refine And.intro (by assumption) ?_ | refine nm_e ?_)
  · have h1 : (128 : Int32) ≤ v1 := h
    have h3 : ¬ v1 < (128 : Int32) := Int32.not_lt.mpr h
    obtain ⟨h0, h2⟩ := cm_big (n := 127) (by decide) h
    have h2' : (127 : Int32) < v1 := h2
    repeat' (first | exact ⟨rfl, t, oc, ec, st, pl, inn, otr, pg, kp, mem, reg, out, spc, rfl, rfl, hJ⟩ | refine br_t (by decide) ?_ | refine br_f (by decide) ?_ | refine br_t (by assumption) ?_ | refine br_f (by assumption) ?_ | refine And.intro (by assumption) ?_ | refine nm_e ?_)
  · obtain ⟨h0, h1, h2, h4⟩ := cm_lo (n := 127) hj (by decide)
    have h1' : ¬ (128 : Int32) ≤ nI j := h1
    have h2' : ¬ (127 : Int32) < nI j := h2
    have h3 : nI j < (128 : Int32) := Int32.not_le.mp h1
    have h4' : vp_in (nI j) 128 := h4
    repeat' (first | exact ⟨rfl, t, oc, ec, st, pl, inn, otr, pg, kp, mem, reg, out, spc, rfl, rfl, hJ⟩ | refine br_t (by decide) ?_ | refine br_f (by decide) ?_ | refine br_t (by assumption) ?_ | refine br_f (by assumption) ?_ | refine And.intro (by assumption) ?_ | refine nm_e ?_)
theorem i_vc_register {k : Nat} {u : SX} {v : SY} (I : i_Rel k u v) (hk : k + 4 ≤ 2048) (v1 : Int32) : wpX_register (fun r => wpY_register (fun r' => r' = r ∧ i_Rel (k + 4) u v) v v1) u v1 := by
  obtain ⟨t, oc, ec, st, pl, inn, otr, pg, kp, mem, reg, out, spc, rfl, rfl, hI⟩ := I
  have hJ : cm_I (100 * (k + 4)) oc inn otr pg kp := cm_Iup hI (by omega)
  rcases pk_ix v1 (n := 8) (by decide) with h | h | ⟨j, hj, rfl⟩
  · repeat' (first | exact ⟨rfl, t, oc, ec, st, pl, inn, otr, pg, kp, mem, reg, out, spc, rfl, rfl, hJ⟩ | refine br_t (by decide) ?_ | refine br_f (by decide) ?_ | refine br_t (by assumption) ?_ | refine br_f (by assumption) ?_ | refine And.intro (by assumption) ?_ | refine nm_e ?_)
  · have h1 : (8 : Int32) ≤ v1 := h
    have h3 : ¬ v1 < (8 : Int32) := Int32.not_lt.mpr h
    obtain ⟨h0, h2⟩ := cm_big (n := 7) (by decide) h
    have h2' : (7 : Int32) < v1 := h2
    repeat' (first | exact ⟨rfl, t, oc, ec, st, pl, inn, otr, pg, kp, mem, reg, out, spc, rfl, rfl, hJ⟩ | refine br_t (by decide) ?_ | refine br_f (by decide) ?_ | refine br_t (by assumption) ?_ | refine br_f (by assumption) ?_ | refine And.intro (by assumption) ?_ | refine nm_e ?_)
  · obtain ⟨h0, h1, h2, h4⟩ := cm_lo (n := 7) hj (by decide)
    have h1' : ¬ (8 : Int32) ≤ nI j := h1
    have h2' : ¬ (7 : Int32) < nI j := h2
    have h3 : nI j < (8 : Int32) := Int32.not_le.mp h1
    have h4' : vp_in (nI j) 8 := h4
    repeat' (first | exact ⟨rfl, t, oc, ec, st, pl, inn, otr, pg, kp, mem, reg, out, spc, rfl, rfl, hJ⟩ | refine br_t (by decide) ?_ | refine br_f (by decide) ?_ | refine br_t (by assumption) ?_ | refine br_f (by assumption) ?_ | refine And.intro (by assumption) ?_ | refine nm_e ?_)
theorem i_vc_setRegister {k : Nat} {u : SX} {v : SY} (I : i_Rel k u v) (hk : k + 4 ≤ 2048) (v1 : Int32) (v2 : Int32) : wpX_setRegister (fun r u' => wpY_setRegister (fun r' v' => r' = r ∧ i_Rel (k + 4) u' v') v v1 v2) u v1 v2 := by
  obtain ⟨t, oc, ec, st, pl, inn, otr, pg, kp, mem, reg, out, spc, rfl, rfl, hI⟩ := I
  have hJ : cm_I (100 * (k + 4)) oc inn otr pg kp := cm_Iup hI (by omega)
  rcases pk_ix v1 (n := 8) (by decide) with h | h | ⟨j, hj, rfl⟩
  · repeat' (first | exact ⟨rfl, t, oc, ec, st, pl, inn, otr, pg, kp, mem, reg, out, spc, rfl, rfl, hJ⟩ | exact ⟨rfl, t, oc, ec, st, pl, inn, otr, pg, kp, mem, upd reg (nI j).toNatClampNeg v2, out, spc, rfl, rfl, hJ⟩ | refine br_t (by decide) ?_ | refine br_f (by decide) ?_ | refine br_t (by assumption) ?_ | refine br_f (by assumption) ?_ | refine And.intro (by assumption) ?_ | refine nm_e ?_)
  · have h1 : (8 : Int32) ≤ v1 := h
    have h3 : ¬ v1 < (8 : Int32) := Int32.not_lt.mpr h
    obtain ⟨h0, h2⟩ := cm_big (n := 7) (by decide) h
    have h2' : (7 : Int32) < v1 := h2
    repeat' (first | exact ⟨rfl, t, oc, ec, st, pl, inn, otr, pg, kp, mem, reg, out, spc, rfl, rfl, hJ⟩ | exact ⟨rfl, t, oc, ec, st, pl, inn, otr, pg, kp, mem, upd reg (nI j).toNatClampNeg v2, out, spc, rfl, rfl, hJ⟩ | refine br_t (by decide) ?_ | refine br_f (by decide) ?_ | refine br_t (by assumption) ?_ | refine br_f (by assumption) ?_ | refine And.intro (by assumption) ?_ | refine nm_e ?_)
  · obtain ⟨h0, h1, h2, h4⟩ := cm_lo (n := 7) hj (by decide)
    have h1' : ¬ (8 : Int32) ≤ nI j := h1
    have h2' : ¬ (7 : Int32) < nI j := h2
    have h3 : nI j < (8 : Int32) := Int32.not_le.mp h1
    have h4' : vp_in (nI j) 8 := h4
    repeat' (first | exact ⟨rfl, t, oc, ec, st, pl, inn, otr, pg, kp, mem, reg, out, spc, rfl, rfl, hJ⟩ | exact ⟨rfl, t, oc, ec, st, pl, inn, otr, pg, kp, mem, upd reg (nI j).toNatClampNeg v2, out, spc, rfl, rfl, hJ⟩ | refine br_t (by decide) ?_ | refine br_f (by decide) ?_ | refine br_t (by assumption) ?_ | refine br_f (by assumption) ?_ | refine And.intro (by assumption) ?_ | refine nm_e ?_)
theorem i_vc_level {k : Nat} {u : SX} {v : SY} (I : i_Rel k u v) (hk : k + 4 ≤ 2048) (v1 : Int32) : wpX_level (fun r => wpY_level (fun r' => r' = r ∧ i_Rel (k + 4) u v) v v1) u v1 := by
  obtain ⟨t, oc, ec, st, pl, inn, otr, pg, kp, mem, reg, out, spc, rfl, rfl, hI⟩ := I
  have hJ : cm_I (100 * (k + 4)) oc inn otr pg kp := cm_Iup hI (by omega)
  have b0 : narrow .boolean (.int (0 : Int32)) = .int 0 := by decide
  have b1 : narrow .boolean (.int (1 : Int32)) = .int 1 := by decide
  rcases pk_ix v1 (n := 3) (by decide) with h | h | ⟨j, hj, rfl⟩
  · repeat' (first | exact ⟨rfl, t, oc, ec, st, pl, inn, otr, pg, kp, mem, reg, out, spc, rfl, rfl, hJ⟩ | refine br_t (by decide) ?_ | refine br_f (by decide) ?_ | refine br_t (by assumption) ?_ | refine br_f (by assumption) ?_ | refine And.intro (by assumption) ?_ | refine nm_e ?_)
  · have h1 : (3 : Int32) ≤ v1 := h
    have h3 : ¬ v1 < (3 : Int32) := Int32.not_lt.mpr h
    obtain ⟨h0, h2⟩ := cm_big (n := 2) (by decide) h
    have h2' : (2 : Int32) < v1 := h2
    repeat' (first | exact ⟨rfl, t, oc, ec, st, pl, inn, otr, pg, kp, mem, reg, out, spc, rfl, rfl, hJ⟩ | refine br_t (by decide) ?_ | refine br_f (by decide) ?_ | refine br_t (by assumption) ?_ | refine br_f (by assumption) ?_ | refine And.intro (by assumption) ?_ | refine nm_e ?_)
  · obtain ⟨h0, h1, h2, h4⟩ := cm_lo (n := 2) hj (by decide)
    have h1' : ¬ (3 : Int32) ≤ nI j := h1
    have h2' : ¬ (2 : Int32) < nI j := h2
    have h3 : nI j < (3 : Int32) := Int32.not_le.mp h1
    have h4' : vp_in (nI j) 3 := h4
    repeat' (first | exact ⟨rfl, t, oc, ec, st, pl, inn, otr, pg, kp, mem, reg, out, spc, rfl, rfl, hJ⟩ | refine br_t (by decide) ?_ | refine br_f (by decide) ?_ | refine br_t (by assumption) ?_ | refine br_f (by assumption) ?_ | refine And.intro (by assumption) ?_ | refine nm_e ?_)
theorem i_vc_look {k : Nat} {u : SX} {v : SY} (I : i_Rel k u v) (hk : k + 4 ≤ 2048) (v1 : Int32) : wpX_look (fun r => wpY_look (fun r' => r' = r ∧ i_Rel (k + 4) u v) v v1) u v1 := by
  obtain ⟨t, oc, ec, st, pl, inn, otr, pg, kp, mem, reg, out, spc, rfl, rfl, hI⟩ := I
  have hJ : cm_I (100 * (k + 4)) oc inn otr pg kp := cm_Iup hI (by omega)
  rcases pk_ix v1 (n := 8) (by decide) with h | h | ⟨j, hj, rfl⟩
  · repeat' (first | exact ⟨rfl, t, oc, ec, st, pl, inn, otr, pg, kp, mem, reg, out, spc, rfl, rfl, hJ⟩ | refine br_t (by decide) ?_ | refine br_f (by decide) ?_ | refine br_t (by assumption) ?_ | refine br_f (by assumption) ?_ | refine And.intro (by assumption) ?_ | refine nm_e ?_)
  · have h1 : (8 : Int32) ≤ v1 := h
    have h3 : ¬ v1 < (8 : Int32) := Int32.not_lt.mpr h
    obtain ⟨h0, h2⟩ := cm_big (n := 7) (by decide) h
    have h2' : (7 : Int32) < v1 := h2
    repeat' (first | exact ⟨rfl, t, oc, ec, st, pl, inn, otr, pg, kp, mem, reg, out, spc, rfl, rfl, hJ⟩ | refine br_t (by decide) ?_ | refine br_f (by decide) ?_ | refine br_t (by assumption) ?_ | refine br_f (by assumption) ?_ | refine And.intro (by assumption) ?_ | refine nm_e ?_)
  · obtain ⟨h0, h1, h2, h4⟩ := cm_lo (n := 7) hj (by decide)
    have h1' : ¬ (8 : Int32) ≤ nI j := h1
    have h2' : ¬ (7 : Int32) < nI j := h2
    have h3 : nI j < (8 : Int32) := Int32.not_le.mp h1
    have h4' : vp_in (nI j) 8 := h4
    match j, hj with
    | 0, _ =>
      have h5 : vp_in (nI 0) 5 := vp_in_nI (by decide) (by decide)
      repeat' (first | exact ⟨rfl, t, oc, ec, st, pl, inn, otr, pg, kp, mem, reg, out, spc, rfl, rfl, hJ⟩ | refine br_t (by decide) ?_ | refine br_f (by decide) ?_ | refine br_t (by assumption) ?_ | refine br_f (by assumption) ?_ | refine And.intro (by assumption) ?_ | refine nm_e ?_)
    | 1, _ =>
      have h5 : vp_in (nI 1) 5 := vp_in_nI (by decide) (by decide)
      repeat' (first | exact ⟨rfl, t, oc, ec, st, pl, inn, otr, pg, kp, mem, reg, out, spc, rfl, rfl, hJ⟩ | refine br_t (by decide) ?_ | refine br_f (by decide) ?_ | refine br_t (by assumption) ?_ | refine br_f (by assumption) ?_ | refine And.intro (by assumption) ?_ | refine nm_e ?_)
    | 2, _ =>
      have h5 : vp_in (nI 2) 5 := vp_in_nI (by decide) (by decide)
      repeat' (first | exact ⟨rfl, t, oc, ec, st, pl, inn, otr, pg, kp, mem, reg, out, spc, rfl, rfl, hJ⟩ | refine br_t (by decide) ?_ | refine br_f (by decide) ?_ | refine br_t (by assumption) ?_ | refine br_f (by assumption) ?_ | refine And.intro (by assumption) ?_ | refine nm_e ?_)
    | 3, _ =>
      have h5 : vp_in (nI 3) 5 := vp_in_nI (by decide) (by decide)
      repeat' (first | exact ⟨rfl, t, oc, ec, st, pl, inn, otr, pg, kp, mem, reg, out, spc, rfl, rfl, hJ⟩ | refine br_t (by decide) ?_ | refine br_f (by decide) ?_ | refine br_t (by assumption) ?_ | refine br_f (by assumption) ?_ | refine And.intro (by assumption) ?_ | refine nm_e ?_)
    | 4, _ =>
      have h5 : vp_in (nI 4) 5 := vp_in_nI (by decide) (by decide)
      repeat' (first | exact ⟨rfl, t, oc, ec, st, pl, inn, otr, pg, kp, mem, reg, out, spc, rfl, rfl, hJ⟩ | refine br_t (by decide) ?_ | refine br_f (by decide) ?_ | refine br_t (by assumption) ?_ | refine br_f (by assumption) ?_ | refine And.intro (by assumption) ?_ | refine nm_e ?_)
    | 5, _ =>
      rcases hI.2.1 with ⟨rfl, rfl⟩ | ⟨rfl, rfl⟩
      · repeat' (first | exact ⟨rfl, t, oc, ec, st, pl, _, _, _, _, mem, reg, out, spc, rfl, rfl, hJ⟩ | refine br_t (by decide) ?_ | refine br_f (by decide) ?_ | refine br_t (by assumption) ?_ | refine br_f (by assumption) ?_ | refine And.intro (by assumption) ?_ | refine nm_e ?_)
      · repeat' (first | exact ⟨rfl, t, oc, ec, st, pl, _, _, _, _, mem, reg, out, spc, rfl, rfl, hJ⟩ | refine br_t (by decide) ?_ | refine br_f (by decide) ?_ | refine br_t (by assumption) ?_ | refine br_f (by assumption) ?_ | refine And.intro (by assumption) ?_ | refine nm_e ?_)
    | 6, _ =>
      rcases hI.2.2.1 with rfl | rfl
      · repeat' (first | exact ⟨rfl, t, oc, ec, st, pl, _, _, _, _, mem, reg, out, spc, rfl, rfl, hJ⟩ | refine br_t (by decide) ?_ | refine br_f (by decide) ?_ | refine br_t (by assumption) ?_ | refine br_f (by assumption) ?_ | refine And.intro (by assumption) ?_ | refine nm_e ?_)
      · repeat' (first | exact ⟨rfl, t, oc, ec, st, pl, _, _, _, _, mem, reg, out, spc, rfl, rfl, hJ⟩ | refine br_t (by decide) ?_ | refine br_f (by decide) ?_ | refine br_t (by assumption) ?_ | refine br_f (by assumption) ?_ | refine And.intro (by assumption) ?_ | refine nm_e ?_)
    | 7, _ =>
      rcases hI.2.2.2 with rfl | rfl
      · repeat' (first | exact ⟨rfl, t, oc, ec, st, pl, _, _, _, _, mem, reg, out, spc, rfl, rfl, hJ⟩ | refine br_t (by decide) ?_ | refine br_f (by decide) ?_ | refine br_t (by assumption) ?_ | refine br_f (by assumption) ?_ | refine And.intro (by assumption) ?_ | refine nm_e ?_)
      · repeat' (first | exact ⟨rfl, t, oc, ec, st, pl, _, _, _, _, mem, reg, out, spc, rfl, rfl, hJ⟩ | refine br_t (by decide) ?_ | refine br_f (by decide) ?_ | refine br_t (by assumption) ?_ | refine br_f (by assumption) ?_ | refine And.intro (by assumption) ?_ | refine nm_e ?_)
    | j + 8, hj => omega
theorem i_vc_translated {k : Nat} {u : SX} {v : SY} (I : i_Rel k u v) (hk : k + 4 ≤ 2048) (v1 : Int32) : wpX_translated (fun r => wpY_translated (fun r' => r' = r ∧ i_Rel (k + 4) u v) v v1) u v1 := by
  obtain ⟨t, oc, ec, st, pl, inn, otr, pg, kp, mem, reg, out, spc, rfl, rfl, hI⟩ := I
  have hJ : cm_I (100 * (k + 4)) oc inn otr pg kp := cm_Iup hI (by omega)
  obtain ⟨r, hr, hX, hY⟩ := cm_tr (oc := oc) (ec := ec) (st := st) (pl := pl) (inn := inn) (otr := otr) (pg := pg) (kp := kp) (t := t) (mem := mem) (reg := reg) (out := out) (spc := spc) v1 0
  exact hX _ (hY _ ⟨rfl, t, oc, ec, st, pl, inn, otr, pg, kp, mem, reg, out, spc, rfl, rfl, hJ⟩)
theorem i_vc_output {k : Nat} {u : SX} {v : SY} (I : i_Rel k u v) (hk : k + 4 ≤ 2048) (v1 : Int32) : wpX_output (fun r => wpY_output (fun r' => r' = r ∧ i_Rel (k + 4) u v) v v1) u v1 := by
  obtain ⟨t, oc, ec, st, pl, inn, otr, pg, kp, mem, reg, out, spc, rfl, rfl, hI⟩ := I
  have hJ : cm_I (100 * (k + 4)) oc inn otr pg kp := cm_Iup hI (by omega)
  rcases pk_ix v1 (n := 20) (by decide) with h | h | ⟨j, hj, rfl⟩
  · repeat' (first | exact ⟨rfl, t, oc, ec, st, pl, inn, otr, pg, kp, mem, reg, out, spc, rfl, rfl, hJ⟩ | refine br_t (by decide) ?_ | refine br_f (by decide) ?_ | refine br_t (by assumption) ?_ | refine br_f (by assumption) ?_ | refine And.intro (by assumption) ?_ | refine nm_e ?_)
  · have h1 : (20 : Int32) ≤ v1 := h
    have h3 : ¬ v1 < (20 : Int32) := Int32.not_lt.mpr h
    obtain ⟨h0, h2⟩ := cm_big (n := 19) (by decide) h
    have h2' : (19 : Int32) < v1 := h2
    repeat' (first | exact ⟨rfl, t, oc, ec, st, pl, inn, otr, pg, kp, mem, reg, out, spc, rfl, rfl, hJ⟩ | refine br_t (by decide) ?_ | refine br_f (by decide) ?_ | refine br_t (by assumption) ?_ | refine br_f (by assumption) ?_ | refine And.intro (by assumption) ?_ | refine nm_e ?_)
  · obtain ⟨h0, h1, h2, h4⟩ := cm_lo (n := 19) hj (by decide)
    have h1' : ¬ (20 : Int32) ≤ nI j := h1
    have h2' : ¬ (19 : Int32) < nI j := h2
    have h3 : nI j < (20 : Int32) := Int32.not_le.mp h1
    have h4' : vp_in (nI j) 20 := h4
    by_cases g : nI j < oc
    · have g' : ¬ oc ≤ nI j := Int32.not_le.mpr g
      repeat' (first | exact ⟨rfl, t, oc, ec, st, pl, inn, otr, pg, kp, mem, reg, out, spc, rfl, rfl, hJ⟩ | refine br_t (by decide) ?_ | refine br_f (by decide) ?_ | refine br_t (by assumption) ?_ | refine br_f (by assumption) ?_ | refine And.intro (by assumption) ?_ | refine nm_e ?_)
    · have g' : oc ≤ nI j := Int32.not_lt.mp g
      repeat' (first | exact ⟨rfl, t, oc, ec, st, pl, inn, otr, pg, kp, mem, reg, out, spc, rfl, rfl, hJ⟩ | refine br_t (by decide) ?_ | refine br_f (by decide) ?_ | refine br_t (by assumption) ?_ | refine br_f (by assumption) ?_ | refine And.intro (by assumption) ?_ | refine nm_e ?_)
theorem i_vc_reset {k : Nat} {u : SX} {v : SY} (I : i_Rel k u v) (hk : k + 4 ≤ 2048) (v1 : Int32) : wpX_reset (fun u' => wpY_reset (fun v' => i_Rel (k + 4) u' v') v v1) u v1 := by
  obtain ⟨t, oc, ec, st, pl, inn, otr, pg, kp, mem, reg, out, spc, rfl, rfl, hI⟩ := I
  have hJ : cm_I (100 * (k + 4)) oc inn otr pg kp := cm_Iup hI (by omega)
  refine Exists.intro 9 (cm_sx ?_)
  refine Exists.intro 9 (cm_sy ?_)
  exact ⟨t, 0, 0, 0, v1, 1, 0, 0, 0, mem, cm_z reg, out, cm_zs spc, rfl, rfl, cm_in0⟩
theorem i_vc_run {k : Nat} {u : SX} {v : SY} (I : i_Rel k u v) (hk : k + 4 ≤ 2048) (v1 : Int32) : wpX_run (fun r u' => wpY_run (fun r' v' => r' = r ∧ i_Rel (k + 4) u' v') v v1) u v1 := by
  obtain ⟨t, oc, ec, st, pl, inn, otr, pg, kp, mem, reg, out, spc, rfl, rfl, hI⟩ := I
  have hJ : cm_I (100 * (k + 4)) oc inn otr pg kp := cm_Iup hI (by omega)
  by_cases h0 : 0 ≤ v1
  · by_cases h4 : v1 ≤ 400
    · obtain ⟨m, hm, rfl⟩ := nI_of (x := v1) (Int32.not_lt.mpr h0)
      have h5 : m ≤ 400 := by
        have z : nI m ≤ nI 400 := h4
        rwa [nI_leI hm (by decide)] at z
      obtain ⟨oc', ec', st', pl', inn', otr', pg', kp', t', mem', reg', out', spc', hI', hX, hY⟩ := cm_run m h5 m 0 (100 * k) (by omega) (by omega) oc ec st pl inn otr pg kp t mem reg out spc hI
      exact br_t h4 (Exists.intro (m + 1) (hX _ (br_t h0 (br_t h4 (Exists.intro (m + 1) (hY _ ⟨rfl, t', oc', ec', st', pl', inn', otr', pg', kp', mem', reg', out', spc', rfl, rfl, cm_Iup hI' (by omega)⟩))))))
    · have _u := h4
      obtain ⟨oc', ec', st', pl', inn', otr', pg', kp', t', mem', reg', out', spc', hI', hX, hY⟩ := cm_run 400 (by decide) 400 0 (100 * k) (by omega) (by omega) oc ec st pl inn otr pg kp t mem reg out spc hI
      exact br_f h4 (Exists.intro 401 (hX _ (br_t h0 (br_f h4 (Exists.intro 401 (hY _ ⟨rfl, t', oc', ec', st', pl', inn', otr', pg', kp', mem', reg', out', spc', rfl, rfl, cm_Iup hI' (by omega)⟩))))))
  · have h1 : v1 < 0 := Int32.not_le.mp h0
    have h2 : v1 ≤ 0 := Int32.le_of_lt h1
    have h4 : v1 ≤ 400 := Int32.le_trans h2 (by decide)
    exact br_t h4 (Exists.intro 1 (br_t h2 (br_f h0 (Exists.intro 1 (br_t (by decide) ⟨rfl, t, oc, ec, st, pl, inn, otr, pg, kp, mem, reg, out, spc, rfl, rfl, hJ⟩)))))
end
