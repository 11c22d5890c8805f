theorem pk_us {f : Nat → Int32} {k : Nat} {x : Int32} : upd f k x k = x := if_pos rfl
theorem pk_un {f : Nat → Int32} {k j : Nat} {x : Int32} (h : j ≠ k) : upd f k x j = f j := if_neg h
theorem pk_ix (x : Int32) {n : Nat} (hn : n < 2 ^ 31) : x < 0 ∨ nI n ≤ x ∨ ∃ j : Nat, j < n ∧ x = nI j := by
  by_cases h : x < 0
  · exact Or.inl h
  · obtain ⟨j, hj, rfl⟩ := nI_of h
    by_cases h2 : j < n
    · exact Or.inr (Or.inr ⟨j, h2, rfl⟩)
    · exact Or.inr (Or.inl (nI_le (by omega) hj))
theorem pk_le {x y : Int32} {A B : Prop} (a b : Nat) (f : a ≤ b → A) (g : b < a → B) (hx : x = nI a := by rfl) (hy : y = nI b := by rfl) (ha : a < 2 ^ 31 := by omega) (hb : b < 2 ^ 31 := by omega) : (x ≤ y → A) ∧ (¬ x ≤ y → B) := by
  subst hx hy
  rw [nI_leI ha hb]
  exact ⟨f, fun z => g (by omega)⟩
theorem pk_lt {x y : Int32} {A B : Prop} (a b : Nat) (f : a < b → A) (g : b ≤ a → B) (hx : x = nI a := by rfl) (hy : y = nI b := by rfl) (ha : a < 2 ^ 31 := by omega) (hb : b < 2 ^ 31 := by omega) : (x < y → A) ∧ (¬ x < y → B) := by
  subst hx hy
  rw [nI_ltI ha hb]
  exact ⟨f, fun z => g (by omega)⟩
theorem pk_eq {x y : Int32} {A B : Prop} (a b : Nat) (f : a = b → A) (g : a ≠ b → B) (hx : x = nI a := by rfl) (hy : y = nI b := by rfl) (ha : a < 2 ^ 31 := by omega) (hb : b < 2 ^ 31 := by omega) : (x = y → A) ∧ (¬ x = y → B) := by
  subst hx hy
  rw [nI_eq ha hb]
  exact ⟨f, g⟩
theorem pk_in {x : Int32} (n N : Nat) (h : n < N) (hx : x = nI n := by rfl) (hN : N < 2 ^ 31 := by omega) : vp_in x N := by
  subst hx
  exact vp_in_nI h hN
theorem pk_cl {x : Int32} (n : Nat) (hx : x = nI n := by rfl) (h : n < 2 ^ 31 := by omega) : x.toNatClampNeg = n := by
  subst hx
  exact nI_clamp h
theorem pk_tn {n : Nat} (h : n < 2 ^ 32) : (nI n).toBitVec.toNat = n := Nat.mod_eq_of_lt h
theorem pk_and (x : Int32) {m : Int32} (k : Nat) (hm : m.toBitVec.toNat = 2 ^ k - 1) : x &&& m = nI (x.toBitVec.toNat % 2 ^ k) := by
  apply Int32.toBitVec_inj.mp
  apply BitVec.eq_of_toNat_eq
  rw [Int32.toBitVec_and, BitVec.toNat_and, hm, Nat.and_two_pow_sub_one_eq_mod]
  show _ = (BitVec.ofNat 32 _).toNat
  rw [BitVec.toNat_ofNat]
  exact (Nat.mod_eq_of_lt (Nat.lt_of_le_of_lt (Nat.mod_le _ _) x.toBitVec.isLt)).symm
theorem pk_andN {n : Nat} (h : n < 2 ^ 32) {m : Int32} (k : Nat) (hm : m.toBitVec.toNat = 2 ^ k - 1) : nI n &&& m = nI (n % 2 ^ k) := by
  rw [pk_and _ k hm, pk_tn h]
theorem pk_andE (x : Int32) {m : Int32} (k : Nat) (hm : m.toBitVec.toNat = 2 ^ k - 1) : ∃ j : Nat, j < 2 ^ k ∧ x &&& m = nI j := ⟨_, Nat.mod_lt _ (Nat.two_pow_pos k), pk_and x k hm⟩
theorem pk_andIn (x : Int32) {m : Int32} (k : Nat) (hm : m.toBitVec.toNat = 2 ^ k - 1) (hk : k ≤ 30) : vp_in (x &&& m) (2 ^ k) := by
  obtain ⟨j, hj, e⟩ := pk_andE x k hm
  rw [e]
  exact vp_in_nI hj (Nat.lt_of_le_of_lt (Nat.pow_le_pow_right (by decide) hk) (by decide))
theorem pk_shl (a s : Int32) (k : Nat) (hs : (s.toBitVec.smod 32).toNat = k) : (a <<< s).toBitVec.toNat = a.toBitVec.toNat * 2 ^ k % 2 ^ 32 := by
  show (a.toBitVec <<< (s.toBitVec.smod 32).toNat).toNat = _
  rw [hs, BitVec.toNat_shiftLeft, Nat.shiftLeft_eq]
theorem pk_shlN {n : Nat} (s : Int32) (k : Nat) (hs : (s.toBitVec.smod 32).toNat = k) (h : n * 2 ^ k < 2 ^ 32) : nI n <<< s = nI (n * 2 ^ k) := by
  apply Int32.toBitVec_inj.mp
  apply BitVec.eq_of_toNat_eq
  have hn : n < 2 ^ 32 := Nat.lt_of_le_of_lt (Nat.le_mul_of_pos_right n (Nat.two_pow_pos k)) h
  rw [pk_shl _ _ k hs, pk_tn hn, pk_tn h, Nat.mod_eq_of_lt h]
theorem pk_lT {n : Nat} (h : n < 2 ^ 63) : (lN n).toInt = (n : Int) := lg_ofNat_toInt h
theorem pk_lLT {a b : Nat} (ha : a < 2 ^ 63) (hb : b < 2 ^ 63) : lN a < lN b ↔ a < b := by
  rw [Int64.lt_iff_toInt_lt, pk_lT ha, pk_lT hb]; omega
theorem pk_lLE {a b : Nat} (ha : a < 2 ^ 63) (hb : b < 2 ^ 63) : lN a ≤ lN b ↔ a ≤ b := by
  rw [Int64.le_iff_toInt_le, pk_lT ha, pk_lT hb]; omega
theorem pk_lOf {x : Int64} (h : ¬ x < 0) : ∃ k : Nat, k < 2 ^ 63 ∧ x = lN k := by
  rw [Int64.lt_iff_toInt_lt] at h
  have h0 : (0 : Int64).toInt = 0 := by decide
  have hx := Int64.toInt_lt x
  refine ⟨x.toInt.toNat, by omega, Int64.toInt_inj.mp ?_⟩
  rw [pk_lT (by omega)]
  omega
def bt (x : Int32) (i : Nat) : Bool := x.toBitVec.getLsbD i
theorem b_ext {x y : Int32} (h : ∀ i, i < 32 → bt x i = bt y i) : x = y := Int32.toBitVec_inj.mp (BitVec.eq_of_getLsbD_eq (fun i hi => h i hi))
theorem b_and (x y : Int32) (i : Nat) : bt (x &&& y) i = (bt x i && bt y i) := by unfold bt; rw [Int32.toBitVec_and, BitVec.getLsbD_and]
theorem s_l : ∀ n, n < 32 → ((nI n &&& 31).toBitVec.smod 32).toNat = n := by decide +kernel
theorem b_shl (n : Nat) (hn : n < 32) (x : Int32) {i : Nat} (hi : i < 32) : bt (x <<< (nI n &&& 31)) i = (decide (n ≤ i) && bt x (i - n)) := by
  unfold bt
  rw [Int32.toBitVec_shiftLeft]
  show (x.toBitVec <<< ((nI n &&& 31).toBitVec.smod 32).toNat).getLsbD i = _
  rw [s_l n hn, BitVec.getLsbD_shiftLeft]
  rcases Nat.lt_or_ge i n with h | h
  · simp [h, Nat.not_le.mpr h]
  · simp [hi, h, Nat.not_lt.mpr h]
theorem b_sshr (n : Nat) (hn : n < 32) (x : Int32) {i : Nat} (hi : i < 32) : bt (x >>> (nI n &&& 31)) i = if n + i < 32 then bt x (n + i) else bt x 31 := by
  unfold bt
  rw [Int32.toBitVec_shiftRight]
  show (x.toBitVec.sshiftRight ((nI n &&& 31).toBitVec.smod 32).toNat).getLsbD i = _
  rw [s_l n hn, BitVec.getLsbD_sshiftRight, BitVec.msb_eq_getLsbD_last]
  simp [hi]
/-! ===== the page entry: (e & 112) | (p & 15) is 16 * ((e >> 4) & 7) + (p & 15), a place ===== -/
theorem cm_112 : ∀ i, i < 32 → bt 112 i = (decide (4 ≤ i) && bt 7 (i - 4)) := by decide +kernel
theorem cm_hi (e : Int32) : e &&& 112 = ((e >>> ((4 : Int32) &&& 31)) &&& 7) <<< ((4 : Int32) &&& 31) := by
  apply b_ext
  intro i hi
  show bt (e &&& 112) i = bt (((e >>> (nI 4 &&& 31)) &&& 7) <<< (nI 4 &&& 31)) i
  rw [b_shl 4 (by omega) _ hi, b_and, b_and, cm_112 i hi]
  by_cases h : 4 ≤ i
  · rw [b_sshr 4 (by omega) _ (by omega), if_pos (by omega), show 4 + (i - 4) = i by omega, decide_eq_true h]
    rfl
  · rw [decide_eq_false h, Bool.false_and, Bool.false_and, Bool.and_false]
theorem cm_join : ∀ a, a < 8 → ∀ b, b < 16 → (nI (a * 2 ^ 4) ||| nI b = 16 * nI a + nI b ∧ nI (a * 2 ^ 4) ||| nI b = nI (16 * a + b)) := by decide +kernel
theorem cm_pg (e p : Int32) : ∃ j : Nat, j < 128 ∧ (e &&& 112) ||| (p &&& 15) = nI j ∧ 16 * ((e >>> ((4 : Int32) &&& 31)) &&& 7) + (p &&& 15) = nI j := by
  obtain ⟨a, ha, ea⟩ := pk_andE (e >>> ((4 : Int32) &&& 31)) (m := 7) 3 (by decide)
  obtain ⟨b, hb, eb⟩ := pk_andE p (m := 15) 4 (by decide)
  have ha' : a < 8 := ha
  have hb' : b < 16 := hb
  have h := cm_join a ha' b hb'
  rw [cm_hi, ea, eb, pk_shlN ((4 : Int32) &&& 31) 4 (by decide) (by omega)]
  exact ⟨16 * a + b, by omega, h.2, h.1.symm.trans h.2⟩
theorem cm_127 {j : Nat} (h : j < 128) : nI j &&& 127 = nI j := by
  rw [pk_andN (by omega) 7 (by decide), show (2 : Nat) ^ 7 = 128 from rfl, Nat.mod_eq_of_lt h]
theorem cm_31 (w : Int32) : ∃ j : Nat, j < 32 ∧ w &&& 31 = nI j := pk_andE w 5 (by decide)
theorem cm_7 (w : Int32) : vp_in (w &&& 7) 8 := pk_andIn w 3 (by decide) (by decide)
theorem cm_l0 (n : Nat) : lN n < 0 ↔ lN n < lN 0 := Iff.rfl
/-- a long sum is below 0, beyond 127, or an index -/
theorem cm_ix (e : Int64) : e < 0 ∨ 128 ≤ e ∨ ∃ j : Nat, j < 128 ∧ e = lN j := by
  by_cases h : e < 0
  · exact Or.inl h
  · obtain ⟨k, hk, rfl⟩ := pk_lOf h
    by_cases h2 : k < 128
    · exact Or.inr (Or.inr ⟨k, h2, rfl⟩)
    · exact Or.inr (Or.inl ((pk_lLE (a := 128) (by omega) hk).mpr (by omega)))
theorem cm_lbig {e : Int64} (h : 128 ≤ e) : ¬ e < 0 ∧ ¬ e < 128 ∧ ¬ e ≤ 127 := by
  have z1 := Int64.le_iff_toInt_le.mp h
  have a0 : (0 : Int64).toInt = 0 := by decide
  have a1 : (128 : Int64).toInt = 128 := by decide
  have a2 : (127 : Int64).toInt = 127 := by decide
  refine ⟨fun z => ?_, fun z => ?_, fun z => ?_⟩
  · have z2 := Int64.lt_iff_toInt_lt.mp z
    omega
  · have z2 := Int64.lt_iff_toInt_lt.mp z
    omega
  · have z2 := Int64.le_iff_toInt_le.mp z
    omega
