/-! ===== Int32 by its bits: bt x i ===== -/
def bt (x : Int32) (i : Nat) : Bool := x.toBitVec.getLsbD i
theorem b_ext {x y : Int32} (h : ∀ i, i < 32 → bt x i = bt y i) : x = y := Int32.toBitVec_inj.mp (BitVec.eq_of_getLsbD_eq (fun i hi => h i hi))
theorem b_or (x y : Int32) (i : Nat) : bt (x ||| y) i = (bt x i || bt y i) := by unfold bt; rw [Int32.toBitVec_or, BitVec.getLsbD_or]
theorem b_and (x y : Int32) (i : Nat) : bt (x &&& y) i = (bt x i && bt y i) := by unfold bt; rw [Int32.toBitVec_and, BitVec.getLsbD_and]
theorem b_xor (x y : Int32) (i : Nat) : bt (x ^^^ y) i = (bt x i ^^ bt y i) := by unfold bt; rw [Int32.toBitVec_xor, BitVec.getLsbD_xor]
theorem b_big {x : Int32} {i : Nat} (h : 32 ≤ i) : bt x i = false := BitVec.getLsbD_of_ge _ _ h
theorem b_255 (i : Nat) : bt 255 i = decide (i < 8) := by
  rcases Nat.lt_or_ge i 32 with h | h
  · exact (by decide +kernel : ∀ i, i < 32 → bt 255 i = decide (i < 8)) i h
  · rw [b_big h, decide_eq_false (by omega)]
theorem b_65535 (i : Nat) : bt 65535 i = decide (i < 16) := by
  rcases Nat.lt_or_ge i 32 with h | h
  · exact (by decide +kernel : ∀ i, i < 32 → bt 65535 i = decide (i < 16)) i h
  · rw [b_big h, decide_eq_false (by omega)]
theorem b_m1 : ∀ i, i < 32 → bt (-1) i = true := by decide +kernel
theorem b_0 (i : Nat) : bt 0 i = false := BitVec.getLsbD_zero
theorem s_l : ∀ n, n < 32 → ((nI n &&& 31).toBitVec.smod 32).toNat = n := by decide +kernel
theorem s_u : ∀ n, n < 32 → (((nI n).toUInt32 &&& Int32.toUInt32 31).toBitVec % 32).toNat = n := by decide +kernel
theorem b_shl (n : Nat) (hn : n < 32) (x : Int32) {i : Nat} (hi : i < 32) : bt (x <<< (nI n &&& 31)) i = (decide (n ≤ i) && bt x (i - n)) := by
  unfold bt
  rw [Int32.toBitVec_shiftLeft]
  show (x.toBitVec <<< ((nI n &&& 31).toBitVec.smod 32).toNat).getLsbD i = _
  rw [s_l n hn, BitVec.getLsbD_shiftLeft]
  rcases Nat.lt_or_ge i n with h | h
  · simp [h, Nat.not_le.mpr h]
  · simp [hi, h, Nat.not_lt.mpr h]
theorem b_ushr (n : Nat) (hn : n < 32) (x : Int32) (i : Nat) : bt ((x.toUInt32 >>> ((nI n).toUInt32 &&& Int32.toUInt32 31)).toInt32) i = bt x (n + i) := by
  show (x.toUInt32 >>> ((nI n).toUInt32 &&& Int32.toUInt32 31)).toBitVec.getLsbD i = x.toUInt32.toBitVec.getLsbD (n + i)
  rw [UInt32.toBitVec_shiftRight]
  show (x.toUInt32.toBitVec >>> (((nI n).toUInt32 &&& Int32.toUInt32 31).toBitVec % 32).toNat).getLsbD i = _
  rw [s_u n hn, BitVec.getLsbD_ushiftRight]
theorem b_sshr (n : Nat) (hn : n < 32) (x : Int32) {i : Nat} (hi : i < 32) : bt (x >>> (nI n &&& 31)) i = if n + i < 32 then bt x (n + i) else bt x 31 := by
  unfold bt
  rw [Int32.toBitVec_shiftRight]
  show (x.toBitVec.sshiftRight ((nI n &&& 31).toBitVec.smod 32).toNat).getLsbD i = _
  rw [s_l n hn, BitVec.getLsbD_sshiftRight, BitVec.msb_eq_getLsbD_last]
  simp [hi]
theorem b_shl8 (x : Int32) {i : Nat} (hi : i < 32) : bt (x <<< ((8 : Int32) &&& 31)) i = (decide (8 ≤ i) && bt x (i - 8)) := b_shl 8 (by omega) x hi
theorem b_shl16 (x : Int32) {i : Nat} (hi : i < 32) : bt (x <<< ((16 : Int32) &&& 31)) i = (decide (16 ≤ i) && bt x (i - 16)) := b_shl 16 (by omega) x hi
theorem b_shl24 (x : Int32) {i : Nat} (hi : i < 32) : bt (x <<< ((24 : Int32) &&& 31)) i = (decide (24 ≤ i) && bt x (i - 24)) := b_shl 24 (by omega) x hi
theorem b_sshr8 (x : Int32) {i : Nat} (hi : i < 32) : bt (x >>> ((8 : Int32) &&& 31)) i = if 8 + i < 32 then bt x (8 + i) else bt x 31 := b_sshr 8 (by omega) x hi

/-! ===== sets of the 16 states as numbers ===== -/
theorem b_shr1 {n : Nat} (hn : n < 32) (x : Int32) : (x >>> (nI n &&& 31)) &&& 1 = if bt x n = true then 1 else 0 := by
  apply b_ext
  intro i hi
  rw [b_and]
  have h1 : bt 1 i = decide (i = 0) := (by decide +kernel : ∀ i, i < 32 → bt 1 i = decide (i = 0)) i hi
  rw [h1, b_sshr n hn x hi]
  by_cases h0 : i = 0
  · subst h0
    simp only [Nat.add_zero, if_pos hn, decide_true, Bool.and_true]
    cases bt x n <;> decide
  · rw [decide_eq_false h0, Bool.and_false]
    cases bt x n
    · exact (b_0 i).symm
    · rw [if_pos rfl, h1, decide_eq_false h0]
theorem b_one {n : Nat} (hn : n < 32) {i : Nat} (hi : i < 32) : bt ((1 : Int32) <<< (nI n &&& 31)) i = decide (i = n) := by
  rw [b_shl n hn 1 hi]
  have h1 : ∀ k, k < 32 → bt 1 k = decide (k = 0) := by decide +kernel
  rw [h1 (i - n) (by omega)]
  by_cases h : i = n
  · subst h; simp
  · by_cases h2 : n ≤ i
    · rw [decide_eq_true h2, decide_eq_false (show ¬ i - n = 0 by omega), decide_eq_false h]; rfl
    · rw [decide_eq_false h2, decide_eq_false h]; rfl
theorem b_not (x : Int32) {i : Nat} (hi : i < 32) : bt (x ^^^ (-1)) i = !bt x i := by
  rw [b_xor, b_m1 i hi]; cases bt x i <;> rfl
/-- the set of those numbers below n that f takes, as a loop lays it -/
def mkN (f : Nat → Bool) : Nat → Int32
  | 0 => 0
  | n + 1 => if f n = true then mkN f n ||| ((1 : Int32) <<< (nI n &&& 31)) else mkN f n
abbrev mk (f : Nat → Bool) : Int32 := mkN f 16
theorem bt_mkN (f : Nat → Bool) : ∀ n, n ≤ 32 → ∀ i, bt (mkN f n) i = (decide (i < n) && f i) := by
  intro n
  induction n with
  | zero => intro _ i; simp [mkN, b_0]
  | succ n ih =>
    intro hn i
    by_cases hi : i < 32
    · unfold mkN
      split
      · rename_i hf
        rw [b_or, ih (by omega) i, b_one (by omega) hi]
        by_cases h : i = n
        · subst h; simp [hf]
        · simp only [decide_eq_false h, Bool.or_false]
          by_cases h2 : i < n
          · simp [h2, Nat.lt_succ_of_lt h2]
          · simp [h2, show ¬ i < n + 1 by omega]
      · rename_i hf
        rw [ih (by omega) i]
        by_cases h : i = n
        · subst h; simp at hf; simp [hf]
        · by_cases h2 : i < n
          · simp [h2, Nat.lt_succ_of_lt h2]
          · simp [h2, show ¬ i < n + 1 by omega]
    · rw [b_big (by omega), decide_eq_false (by omega)]; rfl
theorem bt_mk (f : Nat → Bool) (i : Nat) : bt (mk f) i = (decide (i < 16) && f i) := bt_mkN f 16 (by decide) i
theorem bt_mk' (f : Nat → Bool) {i : Nat} (h : i < 16) : bt (mk f) i = f i := by rw [bt_mk, decide_eq_true h]; rfl
theorem mkN_congr {f g : Nat → Bool} : ∀ n, (∀ i, i < n → f i = g i) → mkN f n = mkN g n := by
  intro n
  induction n with
  | zero => intro _; rfl
  | succ n ih => intro h; unfold mkN; rw [ih (fun i hi => h i (by omega)), h n (by omega)]
theorem mk_congr {f g : Nat → Bool} (h : ∀ i, i < 16 → f i = g i) : mk f = mk g := mkN_congr 16 h
/-- no bit beyond the 16 -/
def is16 (x : Int32) : Prop := ∀ i, 16 ≤ i → bt x i = false
theorem is16_mk (f : Nat → Bool) : is16 (mk f) := fun i hi => by rw [bt_mk, decide_eq_false (by omega)]; rfl
theorem ext16 {x y : Int32} (hx : is16 x) (hy : is16 y) (h : ∀ i, i < 16 → bt x i = bt y i) : x = y := b_ext fun i _ => by
  by_cases hi : i < 16
  · exact h i hi
  · rw [hx i (by omega), hy i (by omega)]
theorem mk_bt {x : Int32} (h : is16 x) : mk (bt x) = x := ext16 (is16_mk _) h fun i hi => bt_mk' _ hi
theorem is16_0 : is16 0 := fun i _ => b_0 i
theorem is16_and {x : Int32} (y : Int32) (h : is16 x) : is16 (x &&& y) := fun i hi => by rw [b_and, h i hi]; rfl
theorem is16_all : is16 65535 := fun i hi => by rw [b_65535, decide_eq_false (by omega)]
theorem eq0_16 {x : Int32} (h : is16 x) : x = 0 ↔ ∀ i, i < 16 → bt x i = false := ⟨fun e i _ => by rw [e]; exact b_0 i, fun q => ext16 h is16_0 fun i hi => by rw [q i hi, b_0]⟩
/-- a number 0 .. 65535 has no bit beyond the 16 -/
theorem is16_rng {x : Int32} (h0 : ¬ x < 0) (h1 : ¬ 65535 < x) : is16 x := by
  obtain ⟨j, hj, rfl⟩ := nI_of h0
  have hj2 : j < 65536 := by
    rcases Nat.lt_or_ge j 65536 with q | q
    · exact q
    · exact absurd (nI_lt (a := 65535) (b := j) (by omega) hj) h1
  intro i hi
  unfold bt
  show (BitVec.ofNat 32 j).getLsbD i = false
  rw [BitVec.getLsbD_ofNat, Nat.testBit_lt_two_pow (Nat.lt_of_lt_of_le hj2 (show 2 ^ 16 ≤ 2 ^ i from Nat.pow_le_pow_right (by decide) hi)), Bool.and_false]
/-- boolean answers -/
def b2i (b : Bool) : Int32 := if b = true then 1 else 0
theorem b2i_nar (b : Bool) : narrow .boolean (.int (b2i b)) = .int (b2i b) := by cases b <;> rfl
theorem b2i_0 {b : Bool} : b2i b = 0 ↔ b = false := by cases b <;> decide
theorem b2i_n0 {b : Bool} : ¬ b2i b = 0 ↔ b = true := by cases b <;> decide
theorem nI_lt16 {x : Int32} {j : Nat} (h : x = nI j) (n : Nat) (hn : n < 2 ^ 31) (hj : j < 2 ^ 31) : (nI n ≤ x) ↔ n ≤ j := by rw [h]; exact nI_leI hn hj
