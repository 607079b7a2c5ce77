theorem pos16 {x : Int32} (h : is16 x) (h0 : ¬ x = 0) : 0 < x := by
  have h31 : bt x 31 = false := h 31 (by decide)
  unfold bt at h31
  have h2 : x.toBitVec.msb = false := by rw [BitVec.msb_eq_getLsbD_last]; exact h31
  have h3 : x.toBitVec.toInt = x.toBitVec.toNat := BitVec.toInt_eq_toNat_of_msb h2
  have h5 : x.toInt = x.toBitVec.toInt := rfl
  have h6 : x.toInt ≠ 0 := fun q => h0 (Int32.toInt_inj.mp (by rw [q]; rfl))
  refine Int32.lt_iff_toInt_lt.mpr ?_
  rw [show (0 : Int32).toInt = 0 from rfl]
  omega
theorem st16 (τ : MS) (C : Nat) : is16 (stR τ C) := by unfold stR; exact is16_mk _
theorem smI_nat {bel dos : Nat → Int32} {k : Nat} (hk : k < 32) : ∀ (c : Nat) (g : Nat → Int32), c + k ≤ 31 → (∃ v, g k = nI v ∧ k ≤ v ∧ v < 32) → (∃ v, smI bel dos k c g k = nI v ∧ k ≤ v ∧ v < 32) ∧ ∀ q, ¬ q = k → smI bel dos k c g q = g q := by
  intro c
  induction c with
  | zero => intro g _ h; exact ⟨h, fun _ _ => rfl⟩
  | succ c ih =>
    intro g hc h
    obtain ⟨i1, i2⟩ := ih g (by omega) h
    unfold smI smS
    split
    · exact ⟨⟨31 - c, upd_eq, by omega, by omega⟩, fun q hq => by rw [upd_ne hq]; exact i2 q hq⟩
    · exact ⟨i1, i2⟩
theorem smO_nat {bel dos g : Nat → Int32} : ∀ c, c ≤ 31 → ∀ k, 32 - c ≤ k → k < 32 → ∃ v, smO bel dos c g k = nI v ∧ k ≤ v ∧ v < 32 := by
  intro c
  induction c with
  | zero => intro _ k h1 h2; omega
  | succ c ih =>
    intro hc k h1 h2
    unfold smO
    obtain ⟨i1, i2⟩ := smI_nat (bel := bel) (dos := dos) (k := 31 - c) (by omega) c (upd (smO bel dos c g) (31 - c) (nI (31 - c))) (by omega) ⟨31 - c, upd_eq, by omega, by omega⟩
    by_cases hq : k = 31 - c
    · rw [hq]; exact i1
    · rw [i2 k hq, upd_ne hq]
      exact ih (by omega) k (by omega) h2
def samN (bel dos g : Nat → Int32) (k : Nat) : Nat := (smO bel dos 31 g k).toInt.toNat
theorem samN_at {bel dos g : Nat → Int32} {k : Nat} (h1 : 1 ≤ k) (h2 : k < 32) : smO bel dos 31 g k = nI (samN bel dos g k) ∧ 1 ≤ samN bel dos g k ∧ samN bel dos g k < 32 := by
  obtain ⟨v, e, v1, v2⟩ := smO_nat (bel := bel) (dos := dos) (g := g) 31 (by omega) k (by omega) h2
  have : samN bel dos g k = v := by unfold samN; rw [e, nI_toInt (by omega)]; rfl
  rw [this]
  exact ⟨e, by omega, v2⟩
section BLD2
variable {us : Nat → Int32 → Bool} {pt : Nat → Int32 → Int32 → Int32} {re : Int32 → Bool} {n : Nat} {b : Int32} {bel dos num : Nat → Int32}
theorem log16 : ∀ k, k < 32 → Nat.log2 k < 4 → k < 16 := by decide +kernel
theorem bldI.dos16 (h : bldI us pt re n b bel dos num 32) (hn : n ≤ 4) {k : Nat} (h1 : 1 ≤ k) (h2 : k < 32) (hb : 0 < bel k) (hd : 0 ≤ dos k) : k < 16 := by
  refine log16 k h2 ?_
  rcases Nat.lt_or_ge n (Nat.log2 k) with z | z
  · rw [h.2.2.1 k h1 h2 z] at hb; exact absurd hb (by decide)
  · obtain ⟨e1, _, _⟩ := h.2.1 k h1 h2 z
    rcases Nat.lt_or_ge (Nat.log2 k) 4 with y | y
    · exact y
    · rw [show n - Nat.log2 k = 0 by omega, show dcO us pt re 0 (bel k) = none by unfold dcO; split <;> rfl] at e1
      rw [e1] at hd
      exact absurd hd (by decide)
theorem bldI.b16 (h : bldI us pt re n b bel dos num 32) (hb : is16 b) (hp : ∀ a, a < 8 → ∀ x w, is16 (pt a x w)) {k : Nat} (h1 : 1 ≤ k) (h2 : k < 32) : is16 (bel k) := by
  rcases Nat.lt_or_ge k 2 with z | z
  · obtain rfl : k = 1 := by omega
    rw [h.1]; exact hb
  · obtain ⟨q1, q2, q3, q4⟩ := log_half k (by omega) z
    rcases Nat.lt_or_ge n (Nat.log2 (k / 2)) with y | y
    · rw [h.2.2.1 k h1 h2 (by omega)]; exact is16_0
    · obtain ⟨e1, e2, e3⟩ := h.2.1 (k / 2) q1 (by omega) y
      have key : ∀ w, is16 (chO pt (bel (k / 2)) w (dcO us pt re (n - Nat.log2 (k / 2)) (bel (k / 2)))) := by
        intro w
        cases hd : dcO us pt re (n - Nat.log2 (k / 2)) (bel (k / 2)) with
        | none => exact is16_0
        | some a => exact hp a (dcO_lt hd).1 _ _
      rcases q4 with x | x
      · rw [x, e2]; exact key 0
      · rw [x, e3]; exact key 1
end BLD2
def bldP (th : Nat → Bool) (ef : Nat → Nat) (n : Nat) (b : Int32) (τ τ2 : MS) (x : Int32) : Prop := ∃ (bel dos num g na nf ns nm : Nat → Int32) (T2 : Nat → Nat → Int32), τ2 = (va_up (va_up τ.1 0 x) 15 (nI (nrun bel dos (samN bel dos g) 31 [1] []).length), T2) ∧ (T2 16 = na ∧ T2 17 = nf ∧ T2 18 = ns) ∧ (∀ k, k < 13 → T2 k = τ.2 k) ∧ T2 30 = τ.2 30 ∧ bldI (usR th τ) (ptR ef τ) (reR τ) n b bel dos num 32 ∧ (nrun bel dos (samN bel dos g) 31 [1] []).length ≤ 31 ∧ ∀ i k, (nrun bel dos (samN bel dos g) 31 [1] [])[i]? = some k → na i = dos k ∧ nf i = (if dos k < 0 ∨ bel (2 * k) = 0 then -1 else nm (samN bel dos g (2 * k))) ∧ ns i = (if dos k < 0 ∨ bel (2 * k + 1) = 0 then -1 else nm (samN bel dos g (2 * k + 1))) ∧ nm (samN bel dos g k) = nI i ∧ (1 ≤ k ∧ k < 32) ∧ 0 < bel k
set_option maxHeartbeats 4000000 in
set_option maxRecDepth 100000 in
/-- build -/
theorem m_build (l : Launch) (dC : Nat → ClassId) (dI : Nat → Nat → Nat) (AB : Nat → Nat) (cI cZ : ClassId) (τ : MS) (sz : Nat) {th : Nat → Bool} {ef : Nat → Nat} (hM : mok th ef τ) {b : Int32} {n : Nat} (hn4 : n ≤ 4) (hsl : slv (usR th τ) (ptR ef τ) (reR τ) n b = true) (hb16 : is16 b) (hp16 : ∀ a, a < 8 → ∀ x w, is16 (ptR ef τ a x w)) :
  Met l yX4_build wsX4_build ({ frames := 7, cells := 0, slots := 0, locals := 300 }) (va_Pc [.ref (AB 0), .int b, .int (nI n)] (mF dC dI AB cI cZ sz τ)) (va_Qv (fun (τ2 : MS) => ∃ (bel dos num g na nf ns nm : Nat → Int32) (T2 : Nat → Nat → Int32), τ2 = (va_up τ.1 15 (nI (nrun bel dos (samN bel dos g) 31 [1] []).length), T2) ∧ (T2 16 = na ∧ T2 17 = nf ∧ T2 18 = ns) ∧ (∀ k, k < 13 → T2 k = τ.2 k) ∧ T2 30 = τ.2 30 ∧ bldI (usR th τ) (ptR ef τ) (reR τ) n b bel dos num 32 ∧ (nrun bel dos (samN bel dos g) 31 [1] []).length ≤ 31 ∧ ∀ i k, (nrun bel dos (samN bel dos g) 31 [1] [])[i]? = some k → na i = dos k ∧ nf i = (if dos k < 0 ∨ bel (2 * k) = 0 then -1 else nm (samN bel dos g (2 * k))) ∧ ns i = (if dos k < 0 ∨ bel (2 * k + 1) = 0 then -1 else nm (samN bel dos g (2 * k + 1))) ∧ nm (samN bel dos g k) = nI i ∧ (1 ≤ k ∧ k < 32) ∧ 0 < bel k) (mB dC dI AB cI cZ (va_A (mW AB cI cZ τ) sz)) (va_A (mW AB cI cZ τ) sz)) 0 0 (va_A (mW AB cI cZ τ) sz) := by
  obtain ⟨sc, ar⟩ := τ
  refine Met.ofW (cc := cX4_build) (maxL := 5) (ret := none) (by decide) rfl ?_
  intro p e s m args below meth c s₁ B hml hv
  obtain ⟨rfl, hsz, hP, hK, hD0⟩ := hv
  have hx := B.exec
  have hb := B.bytes
  have hr := B.returns
  have hts := atoms_spec (ws := wsX4_build) B.pre
  have hown : s.vm.findClass RX4 = some m.cls := findClass_of_methodNamed B.named
  have hlocks := B.notSynchronized
  have hinX4 : ∀ w ∈ wsX40, w ∈ wsX4_build := fun _ h => List.mem_cons_of_mem _ (List.mem_append_right _ h)
  subst hsz
  have hD := hD0.self (sz := s.heap.size)
  generalize hAe : va_A (mW AB cI cZ _) s.heap.size = V at hD ⊢
  have hA : ∀ q : Nat, s.heap.size ≤ q → V q := fun q h => by rw [← hAe]; exact Or.inr h
  have hS : va_S V s.heap s.heap [] := va_S.rf
  have hl := lv_entry ([.ref (AB 0), .int b, .int (nI n)]) (n := 5) (Nat.le_of_ble_eq_true rfl)
  rw [lg_entry_eq]
  generalize (lg_sl ([.ref (AB 0), .int b, .int (nI n)]) ++ List.replicate (5 - (lg_sl ([.ref (AB 0), .int b, .int (nI n)])).length) Slot.unset).toArray = ls at hl ⊢
  have hl : lv_has ls 5 [(0, .ref (AB 0)), (1, .int b), (2, .int (nI n))] := hl
  have hP : va_P (dC, dI) vwCl (mL AB cI cZ sc ar) s.heap := hP
  have hD : va_D V (mL AB cI cZ sc ar) := hD
  refine lv_aload_n hx hb dX4_build_0 rfl (lv_at hl 0 rfl) ?_
  refine va_get (D := (dC, dI)) (ci := 4) (v := .ref (AB 22)) (C := RX4) (T := TX4) (N := 33) hx hb hts hinX4 hown hK hP 0 rfl rfl 22 (by decide) (hts _ (List.mem_of_getElem? (i := 1) rfl)) (fun _ h9 => h9) rfl dX4_build_1 ?_
  refine lv_iconst (v := 1) hx hb dX4_build_4 (by decide) ?_
  refine lv_topi (fun y0 ey0 => ?_)
  obtain rfl : y0 = nI 1 := ey0.trans (rfl)
  refine lv_iload_n hx hb dX4_build_5 rfl (lv_at hl 1 rfl) ?_
  refine va_iast hx hb hK hP hD hS 18 0 rfl rfl (vp_in_nI (show 1 < 64 by omega) (by decide)) dX4_build_6 (fun H locs hP hD hS => ?_)
  rw [nI_clamp (show 1 < 2 ^ 31 by have := (show 1 < 64 by omega); omega)] at hP hD
  have hP : va_P (dC, dI) vwCl (mL AB cI cZ sc (va_up ar 22 (upd (ar 22) 1 b))) H := hP
  have hD : va_D V (mL AB cI cZ sc (va_up ar 22 (upd (ar 22) 1 b))) := hD
  refine lv_iconst (v := 1) hx hb dX4_build_7 (by decide) ?_
  refine lv_istore_n (lv' := [(3, .int 1), (0, .ref (AB 0)), (1, .int b), (2, .int (nI n))]) hx hb dX4_build_8 rfl hl (by decide) rfl (fun ls hl => ?_)
  refine w_loopH (pc := 9) 31 (fun j ls H locs => ∃ xa ya za bel dos num : Nat → Int32, va_P (dC, dI) vwCl (mL AB cI cZ sc (va_up (va_up (va_up (va_up (va_up (va_up ar 19 xa) 20 ya) 21 za) 22 bel) 23 dos) 25 num)) H ∧ va_D V (mL AB cI cZ sc (va_up (va_up (va_up (va_up (va_up (va_up ar 19 xa) 20 ya) 21 za) 22 bel) 23 dos) 25 num)) ∧ va_S V s.heap H locs ∧ bldI (usR th (sc, ar)) (ptR ef (sc, ar)) (reR (sc, ar)) n b bel dos num (j + 1) ∧ lv_has ls 5 [(0, .ref (AB 0)), (1, .int b), (2, .int (nI n)), (3, .int (nI (j + 1)))]) ?_ 0 (Nat.zero_le _) ls _ _ ⟨ar 19, ar 20, ar 21, upd (ar 22) 1 b, ar 23, ar 25, hP, hD, hS, ⟨upd_eq, fun k k1 k2 => absurd k2 (by omega), fun k k1 k2 => absurd k2 (by omega), fun k k1 k2 => absurd k2 (by omega)⟩, lv_sub hl [1, 2, 3, 0] rfl⟩
  intro j ls H locs hk hI ih
  obtain ⟨xa, ya, za, bel, dos, num, hP, hD, hS, hB9, hl⟩ := hI
  refine lv_iload_n hx hb dX4_build_9 rfl (lv_at hl 3 rfl) ?_
  refine lv_bipush (v := 32) hx hb dX4_build_10 (by decide) ?_
  refine lv_icmp_ge (tgt := 68) hx hb dX4_build_12 (by decide) (fun c12_1 => ?_) (fun c12_1 => ?_)
  · skip
    obtain rfl : j = 31 := by have h9 := (nI_leI (a := 32) (b := j + 1) (by decide) (by omega)).mp c12_1; omega
    have hl : lv_has ls 5 [(0, .ref (AB 0)), (1, .int b), (2, .int (nI n)), (3, .int (nI 32))] := hl
    refine lv_bipush (v := 31) hx hb dX4_build_68 (by decide) ?_
    refine lv_topi (fun y2 ey2 => ?_)
    obtain rfl : y2 = nI (31 - 0) := ey2.trans (rfl)
    refine lv_istore_n (lv' := [(3, .int (nI (31 - 0))), (0, .ref (AB 0)), (1, .int b), (2, .int (nI n))]) hx hb dX4_build_70 rfl hl (by decide) rfl (fun ls hl => ?_)
    refine w_loopH (pc := 71) 31 (fun k ls H locs => va_P (dC, dI) vwCl (mL AB cI cZ sc (va_up (va_up (va_up (va_up (va_up (va_up (va_up ar 19 xa) 20 ya) 21 za) 22 bel) 23 dos) 24 (smO bel dos k (ar 24))) 25 num)) H ∧ va_D V (mL AB cI cZ sc (va_up (va_up (va_up (va_up (va_up (va_up (va_up ar 19 xa) 20 ya) 21 za) 22 bel) 23 dos) 24 (smO bel dos k (ar 24))) 25 num)) ∧ va_S V s.heap H locs ∧ lv_has ls 5 [(0, .ref (AB 0)), (3, .int (nI (31 - k)))]) ?_ 0 (Nat.zero_le _) ls _ _ ⟨hP, hD, hS, lv_sub hl [1, 0] rfl⟩
    intro k ls H locs hk2 hI ih2
    obtain ⟨hP, hD, hS, hl⟩ := hI
    refine lv_iload_n hx hb dX4_build_71 rfl (lv_at hl 1 rfl) ?_
    refine lv_if_le (tgt := 153) hx hb dX4_build_72 (by decide) (fun c72_3 => ?_) (fun c72_3 => ?_)
    · skip
      have hk9 : k = 31 := by have h9 := (nI_leI (b := 0) (by omega) (by decide)).mp c72_3; omega
      obtain ⟨smv, hsmv⟩ : ∃ f, f = smO bel dos k (ar 24) := ⟨_, rfl⟩
      rw [← hsmv] at hP hD
      have hsmt : ∀ q, 1 ≤ q → q < 32 → smv q = nI (samN bel dos (ar 24) q) ∧ 1 ≤ samN bel dos (ar 24) q ∧ samN bel dos (ar 24) q < 32 := fun q k1 k2 => by rw [hsmv, hk9]; exact samN_at k1 k2
      clear hsmv
      rw [hk9] at hl
      have hl : lv_has ls 5 [(0, .ref (AB 0)), (3, .int (nI 0))] := hl
      refine lv_aload_n hx hb dX4_build_153 rfl (lv_at hl 0 rfl) ?_
      have h16 : ∀ k, 1 ≤ k → k < 32 → is16 (bel k) := fun k k1 k2 => hB9.b16 hb16 hp16 k1 k2
      have hFc := m_free (τ := (sc, va_up (va_up (va_up (va_up (va_up (va_up (va_up ar 19 xa) 20 ya) 21 za) 22 bel) 23 dos) 24 smv) 25 num)) hD hS hA
      refine va_callv (va_runV (As := []) (rest := []) ⟨hx, hb, hml, hown, hts⟩ (m_number l dC dI AB cI cZ (sc, va_up (va_up (va_up (va_up (va_up (va_up (va_up ar 19 xa) 20 ya) 21 za) 22 bel) 23 dos) 24 smv) 25 num) H.size (samN bel dos (ar 24)) (fun k k1 k2 _ => hsmt k k1 k2) (fun k k1 k2 k3 k4 => hB9.dos16 hn4 k1 k2 k3 k4) (fun k k1 k2 k3 => pos16 (h16 k k1 k2) k3) (fun c c1 c2 => hB9.2.2.2 c c1 c2)) (cwV 0 hts gX4_build_X4_number rfl rfl rfl (by decide +kernel) ⟨Nat.le_of_ble_eq_true rfl, Nat.le_of_ble_eq_true rfl⟩) ⟨bm_F, va_recv hK hP (ci := 4) (q0 := 0) rfl rfl, fun U hU hW => ⟨rfl, by rw [hU], by rw [hU]; exact hP, va_K.moved hW.alike hK, hf_any hD⟩⟩ rfl rfl hl.1 rfl (lv_room (Nat.le_of_ble_eq_true rfl)) dX4_build_154 ⟨Nat.zero_le _, Nat.zero_le _⟩) hS (fun q _ h => hFc q h) hFc (fun u t H locs ht hvm hw hB hz1 hk1 hS => ?_)
      obtain ⟨hP1, hD1⟩ := hB
      rw [ht] at hP1
      obtain ⟨na, nf, ns, nm, wk, rfl, hw⟩ := hw
      have hP : va_P (dC, dI) vwCl (mL AB cI cZ (va_up sc 15 (nI (nrun bel dos (samN bel dos (ar 24)) 31 [1] []).length)) (va_up (va_up (va_up (va_up (va_up (va_up (va_up (va_up (va_up (va_up (va_up ar 16 na) 17 nf) 18 ns) 19 xa) 20 ya) 21 za) 22 bel) 23 dos) 24 smv) 25 nm) 26 wk)) H := hP1
      have hD : va_D V (mL AB cI cZ (va_up sc 15 (nI (nrun bel dos (samN bel dos (ar 24)) 31 [1] []).length)) (va_up (va_up (va_up (va_up (va_up (va_up (va_up (va_up (va_up (va_up (va_up ar 16 na) 17 nf) 18 ns) 19 xa) 20 ya) 21 za) 22 bel) 23 dos) 24 smv) 25 nm) 26 wk)) := hf_weak hD1 hFc
      clear hP1 hD1 hFc
      exact W.vret hx hb hr (fun t ht hW => ⟨⟨(va_up sc 15 (nI (nrun bel dos (samN bel dos (ar 24)) 31 [1] []).length), va_up (va_up (va_up (va_up (va_up (va_up (va_up (va_up (va_up (va_up (va_up ar 16 na) 17 nf) 18 ns) 19 xa) 20 ya) 21 za) 22 bel) 23 dos) 24 smv) 25 nm) 26 wk), rfl, ⟨bel, dos, num, ar 24, na, nf, ns, nm, _, rfl, ⟨rfl, rfl, rfl⟩, (fun k hk => ((frz_sc (frz_up (frz_up (frz_up (frz_up (frz_up (frz_up (frz_up (frz_up (frz_up (frz_up (frz_up frz.rf (by decide)) (by decide)) (by decide)) (by decide)) (by decide)) (by decide)) (by decide)) (by decide)) (by decide)) (by decide)) (by decide)) (by decide)) : frz (va_up sc 15 (nI (nrun bel dos (samN bel dos (ar 24)) 31 [1] []).length), va_up (va_up (va_up (va_up (va_up (va_up (va_up (va_up (va_up (va_up (va_up ar 16 na) 17 nf) 18 ns) 19 xa) 20 ya) 21 za) 22 bel) 23 dos) 24 smv) 25 nm) 26 wk) (sc, ar)).1 k hk), rfl, hB9, hw⟩, by rw [ht]; exact hP, hD⟩, hS.F ht⟩) hS.2.2 dX4_build_157
    · skip
      have hk31 : k < 31 := by rcases Nat.lt_or_ge k 31 with z9 | z9; exact z9; exact absurd (by rw [show 31 - k = 0 by omega]; decide) c72_3
      refine lv_aload_n hx hb dX4_build_75 rfl (lv_at hl 0 rfl) ?_
      refine va_get (D := (dC, dI)) (ci := 4) (v := .ref (AB 24)) (C := RX4) (T := TX4) (N := 33) hx hb hts hinX4 hown hK hP 0 rfl rfl 24 (by decide) (hts _ (List.mem_of_getElem? (i := 3) rfl)) (fun _ h9 => h9) rfl dX4_build_76 ?_
      refine lv_iload_n hx hb dX4_build_79 rfl (lv_at hl 1 rfl) ?_
      refine lv_iload_n hx hb dX4_build_80 rfl (lv_at hl 1 rfl) ?_
      refine va_iast hx hb hK hP hD hS 20 0 rfl rfl (vp_in_nI (show (31 - k) < 64 by omega) (by decide)) dX4_build_81 (fun H locs hP hD hS => ?_)
      rw [nI_clamp (show (31 - k) < 2 ^ 31 by have := (show (31 - k) < 64 by omega); omega)] at hP hD
      have hP : va_P (dC, dI) vwCl (mL AB cI cZ sc (va_up (va_up (va_up (va_up (va_up (va_up (va_up ar 19 xa) 20 ya) 21 za) 22 bel) 23 dos) 24 (upd (smO bel dos k (ar 24)) (31 - k) (nI (31 - k)))) 25 num)) H := hP
      have hD : va_D V (mL AB cI cZ sc (va_up (va_up (va_up (va_up (va_up (va_up (va_up ar 19 xa) 20 ya) 21 za) 22 bel) 23 dos) 24 (upd (smO bel dos k (ar 24)) (31 - k) (nI (31 - k)))) 25 num)) := hD
      refine lv_bipush (v := 31) hx hb dX4_build_82 (by decide) ?_
      refine lv_topi (fun y4 ey4 => ?_)
      obtain rfl : y4 = nI (31 - 0) := ey4.trans (rfl)
      refine lv_istore (lv' := [(4, .int (nI (31 - 0))), (0, .ref (AB 0)), (3, .int (nI (31 - k)))]) hx hb dX4_build_84 hl (by decide) rfl (fun ls hl => ?_)
      refine w_loopH (pc := 86) k (fun i ls H locs => va_P (dC, dI) vwCl (mL AB cI cZ sc (va_up (va_up (va_up (va_up (va_up (va_up (va_up ar 19 xa) 20 ya) 21 za) 22 bel) 23 dos) 24 (smI bel dos (31 - k) i (upd (smO bel dos k (ar 24)) (31 - k) (nI (31 - k))))) 25 num)) H ∧ va_D V (mL AB cI cZ sc (va_up (va_up (va_up (va_up (va_up (va_up (va_up ar 19 xa) 20 ya) 21 za) 22 bel) 23 dos) 24 (smI bel dos (31 - k) i (upd (smO bel dos k (ar 24)) (31 - k) (nI (31 - k))))) 25 num)) ∧ va_S V s.heap H locs ∧ lv_has ls 5 [(0, .ref (AB 0)), (3, .int (nI (31 - k))), (4, .int (nI (31 - i)))]) ?_ 0 (Nat.zero_le _) ls _ _ ⟨hP, hD, hS, lv_sub hl [1, 2, 0] rfl⟩
      intro i ls H locs hk3 hI ih3
      obtain ⟨hP, hD, hS, hl⟩ := hI
      refine lv_iload hx hb dX4_build_86 (lv_at hl 2 rfl) ?_
      refine lv_iload_n hx hb dX4_build_88 rfl (lv_at hl 1 rfl) ?_
      refine lv_icmp_le (tgt := 147) hx hb dX4_build_89 (by decide) (fun c89_5 => ?_) (fun c89_5 => ?_)
      · skip
        have hik : i = k := by have h9 := (nI_leI (by omega) (by omega)).mp c89_5; omega
        rw [hik] at hP hD hl
        obtain ⟨y6, ey6⟩ : ∃ y : Int32, y = (nI (31 - k)) + (-1) := ⟨_, rfl⟩
        refine lv_iinc (v := y6) (lv' := [(3, .int y6), (0, .ref (AB 0)), (4, .int (nI (31 - k)))]) hx hb dX4_build_147 hl (k := 1) rfl (by rw [ey6]; rfl) (by decide) rfl (fun ls hl => ?_)
        obtain rfl : y6 = nI (31 - (k + 1)) := ey6.trans (nI_dn (by omega))
        refine lv_goto (tgt := 71) hx hb dX4_build_150 (by decide) ?_
        exact ih2 ls H locs ⟨hP, hD, hS, lv_sub hl [1, 0] rfl⟩ hk31
      · skip
        have hik : i < k := by rcases Nat.lt_or_ge i k with z9 | z9; exact z9; exact absurd (nI_le (a := 31 - i) (b := 31 - k) (by omega) (by omega)) c89_5
        refine lv_aload_n hx hb dX4_build_92 rfl (lv_at hl 0 rfl) ?_
        refine va_get (D := (dC, dI)) (ci := 4) (v := .ref (AB 22)) (C := RX4) (T := TX4) (N := 33) hx hb hts hinX4 hown hK hP 0 rfl rfl 22 (by decide) (hts _ (List.mem_of_getElem? (i := 1) rfl)) (fun _ h9 => h9) rfl dX4_build_93 ?_
        refine lv_iload_n hx hb dX4_build_96 rfl (lv_at hl 1 rfl) ?_
        refine va_iald hx hb hK hP 18 0 rfl rfl (vp_in_nI (show (31 - k) < 64 by omega) (by decide)) dX4_build_97 ?_
        rw [nI_clamp (show (31 - k) < 2 ^ 31 by have := (show (31 - k) < 64 by omega); omega)]
        refine lv_if_le (tgt := 141) hx hb dX4_build_98 (by decide) (fun c98_7 => ?_) (fun c98_7 => ?_)
        · skip
          obtain ⟨y8, ey8⟩ : ∃ y : Int32, y = (nI (31 - i)) + (-1) := ⟨_, rfl⟩
          refine lv_iinc (v := y8) (lv' := [(4, .int y8), (0, .ref (AB 0)), (3, .int (nI (31 - k)))]) hx hb dX4_build_141 hl (k := 2) rfl (by rw [ey8]; rfl) (by decide) rfl (fun ls hl => ?_)
          obtain rfl : y8 = nI (31 - (i + 1)) := ey8.trans (nI_dn (by omega))
          refine lv_goto (tgt := 86) hx hb dX4_build_144 (by decide) ?_
          have hst : smI bel dos (31 - k) (i + 1) (upd (smO bel dos k (ar 24)) (31 - k) (nI (31 - k))) = smI bel dos (31 - k) i (upd (smO bel dos k (ar 24)) (31 - k) (nI (31 - k))) := if_neg (fun z9 => absurd c98_7 (Int32.not_le.mpr z9.1))
          exact ih3 ls H locs ⟨by rw [hst]; exact hP, by rw [hst]; exact hD, hS, lv_sub hl [1, 2, 0] rfl⟩ hik
        · skip
          refine lv_aload_n hx hb dX4_build_101 rfl (lv_at hl 0 rfl) ?_
          refine va_get (D := (dC, dI)) (ci := 4) (v := .ref (AB 22)) (C := RX4) (T := TX4) (N := 33) hx hb hts hinX4 hown hK hP 0 rfl rfl 22 (by decide) (hts _ (List.mem_of_getElem? (i := 1) rfl)) (fun _ h9 => h9) rfl dX4_build_102 ?_
          refine lv_iload hx hb dX4_build_105 (lv_at hl 2 rfl) ?_
          refine va_iald hx hb hK hP 18 0 rfl rfl (vp_in_nI (show (31 - i) < 64 by omega) (by decide)) dX4_build_107 ?_
          rw [nI_clamp (show (31 - i) < 2 ^ 31 by have := (show (31 - i) < 64 by omega); omega)]
          refine lv_if_le (tgt := 141) hx hb dX4_build_108 (by decide) (fun c108_9 => ?_) (fun c108_9 => ?_)
          · skip
            obtain ⟨y10, ey10⟩ : ∃ y : Int32, y = (nI (31 - i)) + (-1) := ⟨_, rfl⟩
            refine lv_iinc (v := y10) (lv' := [(4, .int y10), (0, .ref (AB 0)), (3, .int (nI (31 - k)))]) hx hb dX4_build_141 hl (k := 2) rfl (by rw [ey10]; rfl) (by decide) rfl (fun ls hl => ?_)
            obtain rfl : y10 = nI (31 - (i + 1)) := ey10.trans (nI_dn (by omega))
            refine lv_goto (tgt := 86) hx hb dX4_build_144 (by decide) ?_
            have hst : smI bel dos (31 - k) (i + 1) (upd (smO bel dos k (ar 24)) (31 - k) (nI (31 - k))) = smI bel dos (31 - k) i (upd (smO bel dos k (ar 24)) (31 - k) (nI (31 - k))) := if_neg (fun z9 => absurd c108_9 (Int32.not_le.mpr z9.2.1))
            exact ih3 ls H locs ⟨by rw [hst]; exact hP, by rw [hst]; exact hD, hS, lv_sub hl [1, 2, 0] rfl⟩ hik
          · skip
            refine lv_aload_n hx hb dX4_build_111 rfl (lv_at hl 0 rfl) ?_
            refine va_get (D := (dC, dI)) (ci := 4) (v := .ref (AB 24)) (C := RX4) (T := TX4) (N := 33) hx hb hts hinX4 hown hK hP 0 rfl rfl 24 (by decide) (hts _ (List.mem_of_getElem? (i := 3) rfl)) (fun _ h9 => h9) rfl dX4_build_112 ?_
            refine lv_iload hx hb dX4_build_115 (lv_at hl 2 rfl) ?_
            refine va_iald hx hb hK hP 20 0 rfl rfl (vp_in_nI (show (31 - i) < 64 by omega) (by decide)) dX4_build_117 ?_
            rw [nI_clamp (show (31 - i) < 2 ^ 31 by have := (show (31 - i) < 64 by omega); omega)]
            refine lv_iload hx hb dX4_build_118 (lv_at hl 2 rfl) ?_
            refine lv_icmp_ne (tgt := 141) hx hb dX4_build_120 (by decide) (fun c120_11 => ?_) (fun c120_11 => ?_)
            · skip
              obtain ⟨y12, ey12⟩ : ∃ y : Int32, y = (nI (31 - i)) + (-1) := ⟨_, rfl⟩
              refine lv_iinc (v := y12) (lv' := [(4, .int y12), (0, .ref (AB 0)), (3, .int (nI (31 - k)))]) hx hb dX4_build_141 hl (k := 2) rfl (by rw [ey12]; rfl) (by decide) rfl (fun ls hl => ?_)
              obtain rfl : y12 = nI (31 - (i + 1)) := ey12.trans (nI_dn (by omega))
              refine lv_goto (tgt := 86) hx hb dX4_build_144 (by decide) ?_
              have hst : smI bel dos (31 - k) (i + 1) (upd (smO bel dos k (ar 24)) (31 - k) (nI (31 - k))) = smI bel dos (31 - k) i (upd (smO bel dos k (ar 24)) (31 - k) (nI (31 - k))) := if_neg (fun z9 => c120_11 z9.2.2.1)
              exact ih3 ls H locs ⟨by rw [hst]; exact hP, by rw [hst]; exact hD, hS, lv_sub hl [1, 2, 0] rfl⟩ hik
            · skip
              refine lv_aload_n hx hb dX4_build_123 rfl (lv_at hl 0 rfl) ?_
              refine lv_iload_n hx hb dX4_build_124 rfl (lv_at hl 1 rfl) ?_
              refine lv_iload hx hb dX4_build_125 (lv_at hl 2 rfl) ?_
              refine vp_callSi (W.runV (As := [.int (nI (31 - k)), .int (nI (31 - i))]) (rest := []) ⟨hx, hb, hml, hown, hts⟩ (m_equal l dC dI AB cI cZ (sc, va_up (va_up (va_up (va_up (va_up (va_up (va_up ar 19 xa) 20 ya) 21 za) 22 bel) 23 dos) 24 (smI bel dos (31 - k) i (upd (smO bel dos k (ar 24)) (31 - k) (nI (31 - k))))) 25 num) (i := 31 - k) (j := 31 - i) (by omega) (by omega)) (cwV 2 hts gX4_build_X4_equal rfl rfl rfl (by decide +kernel) ⟨Nat.le_of_ble_eq_true rfl, Nat.le_of_ble_eq_true rfl⟩) ⟨bm_P, va_recv hK hP (ci := 4) (q0 := 0) rfl rfl, fun U hU hW => ⟨rfl, by rw [hU]; exact hP, va_K.moved hW.alike hK⟩⟩ rfl rfl hl.1 rfl (lv_room (Nat.le_of_ble_eq_true rfl)) dX4_build_127 ⟨Nat.zero_le _, Nat.zero_le _⟩) (fun r er => ?_)
              obtain rfl : r = b2i (eqA bel dos (smI bel dos (31 - k) i (upd (smO bel dos k (ar 24)) (31 - k) (nI (31 - k)))) (31 - k) (31 - i)) := er
              refine lv_if_eq (tgt := 141) hx hb dX4_build_130 (by decide) (fun c130_13 => ?_) (fun c130_13 => ?_)
              · skip
                obtain ⟨y14, ey14⟩ : ∃ y : Int32, y = (nI (31 - i)) + (-1) := ⟨_, rfl⟩
                refine lv_iinc (v := y14) (lv' := [(4, .int y14), (0, .ref (AB 0)), (3, .int (nI (31 - k)))]) hx hb dX4_build_141 hl (k := 2) rfl (by rw [ey14]; rfl) (by decide) rfl (fun ls hl => ?_)
                obtain rfl : y14 = nI (31 - (i + 1)) := ey14.trans (nI_dn (by omega))
                refine lv_goto (tgt := 86) hx hb dX4_build_144 (by decide) ?_
                have hst : smI bel dos (31 - k) (i + 1) (upd (smO bel dos k (ar 24)) (31 - k) (nI (31 - k))) = smI bel dos (31 - k) i (upd (smO bel dos k (ar 24)) (31 - k) (nI (31 - k))) := if_neg (fun z9 => absurd ((b2i_0.mp c130_13).symm.trans z9.2.2.2) (by decide))
                exact ih3 ls H locs ⟨by rw [hst]; exact hP, by rw [hst]; exact hD, hS, lv_sub hl [1, 2, 0] rfl⟩ hik
              · skip
                refine lv_aload_n hx hb dX4_build_133 rfl (lv_at hl 0 rfl) ?_
                refine va_get (D := (dC, dI)) (ci := 4) (v := .ref (AB 24)) (C := RX4) (T := TX4) (N := 33) hx hb hts hinX4 hown hK hP 0 rfl rfl 24 (by decide) (hts _ (List.mem_of_getElem? (i := 3) rfl)) (fun _ h9 => h9) rfl dX4_build_134 ?_
                refine lv_iload_n hx hb dX4_build_137 rfl (lv_at hl 1 rfl) ?_
                refine lv_iload hx hb dX4_build_138 (lv_at hl 2 rfl) ?_
                refine va_iast hx hb hK hP hD hS 20 0 rfl rfl (vp_in_nI (show (31 - k) < 64 by omega) (by decide)) dX4_build_140 (fun H locs hP hD hS => ?_)
                rw [nI_clamp (show (31 - k) < 2 ^ 31 by have := (show (31 - k) < 64 by omega); omega)] at hP hD
                have hP : va_P (dC, dI) vwCl (mL AB cI cZ sc (va_up (va_up (va_up (va_up (va_up (va_up (va_up ar 19 xa) 20 ya) 21 za) 22 bel) 23 dos) 24 (upd (smI bel dos (31 - k) i (upd (smO bel dos k (ar 24)) (31 - k) (nI (31 - k)))) (31 - k) (nI (31 - i)))) 25 num)) H := hP
                have hD : va_D V (mL AB cI cZ sc (va_up (va_up (va_up (va_up (va_up (va_up (va_up ar 19 xa) 20 ya) 21 za) 22 bel) 23 dos) 24 (upd (smI bel dos (31 - k) i (upd (smO bel dos k (ar 24)) (31 - k) (nI (31 - k)))) (31 - k) (nI (31 - i)))) 25 num)) := hD
                obtain ⟨y15, ey15⟩ : ∃ y : Int32, y = (nI (31 - i)) + (-1) := ⟨_, rfl⟩
                refine lv_iinc (v := y15) (lv' := [(4, .int y15), (0, .ref (AB 0)), (3, .int (nI (31 - k)))]) hx hb dX4_build_141 hl (k := 2) rfl (by rw [ey15]; rfl) (by decide) rfl (fun ls hl => ?_)
                obtain rfl : y15 = nI (31 - (i + 1)) := ey15.trans (nI_dn (by omega))
                refine lv_goto (tgt := 86) hx hb dX4_build_144 (by decide) ?_
                have hst : smI bel dos (31 - k) (i + 1) (upd (smO bel dos k (ar 24)) (31 - k) (nI (31 - k))) = upd (smI bel dos (31 - k) i (upd (smO bel dos k (ar 24)) (31 - k) (nI (31 - k)))) (31 - k) (nI (31 - i)) := if_pos ⟨Int32.not_le.mp c98_7, Int32.not_le.mp c108_9, c120_11, b2i_n0.mp c130_13⟩
                exact ih3 ls H locs ⟨by rw [hst]; exact hP, by rw [hst]; exact hD, hS, lv_sub hl [1, 2, 0] rfl⟩ hik
  · skip
    have hj31 : j < 31 := by rcases Nat.lt_or_ge j 31 with z9 | z9; exact z9; exact absurd (nI_le (a := 32) (b := j + 1) (by omega) (by omega)) c12_1
    have hlg5 : Nat.log2 (j + 1) < 5 := (by decide +kernel : ∀ k, k < 32 → Nat.log2 k < 5) (j + 1) (by omega)
    refine lv_iload_n hx hb dX4_build_15 rfl (lv_at hl 3 rfl) ?_
    refine vp_callSi (W.runS (As := [.int (nI (j + 1))]) (rest := []) ⟨hx, hb, hml, hown, hts⟩ (m_depthOf l (k := j + 1) (by omega)) (va_cwS 1 hts gX4_build_X4_depthOf rfl rfl rfl (by decide +kernel) ⟨Nat.le_of_ble_eq_true rfl, Nat.le_of_ble_eq_true rfl⟩) ⟨bl_T, fun U hU hW => ⟨rfl, trivial⟩⟩ rfl rfl hl.1 rfl (lv_room (Nat.le_of_ble_eq_true rfl)) dX4_build_16 ⟨Nat.zero_le _, Nat.zero_le _⟩) (fun r er => ?_)
    obtain rfl : r = nI (Nat.log2 (j + 1)) := er
    refine lv_iload_n hx hb dX4_build_19 rfl (lv_at hl 2 rfl) ?_
    refine lv_icmp_le (tgt := 30) hx hb dX4_build_20 (by decide) (fun c20_16 => ?_) (fun c20_16 => ?_)
    · skip
      have hlog : Nat.log2 (j + 1) ≤ n := (nI_leI (by omega) (by omega)).mp c20_16
      refine lv_iload_n hx hb dX4_build_30 rfl (lv_at hl 3 rfl) ?_
      refine lv_bipush (v := 32) hx hb dX4_build_31 (by decide) ?_
      refine lv_icmp_ge (tgt := 55) hx hb dX4_build_33 (by decide) (fun c33_17 => ?_) (fun c33_17 => ?_)
      · exact absurd ((nI_leI (a := 32) (b := j + 1) (by decide) (by omega)).mp c33_17) (by omega)
      · skip
        refine lv_iload_n hx hb dX4_build_36 rfl (lv_at hl 3 rfl) ?_
        refine vp_callSi (W.runS (As := [.int (nI (j + 1))]) (rest := []) ⟨hx, hb, hml, hown, hts⟩ (m_depthOf l (k := j + 1) (by omega)) (va_cwS 1 hts gX4_build_X4_depthOf rfl rfl rfl (by decide +kernel) ⟨Nat.le_of_ble_eq_true rfl, Nat.le_of_ble_eq_true rfl⟩) ⟨bl_T, fun U hU hW => ⟨rfl, trivial⟩⟩ rfl rfl hl.1 rfl (lv_room (Nat.le_of_ble_eq_true rfl)) dX4_build_37 ⟨Nat.zero_le _, Nat.zero_le _⟩) (fun r er => ?_)
        obtain rfl : r = nI (Nat.log2 (j + 1)) := er
        refine lv_iload_n hx hb dX4_build_40 rfl (lv_at hl 2 rfl) ?_
        refine lv_icmp_gt (tgt := 55) hx hb dX4_build_41 (by decide) (fun c41_18 => ?_) (fun c41_18 => ?_)
        · exact absurd c41_18 (Int32.not_lt.mpr (nI_le hlog (by omega)))
        · skip
          refine lv_aload_n hx hb dX4_build_44 rfl (lv_at hl 0 rfl) ?_
          refine lv_iload_n hx hb dX4_build_45 rfl (lv_at hl 3 rfl) ?_
          refine lv_iload_n hx hb dX4_build_46 rfl (lv_at hl 2 rfl) ?_
          refine lv_iload_n hx hb dX4_build_47 rfl (lv_at hl 3 rfl) ?_
          refine vp_callSi (W.runS (As := [.int (nI (j + 1))]) (rest := [.int (nI n), .int (nI (j + 1)), .ref (AB 0)]) ⟨hx, hb, hml, hown, hts⟩ (m_depthOf l (k := j + 1) (by omega)) (va_cwS 1 hts gX4_build_X4_depthOf rfl rfl rfl (by decide +kernel) ⟨Nat.le_of_ble_eq_true rfl, Nat.le_of_ble_eq_true rfl⟩) ⟨bl_T, fun U hU hW => ⟨rfl, trivial⟩⟩ rfl rfl hl.1 rfl (lv_room (Nat.le_of_ble_eq_true rfl)) dX4_build_48 ⟨Nat.zero_le _, Nat.zero_le _⟩) (fun r er => ?_)
          obtain rfl : r = nI (Nat.log2 (j + 1)) := er
          refine lv_isub hx hb dX4_build_51 ?_
          refine lv_topi (fun y19 ey19 => ?_)
          obtain rfl : y19 = nI (n - Nat.log2 (j + 1)) := ey19.trans (nI_subN hlog)
          have hFc := m_free (τ := (sc, va_up (va_up (va_up (va_up (va_up (va_up ar 19 xa) 20 ya) 21 za) 22 bel) 23 dos) 25 num)) hD hS hA
          refine va_callv (va_runV (As := [.int (nI (j + 1)), .int (nI (n - Nat.log2 (j + 1)))]) (rest := []) ⟨hx, hb, hml, hown, hts⟩ (m_choose l dC dI AB cI cZ (sc, va_up (va_up (va_up (va_up (va_up (va_up ar 19 xa) 20 ya) 21 za) 22 bel) 23 dos) 25 num) H.size ((frz_up (frz_up (frz_up (frz_up (frz_up (frz_up frz.rf (by decide)) (by decide)) (by decide)) (by decide)) (by decide)) (by decide)).mok hM) (k := j + 1) (by omega) (by omega) (n := n - Nat.log2 (j + 1)) (by omega) (by rw [(frz_up (frz_up (frz_up (frz_up (frz_up (frz_up frz.rf (by decide)) (by decide)) (by decide)) (by decide)) (by decide)) (by decide)).us, (frz_up (frz_up (frz_up (frz_up (frz_up (frz_up frz.rf (by decide)) (by decide)) (by decide)) (by decide)) (by decide)) (by decide)).pt, (frz_up (frz_up (frz_up (frz_up (frz_up (frz_up frz.rf (by decide)) (by decide)) (by decide)) (by decide)) (by decide)) (by decide)).re]; exact hB9.sol (by omega) (by omega) hlog hsl)) (cwV 2 hts gX4_build_X4_choose rfl rfl rfl (by decide +kernel) ⟨Nat.le_of_ble_eq_true rfl, Nat.le_of_ble_eq_true rfl⟩) ⟨bm_F, va_recv hK hP (ci := 4) (q0 := 0) rfl rfl, fun U hU hW => ⟨rfl, by rw [hU], by rw [hU]; exact hP, va_K.moved hW.alike hK, hf_any hD⟩⟩ rfl rfl hl.1 rfl (lv_room (Nat.le_of_ble_eq_true rfl)) dX4_build_52 ⟨Nat.zero_le _, Nat.zero_le _⟩) hS (fun q _ h => hFc q h) hFc (fun u t H locs ht hvm hw hB hz1 hk1 hS => ?_)
          obtain ⟨hP1, hD1⟩ := hB
          rw [ht] at hP1
          rw [(frz_up (frz_up (frz_up (frz_up (frz_up (frz_up frz.rf (by decide)) (by decide)) (by decide)) (by decide)) (by decide)) (by decide)).us, (frz_up (frz_up (frz_up (frz_up (frz_up (frz_up frz.rf (by decide)) (by decide)) (by decide)) (by decide)) (by decide)) (by decide)).pt, (frz_up (frz_up (frz_up (frz_up (frz_up (frz_up frz.rf (by decide)) (by decide)) (by decide)) (by decide)) (by decide)) (by decide)).re] at hw
          obtain ⟨xb, yb, zb, rfl⟩ := hw
          have hP : va_P (dC, dI) vwCl (mL AB cI cZ sc (va_up (va_up (va_up (va_up (va_up (va_up ar 19 xb) 20 yb) 21 zb) 22 (upd (upd bel (2 * (j + 1)) (chO (ptR ef (sc, ar)) (bel (j + 1)) 0 (dcO (usR th (sc, ar)) (ptR ef (sc, ar)) (reR (sc, ar)) (n - Nat.log2 (j + 1)) (bel (j + 1))))) (2 * (j + 1) + 1) (chO (ptR ef (sc, ar)) (bel (j + 1)) 1 (dcO (usR th (sc, ar)) (ptR ef (sc, ar)) (reR (sc, ar)) (n - Nat.log2 (j + 1)) (bel (j + 1)))))) 23 (upd dos (j + 1) (o2i (dcO (usR th (sc, ar)) (ptR ef (sc, ar)) (reR (sc, ar)) (n - Nat.log2 (j + 1)) (bel (j + 1)))))) 25 num)) H := hP1
          have hD : va_D V (mL AB cI cZ sc (va_up (va_up (va_up (va_up (va_up (va_up ar 19 xb) 20 yb) 21 zb) 22 (upd (upd bel (2 * (j + 1)) (chO (ptR ef (sc, ar)) (bel (j + 1)) 0 (dcO (usR th (sc, ar)) (ptR ef (sc, ar)) (reR (sc, ar)) (n - Nat.log2 (j + 1)) (bel (j + 1))))) (2 * (j + 1) + 1) (chO (ptR ef (sc, ar)) (bel (j + 1)) 1 (dcO (usR th (sc, ar)) (ptR ef (sc, ar)) (reR (sc, ar)) (n - Nat.log2 (j + 1)) (bel (j + 1)))))) 23 (upd dos (j + 1) (o2i (dcO (usR th (sc, ar)) (ptR ef (sc, ar)) (reR (sc, ar)) (n - Nat.log2 (j + 1)) (bel (j + 1)))))) 25 num)) := hf_weak hD1 hFc
          clear hP1 hD1 hFc
          refine lv_aload_n hx hb dX4_build_55 rfl (lv_at hl 0 rfl) ?_
          refine va_get (D := (dC, dI)) (ci := 4) (v := .ref (AB 25)) (C := RX4) (T := TX4) (N := 33) hx hb hts hinX4 hown hK hP 0 rfl rfl 25 (by decide) (hts _ (List.mem_of_getElem? (i := 2) rfl)) (fun _ h9 => h9) rfl dX4_build_56 ?_
          refine lv_iload_n hx hb dX4_build_59 rfl (lv_at hl 3 rfl) ?_
          refine lv_iconst (v := (-1)) hx hb dX4_build_60 (by decide) ?_
          refine va_iast hx hb hK hP hD hS 21 0 rfl rfl (vp_in_nI (show (j + 1) < 64 by omega) (by decide)) dX4_build_61 (fun H locs hP hD hS => ?_)
          rw [nI_clamp (show (j + 1) < 2 ^ 31 by have := (show (j + 1) < 64 by omega); omega)] at hP hD
          have hP : va_P (dC, dI) vwCl (mL AB cI cZ sc (va_up (va_up (va_up (va_up (va_up (va_up ar 19 xb) 20 yb) 21 zb) 22 (upd (upd bel (2 * (j + 1)) (chO (ptR ef (sc, ar)) (bel (j + 1)) 0 (dcO (usR th (sc, ar)) (ptR ef (sc, ar)) (reR (sc, ar)) (n - Nat.log2 (j + 1)) (bel (j + 1))))) (2 * (j + 1) + 1) (chO (ptR ef (sc, ar)) (bel (j + 1)) 1 (dcO (usR th (sc, ar)) (ptR ef (sc, ar)) (reR (sc, ar)) (n - Nat.log2 (j + 1)) (bel (j + 1)))))) 23 (upd dos (j + 1) (o2i (dcO (usR th (sc, ar)) (ptR ef (sc, ar)) (reR (sc, ar)) (n - Nat.log2 (j + 1)) (bel (j + 1)))))) 25 (upd num (j + 1) (-1)))) H := hP
          have hD : va_D V (mL AB cI cZ sc (va_up (va_up (va_up (va_up (va_up (va_up ar 19 xb) 20 yb) 21 zb) 22 (upd (upd bel (2 * (j + 1)) (chO (ptR ef (sc, ar)) (bel (j + 1)) 0 (dcO (usR th (sc, ar)) (ptR ef (sc, ar)) (reR (sc, ar)) (n - Nat.log2 (j + 1)) (bel (j + 1))))) (2 * (j + 1) + 1) (chO (ptR ef (sc, ar)) (bel (j + 1)) 1 (dcO (usR th (sc, ar)) (ptR ef (sc, ar)) (reR (sc, ar)) (n - Nat.log2 (j + 1)) (bel (j + 1)))))) 23 (upd dos (j + 1) (o2i (dcO (usR th (sc, ar)) (ptR ef (sc, ar)) (reR (sc, ar)) (n - Nat.log2 (j + 1)) (bel (j + 1)))))) 25 (upd num (j + 1) (-1)))) := hD
          obtain ⟨y20, ey20⟩ : ∃ y : Int32, y = (nI (j + 1)) + 1 := ⟨_, rfl⟩
          refine lv_iinc (v := y20) (lv' := [(3, .int y20), (0, .ref (AB 0)), (1, .int b), (2, .int (nI n))]) hx hb dX4_build_62 hl (k := 3) rfl (by rw [ey20]; rfl) (by decide) rfl (fun ls hl => ?_)
          obtain rfl : y20 = nI ((j + 1) + 1) := ey20.trans (nI_1 (j + 1))
          refine lv_goto (tgt := 9) hx hb dX4_build_65 (by decide) ?_
          exact ih ls H locs ⟨xb, yb, zb, (upd (upd bel (2 * (j + 1)) (chO (ptR ef (sc, ar)) (bel (j + 1)) 0 (dcO (usR th (sc, ar)) (ptR ef (sc, ar)) (reR (sc, ar)) (n - Nat.log2 (j + 1)) (bel (j + 1))))) (2 * (j + 1) + 1) (chO (ptR ef (sc, ar)) (bel (j + 1)) 1 (dcO (usR th (sc, ar)) (ptR ef (sc, ar)) (reR (sc, ar)) (n - Nat.log2 (j + 1)) (bel (j + 1))))), (upd dos (j + 1) (o2i (dcO (usR th (sc, ar)) (ptR ef (sc, ar)) (reR (sc, ar)) (n - Nat.log2 (j + 1)) (bel (j + 1))))), (upd num (j + 1) (-1)), hP, hD, hS, hB9.step (by omega) (by omega) hlog, lv_sub hl [1, 2, 3, 0] rfl⟩ (by omega)
    · skip
      have hlog : n < Nat.log2 (j + 1) := Nat.lt_of_not_le fun z9 => c20_16 (nI_le z9 (by omega))
      refine lv_aload_n hx hb dX4_build_23 rfl (lv_at hl 0 rfl) ?_
      refine va_get (D := (dC, dI)) (ci := 4) (v := .ref (AB 22)) (C := RX4) (T := TX4) (N := 33) hx hb hts hinX4 hown hK hP 0 rfl rfl 22 (by decide) (hts _ (List.mem_of_getElem? (i := 1) rfl)) (fun _ h9 => h9) rfl dX4_build_24 ?_
      refine lv_iload_n hx hb dX4_build_27 rfl (lv_at hl 3 rfl) ?_
      refine lv_iconst (v := 0) hx hb dX4_build_28 (by decide) ?_
      refine va_iast hx hb hK hP hD hS 18 0 rfl rfl (vp_in_nI (show (j + 1) < 64 by omega) (by decide)) dX4_build_29 (fun H locs hP hD hS => ?_)
      rw [nI_clamp (show (j + 1) < 2 ^ 31 by have := (show (j + 1) < 64 by omega); omega)] at hP hD
      have hP : va_P (dC, dI) vwCl (mL AB cI cZ sc (va_up (va_up (va_up (va_up (va_up (va_up ar 19 xa) 20 ya) 21 za) 22 (upd bel (j + 1) 0)) 23 dos) 25 num)) H := hP
      have hD : va_D V (mL AB cI cZ sc (va_up (va_up (va_up (va_up (va_up (va_up ar 19 xa) 20 ya) 21 za) 22 (upd bel (j + 1) 0)) 23 dos) 25 num)) := hD
      refine lv_iload_n hx hb dX4_build_30 rfl (lv_at hl 3 rfl) ?_
      refine lv_bipush (v := 32) hx hb dX4_build_31 (by decide) ?_
      refine lv_icmp_ge (tgt := 55) hx hb dX4_build_33 (by decide) (fun c33_21 => ?_) (fun c33_21 => ?_)
      · exact absurd ((nI_leI (a := 32) (b := j + 1) (by decide) (by omega)).mp c33_21) (by omega)
      · skip
        refine lv_iload_n hx hb dX4_build_36 rfl (lv_at hl 3 rfl) ?_
        refine vp_callSi (W.runS (As := [.int (nI (j + 1))]) (rest := []) ⟨hx, hb, hml, hown, hts⟩ (m_depthOf l (k := j + 1) (by omega)) (va_cwS 1 hts gX4_build_X4_depthOf rfl rfl rfl (by decide +kernel) ⟨Nat.le_of_ble_eq_true rfl, Nat.le_of_ble_eq_true rfl⟩) ⟨bl_T, fun U hU hW => ⟨rfl, trivial⟩⟩ rfl rfl hl.1 rfl (lv_room (Nat.le_of_ble_eq_true rfl)) dX4_build_37 ⟨Nat.zero_le _, Nat.zero_le _⟩) (fun r er => ?_)
        obtain rfl : r = nI (Nat.log2 (j + 1)) := er
        refine lv_iload_n hx hb dX4_build_40 rfl (lv_at hl 2 rfl) ?_
        refine lv_icmp_gt (tgt := 55) hx hb dX4_build_41 (by decide) (fun c41_22 => ?_) (fun c41_22 => ?_)
        · skip
          refine lv_aload_n hx hb dX4_build_55 rfl (lv_at hl 0 rfl) ?_
          refine va_get (D := (dC, dI)) (ci := 4) (v := .ref (AB 25)) (C := RX4) (T := TX4) (N := 33) hx hb hts hinX4 hown hK hP 0 rfl rfl 25 (by decide) (hts _ (List.mem_of_getElem? (i := 2) rfl)) (fun _ h9 => h9) rfl dX4_build_56 ?_
          refine lv_iload_n hx hb dX4_build_59 rfl (lv_at hl 3 rfl) ?_
          refine lv_iconst (v := (-1)) hx hb dX4_build_60 (by decide) ?_
          refine va_iast hx hb hK hP hD hS 21 0 rfl rfl (vp_in_nI (show (j + 1) < 64 by omega) (by decide)) dX4_build_61 (fun H locs hP hD hS => ?_)
          rw [nI_clamp (show (j + 1) < 2 ^ 31 by have := (show (j + 1) < 64 by omega); omega)] at hP hD
          have hP : va_P (dC, dI) vwCl (mL AB cI cZ sc (va_up (va_up (va_up (va_up (va_up (va_up ar 19 xa) 20 ya) 21 za) 22 (upd bel (j + 1) 0)) 23 dos) 25 (upd num (j + 1) (-1)))) H := hP
          have hD : va_D V (mL AB cI cZ sc (va_up (va_up (va_up (va_up (va_up (va_up ar 19 xa) 20 ya) 21 za) 22 (upd bel (j + 1) 0)) 23 dos) 25 (upd num (j + 1) (-1)))) := hD
          obtain ⟨y23, ey23⟩ : ∃ y : Int32, y = (nI (j + 1)) + 1 := ⟨_, rfl⟩
          refine lv_iinc (v := y23) (lv' := [(3, .int y23), (0, .ref (AB 0)), (1, .int b), (2, .int (nI n))]) hx hb dX4_build_62 hl (k := 3) rfl (by rw [ey23]; rfl) (by decide) rfl (fun ls hl => ?_)
          obtain rfl : y23 = nI ((j + 1) + 1) := ey23.trans (nI_1 (j + 1))
          refine lv_goto (tgt := 9) hx hb dX4_build_65 (by decide) ?_
          exact ih ls H locs ⟨xa, ya, za, (upd bel (j + 1) 0), dos, (upd num (j + 1) (-1)), hP, hD, hS, hB9.deep (by omega) (by omega) hlog, lv_sub hl [1, 2, 3, 0] rfl⟩ (by omega)
        · exact absurd (nI_lt hlog (by omega)) c41_22
set_option maxHeartbeats 4000000 in
set_option maxRecDepth 100000 in
/-- plan 1 -/
theorem m_plan1 (l : Launch) (dC : Nat → ClassId) (dI : Nat → Nat → Nat) (AB : Nat → Nat) (cI cZ : ClassId) (τ : MS) (sz : Nat) (x : Int32) (h : wiB x 0 4 = false) : Met l yX4_plan wsX4_plan ({ frames := 12, cells := 0, slots := 0, locals := 600 }) (va_Pc [.ref (AB 0), .int x] (mF dC dI AB cI cZ sz τ)) (va_Qi (fun (r : Int32) (τ2 : MS) => r = 0 ∧ τ2 = (va_up τ.1 0 1, τ.2)) (mB dC dI AB cI cZ (va_A (mW AB cI cZ τ) sz)) (va_A (mW AB cI cZ τ) sz)) 0 0 (va_A (mW AB cI cZ τ) sz) := by
  obtain ⟨sc, ar⟩ := τ
  refine Met.ofW (cc := cX4_plan) (maxL := 4) (ret := (some .int)) (by decide) rfl ?_
  intro p e s m args below meth c s₁ B hml hv
  obtain ⟨rfl, hsz, hP, hK, hD0⟩ := hv
  have hx := B.exec
  have hb := B.bytes
  have hr := B.returns
  have hts := atoms_spec (ws := wsX4_plan) B.pre
  have hown : s.vm.findClass RX4 = some m.cls := findClass_of_methodNamed B.named
  have hlocks := B.notSynchronized
  have hinX4 : ∀ w ∈ wsX40, w ∈ wsX4_plan := fun _ h => List.mem_cons_of_mem _ (List.mem_append_right _ h)
  subst hsz
  have hD := hD0.self (sz := s.heap.size)
  generalize hAe : va_A (mW AB cI cZ _) s.heap.size = V at hD ⊢
  have hA : ∀ q : Nat, s.heap.size ≤ q → V q := fun q h => by rw [← hAe]; exact Or.inr h
  have hS : va_S V s.heap s.heap [] := va_S.rf
  have hl := lv_entry ([.ref (AB 0), .int x]) (n := 4) (Nat.le_of_ble_eq_true rfl)
  rw [lg_entry_eq]
  generalize (lg_sl ([.ref (AB 0), .int x]) ++ List.replicate (4 - (lg_sl ([.ref (AB 0), .int x])).length) Slot.unset).toArray = ls at hl ⊢
  have hl : lv_has ls 4 [(0, .ref (AB 0)), (1, .int x)] := hl
  have hP : va_P (dC, dI) vwCl (mL AB cI cZ sc ar) s.heap := hP
  have hD : va_D V (mL AB cI cZ sc ar) := hD
  refine lv_aload_n hx hb dX4_plan_0 rfl (lv_at hl 0 rfl) ?_
  refine lv_iconst (v := 0) hx hb dX4_plan_1 (by decide) ?_
  refine va_put (D := (dC, dI)) (ci := 4) (v := .int 0) (ty := .int) (C := RX4) (T := TX4) (N := 33) hx hb hts hinX4 tyX4 tyX4_ok nmX4 hown hK hP hD hS 0 rfl rfl 0 (by decide) (hts _ (List.mem_of_getElem? (i := 1) rfl)) (fun _ h9 => h9) rfl (by decide +kernel) rfl rfl (Nat.le_of_ble_eq_true rfl) dX4_plan_2 (fun H locs hP hD hS => ?_)
  have hP : va_P (dC, dI) vwCl (mL AB cI cZ (va_up sc 0 0) ar) H := hP
  have hD : va_D V (mL AB cI cZ (va_up sc 0 0) ar) := hD
  refine lv_iload_n hx hb dX4_plan_5 rfl (lv_at hl 1 rfl) ?_
  refine lv_iconst (v := 0) hx hb dX4_plan_6 (by decide) ?_
  refine lv_iconst (v := 4) hx hb dX4_plan_7 (by decide) ?_
  refine vp_callSi (W.runS (As := [.int x, .int 0, .int 4]) (rest := []) ⟨hx, hb, hml, hown, hts⟩ (m_within l x 0 4) (va_cwS 3 hts gX4_plan_X4_within rfl rfl rfl (by decide +kernel) ⟨Nat.le_of_ble_eq_true rfl, Nat.le_of_ble_eq_true rfl⟩) ⟨bl_T, fun U hU hW => ⟨rfl, trivial⟩⟩ rfl rfl hl.1 rfl (lv_room (Nat.le_of_ble_eq_true rfl)) dX4_plan_8 ⟨Nat.zero_le _, Nat.zero_le _⟩) (fun r er => ?_)
  obtain rfl : r = b2i (wiB x 0 4) := er
  refine lv_if_ne (tgt := 20) hx hb dX4_plan_11 (by decide) (fun c11_0 => ?_) (fun c11_0 => ?_)
  · exact absurd ((b2i_n0.mp c11_0).symm.trans h) (by decide)
  · skip
    refine lv_aload_n hx hb dX4_plan_14 rfl (lv_at hl 0 rfl) ?_
    refine lv_iconst (v := 1) hx hb dX4_plan_15 (by decide) ?_
    have hFc := m_free (τ := (va_up sc 0 0, ar)) hD hS hA
    refine va_calli (va_runV (As := [.int 1]) (rest := []) ⟨hx, hb, hml, hown, hts⟩ (m_fail l dC dI AB cI cZ (va_up sc 0 0, ar) H.size 1) (cwV 1 hts gX4_plan_X4_fail rfl rfl rfl (by decide +kernel) ⟨Nat.le_of_ble_eq_true rfl, Nat.le_of_ble_eq_true rfl⟩) ⟨bm_F, va_recv hK hP (ci := 4) (q0 := 0) rfl rfl, fun U hU hW => ⟨rfl, by rw [hU], by rw [hU]; exact hP, va_K.moved hW.alike hK, hf_any hD⟩⟩ rfl rfl hl.1 rfl (lv_room (Nat.le_of_ble_eq_true rfl)) dX4_plan_16 ⟨Nat.zero_le _, Nat.zero_le _⟩) hS (fun q _ h => hFc q h) hFc (fun r u t H locs ht hvm hw hB hz1 hk1 hS => ?_)
    obtain ⟨hP1, hD1⟩ := hB
    rw [ht] at hP1
    obtain ⟨rfl, rfl⟩ := hw
    have hP : va_P (dC, dI) vwCl (mL AB cI cZ (va_up sc 0 1) ar) H := hP1
    have hD : va_D V (mL AB cI cZ (va_up sc 0 1) ar) := hf_weak hD1 hFc
    clear hP1 hD1 hFc
    exact W.iret hx hb hr (fun t ht hW => ⟨⟨_, (va_up sc 0 1, ar), rfl, ⟨rfl, rfl⟩, by rw [ht]; exact hP, hD⟩, hS.F ht⟩) hS.2.2 dX4_plan_19
set_option maxHeartbeats 4000000 in
set_option maxRecDepth 100000 in
/-- plan 2 -/
theorem m_plan2 (l : Launch) (dC : Nat → ClassId) (dI : Nat → Nat → Nat) (AB : Nat → Nat) (cI cZ : ClassId) (τ : MS) (sz : Nat) {th : Nat → Bool} {ef : Nat → Nat} (hM : mok th ef τ) {C : Nat} (hC : τ.1 10 = nI C) (hC6 : C ≤ 6) {q : Nat} (hq : q ≤ 4) (h : stR τ C = 0) : Met l yX4_plan wsX4_plan ({ frames := 12, cells := 0, slots := 0, locals := 600 }) (va_Pc [.ref (AB 0), .int (nI q)] (mF dC dI AB cI cZ sz τ)) (va_Qi (fun (r : Int32) (τ2 : MS) => r = 0 ∧ τ2 = (va_up τ.1 0 2, τ.2)) (mB dC dI AB cI cZ (va_A (mW AB cI cZ τ) sz)) (va_A (mW AB cI cZ τ) sz)) 0 0 (va_A (mW AB cI cZ τ) sz) := by
  obtain ⟨sc, ar⟩ := τ
  refine Met.ofW (cc := cX4_plan) (maxL := 4) (ret := (some .int)) (by decide) rfl ?_
  intro p e s m args below meth c s₁ B hml hv
  obtain ⟨rfl, hsz, hP, hK, hD0⟩ := hv
  have hx := B.exec
  have hb := B.bytes
  have hr := B.returns
  have hts := atoms_spec (ws := wsX4_plan) B.pre
  have hown : s.vm.findClass RX4 = some m.cls := findClass_of_methodNamed B.named
  have hlocks := B.notSynchronized
  have hinX4 : ∀ w ∈ wsX40, w ∈ wsX4_plan := fun _ h => List.mem_cons_of_mem _ (List.mem_append_right _ h)
  subst hsz
  have hD := hD0.self (sz := s.heap.size)
  generalize hAe : va_A (mW AB cI cZ _) s.heap.size = V at hD ⊢
  have hA : ∀ q : Nat, s.heap.size ≤ q → V q := fun q h => by rw [← hAe]; exact Or.inr h
  have hS : va_S V s.heap s.heap [] := va_S.rf
  have hl := lv_entry ([.ref (AB 0), .int (nI q)]) (n := 4) (Nat.le_of_ble_eq_true rfl)
  rw [lg_entry_eq]
  generalize (lg_sl ([.ref (AB 0), .int (nI q)]) ++ List.replicate (4 - (lg_sl ([.ref (AB 0), .int (nI q)])).length) Slot.unset).toArray = ls at hl ⊢
  have hl : lv_has ls 4 [(0, .ref (AB 0)), (1, .int (nI q))] := hl
  have hP : va_P (dC, dI) vwCl (mL AB cI cZ sc ar) s.heap := hP
  have hD : va_D V (mL AB cI cZ sc ar) := hD
  refine lv_aload_n hx hb dX4_plan_0 rfl (lv_at hl 0 rfl) ?_
  refine lv_iconst (v := 0) hx hb dX4_plan_1 (by decide) ?_
  refine va_put (D := (dC, dI)) (ci := 4) (v := .int 0) (ty := .int) (C := RX4) (T := TX4) (N := 33) hx hb hts hinX4 tyX4 tyX4_ok nmX4 hown hK hP hD hS 0 rfl rfl 0 (by decide) (hts _ (List.mem_of_getElem? (i := 1) rfl)) (fun _ h9 => h9) rfl (by decide +kernel) rfl rfl (Nat.le_of_ble_eq_true rfl) dX4_plan_2 (fun H locs hP hD hS => ?_)
  have hP : va_P (dC, dI) vwCl (mL AB cI cZ (va_up sc 0 0) ar) H := hP
  have hD : va_D V (mL AB cI cZ (va_up sc 0 0) ar) := hD
  refine lv_iload_n hx hb dX4_plan_5 rfl (lv_at hl 1 rfl) ?_
  refine lv_iconst (v := 0) hx hb dX4_plan_6 (by decide) ?_
  refine lv_iconst (v := 4) hx hb dX4_plan_7 (by decide) ?_
  refine vp_callSi (W.runS (As := [.int (nI q), .int 0, .int 4]) (rest := []) ⟨hx, hb, hml, hown, hts⟩ (m_within l (nI q) 0 4) (va_cwS 3 hts gX4_plan_X4_within rfl rfl rfl (by decide +kernel) ⟨Nat.le_of_ble_eq_true rfl, Nat.le_of_ble_eq_true rfl⟩) ⟨bl_T, fun U hU hW => ⟨rfl, trivial⟩⟩ rfl rfl hl.1 rfl (lv_room (Nat.le_of_ble_eq_true rfl)) dX4_plan_8 ⟨Nat.zero_le _, Nat.zero_le _⟩) (fun r er => ?_)
  obtain rfl : r = b2i (wiB (nI q) 0 4) := er
  refine lv_if_ne (tgt := 20) hx hb dX4_plan_11 (by decide) (fun c11_0 => ?_) (fun c11_0 => ?_)
  · skip
    refine lv_aload_n hx hb dX4_plan_20 rfl (lv_at hl 0 rfl) ?_
    refine vp_callSi (W.runV (As := []) (rest := []) ⟨hx, hb, hml, hown, hts⟩ (m_startBelief l dC dI AB cI cZ (va_up sc 0 0, ar) (C := C) hC hC6) (cwV 0 hts gX4_plan_X4_startBelief rfl rfl rfl (by decide +kernel) ⟨Nat.le_of_ble_eq_true rfl, Nat.le_of_ble_eq_true rfl⟩) ⟨bm_P, va_recv hK hP (ci := 4) (q0 := 0) rfl rfl, fun U hU hW => ⟨rfl, by rw [hU]; exact hP, va_K.moved hW.alike hK⟩⟩ rfl rfl hl.1 rfl (lv_room (Nat.le_of_ble_eq_true rfl)) dX4_plan_21 ⟨Nat.zero_le _, Nat.zero_le _⟩) (fun r er => ?_)
    obtain rfl : r = stR (sc, ar) C := er.trans (by rw [(frz_sc frz.rf (by decide)).st])
    refine lv_istore_n (lv' := [(2, .int (stR (sc, ar) C)), (0, .ref (AB 0)), (1, .int (nI q))]) hx hb dX4_plan_24 rfl hl (by decide) rfl (fun ls hl => ?_)
    refine lv_iload_n hx hb dX4_plan_25 rfl (lv_at hl 0 rfl) ?_
    refine lv_if_ne (tgt := 35) hx hb dX4_plan_26 (by decide) (fun c26_1 => ?_) (fun c26_1 => ?_)
    · exact absurd h c26_1
    · skip
      refine lv_aload_n hx hb dX4_plan_29 rfl (lv_at hl 1 rfl) ?_
      refine lv_iconst (v := 2) hx hb dX4_plan_30 (by decide) ?_
      have hFc := m_free (τ := (va_up sc 0 0, ar)) hD hS hA
      refine va_calli (va_runV (As := [.int 2]) (rest := []) ⟨hx, hb, hml, hown, hts⟩ (m_fail l dC dI AB cI cZ (va_up sc 0 0, ar) H.size 2) (cwV 1 hts gX4_plan_X4_fail rfl rfl rfl (by decide +kernel) ⟨Nat.le_of_ble_eq_true rfl, Nat.le_of_ble_eq_true rfl⟩) ⟨bm_F, va_recv hK hP (ci := 4) (q0 := 0) rfl rfl, fun U hU hW => ⟨rfl, by rw [hU], by rw [hU]; exact hP, va_K.moved hW.alike hK, hf_any hD⟩⟩ rfl rfl hl.1 rfl (lv_room (Nat.le_of_ble_eq_true rfl)) dX4_plan_31 ⟨Nat.zero_le _, Nat.zero_le _⟩) hS (fun q _ h => hFc q h) hFc (fun r u t H locs ht hvm hw hB hz1 hk1 hS => ?_)
      obtain ⟨hP1, hD1⟩ := hB
      rw [ht] at hP1
      obtain ⟨rfl, rfl⟩ := hw
      have hP : va_P (dC, dI) vwCl (mL AB cI cZ (va_up sc 0 2) ar) H := hP1
      have hD : va_D V (mL AB cI cZ (va_up sc 0 2) ar) := hf_weak hD1 hFc
      clear hP1 hD1 hFc
      exact W.iret hx hb hr (fun t ht hW => ⟨⟨_, (va_up sc 0 2, ar), rfl, ⟨rfl, rfl⟩, by rw [ht]; exact hP, hD⟩, hS.F ht⟩) hS.2.2 dX4_plan_34
  · exact absurd ((b2i_0.mp c11_0).symm.trans (wi_nat (n := 4) (k := q) (by omega) (by decide))) (by decide)
set_option maxHeartbeats 4000000 in
set_option maxRecDepth 100000 in
/-- plan 3 -/
theorem m_plan3 (l : Launch) (dC : Nat → ClassId) (dI : Nat → Nat → Nat) (AB : Nat → Nat) (cI cZ : ClassId) (τ : MS) (sz : Nat) {th : Nat → Bool} {ef : Nat → Nat} (hM : mok th ef τ) {C : Nat} (hC : τ.1 10 = nI C) (hC6 : C ≤ 6) {q : Nat} (hq : q ≤ 4) (h1 : ¬ stR τ C = 0) (h : few (usR th τ) (ptR ef τ) (reR τ) (stR τ C) q = none) : Met l yX4_plan wsX4_plan ({ frames := 12, cells := 0, slots := 0, locals := 600 }) (va_Pc [.ref (AB 0), .int (nI q)] (mF dC dI AB cI cZ sz τ)) (va_Qi (fun (r : Int32) (τ2 : MS) => r = 0 ∧ ∃ x y z : Nat → Int32, τ2 = (va_up τ.1 0 3, va_up (va_up (va_up τ.2 19 x) 20 y) 21 z)) (mB dC dI AB cI cZ (va_A (mW AB cI cZ τ) sz)) (va_A (mW AB cI cZ τ) sz)) 0 0 (va_A (mW AB cI cZ τ) sz) := by
  obtain ⟨sc, ar⟩ := τ
  refine Met.ofW (cc := cX4_plan) (maxL := 4) (ret := (some .int)) (by decide) rfl ?_
  intro p e s m args below meth c s₁ B hml hv
  obtain ⟨rfl, hsz, hP, hK, hD0⟩ := hv
  have hx := B.exec
  have hb := B.bytes
  have hr := B.returns
  have hts := atoms_spec (ws := wsX4_plan) B.pre
  have hown : s.vm.findClass RX4 = some m.cls := findClass_of_methodNamed B.named
  have hlocks := B.notSynchronized
  have hinX4 : ∀ w ∈ wsX40, w ∈ wsX4_plan := fun _ h => List.mem_cons_of_mem _ (List.mem_append_right _ h)
  subst hsz
  have hD := hD0.self (sz := s.heap.size)
  generalize hAe : va_A (mW AB cI cZ _) s.heap.size = V at hD ⊢
  have hA : ∀ q : Nat, s.heap.size ≤ q → V q := fun q h => by rw [← hAe]; exact Or.inr h
  have hS : va_S V s.heap s.heap [] := va_S.rf
  have hl := lv_entry ([.ref (AB 0), .int (nI q)]) (n := 4) (Nat.le_of_ble_eq_true rfl)
  rw [lg_entry_eq]
  generalize (lg_sl ([.ref (AB 0), .int (nI q)]) ++ List.replicate (4 - (lg_sl ([.ref (AB 0), .int (nI q)])).length) Slot.unset).toArray = ls at hl ⊢
  have hl : lv_has ls 4 [(0, .ref (AB 0)), (1, .int (nI q))] := hl
  have hP : va_P (dC, dI) vwCl (mL AB cI cZ sc ar) s.heap := hP
  have hD : va_D V (mL AB cI cZ sc ar) := hD
  refine lv_aload_n hx hb dX4_plan_0 rfl (lv_at hl 0 rfl) ?_
  refine lv_iconst (v := 0) hx hb dX4_plan_1 (by decide) ?_
  refine va_put (D := (dC, dI)) (ci := 4) (v := .int 0) (ty := .int) (C := RX4) (T := TX4) (N := 33) hx hb hts hinX4 tyX4 tyX4_ok nmX4 hown hK hP hD hS 0 rfl rfl 0 (by decide) (hts _ (List.mem_of_getElem? (i := 1) rfl)) (fun _ h9 => h9) rfl (by decide +kernel) rfl rfl (Nat.le_of_ble_eq_true rfl) dX4_plan_2 (fun H locs hP hD hS => ?_)
  have hP : va_P (dC, dI) vwCl (mL AB cI cZ (va_up sc 0 0) ar) H := hP
  have hD : va_D V (mL AB cI cZ (va_up sc 0 0) ar) := hD
  refine lv_iload_n hx hb dX4_plan_5 rfl (lv_at hl 1 rfl) ?_
  refine lv_iconst (v := 0) hx hb dX4_plan_6 (by decide) ?_
  refine lv_iconst (v := 4) hx hb dX4_plan_7 (by decide) ?_
  refine vp_callSi (W.runS (As := [.int (nI q), .int 0, .int 4]) (rest := []) ⟨hx, hb, hml, hown, hts⟩ (m_within l (nI q) 0 4) (va_cwS 3 hts gX4_plan_X4_within rfl rfl rfl (by decide +kernel) ⟨Nat.le_of_ble_eq_true rfl, Nat.le_of_ble_eq_true rfl⟩) ⟨bl_T, fun U hU hW => ⟨rfl, trivial⟩⟩ rfl rfl hl.1 rfl (lv_room (Nat.le_of_ble_eq_true rfl)) dX4_plan_8 ⟨Nat.zero_le _, Nat.zero_le _⟩) (fun r er => ?_)
  obtain rfl : r = b2i (wiB (nI q) 0 4) := er
  refine lv_if_ne (tgt := 20) hx hb dX4_plan_11 (by decide) (fun c11_0 => ?_) (fun c11_0 => ?_)
  · skip
    refine lv_aload_n hx hb dX4_plan_20 rfl (lv_at hl 0 rfl) ?_
    refine vp_callSi (W.runV (As := []) (rest := []) ⟨hx, hb, hml, hown, hts⟩ (m_startBelief l dC dI AB cI cZ (va_up sc 0 0, ar) (C := C) hC hC6) (cwV 0 hts gX4_plan_X4_startBelief rfl rfl rfl (by decide +kernel) ⟨Nat.le_of_ble_eq_true rfl, Nat.le_of_ble_eq_true rfl⟩) ⟨bm_P, va_recv hK hP (ci := 4) (q0 := 0) rfl rfl, fun U hU hW => ⟨rfl, by rw [hU]; exact hP, va_K.moved hW.alike hK⟩⟩ rfl rfl hl.1 rfl (lv_room (Nat.le_of_ble_eq_true rfl)) dX4_plan_21 ⟨Nat.zero_le _, Nat.zero_le _⟩) (fun r er => ?_)
    obtain rfl : r = stR (sc, ar) C := er.trans (by rw [(frz_sc frz.rf (by decide)).st])
    refine lv_istore_n (lv' := [(2, .int (stR (sc, ar) C)), (0, .ref (AB 0)), (1, .int (nI q))]) hx hb dX4_plan_24 rfl hl (by decide) rfl (fun ls hl => ?_)
    refine lv_iload_n hx hb dX4_plan_25 rfl (lv_at hl 0 rfl) ?_
    refine lv_if_ne (tgt := 35) hx hb dX4_plan_26 (by decide) (fun c26_1 => ?_) (fun c26_1 => ?_)
    · skip
      refine lv_aload_n hx hb dX4_plan_35 rfl (lv_at hl 1 rfl) ?_
      refine lv_iload_n hx hb dX4_plan_36 rfl (lv_at hl 0 rfl) ?_
      refine lv_iload_n hx hb dX4_plan_37 rfl (lv_at hl 2 rfl) ?_
      have hFc := m_free (τ := (va_up sc 0 0, ar)) hD hS hA
      refine va_calli (va_runV (As := [.int (stR (sc, ar) C), .int (nI q)]) (rest := []) ⟨hx, hb, hml, hown, hts⟩ (m_leastFor l dC dI AB cI cZ (va_up sc 0 0, ar) H.size ((frz_sc frz.rf (by decide)).mok hM) (stR (sc, ar) C) (q := q) hq) (cwV 2 hts gX4_plan_X4_leastFor rfl rfl rfl (by decide +kernel) ⟨Nat.le_of_ble_eq_true rfl, Nat.le_of_ble_eq_true rfl⟩) ⟨bm_F, va_recv hK hP (ci := 4) (q0 := 0) rfl rfl, fun U hU hW => ⟨rfl, by rw [hU], by rw [hU]; exact hP, va_K.moved hW.alike hK, hf_any hD⟩⟩ rfl rfl hl.1 rfl (lv_room (Nat.le_of_ble_eq_true rfl)) dX4_plan_38 ⟨Nat.zero_le _, Nat.zero_le _⟩) hS (fun q _ h => hFc q h) hFc (fun r u t H locs ht hvm hw hB hz1 hk1 hS => ?_)
      obtain ⟨hP1, hD1⟩ := hB
      rw [ht] at hP1
      obtain ⟨er, xa, ya, za, rfl⟩ := hw
      rw [(frz_sc frz.rf (by decide)).us, (frz_sc frz.rf (by decide)).pt, (frz_sc frz.rf (by decide)).re, h] at er
      subst er
      have hP : va_P (dC, dI) vwCl (mL AB cI cZ (va_up sc 0 0) (va_up (va_up (va_up ar 19 xa) 20 ya) 21 za)) H := hP1
      have hD : va_D V (mL AB cI cZ (va_up sc 0 0) (va_up (va_up (va_up ar 19 xa) 20 ya) 21 za)) := hf_weak hD1 hFc
      clear hP1 hD1 hFc
      refine lv_istore_n (lv' := [(3, .int (o2i none)), (2, .int (stR (sc, ar) C)), (0, .ref (AB 0)), (1, .int (nI q))]) hx hb dX4_plan_41 rfl hl (by decide) rfl (fun ls hl => ?_)
      refine lv_iload_n hx hb dX4_plan_42 rfl (lv_at hl 0 rfl) ?_
      refine lv_if_ge (tgt := 52) hx hb dX4_plan_43 (by decide) (fun c43_2 => ?_) (fun c43_2 => ?_)
      · exact absurd c43_2 (by decide)
      · skip
        refine lv_aload_n hx hb dX4_plan_46 rfl (lv_at hl 2 rfl) ?_
        refine lv_iconst (v := 3) hx hb dX4_plan_47 (by decide) ?_
        have hFc := m_free (τ := (va_up sc 0 0, va_up (va_up (va_up ar 19 xa) 20 ya) 21 za)) hD hS hA
        refine va_calli (va_runV (As := [.int 3]) (rest := []) ⟨hx, hb, hml, hown, hts⟩ (m_fail l dC dI AB cI cZ (va_up sc 0 0, va_up (va_up (va_up ar 19 xa) 20 ya) 21 za) H.size 3) (cwV 1 hts gX4_plan_X4_fail rfl rfl rfl (by decide +kernel) ⟨Nat.le_of_ble_eq_true rfl, Nat.le_of_ble_eq_true rfl⟩) ⟨bm_F, va_recv hK hP (ci := 4) (q0 := 0) rfl rfl, fun U hU hW => ⟨rfl, by rw [hU], by rw [hU]; exact hP, va_K.moved hW.alike hK, hf_any hD⟩⟩ rfl rfl hl.1 rfl (lv_room (Nat.le_of_ble_eq_true rfl)) dX4_plan_48 ⟨Nat.zero_le _, Nat.zero_le _⟩) hS (fun q _ h => hFc q h) hFc (fun r u t H locs ht hvm hw hB hz1 hk1 hS => ?_)
        obtain ⟨hP1, hD1⟩ := hB
        rw [ht] at hP1
        obtain ⟨rfl, rfl⟩ := hw
        have hP : va_P (dC, dI) vwCl (mL AB cI cZ (va_up sc 0 3) (va_up (va_up (va_up ar 19 xa) 20 ya) 21 za)) H := hP1
        have hD : va_D V (mL AB cI cZ (va_up sc 0 3) (va_up (va_up (va_up ar 19 xa) 20 ya) 21 za)) := hf_weak hD1 hFc
        clear hP1 hD1 hFc
        exact W.iret hx hb hr (fun t ht hW => ⟨⟨_, (va_up sc 0 3, va_up (va_up (va_up ar 19 xa) 20 ya) 21 za), rfl, ⟨rfl, xa, ya, za, rfl⟩, by rw [ht]; exact hP, hD⟩, hS.F ht⟩) hS.2.2 dX4_plan_51
    · exact absurd c26_1 h1
  · exact absurd ((b2i_0.mp c11_0).symm.trans (wi_nat (n := 4) (k := q) (by omega) (by decide))) (by decide)
set_option maxHeartbeats 4000000 in
set_option maxRecDepth 100000 in
/-- plan 0 -/
theorem m_plan0 (l : Launch) (dC : Nat → ClassId) (dI : Nat → Nat → Nat) (AB : Nat → Nat) (cI cZ : ClassId) (τ : MS) (sz : Nat) {th : Nat → Bool} {ef : Nat → Nat} (hM : mok th ef τ) {C : Nat} (hC : τ.1 10 = nI C) (hC6 : C ≤ 6) {q : Nat} (hq : q ≤ 4) {n : Nat} (h1 : ¬ stR τ C = 0) (h : few (usR th τ) (ptR ef τ) (reR τ) (stR τ C) q = some n) (hp16 : ∀ a, a < 8 → ∀ x w, is16 (ptR ef τ a x w)) : Met l yX4_plan wsX4_plan ({ frames := 12, cells := 0, slots := 0, locals := 600 }) (va_Pc [.ref (AB 0), .int (nI q)] (mF dC dI AB cI cZ sz τ)) (va_Qi (fun (r : Int32) (τ2 : MS) => r = nI n ∧ bldP th ef n (stR τ C) τ τ2 0) (mB dC dI AB cI cZ (va_A (mW AB cI cZ τ) sz)) (va_A (mW AB cI cZ τ) sz)) 0 0 (va_A (mW AB cI cZ τ) sz) := by
  obtain ⟨sc, ar⟩ := τ
  refine Met.ofW (cc := cX4_plan) (maxL := 4) (ret := (some .int)) (by decide) rfl ?_
  intro p e s m args below meth c s₁ B hml hv
  obtain ⟨rfl, hsz, hP, hK, hD0⟩ := hv
  have hx := B.exec
  have hb := B.bytes
  have hr := B.returns
  have hts := atoms_spec (ws := wsX4_plan) B.pre
  have hown : s.vm.findClass RX4 = some m.cls := findClass_of_methodNamed B.named
  have hlocks := B.notSynchronized
  have hinX4 : ∀ w ∈ wsX40, w ∈ wsX4_plan := fun _ h => List.mem_cons_of_mem _ (List.mem_append_right _ h)
  subst hsz
  have hD := hD0.self (sz := s.heap.size)
  generalize hAe : va_A (mW AB cI cZ _) s.heap.size = V at hD ⊢
  have hA : ∀ q : Nat, s.heap.size ≤ q → V q := fun q h => by rw [← hAe]; exact Or.inr h
  have hS : va_S V s.heap s.heap [] := va_S.rf
  have hl := lv_entry ([.ref (AB 0), .int (nI q)]) (n := 4) (Nat.le_of_ble_eq_true rfl)
  rw [lg_entry_eq]
  generalize (lg_sl ([.ref (AB 0), .int (nI q)]) ++ List.replicate (4 - (lg_sl ([.ref (AB 0), .int (nI q)])).length) Slot.unset).toArray = ls at hl ⊢
  have hl : lv_has ls 4 [(0, .ref (AB 0)), (1, .int (nI q))] := hl
  have hP : va_P (dC, dI) vwCl (mL AB cI cZ sc ar) s.heap := hP
  have hD : va_D V (mL AB cI cZ sc ar) := hD
  refine lv_aload_n hx hb dX4_plan_0 rfl (lv_at hl 0 rfl) ?_
  refine lv_iconst (v := 0) hx hb dX4_plan_1 (by decide) ?_
  refine va_put (D := (dC, dI)) (ci := 4) (v := .int 0) (ty := .int) (C := RX4) (T := TX4) (N := 33) hx hb hts hinX4 tyX4 tyX4_ok nmX4 hown hK hP hD hS 0 rfl rfl 0 (by decide) (hts _ (List.mem_of_getElem? (i := 1) rfl)) (fun _ h9 => h9) rfl (by decide +kernel) rfl rfl (Nat.le_of_ble_eq_true rfl) dX4_plan_2 (fun H locs hP hD hS => ?_)
  have hP : va_P (dC, dI) vwCl (mL AB cI cZ (va_up sc 0 0) ar) H := hP
  have hD : va_D V (mL AB cI cZ (va_up sc 0 0) ar) := hD
  refine lv_iload_n hx hb dX4_plan_5 rfl (lv_at hl 1 rfl) ?_
  refine lv_iconst (v := 0) hx hb dX4_plan_6 (by decide) ?_
  refine lv_iconst (v := 4) hx hb dX4_plan_7 (by decide) ?_
  refine vp_callSi (W.runS (As := [.int (nI q), .int 0, .int 4]) (rest := []) ⟨hx, hb, hml, hown, hts⟩ (m_within l (nI q) 0 4) (va_cwS 3 hts gX4_plan_X4_within rfl rfl rfl (by decide +kernel) ⟨Nat.le_of_ble_eq_true rfl, Nat.le_of_ble_eq_true rfl⟩) ⟨bl_T, fun U hU hW => ⟨rfl, trivial⟩⟩ rfl rfl hl.1 rfl (lv_room (Nat.le_of_ble_eq_true rfl)) dX4_plan_8 ⟨Nat.zero_le _, Nat.zero_le _⟩) (fun r er => ?_)
  obtain rfl : r = b2i (wiB (nI q) 0 4) := er
  refine lv_if_ne (tgt := 20) hx hb dX4_plan_11 (by decide) (fun c11_0 => ?_) (fun c11_0 => ?_)
  · skip
    refine lv_aload_n hx hb dX4_plan_20 rfl (lv_at hl 0 rfl) ?_
    refine vp_callSi (W.runV (As := []) (rest := []) ⟨hx, hb, hml, hown, hts⟩ (m_startBelief l dC dI AB cI cZ (va_up sc 0 0, ar) (C := C) hC hC6) (cwV 0 hts gX4_plan_X4_startBelief rfl rfl rfl (by decide +kernel) ⟨Nat.le_of_ble_eq_true rfl, Nat.le_of_ble_eq_true rfl⟩) ⟨bm_P, va_recv hK hP (ci := 4) (q0 := 0) rfl rfl, fun U hU hW => ⟨rfl, by rw [hU]; exact hP, va_K.moved hW.alike hK⟩⟩ rfl rfl hl.1 rfl (lv_room (Nat.le_of_ble_eq_true rfl)) dX4_plan_21 ⟨Nat.zero_le _, Nat.zero_le _⟩) (fun r er => ?_)
    obtain rfl : r = stR (sc, ar) C := er.trans (by rw [(frz_sc frz.rf (by decide)).st])
    refine lv_istore_n (lv' := [(2, .int (stR (sc, ar) C)), (0, .ref (AB 0)), (1, .int (nI q))]) hx hb dX4_plan_24 rfl hl (by decide) rfl (fun ls hl => ?_)
    refine lv_iload_n hx hb dX4_plan_25 rfl (lv_at hl 0 rfl) ?_
    refine lv_if_ne (tgt := 35) hx hb dX4_plan_26 (by decide) (fun c26_1 => ?_) (fun c26_1 => ?_)
    · skip
      refine lv_aload_n hx hb dX4_plan_35 rfl (lv_at hl 1 rfl) ?_
      refine lv_iload_n hx hb dX4_plan_36 rfl (lv_at hl 0 rfl) ?_
      refine lv_iload_n hx hb dX4_plan_37 rfl (lv_at hl 2 rfl) ?_
      have hFc := m_free (τ := (va_up sc 0 0, ar)) hD hS hA
      refine va_calli (va_runV (As := [.int (stR (sc, ar) C), .int (nI q)]) (rest := []) ⟨hx, hb, hml, hown, hts⟩ (m_leastFor l dC dI AB cI cZ (va_up sc 0 0, ar) H.size ((frz_sc frz.rf (by decide)).mok hM) (stR (sc, ar) C) (q := q) hq) (cwV 2 hts gX4_plan_X4_leastFor rfl rfl rfl (by decide +kernel) ⟨Nat.le_of_ble_eq_true rfl, Nat.le_of_ble_eq_true rfl⟩) ⟨bm_F, va_recv hK hP (ci := 4) (q0 := 0) rfl rfl, fun U hU hW => ⟨rfl, by rw [hU], by rw [hU]; exact hP, va_K.moved hW.alike hK, hf_any hD⟩⟩ rfl rfl hl.1 rfl (lv_room (Nat.le_of_ble_eq_true rfl)) dX4_plan_38 ⟨Nat.zero_le _, Nat.zero_le _⟩) hS (fun q _ h => hFc q h) hFc (fun r u t H locs ht hvm hw hB hz1 hk1 hS => ?_)
      obtain ⟨hP1, hD1⟩ := hB
      rw [ht] at hP1
      obtain ⟨er, xa, ya, za, rfl⟩ := hw
      rw [(frz_sc frz.rf (by decide)).us, (frz_sc frz.rf (by decide)).pt, (frz_sc frz.rf (by decide)).re, h] at er
      subst er
      have hP : va_P (dC, dI) vwCl (mL AB cI cZ (va_up sc 0 0) (va_up (va_up (va_up ar 19 xa) 20 ya) 21 za)) H := hP1
      have hD : va_D V (mL AB cI cZ (va_up sc 0 0) (va_up (va_up (va_up ar 19 xa) 20 ya) 21 za)) := hf_weak hD1 hFc
      clear hP1 hD1 hFc
      refine lv_istore_n (lv' := [(3, .int (o2i (some n))), (2, .int (stR (sc, ar) C)), (0, .ref (AB 0)), (1, .int (nI q))]) hx hb dX4_plan_41 rfl hl (by decide) rfl (fun ls hl => ?_)
      refine lv_iload_n hx hb dX4_plan_42 rfl (lv_at hl 0 rfl) ?_
      refine lv_if_ge (tgt := 52) hx hb dX4_plan_43 (by decide) (fun c43_2 => ?_) (fun c43_2 => ?_)
      · skip
        refine lv_aload_n hx hb dX4_plan_52 rfl (lv_at hl 2 rfl) ?_
        refine lv_iload_n hx hb dX4_plan_53 rfl (lv_at hl 1 rfl) ?_
        refine lv_iload_n hx hb dX4_plan_54 rfl (lv_at hl 0 rfl) ?_
        have hFc := m_free (τ := (va_up sc 0 0, va_up (va_up (va_up ar 19 xa) 20 ya) 21 za)) hD hS hA
        refine va_callv (va_runV (As := [.int (stR (sc, ar) C), .int (o2i (some n))]) (rest := []) ⟨hx, hb, hml, hown, hts⟩ (m_build l dC dI AB cI cZ (va_up sc 0 0, va_up (va_up (va_up ar 19 xa) 20 ya) 21 za) H.size ((frz_sc (frz_up (frz_up (frz_up frz.rf (by decide)) (by decide)) (by decide)) (by decide)).mok hM) (b := stR (sc, ar) C) (n := n) (by have := few_lt h; omega) (by rw [(frz_sc (frz_up (frz_up (frz_up frz.rf (by decide)) (by decide)) (by decide)) (by decide)).us, (frz_sc (frz_up (frz_up (frz_up frz.rf (by decide)) (by decide)) (by decide)) (by decide)).pt, (frz_sc (frz_up (frz_up (frz_up frz.rf (by decide)) (by decide)) (by decide)) (by decide)).re]; exact (List.find?_range_eq_some.mp h).1) (st16 _ _) (by rw [(frz_sc (frz_up (frz_up (frz_up frz.rf (by decide)) (by decide)) (by decide)) (by decide)).pt]; exact hp16)) (cwV 2 hts gX4_plan_X4_build rfl rfl rfl (by decide +kernel) ⟨Nat.le_of_ble_eq_true rfl, Nat.le_of_ble_eq_true rfl⟩) ⟨bm_F, va_recv hK hP (ci := 4) (q0 := 0) rfl rfl, fun U hU hW => ⟨rfl, by rw [hU], by rw [hU]; exact hP, va_K.moved hW.alike hK, hf_any hD⟩⟩ rfl rfl hl.1 rfl (lv_room (Nat.le_of_ble_eq_true rfl)) dX4_plan_55 ⟨Nat.zero_le _, Nat.zero_le _⟩) hS (fun q _ h => hFc q h) hFc (fun u t H locs ht hvm hw hB hz1 hk1 hS => ?_)
        obtain ⟨hP1, hD1⟩ := hB
        rw [ht] at hP1
        rw [(frz_sc (frz_up (frz_up (frz_up frz.rf (by decide)) (by decide)) (by decide)) (by decide)).us, (frz_sc (frz_up (frz_up (frz_up frz.rf (by decide)) (by decide)) (by decide)) (by decide)).pt, (frz_sc (frz_up (frz_up (frz_up frz.rf (by decide)) (by decide)) (by decide)) (by decide)).re] at hw
        obtain ⟨bel, dos, num, g, na, nf, ns, nm, T2, rfl, ht1, ht2, ht3, ht4, ht5, ht6⟩ := hw
        have hP : va_P (dC, dI) vwCl (mL AB cI cZ (va_up (va_up sc 0 0) 15 (nI (nrun bel dos (samN bel dos g) 31 [1] []).length)) T2) H := hP1
        have hD : va_D V (mL AB cI cZ (va_up (va_up sc 0 0) 15 (nI (nrun bel dos (samN bel dos g) 31 [1] []).length)) T2) := hf_weak hD1 hFc
        clear hP1 hD1 hFc
        refine lv_iload_n hx hb dX4_plan_58 rfl (lv_at hl 0 rfl) ?_
        exact W.iret hx hb hr (fun t ht hW => ⟨⟨_, (va_up (va_up sc 0 0) 15 (nI (nrun bel dos (samN bel dos g) 31 [1] []).length), T2), rfl, ⟨rfl, bel, dos, num, g, na, nf, ns, nm, T2, rfl, ht1, (fun k hk => (ht2 k hk).trans ((frz_sc (frz_up (frz_up (frz_up frz.rf (by decide)) (by decide)) (by decide)) (by decide) : frz (va_up sc 0 0, va_up (va_up (va_up ar 19 xa) 20 ya) 21 za) (sc, ar)).1 k hk)), ht3, ht4, ht5, ht6⟩, by rw [ht]; exact hP, hD⟩, hS.F ht⟩) hS.2.2 dX4_plan_59
      · exact absurd c43_2 (o2i_ge (by have := few_lt h; omega))
    · exact absurd c26_1 h1
  · exact absurd ((b2i_0.mp c11_0).symm.trans (wi_nat (n := 4) (k := q) (by omega) (by decide))) (by decide)
