/-! ===== twins in the reference: rows of three actions ===== -/
def dfF (S : Int32) (x : Nat → Nat) (j : Nat) : Nat → Bool := fun r => bt S (x j) ^^ bt S (x r)
def mrR (S : Int32) (x : Nat → Nat) (ap : Nat → Int32) : Nat → Int32 := fillN ap (fun j => ap j ||| mk (dfF S x j)) 16
theorem mrR_0 (x : Nat → Nat) (ap : Nat → Int32) : mrR (tiI none) x ap = ap := by
  funext j
  unfold mrR fillN
  split
  · show ap j ||| mk (dfF (tiI none) x j) = ap j
    rw [show mk (dfF (tiI none) x j) = 0 from ext16 (is16_mk _) is16_0 fun i hi => by rw [bt_mk' _ hi, b_0]; unfold dfF; rw [ti_none, ti_none]; rfl, b_or0]
  · rfl
theorem stp_at (f : Nat → Int32) (d : Nat) (g : Nat → Int32) {j : Nat} (hj : j < 16) : stpN f d g 16 (16 * d + 16 + j) = g j := by
  rw [← stpN_hi f d g hj, show 16 * (d + 1) + j = 16 * d + 16 + j by omega]
theorem b_orA (x y z : Int32) : (x ||| y) ||| z = x ||| (y ||| z) := b_ext fun i _ => by rw [b_or, b_or, b_or, b_or, Bool.or_assoc]
def imgN (x : Nat → Nat) (b : Int32) : Int32 := afN (fun j => nI (x j)) b 16
theorem afN_congr {f g : Nat → Int32} (b : Int32) : ∀ n, (∀ j, j < n → f j = g j) → afN f b n = afN g b n := by
  intro n
  induction n with
  | zero => intro _; rfl
  | succ n ih => intro h; unfold afN; rw [ih (fun j hj => h j (by omega)), h n (by omega)]
def rwF (us : Nat → Int32 → Bool) (sn : Nat → Int32) (y : Nat → Nat → Nat) (b : Int32) : List Nat → (Nat → Nat) → (Nat → Int32) → Nat → Int32
  | [], _, ap => ap
  | a :: as, x, ap => if a < 8 ∧ us a (imgN x b) = true then rwF us sn y b as (fun j => y a (x j)) (mrR (sn a) (fun j => y a (x j)) ap) else ap
section RWF
variable {us : Nat → Int32 → Bool} {sn : Nat → Int32} {y : Nat → Nat → Nat} {b : Int32} {a : Nat} {as : List Nat} {x : Nat → Nat} {ap : Nat → Int32}
theorem rwF_go (h : a < 8) (hu : us a (imgN x b) = true) : rwF us sn y b (a :: as) x ap = rwF us sn y b as (fun j => y a (x j)) (mrR (sn a) (fun j => y a (x j)) ap) := if_pos ⟨h, hu⟩
theorem rwF_8 (h : ¬ a < 8) : rwF us sn y b (a :: as) x ap = ap := if_neg fun q => h q.1
theorem rwF_u (hu : us a (imgN x b) = false) : rwF us sn y b (a :: as) x ap = ap := if_neg fun q => by rw [hu] at q; cases q.2
theorem rwF_nil : rwF us sn y b [] x ap = ap := rfl
end RWF
def twF (us : Nat → Int32 → Bool) (sn : Nat → Int32) (y : Nat → Nat → Nat) (b : Int32) (n : Nat) (ap : Nat → Int32) : Nat → Int32 := (List.range n).foldl (fun ap row => rwF us sn y b [row / 81, row / 9 % 9, row % 9] (fun j => j) ap) ap
theorem twF_s (us : Nat → Int32 → Bool) (sn : Nat → Int32) (y : Nat → Nat → Nat) (b : Int32) (n : Nat) (ap : Nat → Int32) : twF us sn y b (n + 1) ap = rwF us sn y b [n / 81, n / 9 % 9, n % 9] (fun j => j) (twF us sn y b n ap) := fold_s _ _ _
theorem dv81 : ∀ v, v < 729 → nI v / 81 = nI (v / 81) := by decide +kernel
theorem dv9 : ∀ v, v < 729 → nI v / 9 = nI (v / 9) := by decide +kernel
theorem rm9 : ∀ v, v < 729 → nI v - nI v / 9 * 9 = nI (v % 9) := by decide +kernel
theorem upd_upd {f : Nat → Int32} {k : Nat} {u v : Int32} : upd (upd f k u) k v = upd f k v := funext fun q => by unfold upd; split <;> rfl
theorem b2i_ne {p q : Bool} (h : ¬ b2i p = b2i q) : (p ^^ q) = true := by cases p <;> cases q <;> first | rfl | exact absurd rfl h
theorem b2i_eq {p q : Bool} (h : b2i p = b2i q) : (p ^^ q) = false := by cases p <;> cases q <;> first | rfl | exact absurd h (by decide)
set_option maxHeartbeats 4000000 in
set_option maxRecDepth 100000 in
/-- make -/
theorem m_make (l : Launch) (dC : Nat → ClassId) (dI : Nat → Nat → Nat) (AB : Nat → Nat) (cI cZ : ClassId) (τ : MS) (sz : Nat) {th : Nat → Bool} {ef : Nat → Nat} (hM : mok th ef τ) {se : Nat → Option Nat} (hse : ∀ a, a < 8 → τ.2 4 a = o2i (se a) ∧ ∀ j, se a = some j → j < 4) {y : Nat → Nat → Nat} (hy : ∀ a, a < 8 → ∀ u, u < 16 → nxN τ.2 a u (ef a) = nI (y a u) ∧ y a u < 16) {a : Nat} (ha : a < 8) {d : Nat} (hd : d < 3) {x : Nat → Nat} (hx1 : ∀ j, j < 16 → τ.2 31 (16 * d + j) = nI (x j) ∧ x j < 16) : Met l yX4_make wsX4_make ({ frames := 3, cells := 0, slots := 0, locals := 110 }) (va_Pc [.ref (AB 0), .int (nI a), .int (nI d)] (mF dC dI AB cI cZ sz τ)) (va_Qv (fun (τ2 : MS) => τ2 = (τ.1, va_up (va_up τ.2 31 (stpN (τ.2 31) d (fun j => nI (y a (x j))) 16)) 32 (mrR (tiI (se a)) (fun j => y a (x j)) (τ.2 32)))) (mB dC dI AB cI cZ (va_A (mW AB cI cZ τ) sz)) (va_A (mW AB cI cZ τ) sz)) 0 0 (va_A (mW AB cI cZ τ) sz) := by
  obtain ⟨sc, ar⟩ := τ
  refine Met.ofW (cc := cX4_make) (maxL := 7) (ret := none) (by decide) rfl ?_
  intro p e s m args below meth c s₁ B hml hv
  obtain ⟨rfl, hsz, hP, hK, hD0⟩ := hv
  have hx := B.exec
  have hb := B.bytes
  have hr := B.returns
  have hts := atoms_spec (ws := wsX4_make) B.pre
  have hown : s.vm.findClass RX4 = some m.cls := findClass_of_methodNamed B.named
  have hlocks := B.notSynchronized
  have hinX4 : ∀ w ∈ wsX40, w ∈ wsX4_make := fun _ h => List.mem_cons_of_mem _ (List.mem_append_right _ h)
  subst hsz
  have hD := hD0.self (sz := s.heap.size)
  generalize hAe : va_A (mW AB cI cZ _) s.heap.size = V at hD ⊢
  have hA : ∀ q : Nat, s.heap.size ≤ q → V q := fun q h => by rw [← hAe]; exact Or.inr h
  have hS : va_S V s.heap s.heap [] := va_S.rf
  have hl := lv_entry ([.ref (AB 0), .int (nI a), .int (nI d)]) (n := 7) (Nat.le_of_ble_eq_true rfl)
  rw [lg_entry_eq]
  generalize (lg_sl ([.ref (AB 0), .int (nI a), .int (nI d)]) ++ List.replicate (7 - (lg_sl ([.ref (AB 0), .int (nI a), .int (nI d)])).length) Slot.unset).toArray = ls at hl ⊢
  have hl : lv_has ls 7 [(0, .ref (AB 0)), (1, .int (nI a)), (2, .int (nI d))] := hl
  have hP : va_P (dC, dI) vwCl (mL AB cI cZ sc ar) s.heap := hP
  have hD : va_D V (mL AB cI cZ sc ar) := hD
  have hse : ∀ a, a < 8 → ar 4 a = o2i (se a) ∧ ∀ j, se a = some j → j < 4 := hse
  have hy : ∀ a, a < 8 → ∀ u, u < 16 → nxN ar a u (ef a) = nI (y a u) ∧ y a u < 16 := hy
  have hx1 : ∀ j, j < 16 → ar 31 (16 * d + j) = nI (x j) ∧ x j < 16 := hx1
  refine lv_iconst (v := 0) hx hb dX4_make_0 (by decide) ?_
  refine lv_istore_n (lv' := [(3, .int 0), (0, .ref (AB 0)), (1, .int (nI a)), (2, .int (nI d))]) hx hb dX4_make_1 rfl hl (by decide) rfl (fun ls hl => ?_)
  refine w_loopH (pc := 2) 16 (fun k ls H locs => va_P (dC, dI) vwCl (mL AB cI cZ sc (va_up ar 31 (stpN (ar 31) d (fun j => nI (y a (x j))) k))) H ∧ va_D V (mL AB cI cZ sc (va_up ar 31 (stpN (ar 31) d (fun j => nI (y a (x j))) k))) ∧ va_S V s.heap H locs ∧ lv_has ls 7 [(0, .ref (AB 0)), (1, .int (nI a)), (2, .int (nI d)), (3, .int (nI k))]) ?_ 0 (Nat.zero_le _) ls _ _ ⟨by rw [stpN_0]; exact hP, by rw [stpN_0]; exact hD, hS, lv_sub hl [1, 2, 3, 0] rfl⟩
  intro k ls H locs hk hI ih
  obtain ⟨hP, hD, hS, hl⟩ := hI
  refine lv_iload_n hx hb dX4_make_2 rfl (lv_at hl 3 rfl) ?_
  refine lv_bipush (v := 16) hx hb dX4_make_3 (by decide) ?_
  refine lv_icmp_ge (tgt := 43) hx hb dX4_make_5 (by decide) (fun c5_0 => ?_) (fun c5_0 => ?_)
  · skip
    obtain rfl := ctr_ge (N := 16) rfl (by decide) hk c5_0
    refine lv_iconst (v := 0) hx hb dX4_make_43 (by decide) ?_
    refine lv_istore_n (lv' := [(3, .int 0), (0, .ref (AB 0)), (1, .int (nI a)), (2, .int (nI d))]) hx hb dX4_make_44 rfl hl (by decide) rfl (fun ls hl => ?_)
    refine w_loopH (pc := 45) 16 (fun k ls H locs => va_P (dC, dI) vwCl (mL AB cI cZ sc (va_up (va_up ar 31 (stpN (ar 31) d (fun j => nI (y a (x j))) 16)) 32 (fillN (ar 32) (fun j => ar 32 j ||| mk (dfF (tiI (se a)) (fun j => y a (x j)) j)) k))) H ∧ va_D V (mL AB cI cZ sc (va_up (va_up ar 31 (stpN (ar 31) d (fun j => nI (y a (x j))) 16)) 32 (fillN (ar 32) (fun j => ar 32 j ||| mk (dfF (tiI (se a)) (fun j => y a (x j)) j)) k))) ∧ va_S V s.heap H locs ∧ lv_has ls 7 [(0, .ref (AB 0)), (1, .int (nI a)), (2, .int (nI d)), (3, .int (nI k))]) ?_ 0 (Nat.zero_le _) ls _ _ ⟨by rw [fillN_0]; exact hP, by rw [fillN_0]; exact hD, hS, lv_sub hl [1, 2, 3, 0] rfl⟩
    intro k ls H locs hk hI ih2
    obtain ⟨hP, hD, hS, hl⟩ := hI
    refine lv_iload_n hx hb dX4_make_45 rfl (lv_at hl 3 rfl) ?_
    refine lv_bipush (v := 16) hx hb dX4_make_46 (by decide) ?_
    refine lv_icmp_ge (tgt := 151) hx hb dX4_make_48 (by decide) (fun c48_1 => ?_) (fun c48_1 => ?_)
    · skip
      obtain rfl := ctr_ge (N := 16) rfl (by decide) hk c48_1
      exact W.vret hx hb hr (fun t ht hW => ⟨⟨(sc, va_up (va_up ar 31 (stpN (ar 31) d (fun j => nI (y a (x j))) 16)) 32 (fillN (ar 32) (fun j => ar 32 j ||| mk (dfF (tiI (se a)) (fun j => y a (x j)) j)) 16)), rfl, rfl, by rw [ht]; exact hP, hD⟩, hS.F ht⟩) hS.2.2 dX4_make_151
    · skip
      have hlt := ctr_lt (N := 16) rfl (by decide) hk c48_1
      refine lv_aload_n hx hb dX4_make_51 rfl (lv_at hl 0 rfl) ?_
      refine va_get (D := (dC, dI)) (ci := 4) (v := .ref (AB 4)) (C := RX4) (T := TX4) (N := 33) hx hb hts hinX4 hown hK hP 0 rfl rfl 4 (by decide) (hts _ (List.mem_of_getElem? (i := 2) rfl)) (fun _ h9 => h9) rfl dX4_make_52 ?_
      refine lv_iload_n hx hb dX4_make_55 rfl (lv_at hl 1 rfl) ?_
      refine va_iald hx hb hK hP 4 0 rfl rfl (vp_in_nI (show a < 8 by omega) (by decide)) dX4_make_56 ?_
      rw [nI_clamp (show a < 2 ^ 31 by have := (show a < 8 by omega); omega)]
      refine lv_topi (fun y2 ey2 => ?_)
      obtain rfl : y2 = o2i (se a) := ey2.trans ((hse a ha).1)
      refine lv_if_lt (tgt := 151) hx hb dX4_make_57 (by decide) (fun c57_3 => ?_) (fun c57_3 => ?_)
      · skip
        have hsn : se a = none := o2i_neg (N := 4) (by decide) (hse a ha).2 (Int32.not_le.mpr c57_3)
        have h9 : mrR (tiI (se a)) (fun j => y a (x j)) (ar 32) = ar 32 := by rw [hsn]; exact mrR_0 _ _
        have hk0 : fillN (ar 32) (fun j => ar 32 j ||| mk (dfF (tiI (se a)) (fun j => y a (x j)) j)) k = ar 32 := funext fun q => by
          rcases Nat.lt_or_ge q k with z9 | z9
          · rw [fillN_lt _ _ z9]; have h8 := congrFun h9 q; unfold mrR at h8; rw [fillN_lt _ _ (show q < 16 by omega)] at h8; exact h8
          · exact fillN_at _ _ z9
        rw [hk0] at hP hD
        exact W.vret hx hb hr (fun t ht hW => ⟨⟨(sc, va_up (va_up ar 31 (stpN (ar 31) d (fun j => nI (y a (x j))) 16)) 32 (ar 32)), rfl, by rw [show mrR (tiI (se a)) (fun j => y a (x j)) ((sc, ar).2 32) = ar 32 from h9], by rw [ht]; exact hP, hD⟩, hS.F ht⟩) hS.2.2 dX4_make_151
      · skip
        obtain ⟨j, hsj⟩ := o2i_some (Int32.not_lt.mp c57_3)
        have hj4 := (hse a ha).2 j hsj
        have hsjI : ar 4 a = nI j := (hse a ha).1.trans (by rw [hsj]; rfl)
        refine lv_iconst (v := 0) hx hb dX4_make_60 (by decide) ?_
        refine lv_istore (lv' := [(4, .int 0), (0, .ref (AB 0)), (1, .int (nI a)), (2, .int (nI d)), (3, .int (nI k))]) hx hb dX4_make_61 hl (by decide) rfl (fun ls hl => ?_)
        refine w_loopH (pc := 63) 16 (fun r ls H locs => va_P (dC, dI) vwCl (mL AB cI cZ sc (va_up (va_up ar 31 (stpN (ar 31) d (fun j => nI (y a (x j))) 16)) 32 (upd (fillN (ar 32) (fun j => ar 32 j ||| mk (dfF (tiI (se a)) (fun j => y a (x j)) j)) k) k (ar 32 k ||| mkN (dfF (tiI (se a)) (fun j => y a (x j)) k) r)))) H ∧ va_D V (mL AB cI cZ sc (va_up (va_up ar 31 (stpN (ar 31) d (fun j => nI (y a (x j))) 16)) 32 (upd (fillN (ar 32) (fun j => ar 32 j ||| mk (dfF (tiI (se a)) (fun j => y a (x j)) j)) k) k (ar 32 k ||| mkN (dfF (tiI (se a)) (fun j => y a (x j)) k) r)))) ∧ va_S V s.heap H locs ∧ lv_has ls 7 [(0, .ref (AB 0)), (1, .int (nI a)), (2, .int (nI d)), (3, .int (nI k)), (4, .int (nI r))]) ?_ 0 (Nat.zero_le _) ls _ _ ⟨by rw [show mkN (dfF (tiI (se a)) (fun j => y a (x j)) k) 0 = 0 from rfl, b_or0, fillN_same]; exact hP, by rw [show mkN (dfF (tiI (se a)) (fun j => y a (x j)) k) 0 = 0 from rfl, b_or0, fillN_same]; exact hD, hS, lv_sub hl [1, 2, 3, 4, 0] rfl⟩
        intro r ls H locs hk3 hI ih3
        obtain ⟨hP, hD, hS, hl⟩ := hI
        refine lv_iload hx hb dX4_make_63 (lv_at hl 4 rfl) ?_
        refine lv_bipush (v := 16) hx hb dX4_make_65 (by decide) ?_
        refine lv_icmp_ge (tgt := 145) hx hb dX4_make_67 (by decide) (fun c67_4 => ?_) (fun c67_4 => ?_)
        · skip
          obtain rfl := ctr_ge (N := 16) rfl (by decide) hk3 c67_4
          rw [fillN_s (ar 32) (fun j => ar 32 j ||| mk (dfF (tiI (se a)) (fun j => y a (x j)) j)) k rfl] at hP hD
          obtain ⟨y5, ey5⟩ : ∃ y : Int32, y = (nI k) + 1 := ⟨_, rfl⟩
          refine lv_iinc (v := y5) (lv' := [(3, .int y5), (0, .ref (AB 0)), (1, .int (nI a)), (2, .int (nI d)), (4, .int (nI 16))]) hx hb dX4_make_145 hl (k := 3) rfl (by rw [ey5]; rfl) (by decide) rfl (fun ls hl => ?_)
          obtain rfl : y5 = nI (k + 1) := ey5.trans (nI_1 k)
          refine lv_goto (tgt := 45) hx hb dX4_make_148 (by decide) ?_
          exact ih2 ls H locs ⟨hP, hD, hS, lv_sub hl [1, 2, 3, 0] rfl⟩ hlt
        · skip
          have hr16 := ctr_lt (N := 16) rfl (by decide) hk3 c67_4
          refine lv_aload_n hx hb dX4_make_70 rfl (lv_at hl 0 rfl) ?_
          refine va_get (D := (dC, dI)) (ci := 4) (v := .ref (AB 31)) (C := RX4) (T := TX4) (N := 33) hx hb hts hinX4 hown hK hP 0 rfl rfl 31 (by decide) (hts _ (List.mem_of_getElem? (i := 1) rfl)) (fun _ h9 => h9) rfl dX4_make_71 ?_
          refine lv_bipush (v := 16) hx hb dX4_make_74 (by decide) ?_
          refine lv_iload_n hx hb dX4_make_76 rfl (lv_at hl 2 rfl) ?_
          refine lv_iconst (v := 1) hx hb dX4_make_77 (by decide) ?_
          refine lv_iadd hx hb dX4_make_78 ?_
          refine lv_topi (fun y6 ey6 => ?_)
          obtain rfl : y6 = nI (d + 1) := ey6.trans (nI_1 d)
          refine lv_imul hx hb dX4_make_79 ?_
          refine lv_topi (fun y7 ey7 => ?_)
          obtain rfl : y7 = nI (16 * (d + 1)) := ey7.trans (pk_mul 16 (d + 1))
          refine lv_iload_n hx hb dX4_make_80 rfl (lv_at hl 3 rfl) ?_
          refine lv_iadd hx hb dX4_make_81 ?_
          refine lv_topi (fun y8 ey8 => ?_)
          obtain rfl : y8 = nI (16 * d + 16 + k) := ey8.trans ((nI_add (16 * (d + 1)) k).trans (by rw [show 16 * (d + 1) + k = 16 * d + 16 + k by omega]))
          refine va_iald hx hb hK hP 25 0 rfl rfl (vp_in_nI (show (16 * d + 16 + k) < 64 by omega) (by decide)) dX4_make_82 ?_
          rw [nI_clamp (show (16 * d + 16 + k) < 2 ^ 31 by have := (show (16 * d + 16 + k) < 64 by omega); omega)]
          refine lv_topi (fun y9 ey9 => ?_)
          obtain rfl : y9 = nI (y a (x k)) := ey9.trans (stp_at (ar 31) d (fun j => nI (y a (x j))) hlt)
          refine lv_aload_n hx hb dX4_make_83 rfl (lv_at hl 0 rfl) ?_
          refine va_get (D := (dC, dI)) (ci := 4) (v := .ref (AB 4)) (C := RX4) (T := TX4) (N := 33) hx hb hts hinX4 hown hK hP 0 rfl rfl 4 (by decide) (hts _ (List.mem_of_getElem? (i := 2) rfl)) (fun _ h9 => h9) rfl dX4_make_84 ?_
          refine lv_iload_n hx hb dX4_make_87 rfl (lv_at hl 1 rfl) ?_
          refine va_iald hx hb hK hP 4 0 rfl rfl (vp_in_nI (show a < 8 by omega) (by decide)) dX4_make_88 ?_
          rw [nI_clamp (show a < 2 ^ 31 by have := (show a < 8 by omega); omega)]
          refine lv_topi (fun y10 ey10 => ?_)
          obtain rfl : y10 = nI j := ey10.trans (hsjI)
          refine lv_ishr hx hb dX4_make_89 ?_
          refine lv_iconst (v := 1) hx hb dX4_make_90 (by decide) ?_
          refine lv_iand hx hb dX4_make_91 ?_
          refine lv_topi (fun y11 ey11 => ?_)
          obtain rfl : y11 = b2i (bt (nI (y a (x k))) j) := ey11.trans (b_shr1 (by omega) _)
          refine lv_istore (lv' := [(5, .int (b2i (bt (nI (y a (x k))) j))), (0, .ref (AB 0)), (1, .int (nI a)), (2, .int (nI d)), (3, .int (nI k)), (4, .int (nI r))]) hx hb dX4_make_92 hl (by decide) rfl (fun ls hl => ?_)
          refine lv_aload_n hx hb dX4_make_94 rfl (lv_at hl 1 rfl) ?_
          refine va_get (D := (dC, dI)) (ci := 4) (v := .ref (AB 31)) (C := RX4) (T := TX4) (N := 33) hx hb hts hinX4 hown hK hP 0 rfl rfl 31 (by decide) (hts _ (List.mem_of_getElem? (i := 1) rfl)) (fun _ h9 => h9) rfl dX4_make_95 ?_
          refine lv_bipush (v := 16) hx hb dX4_make_98 (by decide) ?_
          refine lv_iload_n hx hb dX4_make_100 rfl (lv_at hl 3 rfl) ?_
          refine lv_iconst (v := 1) hx hb dX4_make_101 (by decide) ?_
          refine lv_iadd hx hb dX4_make_102 ?_
          refine lv_topi (fun y12 ey12 => ?_)
          obtain rfl : y12 = nI (d + 1) := ey12.trans (nI_1 d)
          refine lv_imul hx hb dX4_make_103 ?_
          refine lv_topi (fun y13 ey13 => ?_)
          obtain rfl : y13 = nI (16 * (d + 1)) := ey13.trans (pk_mul 16 (d + 1))
          refine lv_iload hx hb dX4_make_104 (lv_at hl 5 rfl) ?_
          refine lv_iadd hx hb dX4_make_106 ?_
          refine lv_topi (fun y14 ey14 => ?_)
          obtain rfl : y14 = nI (16 * d + 16 + r) := ey14.trans ((nI_add (16 * (d + 1)) r).trans (by rw [show 16 * (d + 1) + r = 16 * d + 16 + r by omega]))
          refine va_iald hx hb hK hP 25 0 rfl rfl (vp_in_nI (show (16 * d + 16 + r) < 64 by omega) (by decide)) dX4_make_107 ?_
          rw [nI_clamp (show (16 * d + 16 + r) < 2 ^ 31 by have := (show (16 * d + 16 + r) < 64 by omega); omega)]
          refine lv_topi (fun y15 ey15 => ?_)
          obtain rfl : y15 = nI (y a (x r)) := ey15.trans (stp_at (ar 31) d (fun j => nI (y a (x j))) hr16)
          refine lv_aload_n hx hb dX4_make_108 rfl (lv_at hl 1 rfl) ?_
          refine va_get (D := (dC, dI)) (ci := 4) (v := .ref (AB 4)) (C := RX4) (T := TX4) (N := 33) hx hb hts hinX4 hown hK hP 0 rfl rfl 4 (by decide) (hts _ (List.mem_of_getElem? (i := 2) rfl)) (fun _ h9 => h9) rfl dX4_make_109 ?_
          refine lv_iload_n hx hb dX4_make_112 rfl (lv_at hl 2 rfl) ?_
          refine va_iald hx hb hK hP 4 0 rfl rfl (vp_in_nI (show a < 8 by omega) (by decide)) dX4_make_113 ?_
          rw [nI_clamp (show a < 2 ^ 31 by have := (show a < 8 by omega); omega)]
          refine lv_topi (fun y16 ey16 => ?_)
          obtain rfl : y16 = nI j := ey16.trans (hsjI)
          refine lv_ishr hx hb dX4_make_114 ?_
          refine lv_iconst (v := 1) hx hb dX4_make_115 (by decide) ?_
          refine lv_iand hx hb dX4_make_116 ?_
          refine lv_topi (fun y17 ey17 => ?_)
          obtain rfl : y17 = b2i (bt (nI (y a (x r))) j) := ey17.trans (b_shr1 (by omega) _)
          refine lv_istore (lv' := [(6, .int (b2i (bt (nI (y a (x r))) j))), (5, .int (b2i (bt (nI (y a (x k))) j))), (0, .ref (AB 0)), (1, .int (nI a)), (2, .int (nI d)), (3, .int (nI k)), (4, .int (nI r))]) hx hb dX4_make_117 hl (by decide) rfl (fun ls hl => ?_)
          refine lv_iload hx hb dX4_make_119 (lv_at hl 1 rfl) ?_
          refine lv_iload hx hb dX4_make_121 (lv_at hl 0 rfl) ?_
          refine lv_icmp_eq (tgt := 139) hx hb dX4_make_123 (by decide) (fun c123_18 => ?_) (fun c123_18 => ?_)
          · skip
            obtain ⟨y19, ey19⟩ : ∃ y : Int32, y = (nI r) + 1 := ⟨_, rfl⟩
            refine lv_iinc (v := y19) (lv' := [(4, .int y19), (6, .int (b2i (bt (nI (y a (x r))) j))), (5, .int (b2i (bt (nI (y a (x k))) j))), (0, .ref (AB 0)), (1, .int (nI a)), (2, .int (nI d)), (3, .int (nI k))]) hx hb dX4_make_139 hl (k := 6) rfl (by rw [ey19]; rfl) (by decide) rfl (fun ls hl => ?_)
            obtain rfl : y19 = nI (r + 1) := ey19.trans (nI_1 r)
            refine lv_goto (tgt := 63) hx hb dX4_make_142 (by decide) ?_
            exact ih3 ls H locs ⟨by rw [mkN_f (show dfF (tiI (se a)) (fun j => y a (x j)) k r = false from by show (bt (tiI (se a)) (y a (x k)) ^^ bt (tiI (se a)) (y a (x r))) = _; rw [hsj, ti_bit j hj4 _ (hy a ha _ (hx1 k hlt).2).2, ti_bit j hj4 _ (hy a ha _ (hx1 r hr16).2).2]; exact b2i_eq c123_18)]; exact hP, by rw [mkN_f (show dfF (tiI (se a)) (fun j => y a (x j)) k r = false from by show (bt (tiI (se a)) (y a (x k)) ^^ bt (tiI (se a)) (y a (x r))) = _; rw [hsj, ti_bit j hj4 _ (hy a ha _ (hx1 k hlt).2).2, ti_bit j hj4 _ (hy a ha _ (hx1 r hr16).2).2]; exact b2i_eq c123_18)]; exact hD, hS, lv_sub hl [3, 4, 5, 6, 0] rfl⟩ hr16
          · skip
            refine lv_aload_n hx hb dX4_make_126 rfl (lv_at hl 2 rfl) ?_
            refine va_get (D := (dC, dI)) (ci := 4) (v := .ref (AB 32)) (C := RX4) (T := TX4) (N := 33) hx hb hts hinX4 hown hK hP 0 rfl rfl 32 (by decide) (hts _ (List.mem_of_getElem? (i := 3) rfl)) (fun _ h9 => h9) rfl dX4_make_127 ?_
            refine lv_iload_n hx hb dX4_make_130 rfl (lv_at hl 5 rfl) ?_
            refine lv_dup2_11 hx hb dX4_make_131 rfl rfl ?_
            refine va_iald hx hb hK hP 26 0 rfl rfl (vp_in_nI (show k < 16 by omega) (by decide)) dX4_make_132 ?_
            rw [nI_clamp (show k < 2 ^ 31 by have := (show k < 16 by omega); omega)]
            refine lv_iconst (v := 1) hx hb dX4_make_133 (by decide) ?_
            refine lv_iload hx hb dX4_make_134 (lv_at hl 6 rfl) ?_
            refine lv_ishl hx hb dX4_make_136 ?_
            refine lv_ior hx hb dX4_make_137 ?_
            refine va_iast hx hb hK hP hD hS 26 0 rfl rfl (vp_in_nI (show k < 16 by omega) (by decide)) dX4_make_138 (fun H locs hP hD hS => ?_)
            rw [nI_clamp (show k < 2 ^ 31 by have := (show k < 16 by omega); omega)] at hP hD
            have hP : va_P (dC, dI) vwCl (mL AB cI cZ sc (va_up (va_up ar 31 (stpN (ar 31) d (fun j => nI (y a (x j))) 16)) 32 (upd (upd (fillN (ar 32) (fun j => ar 32 j ||| mk (dfF (tiI (se a)) (fun j => y a (x j)) j)) k) k (ar 32 k ||| mkN (dfF (tiI (se a)) (fun j => y a (x j)) k) r)) k (((upd (fillN (ar 32) (fun j => ar 32 j ||| mk (dfF (tiI (se a)) (fun j => y a (x j)) j)) k) k (ar 32 k ||| mkN (dfF (tiI (se a)) (fun j => y a (x j)) k) r)) k) ||| (1 <<< ((nI r) &&& 31)))))) H := hP
            have hD : va_D V (mL AB cI cZ sc (va_up (va_up ar 31 (stpN (ar 31) d (fun j => nI (y a (x j))) 16)) 32 (upd (upd (fillN (ar 32) (fun j => ar 32 j ||| mk (dfF (tiI (se a)) (fun j => y a (x j)) j)) k) k (ar 32 k ||| mkN (dfF (tiI (se a)) (fun j => y a (x j)) k) r)) k (((upd (fillN (ar 32) (fun j => ar 32 j ||| mk (dfF (tiI (se a)) (fun j => y a (x j)) j)) k) k (ar 32 k ||| mkN (dfF (tiI (se a)) (fun j => y a (x j)) k) r)) k) ||| (1 <<< ((nI r) &&& 31)))))) := hD
            obtain ⟨y20, ey20⟩ : ∃ y : Int32, y = (nI r) + 1 := ⟨_, rfl⟩
            refine lv_iinc (v := y20) (lv' := [(4, .int y20), (6, .int (b2i (bt (nI (y a (x r))) j))), (5, .int (b2i (bt (nI (y a (x k))) j))), (0, .ref (AB 0)), (1, .int (nI a)), (2, .int (nI d)), (3, .int (nI k))]) hx hb dX4_make_139 hl (k := 6) rfl (by rw [ey20]; rfl) (by decide) rfl (fun ls hl => ?_)
            obtain rfl : y20 = nI (r + 1) := ey20.trans (nI_1 r)
            refine lv_goto (tgt := 63) hx hb dX4_make_142 (by decide) ?_
            have hdf := (show dfF (tiI (se a)) (fun j => y a (x j)) k r = true from by show (bt (tiI (se a)) (y a (x k)) ^^ bt (tiI (se a)) (y a (x r))) = _; rw [hsj, ti_bit j hj4 _ (hy a ha _ (hx1 k hlt).2).2, ti_bit j hj4 _ (hy a ha _ (hx1 r hr16).2).2]; exact b2i_ne c123_18)
            rw [upd_eq, upd_upd, b_orA, ← mkN_t hdf] at hP hD
            exact ih3 ls H locs ⟨hP, hD, hS, lv_sub hl [3, 4, 5, 6, 0] rfl⟩ hr16
  · skip
    have hlt := ctr_lt (N := 16) rfl (by decide) hk c5_0
    refine lv_aload_n hx hb dX4_make_8 rfl (lv_at hl 0 rfl) ?_
    refine va_get (D := (dC, dI)) (ci := 4) (v := .ref (AB 31)) (C := RX4) (T := TX4) (N := 33) hx hb hts hinX4 hown hK hP 0 rfl rfl 31 (by decide) (hts _ (List.mem_of_getElem? (i := 1) rfl)) (fun _ h9 => h9) rfl dX4_make_9 ?_
    refine lv_bipush (v := 16) hx hb dX4_make_12 (by decide) ?_
    refine lv_iload_n hx hb dX4_make_14 rfl (lv_at hl 2 rfl) ?_
    refine lv_iconst (v := 1) hx hb dX4_make_15 (by decide) ?_
    refine lv_iadd hx hb dX4_make_16 ?_
    refine lv_topi (fun y21 ey21 => ?_)
    obtain rfl : y21 = nI (d + 1) := ey21.trans (nI_1 d)
    refine lv_imul hx hb dX4_make_17 ?_
    refine lv_topi (fun y22 ey22 => ?_)
    obtain rfl : y22 = nI (16 * (d + 1)) := ey22.trans (pk_mul 16 (d + 1))
    refine lv_iload_n hx hb dX4_make_18 rfl (lv_at hl 3 rfl) ?_
    refine lv_iadd hx hb dX4_make_19 ?_
    refine lv_topi (fun y23 ey23 => ?_)
    obtain rfl : y23 = nI (16 * d + 16 + k) := ey23.trans ((nI_add (16 * (d + 1)) k).trans (by rw [show 16 * (d + 1) + k = 16 * d + 16 + k by omega]))
    refine lv_aload_n hx hb dX4_make_20 rfl (lv_at hl 0 rfl) ?_
    refine lv_iload_n hx hb dX4_make_21 rfl (lv_at hl 1 rfl) ?_
    refine lv_aload_n hx hb dX4_make_22 rfl (lv_at hl 0 rfl) ?_
    refine va_get (D := (dC, dI)) (ci := 4) (v := .ref (AB 31)) (C := RX4) (T := TX4) (N := 33) hx hb hts hinX4 hown hK hP 0 rfl rfl 31 (by decide) (hts _ (List.mem_of_getElem? (i := 1) rfl)) (fun _ h9 => h9) rfl dX4_make_23 ?_
    refine lv_bipush (v := 16) hx hb dX4_make_26 (by decide) ?_
    refine lv_iload_n hx hb dX4_make_28 rfl (lv_at hl 2 rfl) ?_
    refine lv_imul hx hb dX4_make_29 ?_
    refine lv_topi (fun y24 ey24 => ?_)
    obtain rfl : y24 = nI (16 * d) := ey24.trans (pk_mul 16 d)
    refine lv_iload_n hx hb dX4_make_30 rfl (lv_at hl 3 rfl) ?_
    refine lv_iadd hx hb dX4_make_31 ?_
    refine lv_topi (fun y25 ey25 => ?_)
    obtain rfl : y25 = nI (16 * d + k) := ey25.trans (nI_add (16 * d) k)
    refine va_iald hx hb hK hP 25 0 rfl rfl (vp_in_nI (show (16 * d + k) < 64 by omega) (by decide)) dX4_make_32 ?_
    rw [nI_clamp (show (16 * d + k) < 2 ^ 31 by have := (show (16 * d + k) < 64 by omega); omega)]
    refine lv_topi (fun y26 ey26 => ?_)
    obtain rfl : y26 = nI (x k) := ey26.trans ((stpN_lo (ar 31) (fun j => nI (y a (x j))) k (by omega)).trans (hx1 k hlt).1)
    refine vp_callSi (W.runV (As := [.int (nI a), .int (nI (x k))]) (rest := [.int (nI (16 * d + 16 + k)), .ref (AB 31)]) ⟨hx, hb, hml, hown, hts⟩ (m_next l dC dI AB cI cZ (sc, va_up ar 31 (stpN (ar 31) d (fun j => nI (y a (x j))) k)) ef ha ((frz_up frz.rf (by decide)).mok hM _ ha).2.1 (hM _ ha).2.2 (k := (x k)) (hx1 k hlt).2) (cwV 2 hts gX4_make_X4_next rfl rfl rfl (by decide +kernel) ⟨Nat.le_of_ble_eq_true rfl, Nat.le_of_ble_eq_true rfl⟩) ⟨bm_P, va_recv hK hP (ci := 4) (q0 := 0) rfl rfl, fun U hU hW => ⟨rfl, by rw [hU]; exact hP, va_K.moved hW.alike hK⟩⟩ rfl rfl hl.1 rfl (lv_room (Nat.le_of_ble_eq_true rfl)) dX4_make_33 ⟨Nat.zero_le _, Nat.zero_le _⟩) (fun r er => ?_)
    obtain rfl : r = nxN (sc, ar).2 a (x k) (ef a) := er.trans ((frz_up frz.rf (by decide)).nx _ _ _)
    rw [show nxN (sc, ar).2 a (x k) (ef a) = nI (y a (x k)) from (hy a ha _ (hx1 k hlt).2).1]
    refine va_iast hx hb hK hP hD hS 25 0 rfl rfl (vp_in_nI (show (16 * d + 16 + k) < 64 by omega) (by decide)) dX4_make_36 (fun H locs hP hD hS => ?_)
    rw [nI_clamp (show (16 * d + 16 + k) < 2 ^ 31 by have := (show (16 * d + 16 + k) < 64 by omega); omega)] at hP hD
    have hP : va_P (dC, dI) vwCl (mL AB cI cZ sc (va_up ar 31 (upd (stpN (ar 31) d (fun j => nI (y a (x j))) k) (16 * d + 16 + k) (nI (y a (x k)))))) H := hP
    have hD : va_D V (mL AB cI cZ sc (va_up ar 31 (upd (stpN (ar 31) d (fun j => nI (y a (x j))) k) (16 * d + 16 + k) (nI (y a (x k)))))) := hD
    rw [show upd (stpN (ar 31) d (fun j => nI (y a (x j))) k) (16 * d + 16 + k) (nI (y a (x k))) = stpN (ar 31) d (fun j => nI (y a (x j))) (k + 1) from stpN_s (ar 31) d (fun j => nI (y a (x j))) k rfl] at hP hD
    obtain ⟨y27, ey27⟩ : ∃ y : Int32, y = (nI k) + 1 := ⟨_, rfl⟩
    refine lv_iinc (v := y27) (lv' := [(3, .int y27), (0, .ref (AB 0)), (1, .int (nI a)), (2, .int (nI d))]) hx hb dX4_make_37 hl (k := 3) rfl (by rw [ey27]; rfl) (by decide) rfl (fun ls hl => ?_)
    obtain rfl : y27 = nI (k + 1) := ey27.trans (nI_1 k)
    refine lv_goto (tgt := 2) hx hb dX4_make_40 (by decide) ?_
    exact ih ls H locs ⟨hP, hD, hS, lv_sub hl [1, 2, 3, 0] rfl⟩ hlt
set_option maxHeartbeats 4000000 in
set_option maxRecDepth 100000 in
/-- beliefAt -/
theorem m_beliefAt (l : Launch) (dC : Nat → ClassId) (dI : Nat → Nat → Nat) (AB : Nat → Nat) (cI cZ : ClassId) (τ : MS) (b : Int32) {d : Nat} (hd : d < 4) : Met l yX4_beliefAt wsX4_beliefAt ({ frames := 0, cells := 0, slots := 0, locals := 0 }) (va_Pc [.ref (AB 0), .int b, .int (nI d)] (mP dC dI AB cI cZ τ)) (vp_Si (fun r => r = afN (fun j => τ.2 31 (16 * d + j)) b 16)) 0 0 (fun _ => False) := by
  refine Met.ofW (cc := cX4_beliefAt) (maxL := 5) (ret := (some .int)) (by decide) rfl ?_
  intro p e s m args below meth c s₁ B hml hv
  obtain ⟨rfl, hP, hK⟩ := hv
  have hx := B.exec
  have hb := B.bytes
  have hr := B.returns
  have hts := atoms_spec (ws := wsX4_beliefAt) B.pre
  have hown : s.vm.findClass RX4 = some m.cls := findClass_of_methodNamed B.named
  have hlocks := B.notSynchronized
  have hinX4 : ∀ w ∈ wsX40, w ∈ wsX4_beliefAt := fun _ h => List.mem_cons_of_mem _ (List.mem_append_right _ h)
  have hl := lv_entry ([.ref (AB 0), .int b, .int (nI d)]) (n := 5) (Nat.le_of_ble_eq_true rfl)
  rw [lg_entry_eq]
  generalize (lg_sl ([.ref (AB 0), .int b, .int (nI d)]) ++ List.replicate (5 - (lg_sl ([.ref (AB 0), .int b, .int (nI d)])).length) Slot.unset).toArray = ls at hl ⊢
  have hl : lv_has ls 5 [(0, .ref (AB 0)), (1, .int b), (2, .int (nI d))] := hl
  refine lv_iconst (v := 0) hx hb dX4_beliefAt_0 (by decide) ?_
  refine lv_istore_n (lv' := [(3, .int 0), (0, .ref (AB 0)), (1, .int b), (2, .int (nI d))]) hx hb dX4_beliefAt_1 rfl hl (by decide) rfl (fun ls hl => ?_)
  refine lv_iconst (v := 0) hx hb dX4_beliefAt_2 (by decide) ?_
  refine lv_istore (lv' := [(4, .int 0), (3, .int 0), (0, .ref (AB 0)), (1, .int b), (2, .int (nI d))]) hx hb dX4_beliefAt_3 hl (by decide) rfl (fun ls hl => ?_)
  refine w_loopP (pc := 5) 16 (fun k ls => lv_has ls 5 [(0, .ref (AB 0)), (1, .int b), (2, .int (nI d)), (3, .int (afN (fun j => τ.2 31 (16 * d + j)) b k)), (4, .int (nI k))]) ?_ 0 (Nat.zero_le _) ls (lv_sub hl [2, 3, 4, 1, 0] rfl)
  intro k ls hk hl ih
  refine lv_iload hx hb dX4_beliefAt_5 (lv_at hl 4 rfl) ?_
  refine lv_bipush (v := 16) hx hb dX4_beliefAt_7 (by decide) ?_
  refine lv_icmp_ge (tgt := 49) hx hb dX4_beliefAt_9 (by decide) (fun c9_0 => ?_) (fun c9_0 => ?_)
  · skip
    obtain rfl := ctr_ge (N := 16) rfl (by decide) hk c9_0
    refine lv_iload_n hx hb dX4_beliefAt_49 rfl (lv_at hl 3 rfl) ?_
    exact W.iret hx hb hr (fun t ht hW => ⟨_, rfl, rfl, ht⟩) (fun q h => nomatch h) dX4_beliefAt_50
  · skip
    have hlt := ctr_lt (N := 16) rfl (by decide) hk c9_0
    refine lv_iload_n hx hb dX4_beliefAt_12 rfl (lv_at hl 3 rfl) ?_
    refine lv_iload_n hx hb dX4_beliefAt_13 rfl (lv_at hl 1 rfl) ?_
    refine lv_iload hx hb dX4_beliefAt_14 (lv_at hl 4 rfl) ?_
    refine lv_ishr hx hb dX4_beliefAt_16 ?_
    refine lv_iconst (v := 1) hx hb dX4_beliefAt_17 (by decide) ?_
    refine lv_iand hx hb dX4_beliefAt_18 ?_
    refine lv_topi (fun y1 ey1 => ?_)
    obtain rfl : y1 = b2i (bt b k) := ey1.trans (b_shr1 (by omega) b)
    refine lv_iconst (v := 1) hx hb dX4_beliefAt_19 (by decide) ?_
    refine lv_icmp_ne (tgt := 40) hx hb dX4_beliefAt_20 (by decide) (fun c20_2 => ?_) (fun c20_2 => ?_)
    · skip
      refine lv_iconst (v := 0) hx hb dX4_beliefAt_40 (by decide) ?_
      refine lv_ior hx hb dX4_beliefAt_41 ?_
      refine lv_istore_n (lv' := [(3, .int ((afN (fun j => τ.2 31 (16 * d + j)) b k) ||| 0)), (0, .ref (AB 0)), (1, .int b), (2, .int (nI d)), (4, .int (nI k))]) hx hb dX4_beliefAt_42 rfl hl (by decide) rfl (fun ls hl => ?_)
      obtain ⟨y3, ey3⟩ : ∃ y : Int32, y = (nI k) + 1 := ⟨_, rfl⟩
      refine lv_iinc (v := y3) (lv' := [(4, .int y3), (3, .int ((afN (fun j => τ.2 31 (16 * d + j)) b k) ||| 0)), (0, .ref (AB 0)), (1, .int b), (2, .int (nI d))]) hx hb dX4_beliefAt_43 hl (k := 4) rfl (by rw [ey3]; rfl) (by decide) rfl (fun ls hl => ?_)
      obtain rfl : y3 = nI (k + 1) := ey3.trans (nI_1 k)
      refine lv_goto (tgt := 5) hx hb dX4_beliefAt_46 (by decide) ?_
      exact ih ls (by rw [afN, if_neg (by rw [b2i_n1.mp c20_2]; decide), ← b_or0 (afN (fun j => τ.2 31 (16 * d + j)) b k)]; exact lv_sub hl [2, 3, 4, 1, 0] rfl) hlt
    · skip
      refine lv_iconst (v := 1) hx hb dX4_beliefAt_23 (by decide) ?_
      refine lv_aload_n hx hb dX4_beliefAt_24 rfl (lv_at hl 0 rfl) ?_
      refine va_get (D := (dC, dI)) (ci := 4) (v := .ref (AB 31)) (C := RX4) (T := TX4) (N := 33) hx hb hts hinX4 hown hK hP 0 rfl rfl 31 (by decide) (hts _ (List.mem_of_getElem? (i := 1) rfl)) (fun _ h9 => h9) rfl dX4_beliefAt_25 ?_
      refine lv_bipush (v := 16) hx hb dX4_beliefAt_28 (by decide) ?_
      refine lv_iload_n hx hb dX4_beliefAt_30 rfl (lv_at hl 2 rfl) ?_
      refine lv_imul hx hb dX4_beliefAt_31 ?_
      refine lv_topi (fun y4 ey4 => ?_)
      obtain rfl : y4 = nI (16 * d) := ey4.trans (pk_mul 16 d)
      refine lv_iload hx hb dX4_beliefAt_32 (lv_at hl 4 rfl) ?_
      refine lv_iadd hx hb dX4_beliefAt_34 ?_
      refine lv_topi (fun y5 ey5 => ?_)
      obtain rfl : y5 = nI (16 * d + k) := ey5.trans (nI_add (16 * d) k)
      refine va_iald hx hb hK hP 25 0 rfl rfl (vp_in_nI (show (16 * d + k) < 64 by omega) (by decide)) dX4_beliefAt_35 ?_
      rw [nI_clamp (show (16 * d + k) < 2 ^ 31 by have := (show (16 * d + k) < 64 by omega); omega)]
      refine lv_ishl hx hb dX4_beliefAt_36 ?_
      refine lv_goto (tgt := 41) hx hb dX4_beliefAt_37 (by decide) ?_
      refine lv_ior hx hb dX4_beliefAt_41 ?_
      refine lv_istore_n (lv' := [(3, .int ((afN (fun j => τ.2 31 (16 * d + j)) b k) ||| (1 <<< ((τ.2 31 (16 * d + k)) &&& 31)))), (0, .ref (AB 0)), (1, .int b), (2, .int (nI d)), (4, .int (nI k))]) hx hb dX4_beliefAt_42 rfl hl (by decide) rfl (fun ls hl => ?_)
      obtain ⟨y6, ey6⟩ : ∃ y : Int32, y = (nI k) + 1 := ⟨_, rfl⟩
      refine lv_iinc (v := y6) (lv' := [(4, .int y6), (3, .int ((afN (fun j => τ.2 31 (16 * d + j)) b k) ||| (1 <<< ((τ.2 31 (16 * d + k)) &&& 31)))), (0, .ref (AB 0)), (1, .int b), (2, .int (nI d))]) hx hb dX4_beliefAt_43 hl (k := 4) rfl (by rw [ey6]; rfl) (by decide) rfl (fun ls hl => ?_)
      obtain rfl : y6 = nI (k + 1) := ey6.trans (nI_1 k)
      refine lv_goto (tgt := 5) hx hb dX4_beliefAt_46 (by decide) ?_
      exact ih ls (by rw [afN, if_pos (b2i_1.mp c20_2)]; exact lv_sub hl [2, 3, 4, 1, 0] rfl) hlt
set_option maxHeartbeats 4000000 in
set_option maxRecDepth 100000 in
/-- twins 0 -/
theorem m_twins0 (l : Launch) (dC : Nat → ClassId) (dI : Nat → Nat → Nat) (AB : Nat → Nat) (cI cZ : ClassId) (τ : MS) (sz : Nat) {th : Nat → Bool} {ef : Nat → Nat} (hM : mok th ef τ) {C : Nat} (hC : τ.1 10 = nI C) (hC6 : C ≤ 6) {se : Nat → Option Nat} (hse : ∀ a, a < 8 → τ.2 4 a = o2i (se a) ∧ ∀ j, se a = some j → j < 4) {y : Nat → Nat → Nat} (hy : ∀ a, a < 8 → ∀ u, u < 16 → nxN τ.2 a u (ef a) = nI (y a u) ∧ y a u < 16) {q2 : Nat} (h : (List.range 256).find? (twP (stR τ C) (twF (usR th τ) (fun a => tiI (se a)) y (stR τ C) 729 (fillN (τ.2 32) (fun _ => 0) 16))) = some q2) : Met l yX4_twins wsX4_twins ({ frames := 12, cells := 0, slots := 0, locals := 600 }) (va_Pc [.ref (AB 0)] (mF dC dI AB cI cZ sz τ)) (va_Qi (fun (r : Int32) (τ2 : MS) => r = nI q2 ∧ ∃ at0 : Nat → Int32, τ2 = (va_up τ.1 0 0, va_up (va_up τ.2 31 at0) 32 (twF (usR th τ) (fun a => tiI (se a)) y (stR τ C) 729 (fillN (τ.2 32) (fun _ => 0) 16)))) (mB dC dI AB cI cZ (va_A (mW AB cI cZ τ) sz)) (va_A (mW AB cI cZ τ) sz)) 0 0 (va_A (mW AB cI cZ τ) sz) := by
  obtain ⟨sc, ar⟩ := τ
  refine Met.ofW (cc := cX4_twins) (maxL := 6) (ret := (some .int)) (by decide) rfl ?_
  intro p e s m args below meth c s₁ B hml hv
  obtain ⟨rfl, hsz, hP, hK, hD0⟩ := hv
  have hx := B.exec
  have hb := B.bytes
  have hr := B.returns
  have hts := atoms_spec (ws := wsX4_twins) B.pre
  have hown : s.vm.findClass RX4 = some m.cls := findClass_of_methodNamed B.named
  have hlocks := B.notSynchronized
  have hinX4 : ∀ w ∈ wsX40, w ∈ wsX4_twins := fun _ h => List.mem_cons_of_mem _ (List.mem_append_right _ h)
  subst hsz
  have hD := hD0.self (sz := s.heap.size)
  generalize hAe : va_A (mW AB cI cZ _) s.heap.size = V at hD ⊢
  have hA : ∀ q : Nat, s.heap.size ≤ q → V q := fun q h => by rw [← hAe]; exact Or.inr h
  have hS : va_S V s.heap s.heap [] := va_S.rf
  have hl := lv_entry ([.ref (AB 0)]) (n := 6) (Nat.le_of_ble_eq_true rfl)
  rw [lg_entry_eq]
  generalize (lg_sl ([.ref (AB 0)]) ++ List.replicate (6 - (lg_sl ([.ref (AB 0)])).length) Slot.unset).toArray = ls at hl ⊢
  have hl : lv_has ls 6 [(0, .ref (AB 0))] := hl
  have hP : va_P (dC, dI) vwCl (mL AB cI cZ sc ar) s.heap := hP
  have hD : va_D V (mL AB cI cZ sc ar) := hD
  have hse : ∀ a, a < 8 → ar 4 a = o2i (se a) ∧ ∀ j, se a = some j → j < 4 := hse
  have hy : ∀ a, a < 8 → ∀ u, u < 16 → nxN ar a u (ef a) = nI (y a u) ∧ y a u < 16 := hy
  refine lv_aload_n hx hb dX4_twins_0 rfl (lv_at hl 0 rfl) ?_
  refine lv_iconst (v := 0) hx hb dX4_twins_1 (by decide) ?_
  refine va_put (D := (dC, dI)) (ci := 4) (v := .int 0) (ty := .int) (C := RX4) (T := TX4) (N := 33) hx hb hts hinX4 tyX4 tyX4_ok nmX4 hown hK hP hD hS 0 rfl rfl 0 (by decide) (hts _ (List.mem_of_getElem? (i := 1) rfl)) (fun _ h9 => h9) rfl (by decide +kernel) rfl rfl (Nat.le_of_ble_eq_true rfl) dX4_twins_2 (fun H locs hP hD hS => ?_)
  have hP : va_P (dC, dI) vwCl (mL AB cI cZ (va_up sc 0 0) ar) H := hP
  have hD : va_D V (mL AB cI cZ (va_up sc 0 0) ar) := hD
  refine lv_aload_n hx hb dX4_twins_5 rfl (lv_at hl 0 rfl) ?_
  refine vp_callSi (W.runV (As := []) (rest := []) ⟨hx, hb, hml, hown, hts⟩ (m_startBelief l dC dI AB cI cZ (va_up sc 0 0, ar) (C := C) hC hC6) (cwV 0 hts gX4_twins_X4_startBelief rfl rfl rfl (by decide +kernel) ⟨Nat.le_of_ble_eq_true rfl, Nat.le_of_ble_eq_true rfl⟩) ⟨bm_P, va_recv hK hP (ci := 4) (q0 := 0) rfl rfl, fun U hU hW => ⟨rfl, by rw [hU]; exact hP, va_K.moved hW.alike hK⟩⟩ rfl rfl hl.1 rfl (lv_room (Nat.le_of_ble_eq_true rfl)) dX4_twins_6 ⟨Nat.zero_le _, Nat.zero_le _⟩) (fun r er => ?_)
  obtain rfl : r = stR (sc, ar) C := er.trans (by rw [(frz_sc frz.rf (by decide)).st])
  refine lv_istore_n (lv' := [(1, .int (stR (sc, ar) C)), (0, .ref (AB 0))]) hx hb dX4_twins_9 rfl hl (by decide) rfl (fun ls hl => ?_)
  refine lv_iconst (v := 0) hx hb dX4_twins_10 (by decide) ?_
  refine lv_istore_n (lv' := [(2, .int 0), (1, .int (stR (sc, ar) C)), (0, .ref (AB 0))]) hx hb dX4_twins_11 rfl hl (by decide) rfl (fun ls hl => ?_)
  refine w_loopH (pc := 12) 16 (fun k ls H locs => va_P (dC, dI) vwCl (mL AB cI cZ (va_up sc 0 0) (va_up (va_up ar 31 (fillN (ar 31) (fun j => nI j) k)) 32 (fillN (ar 32) (fun _ => 0) k))) H ∧ va_D V (mL AB cI cZ (va_up sc 0 0) (va_up (va_up ar 31 (fillN (ar 31) (fun j => nI j) k)) 32 (fillN (ar 32) (fun _ => 0) k))) ∧ va_S V s.heap H locs ∧ lv_has ls 6 [(0, .ref (AB 0)), (1, .int (stR (sc, ar) C)), (2, .int (nI k))]) ?_ 0 (Nat.zero_le _) ls _ _ ⟨by rw [fillN_0, fillN_0]; exact hP, by rw [fillN_0, fillN_0]; exact hD, hS, lv_sub hl [2, 1, 0] rfl⟩
  intro k ls H locs hk hI ih
  obtain ⟨hP, hD, hS, hl⟩ := hI
  refine lv_iload_n hx hb dX4_twins_12 rfl (lv_at hl 2 rfl) ?_
  refine lv_bipush (v := 16) hx hb dX4_twins_13 (by decide) ?_
  refine lv_icmp_ge (tgt := 38) hx hb dX4_twins_15 (by decide) (fun c15_0 => ?_) (fun c15_0 => ?_)
  · skip
    obtain rfl := ctr_ge (N := 16) rfl (by decide) hk c15_0
    refine lv_iconst (v := 0) hx hb dX4_twins_38 (by decide) ?_
    refine lv_istore_n (lv' := [(2, .int 0), (0, .ref (AB 0)), (1, .int (stR (sc, ar) C))]) hx hb dX4_twins_39 rfl hl (by decide) rfl (fun ls hl => ?_)
    refine w_loopH (pc := 40) 729 (fun n ls H locs => ∃ at0 : Nat → Int32, va_P (dC, dI) vwCl (mL AB cI cZ (va_up sc 0 0) (va_up (va_up ar 31 at0) 32 (twF (usR th (sc, ar)) (fun a => tiI (se a)) y (stR (sc, ar) C) n (fillN (ar 32) (fun _ => 0) 16)))) H ∧ va_D V (mL AB cI cZ (va_up sc 0 0) (va_up (va_up ar 31 at0) 32 (twF (usR th (sc, ar)) (fun a => tiI (se a)) y (stR (sc, ar) C) n (fillN (ar 32) (fun _ => 0) 16)))) ∧ va_S V s.heap H locs ∧ (∀ j, j < 16 → at0 (16 * 0 + j) = nI j) ∧ lv_has ls 6 [(0, .ref (AB 0)), (1, .int (stR (sc, ar) C)), (2, .int (nI n))]) ?_ 0 (Nat.zero_le _) ls _ _ ⟨fillN (ar 31) (fun j => nI j) 16, hP, hD, hS, (fun j hj => by rw [Nat.mul_zero, Nat.zero_add]; exact fillN_lt _ _ hj), lv_sub hl [1, 2, 0] rfl⟩
    intro n ls H locs hkn hI ihn
    obtain ⟨at0, hP, hD, hS, hat0, hl⟩ := hI
    refine lv_iload_n hx hb dX4_twins_40 rfl (lv_at hl 2 rfl) ?_
    refine lv_sipush (v := 729) hx hb dX4_twins_41 (by decide) ?_
    refine lv_icmp_ge (tgt := 149) hx hb dX4_twins_44 (by decide) (fun c44_1 => ?_) (fun c44_1 => ?_)
    · skip
      have hn9 : n = 729 := ctr_ge (N := 729) rfl (by decide) hkn c44_1
      obtain ⟨apF, hapF⟩ : ∃ f, f = twF (usR th (sc, ar)) (fun a => tiI (se a)) y (stR (sc, ar) C) n (fillN (ar 32) (fun _ => 0) 16) := ⟨_, rfl⟩
      rw [← hapF] at hP hD
      rw [hn9] at hapF
      refine lv_iconst (v := 0) hx hb dX4_twins_149 (by decide) ?_
      refine lv_istore_n (lv' := [(2, .int 0), (0, .ref (AB 0)), (1, .int (stR (sc, ar) C))]) hx hb dX4_twins_150 rfl hl (by decide) rfl (fun ls hl => ?_)
      refine w_loopP (pc := 151) 16 (fun i ls => (∀ q, q < 16 * i → (twP (stR (sc, ar) C) apF) q = false) ∧ lv_has ls 6 [(0, .ref (AB 0)), (1, .int (stR (sc, ar) C)), (2, .int (nI i))]) ?_ 0 (Nat.zero_le _) ls ⟨fun q hq => absurd hq (by omega), lv_sub hl [1, 2, 0] rfl⟩
      intro i ls hk hI ih
      obtain ⟨hq, hl⟩ := hI
      refine lv_iload_n hx hb dX4_twins_151 rfl (lv_at hl 2 rfl) ?_
      refine lv_bipush (v := 16) hx hb dX4_twins_152 (by decide) ?_
      refine lv_icmp_ge (tgt := 217) hx hb dX4_twins_154 (by decide) (fun c154_2 => ?_) (fun c154_2 => ?_)
      · obtain rfl := ctr_ge (N := 16) rfl (by decide) hk c154_2; (have h9 : (List.range 256).find? (twP (stR (sc, ar) C) apF) = some q2 := by rw [hapF]; exact h); rw [find_no hq] at h9; cases h9
      · skip
        have hi := ctr_lt (N := 16) rfl (by decide) hk c154_2
        refine lv_iload_n hx hb dX4_twins_157 rfl (lv_at hl 2 rfl) ?_
        refine lv_iconst (v := 1) hx hb dX4_twins_158 (by decide) ?_
        refine lv_iadd hx hb dX4_twins_159 ?_
        refine lv_topi (fun y3 ey3 => ?_)
        obtain rfl : y3 = nI (i + 1) := ey3.trans (nI_1 i)
        refine lv_istore_n (lv' := [(3, .int (nI (i + 1))), (0, .ref (AB 0)), (1, .int (stR (sc, ar) C)), (2, .int (nI i))]) hx hb dX4_twins_160 rfl hl (by decide) rfl (fun ls hl => ?_)
        have hq1 : ∀ q, q < 16 * i + (i + 1) → (twP (stR (sc, ar) C) apF) q = false := fun q h => twP_lo hq h
        refine w_loopP (pc := 161) 16 (fun j ls => i < j ∧ (∀ q, q < 16 * i + j → (twP (stR (sc, ar) C) apF) q = false) ∧ lv_has ls 6 [(0, .ref (AB 0)), (1, .int (stR (sc, ar) C)), (2, .int (nI i)), (3, .int (nI j))]) ?_ (i + 1) (by omega) ls ⟨by omega, hq1, lv_sub hl [1, 2, 3, 0] rfl⟩
        intro j ls hk2 hI ih2
        obtain ⟨hij, hq, hl⟩ := hI
        refine lv_iload_n hx hb dX4_twins_161 rfl (lv_at hl 3 rfl) ?_
        refine lv_bipush (v := 16) hx hb dX4_twins_162 (by decide) ?_
        refine lv_icmp_ge (tgt := 211) hx hb dX4_twins_164 (by decide) (fun c164_4 => ?_) (fun c164_4 => ?_)
        · skip
          obtain rfl := ctr_ge (N := 16) rfl (by decide) hk2 c164_4
          obtain ⟨y5, ey5⟩ : ∃ y : Int32, y = (nI i) + 1 := ⟨_, rfl⟩
          refine lv_iinc (v := y5) (lv' := [(2, .int y5), (0, .ref (AB 0)), (1, .int (stR (sc, ar) C)), (3, .int (nI 16))]) hx hb dX4_twins_211 hl (k := 2) rfl (by rw [ey5]; rfl) (by decide) rfl (fun ls hl => ?_)
          obtain rfl : y5 = nI (i + 1) := ey5.trans (nI_1 i)
          refine lv_goto (tgt := 151) hx hb dX4_twins_214 (by decide) ?_
          exact ih ls ⟨by rw [show 16 * (i + 1) = 16 * i + 16 by omega]; exact hq, lv_sub hl [1, 2, 0] rfl⟩ hi
        · skip
          have hj := ctr_lt (N := 16) rfl (by decide) hk2 c164_4
          refine lv_iload_n hx hb dX4_twins_167 rfl (lv_at hl 1 rfl) ?_
          refine lv_iload_n hx hb dX4_twins_168 rfl (lv_at hl 2 rfl) ?_
          refine lv_ishr hx hb dX4_twins_169 ?_
          refine lv_iconst (v := 1) hx hb dX4_twins_170 (by decide) ?_
          refine lv_iand hx hb dX4_twins_171 ?_
          refine lv_topi (fun y6 ey6 => ?_)
          obtain rfl : y6 = b2i (bt (stR (sc, ar) C) i) := ey6.trans (b_shr1 (by omega) _)
          refine lv_iconst (v := 1) hx hb dX4_twins_172 (by decide) ?_
          refine lv_icmp_ne (tgt := 205) hx hb dX4_twins_173 (by decide) (fun c173_7 => ?_) (fun c173_7 => ?_)
          · skip
            obtain ⟨y8, ey8⟩ : ∃ y : Int32, y = (nI j) + 1 := ⟨_, rfl⟩
            refine lv_iinc (v := y8) (lv' := [(3, .int y8), (0, .ref (AB 0)), (1, .int (stR (sc, ar) C)), (2, .int (nI i))]) hx hb dX4_twins_205 hl (k := 3) rfl (by rw [ey8]; rfl) (by decide) rfl (fun ls hl => ?_)
            obtain rfl : y8 = nI (j + 1) := ey8.trans (nI_1 j)
            refine lv_goto (tgt := 161) hx hb dX4_twins_208 (by decide) ?_
            exact ih2 ls ⟨by omega, lt_s hq (twP_0 hi hj (b2i_n1.mp c173_7)), lv_sub hl [1, 2, 3, 0] rfl⟩ hj
          · skip
            refine lv_iload_n hx hb dX4_twins_176 rfl (lv_at hl 1 rfl) ?_
            refine lv_iload_n hx hb dX4_twins_177 rfl (lv_at hl 3 rfl) ?_
            refine lv_ishr hx hb dX4_twins_178 ?_
            refine lv_iconst (v := 1) hx hb dX4_twins_179 (by decide) ?_
            refine lv_iand hx hb dX4_twins_180 ?_
            refine lv_topi (fun y9 ey9 => ?_)
            obtain rfl : y9 = b2i (bt (stR (sc, ar) C) j) := ey9.trans (b_shr1 (by omega) _)
            refine lv_iconst (v := 1) hx hb dX4_twins_181 (by decide) ?_
            refine lv_icmp_ne (tgt := 205) hx hb dX4_twins_182 (by decide) (fun c182_10 => ?_) (fun c182_10 => ?_)
            · skip
              obtain ⟨y11, ey11⟩ : ∃ y : Int32, y = (nI j) + 1 := ⟨_, rfl⟩
              refine lv_iinc (v := y11) (lv' := [(3, .int y11), (0, .ref (AB 0)), (1, .int (stR (sc, ar) C)), (2, .int (nI i))]) hx hb dX4_twins_205 hl (k := 3) rfl (by rw [ey11]; rfl) (by decide) rfl (fun ls hl => ?_)
              obtain rfl : y11 = nI (j + 1) := ey11.trans (nI_1 j)
              refine lv_goto (tgt := 161) hx hb dX4_twins_208 (by decide) ?_
              exact ih2 ls ⟨by omega, lt_s hq (twP_1 hi hj (b2i_n1.mp c182_10)), lv_sub hl [1, 2, 3, 0] rfl⟩ hj
            · skip
              refine lv_aload_n hx hb dX4_twins_185 rfl (lv_at hl 0 rfl) ?_
              refine va_get (D := (dC, dI)) (ci := 4) (v := .ref (AB 32)) (C := RX4) (T := TX4) (N := 33) hx hb hts hinX4 hown hK hP 0 rfl rfl 32 (by decide) (hts _ (List.mem_of_getElem? (i := 2) rfl)) (fun _ h9 => h9) rfl dX4_twins_186 ?_
              refine lv_iload_n hx hb dX4_twins_189 rfl (lv_at hl 2 rfl) ?_
              refine va_iald hx hb hK hP 26 0 rfl rfl (vp_in_nI (show i < 16 by omega) (by decide)) dX4_twins_190 ?_
              rw [nI_clamp (show i < 2 ^ 31 by have := (show i < 16 by omega); omega)]
              refine lv_iload_n hx hb dX4_twins_191 rfl (lv_at hl 3 rfl) ?_
              refine lv_ishr hx hb dX4_twins_192 ?_
              refine lv_iconst (v := 1) hx hb dX4_twins_193 (by decide) ?_
              refine lv_iand hx hb dX4_twins_194 ?_
              refine lv_topi (fun y12 ey12 => ?_)
              obtain rfl : y12 = b2i (bt (apF i) j) := ey12.trans (b_shr1 (by omega) _)
              refine lv_if_ne (tgt := 205) hx hb dX4_twins_195 (by decide) (fun c195_13 => ?_) (fun c195_13 => ?_)
              · skip
                obtain ⟨y14, ey14⟩ : ∃ y : Int32, y = (nI j) + 1 := ⟨_, rfl⟩
                refine lv_iinc (v := y14) (lv' := [(3, .int y14), (0, .ref (AB 0)), (1, .int (stR (sc, ar) C)), (2, .int (nI i))]) hx hb dX4_twins_205 hl (k := 3) rfl (by rw [ey14]; rfl) (by decide) rfl (fun ls hl => ?_)
                obtain rfl : y14 = nI (j + 1) := ey14.trans (nI_1 j)
                refine lv_goto (tgt := 161) hx hb dX4_twins_208 (by decide) ?_
                exact ih2 ls ⟨by omega, lt_s hq (twP_2 hi hj (b2i_n0.mp c195_13)), lv_sub hl [1, 2, 3, 0] rfl⟩ hj
              · skip
                refine lv_bipush (v := 16) hx hb dX4_twins_198 (by decide) ?_
                refine lv_iload_n hx hb dX4_twins_200 rfl (lv_at hl 2 rfl) ?_
                refine lv_imul hx hb dX4_twins_201 ?_
                refine lv_topi (fun y15 ey15 => ?_)
                obtain rfl : y15 = nI (16 * i) := ey15.trans (pk_mul 16 i)
                refine lv_iload_n hx hb dX4_twins_202 rfl (lv_at hl 3 rfl) ?_
                refine lv_iadd hx hb dX4_twins_203 ?_
                refine lv_topi (fun y16 ey16 => ?_)
                obtain rfl : y16 = nI (16 * i + j) := ey16.trans (nI_add (16 * i) j)
                have hfd : (List.range 256).find? (twP (stR (sc, ar) C) apF) = some (16 * i + j) := find_at (show 16 * i + j < 256 by omega) (twP_t hi hj hij (b2i_1.mp c173_7) (b2i_1.mp c182_10) (b2i_0.mp c195_13)) hq
                rw [hapF] at hfd
                obtain rfl : 16 * i + j = q2 := Option.some.inj (hfd.symm.trans h)
                exact W.iret hx hb hr (fun t ht hW => ⟨⟨_, (va_up sc 0 0, va_up (va_up ar 31 at0) 32 apF), rfl, ⟨rfl, at0, by rw [hapF]⟩, by rw [ht]; exact hP, hD⟩, hS.F ht⟩) hS.2.2 dX4_twins_204
    · skip
      have hn729 : n < 729 := ctr_lt (N := 729) rfl (by decide) hkn c44_1
      refine lv_iconst (v := 1) hx hb dX4_twins_47 (by decide) ?_
      refine lv_istore_n (lv' := [(3, .int 1), (0, .ref (AB 0)), (1, .int (stR (sc, ar) C)), (2, .int (nI n))]) hx hb dX4_twins_48 rfl hl (by decide) rfl (fun ls hl => ?_)
      refine lv_iconst (v := 0) hx hb dX4_twins_49 (by decide) ?_
      refine lv_topi (fun y17 ey17 => ?_)
      obtain rfl : y17 = nI 0 := ey17.trans (rfl)
      refine lv_istore (lv' := [(4, .int (nI 0)), (3, .int 1), (0, .ref (AB 0)), (1, .int (stR (sc, ar) C)), (2, .int (nI n))]) hx hb dX4_twins_50 hl (by decide) rfl (fun ls hl => ?_)
      refine lv_iload hx hb dX4_twins_52 (lv_at hl 0 rfl) ?_
      refine lv_iconst (v := 3) hx hb dX4_twins_54 (by decide) ?_
      refine lv_icmp_ge (tgt := 143) hx hb dX4_twins_55 (by decide) (fun c55_18 => ?_) (fun c55_18 => ?_)
      · exact absurd c55_18 (by decide)
      · skip
        refine lv_iload_n hx hb dX4_twins_58 rfl (lv_at hl 1 rfl) ?_
        refine lv_if_eq (tgt := 143) hx hb dX4_twins_59 (by decide) (fun c59_19 => ?_) (fun c59_19 => ?_)
        · exact absurd c59_19 (by decide)
        · skip
          refine lv_iload hx hb dX4_twins_62 (lv_at hl 0 rfl) ?_
          refine lv_if_ne (tgt := 74) hx hb dX4_twins_64 (by decide) (fun c64_20 => ?_) (fun c64_20 => ?_)
          · exact absurd rfl c64_20
          · skip
            refine lv_iload_n hx hb dX4_twins_67 rfl (lv_at hl 4 rfl) ?_
            refine lv_bipush (v := 81) hx hb dX4_twins_68 (by decide) ?_
            refine lv_idiv hx hb dX4_twins_70 (by decide) ?_
            refine lv_topi (fun y21 ey21 => ?_)
            obtain rfl : y21 = nI (n / 81) := ey21.trans (dv81 n hn729)
            refine lv_goto (tgt := 94) hx hb dX4_twins_71 (by decide) ?_
            refine lv_istore (lv' := [(5, .int (nI (n / 81))), (4, .int (nI 0)), (3, .int 1), (0, .ref (AB 0)), (1, .int (stR (sc, ar) C)), (2, .int (nI n))]) hx hb dX4_twins_94 hl (by decide) rfl (fun ls hl => ?_)
            refine lv_iload hx hb dX4_twins_96 (lv_at hl 0 rfl) ?_
            refine lv_bipush (v := 8) hx hb dX4_twins_98 (by decide) ?_
            refine lv_icmp_ge (tgt := 123) hx hb dX4_twins_100 (by decide) (fun c100_22 => ?_) (fun c100_22 => ?_)
            · skip
              have h80 : ¬ n / 81 < 8 := fun z9 => absurd c100_22 (Int32.not_le.mpr (nI_lt (b := 8) z9 (by decide)))
              refine lv_iconst (v := 0) hx hb dX4_twins_123 (by decide) ?_
              refine lv_istore_n (lv' := [(3, .int 0), (5, .int (nI (n / 81))), (4, .int (nI 0)), (0, .ref (AB 0)), (1, .int (stR (sc, ar) C)), (2, .int (nI n))]) hx hb dX4_twins_124 rfl hl (by decide) rfl (fun ls hl => ?_)
              refine lv_iload_n hx hb dX4_twins_125 rfl (lv_at hl 0 rfl) ?_
              refine lv_if_eq (tgt := 137) hx hb dX4_twins_126 (by decide) (fun c126_23 => ?_) (fun c126_23 => ?_)
              · skip
                obtain ⟨y24, ey24⟩ : ∃ y : Int32, y = (nI 0) + 1 := ⟨_, rfl⟩
                refine lv_iinc (v := y24) (lv' := [(4, .int y24), (3, .int 0), (5, .int (nI (n / 81))), (0, .ref (AB 0)), (1, .int (stR (sc, ar) C)), (2, .int (nI n))]) hx hb dX4_twins_137 hl (k := 2) rfl (by rw [ey24]; rfl) (by decide) rfl (fun ls hl => ?_)
                obtain rfl : y24 = nI (0 + 1) := ey24.trans (nI_1 0)
                refine lv_goto (tgt := 52) hx hb dX4_twins_140 (by decide) ?_
                refine lv_iload hx hb dX4_twins_52 (lv_at hl 0 rfl) ?_
                refine lv_iconst (v := 3) hx hb dX4_twins_54 (by decide) ?_
                refine lv_icmp_ge (tgt := 143) hx hb dX4_twins_55 (by decide) (fun c55_25 => ?_) (fun c55_25 => ?_)
                · exact absurd c55_25 (by decide)
                · skip
                  refine lv_iload_n hx hb dX4_twins_58 rfl (lv_at hl 1 rfl) ?_
                  refine lv_if_eq (tgt := 143) hx hb dX4_twins_59 (by decide) (fun c59_26 => ?_) (fun c59_26 => ?_)
                  · skip
                    obtain ⟨y27, ey27⟩ : ∃ y : Int32, y = (nI n) + 1 := ⟨_, rfl⟩
                    refine lv_iinc (v := y27) (lv' := [(2, .int y27), (4, .int (nI (0 + 1))), (3, .int 0), (5, .int (nI (n / 81))), (0, .ref (AB 0)), (1, .int (stR (sc, ar) C))]) hx hb dX4_twins_143 hl (k := 5) rfl (by rw [ey27]; rfl) (by decide) rfl (fun ls hl => ?_)
                    obtain rfl : y27 = nI (n + 1) := ey27.trans (nI_1 n)
                    refine lv_goto (tgt := 40) hx hb dX4_twins_146 (by decide) ?_
                    have hst : twF (usR th (sc, ar)) (fun a => tiI (se a)) y (stR (sc, ar) C) (n + 1) (fillN (ar 32) (fun _ => 0) 16) = twF (usR th (sc, ar)) (fun a => tiI (se a)) y (stR (sc, ar) C) n (fillN (ar 32) (fun _ => 0) 16) := by rw [twF_s, rwF_8 h80]
                    exact ihn ls H locs ⟨at0, by rw [hst]; exact hP, by rw [hst]; exact hD, hS, hat0, lv_sub hl [4, 5, 0] rfl⟩ hn729
                  · exact absurd rfl c59_26
              · exact absurd rfl c126_23
            · skip
              have h80 : n / 81 < 8 := by rcases Nat.lt_or_ge (n / 81) 8 with z9 | z9; exact z9; exact absurd (nI_le (a := 8) z9 (by omega)) c100_22
              refine lv_aload_n hx hb dX4_twins_103 rfl (lv_at hl 3 rfl) ?_
              refine lv_iload hx hb dX4_twins_104 (lv_at hl 0 rfl) ?_
              refine lv_aload_n hx hb dX4_twins_106 rfl (lv_at hl 3 rfl) ?_
              refine lv_iload_n hx hb dX4_twins_107 rfl (lv_at hl 4 rfl) ?_
              refine lv_iload hx hb dX4_twins_108 (lv_at hl 1 rfl) ?_
              refine vp_callSi (W.runV (As := [.int (stR (sc, ar) C), .int (nI 0)]) (rest := [.int (nI (n / 81)), .ref (AB 0)]) ⟨hx, hb, hml, hown, hts⟩ (m_beliefAt l dC dI AB cI cZ (va_up sc 0 0, va_up (va_up ar 31 at0) 32 (twF (usR th (sc, ar)) (fun a => tiI (se a)) y (stR (sc, ar) C) n (fillN (ar 32) (fun _ => 0) 16))) (stR (sc, ar) C) (d := 0) (by decide)) (cwV 2 hts gX4_twins_X4_beliefAt rfl rfl rfl (by decide +kernel) ⟨Nat.le_of_ble_eq_true rfl, Nat.le_of_ble_eq_true rfl⟩) ⟨bm_P, va_recv hK hP (ci := 4) (q0 := 0) rfl rfl, fun U hU hW => ⟨rfl, by rw [hU]; exact hP, va_K.moved hW.alike hK⟩⟩ rfl rfl hl.1 rfl (lv_room (Nat.le_of_ble_eq_true rfl)) dX4_twins_110 ⟨Nat.zero_le _, Nat.zero_le _⟩) (fun r er => ?_)
              obtain rfl : r = imgN (fun j => j) (stR (sc, ar) C) := er.trans (afN_congr (stR (sc, ar) C) 16 (fun j hj => hat0 j hj))
              refine vp_callSi (W.runV (As := [.int (nI (n / 81)), .int (imgN (fun j => j) (stR (sc, ar) C))]) (rest := []) ⟨hx, hb, hml, hown, hts⟩ (m_usable l dC dI AB cI cZ (va_up sc 0 0, va_up (va_up ar 31 at0) 32 (twF (usR th (sc, ar)) (fun a => tiI (se a)) y (stR (sc, ar) C) n (fillN (ar 32) (fun _ => 0) 16))) th h80 ((frz_sc (frz_up (frz_up frz.rf (by decide)) (by decide)) (by decide)).mok hM _ h80).1 (imgN (fun j => j) (stR (sc, ar) C))) (cwV 2 hts gX4_twins_X4_usable rfl rfl rfl (by decide +kernel) ⟨Nat.le_of_ble_eq_true rfl, Nat.le_of_ble_eq_true rfl⟩) ⟨bm_P, va_recv hK hP (ci := 4) (q0 := 0) rfl rfl, fun U hU hW => ⟨rfl, by rw [hU]; exact hP, va_K.moved hW.alike hK⟩⟩ rfl rfl hl.1 rfl (lv_room (Nat.le_of_ble_eq_true rfl)) dX4_twins_113 ⟨Nat.zero_le _, Nat.zero_le _⟩) (fun r er => ?_)
              obtain rfl : r = b2i (usR th (sc, ar) (n / 81) (imgN (fun j => j) (stR (sc, ar) C))) := er.trans (by rw [(frz_sc (frz_up (frz_up frz.rf (by decide)) (by decide)) (by decide)).us])
              refine lv_if_eq (tgt := 123) hx hb dX4_twins_116 (by decide) (fun c116_28 => ?_) (fun c116_28 => ?_)
              · skip
                have hu0 := b2i_0.mp c116_28
                refine lv_iconst (v := 0) hx hb dX4_twins_123 (by decide) ?_
                refine lv_istore_n (lv' := [(3, .int 0), (5, .int (nI (n / 81))), (4, .int (nI 0)), (0, .ref (AB 0)), (1, .int (stR (sc, ar) C)), (2, .int (nI n))]) hx hb dX4_twins_124 rfl hl (by decide) rfl (fun ls hl => ?_)
                refine lv_iload_n hx hb dX4_twins_125 rfl (lv_at hl 0 rfl) ?_
                refine lv_if_eq (tgt := 137) hx hb dX4_twins_126 (by decide) (fun c126_29 => ?_) (fun c126_29 => ?_)
                · skip
                  obtain ⟨y30, ey30⟩ : ∃ y : Int32, y = (nI 0) + 1 := ⟨_, rfl⟩
                  refine lv_iinc (v := y30) (lv' := [(4, .int y30), (3, .int 0), (5, .int (nI (n / 81))), (0, .ref (AB 0)), (1, .int (stR (sc, ar) C)), (2, .int (nI n))]) hx hb dX4_twins_137 hl (k := 2) rfl (by rw [ey30]; rfl) (by decide) rfl (fun ls hl => ?_)
                  obtain rfl : y30 = nI (0 + 1) := ey30.trans (nI_1 0)
                  refine lv_goto (tgt := 52) hx hb dX4_twins_140 (by decide) ?_
                  refine lv_iload hx hb dX4_twins_52 (lv_at hl 0 rfl) ?_
                  refine lv_iconst (v := 3) hx hb dX4_twins_54 (by decide) ?_
                  refine lv_icmp_ge (tgt := 143) hx hb dX4_twins_55 (by decide) (fun c55_31 => ?_) (fun c55_31 => ?_)
                  · exact absurd c55_31 (by decide)
                  · skip
                    refine lv_iload_n hx hb dX4_twins_58 rfl (lv_at hl 1 rfl) ?_
                    refine lv_if_eq (tgt := 143) hx hb dX4_twins_59 (by decide) (fun c59_32 => ?_) (fun c59_32 => ?_)
                    · skip
                      obtain ⟨y33, ey33⟩ : ∃ y : Int32, y = (nI n) + 1 := ⟨_, rfl⟩
                      refine lv_iinc (v := y33) (lv' := [(2, .int y33), (4, .int (nI (0 + 1))), (3, .int 0), (5, .int (nI (n / 81))), (0, .ref (AB 0)), (1, .int (stR (sc, ar) C))]) hx hb dX4_twins_143 hl (k := 5) rfl (by rw [ey33]; rfl) (by decide) rfl (fun ls hl => ?_)
                      obtain rfl : y33 = nI (n + 1) := ey33.trans (nI_1 n)
                      refine lv_goto (tgt := 40) hx hb dX4_twins_146 (by decide) ?_
                      have hst : twF (usR th (sc, ar)) (fun a => tiI (se a)) y (stR (sc, ar) C) (n + 1) (fillN (ar 32) (fun _ => 0) 16) = twF (usR th (sc, ar)) (fun a => tiI (se a)) y (stR (sc, ar) C) n (fillN (ar 32) (fun _ => 0) 16) := by rw [twF_s, rwF_u hu0]
                      exact ihn ls H locs ⟨at0, by rw [hst]; exact hP, by rw [hst]; exact hD, hS, hat0, lv_sub hl [4, 5, 0] rfl⟩ hn729
                    · exact absurd rfl c59_32
                · exact absurd rfl c126_29
              · skip
                have hu0 := b2i_n0.mp c116_28
                refine lv_iconst (v := 1) hx hb dX4_twins_119 (by decide) ?_
                refine lv_goto (tgt := 124) hx hb dX4_twins_120 (by decide) ?_
                refine lv_istore_n (lv' := [(3, .int 1), (5, .int (nI (n / 81))), (4, .int (nI 0)), (0, .ref (AB 0)), (1, .int (stR (sc, ar) C)), (2, .int (nI n))]) hx hb dX4_twins_124 rfl hl (by decide) rfl (fun ls hl => ?_)
                refine lv_iload_n hx hb dX4_twins_125 rfl (lv_at hl 0 rfl) ?_
                refine lv_if_eq (tgt := 137) hx hb dX4_twins_126 (by decide) (fun c126_34 => ?_) (fun c126_34 => ?_)
                · exact absurd c126_34 (by decide)
                · skip
                  refine lv_aload_n hx hb dX4_twins_129 rfl (lv_at hl 3 rfl) ?_
                  refine lv_iload hx hb dX4_twins_130 (lv_at hl 1 rfl) ?_
                  refine lv_iload hx hb dX4_twins_132 (lv_at hl 2 rfl) ?_
                  have hFc := m_free (τ := (va_up sc 0 0, va_up (va_up ar 31 at0) 32 (twF (usR th (sc, ar)) (fun a => tiI (se a)) y (stR (sc, ar) C) n (fillN (ar 32) (fun _ => 0) 16)))) hD hS hA
                  refine va_callv (va_runV (As := [.int (nI (n / 81)), .int (nI 0)]) (rest := []) ⟨hx, hb, hml, hown, hts⟩ (m_make l dC dI AB cI cZ (va_up sc 0 0, va_up (va_up ar 31 at0) 32 (twF (usR th (sc, ar)) (fun a => tiI (se a)) y (stR (sc, ar) C) n (fillN (ar 32) (fun _ => 0) 16))) H.size ((frz_sc (frz_up (frz_up frz.rf (by decide)) (by decide)) (by decide)).mok hM) (se := se) hse (y := y) (fun a ha u hu => by rw [(frz_sc (frz_up (frz_up frz.rf (by decide)) (by decide)) (by decide)).nx]; exact hy a ha u hu) h80 (d := 0) (by decide) (x := (fun j => j)) (fun j hj => ⟨hat0 j hj, hj⟩)) (cwV 2 hts gX4_twins_X4_make rfl rfl rfl (by decide +kernel) ⟨Nat.le_of_ble_eq_true rfl, Nat.le_of_ble_eq_true rfl⟩) ⟨bm_F, va_recv hK hP (ci := 4) (q0 := 0) rfl rfl, fun U hU hW => ⟨rfl, by rw [hU], by rw [hU]; exact hP, va_K.moved hW.alike hK, hf_any hD⟩⟩ rfl rfl hl.1 rfl (lv_room (Nat.le_of_ble_eq_true rfl)) dX4_twins_134 ⟨Nat.zero_le _, Nat.zero_le _⟩) hS (fun q _ h => hFc q h) hFc (fun u t H locs ht hvm hw hB hz1 hk1 hS => ?_)
                  obtain ⟨hP1, hD1⟩ := hB
                  rw [ht] at hP1
                  subst hw
                  have hP : va_P (dC, dI) vwCl (mL AB cI cZ (va_up sc 0 0) (va_up (va_up ar 31 (stpN at0 0 (fun j => nI (y (n / 81) ((fun j => j) j))) 16)) 32 (mrR (tiI (se (n / 81))) (fun j => y (n / 81) j) (twF (usR th (sc, ar)) (fun a => tiI (se a)) y (stR (sc, ar) C) n (fillN (ar 32) (fun _ => 0) 16))))) H := hP1
                  have hD : va_D V (mL AB cI cZ (va_up sc 0 0) (va_up (va_up ar 31 (stpN at0 0 (fun j => nI (y (n / 81) ((fun j => j) j))) 16)) 32 (mrR (tiI (se (n / 81))) (fun j => y (n / 81) j) (twF (usR th (sc, ar)) (fun a => tiI (se a)) y (stR (sc, ar) C) n (fillN (ar 32) (fun _ => 0) 16))))) := hf_weak hD1 hFc
                  clear hP1 hD1 hFc
                  obtain ⟨at1, e_at1⟩ : ∃ f, f = stpN at0 0 (fun j => nI (y (n / 81) ((fun j => j) j))) 16 := ⟨_, rfl⟩
                  have hP : va_P (dC, dI) vwCl (mL AB cI cZ (va_up sc 0 0) (va_up (va_up ar 31 at1) 32 (mrR (tiI (se (n / 81))) (fun j => y (n / 81) j) (twF (usR th (sc, ar)) (fun a => tiI (se a)) y (stR (sc, ar) C) n (fillN (ar 32) (fun _ => 0) 16))))) H := by rw [e_at1]; exact hP
                  have hD : va_D V (mL AB cI cZ (va_up sc 0 0) (va_up (va_up ar 31 at1) 32 (mrR (tiI (se (n / 81))) (fun j => y (n / 81) j) (twF (usR th (sc, ar)) (fun a => tiI (se a)) y (stR (sc, ar) C) n (fillN (ar 32) (fun _ => 0) 16))))) := by rw [e_at1]; exact hD
                  have hlo1 : ∀ q, q < 16 * 0 + 16 → at1 q = at0 q := fun q hq => by rw [e_at1]; exact stpN_lo _ _ _ hq
                  have hat1 : ∀ j, j < 16 → at1 (16 * 1 + j) = nI ((fun j => y (n / 81) j) j) ∧ (fun j => y (n / 81) j) j < 16 := fun j hj => ⟨by rw [e_at1]; exact stp_at at0 0 _ hj, (hy _ h80 _ hj).2⟩
                  clear e_at1
                  obtain ⟨y35, ey35⟩ : ∃ y : Int32, y = (nI 0) + 1 := ⟨_, rfl⟩
                  refine lv_iinc (v := y35) (lv' := [(4, .int y35), (3, .int 1), (5, .int (nI (n / 81))), (0, .ref (AB 0)), (1, .int (stR (sc, ar) C)), (2, .int (nI n))]) hx hb dX4_twins_137 hl (k := 2) rfl (by rw [ey35]; rfl) (by decide) rfl (fun ls hl => ?_)
                  obtain rfl : y35 = nI (0 + 1) := ey35.trans (nI_1 0)
                  refine lv_goto (tgt := 52) hx hb dX4_twins_140 (by decide) ?_
                  refine lv_iload hx hb dX4_twins_52 (lv_at hl 0 rfl) ?_
                  refine lv_iconst (v := 3) hx hb dX4_twins_54 (by decide) ?_
                  refine lv_icmp_ge (tgt := 143) hx hb dX4_twins_55 (by decide) (fun c55_36 => ?_) (fun c55_36 => ?_)
                  · exact absurd c55_36 (by decide)
                  · skip
                    refine lv_iload_n hx hb dX4_twins_58 rfl (lv_at hl 1 rfl) ?_
                    refine lv_if_eq (tgt := 143) hx hb dX4_twins_59 (by decide) (fun c59_37 => ?_) (fun c59_37 => ?_)
                    · exact absurd c59_37 (by decide)
                    · skip
                      refine lv_iload hx hb dX4_twins_62 (lv_at hl 0 rfl) ?_
                      refine lv_if_ne (tgt := 74) hx hb dX4_twins_64 (by decide) (fun c64_38 => ?_) (fun c64_38 => ?_)
                      · skip
                        refine lv_iload hx hb dX4_twins_74 (lv_at hl 0 rfl) ?_
                        refine lv_iconst (v := 1) hx hb dX4_twins_76 (by decide) ?_
                        refine lv_icmp_ne (tgt := 90) hx hb dX4_twins_77 (by decide) (fun c77_39 => ?_) (fun c77_39 => ?_)
                        · exact absurd rfl c77_39
                        · skip
                          refine lv_iload_n hx hb dX4_twins_80 rfl (lv_at hl 5 rfl) ?_
                          refine lv_bipush (v := 9) hx hb dX4_twins_81 (by decide) ?_
                          refine lv_idiv hx hb dX4_twins_83 (by decide) ?_
                          refine lv_topi (fun y40 ey40 => ?_)
                          obtain rfl : y40 = nI (n / 9) := ey40.trans (dv9 n hn729)
                          refine lv_bipush (v := 9) hx hb dX4_twins_84 (by decide) ?_
                          refine lv_irem hx hb dX4_twins_86 (by decide) ?_
                          refine lv_topi (fun y41 ey41 => ?_)
                          obtain rfl : y41 = nI (n / 9 % 9) := ey41.trans (rm9 (n / 9) (by omega))
                          refine lv_goto (tgt := 94) hx hb dX4_twins_87 (by decide) ?_
                          refine lv_istore (lv' := [(5, .int (nI (n / 9 % 9))), (4, .int (nI (0 + 1))), (3, .int 1), (0, .ref (AB 0)), (1, .int (stR (sc, ar) C)), (2, .int (nI n))]) hx hb dX4_twins_94 hl (by decide) rfl (fun ls hl => ?_)
                          refine lv_iload hx hb dX4_twins_96 (lv_at hl 0 rfl) ?_
                          refine lv_bipush (v := 8) hx hb dX4_twins_98 (by decide) ?_
                          refine lv_icmp_ge (tgt := 123) hx hb dX4_twins_100 (by decide) (fun c100_42 => ?_) (fun c100_42 => ?_)
                          · skip
                            have h81 : ¬ n / 9 % 9 < 8 := fun z9 => absurd c100_42 (Int32.not_le.mpr (nI_lt (b := 8) z9 (by decide)))
                            refine lv_iconst (v := 0) hx hb dX4_twins_123 (by decide) ?_
                            refine lv_istore_n (lv' := [(3, .int 0), (5, .int (nI (n / 9 % 9))), (4, .int (nI (0 + 1))), (0, .ref (AB 0)), (1, .int (stR (sc, ar) C)), (2, .int (nI n))]) hx hb dX4_twins_124 rfl hl (by decide) rfl (fun ls hl => ?_)
                            refine lv_iload_n hx hb dX4_twins_125 rfl (lv_at hl 0 rfl) ?_
                            refine lv_if_eq (tgt := 137) hx hb dX4_twins_126 (by decide) (fun c126_43 => ?_) (fun c126_43 => ?_)
                            · skip
                              obtain ⟨y44, ey44⟩ : ∃ y : Int32, y = (nI (0 + 1)) + 1 := ⟨_, rfl⟩
                              refine lv_iinc (v := y44) (lv' := [(4, .int y44), (3, .int 0), (5, .int (nI (n / 9 % 9))), (0, .ref (AB 0)), (1, .int (stR (sc, ar) C)), (2, .int (nI n))]) hx hb dX4_twins_137 hl (k := 2) rfl (by rw [ey44]; rfl) (by decide) rfl (fun ls hl => ?_)
                              obtain rfl : y44 = nI ((0 + 1) + 1) := ey44.trans (nI_1 (0 + 1))
                              refine lv_goto (tgt := 52) hx hb dX4_twins_140 (by decide) ?_
                              refine lv_iload hx hb dX4_twins_52 (lv_at hl 0 rfl) ?_
                              refine lv_iconst (v := 3) hx hb dX4_twins_54 (by decide) ?_
                              refine lv_icmp_ge (tgt := 143) hx hb dX4_twins_55 (by decide) (fun c55_45 => ?_) (fun c55_45 => ?_)
                              · exact absurd c55_45 (by decide)
                              · skip
                                refine lv_iload_n hx hb dX4_twins_58 rfl (lv_at hl 1 rfl) ?_
                                refine lv_if_eq (tgt := 143) hx hb dX4_twins_59 (by decide) (fun c59_46 => ?_) (fun c59_46 => ?_)
                                · skip
                                  obtain ⟨y47, ey47⟩ : ∃ y : Int32, y = (nI n) + 1 := ⟨_, rfl⟩
                                  refine lv_iinc (v := y47) (lv' := [(2, .int y47), (4, .int (nI ((0 + 1) + 1))), (3, .int 0), (5, .int (nI (n / 9 % 9))), (0, .ref (AB 0)), (1, .int (stR (sc, ar) C))]) hx hb dX4_twins_143 hl (k := 5) rfl (by rw [ey47]; rfl) (by decide) rfl (fun ls hl => ?_)
                                  obtain rfl : y47 = nI (n + 1) := ey47.trans (nI_1 n)
                                  refine lv_goto (tgt := 40) hx hb dX4_twins_146 (by decide) ?_
                                  have hst : twF (usR th (sc, ar)) (fun a => tiI (se a)) y (stR (sc, ar) C) (n + 1) (fillN (ar 32) (fun _ => 0) 16) = mrR (tiI (se (n / 81))) (fun j => y (n / 81) j) (twF (usR th (sc, ar)) (fun a => tiI (se a)) y (stR (sc, ar) C) n (fillN (ar 32) (fun _ => 0) 16)) := by rw [twF_s, rwF_go h80 hu0, rwF_8 h81]
                                  exact ihn ls H locs ⟨at1, by rw [hst]; exact hP, by rw [hst]; exact hD, hS, (fun j hj => (hlo1 (16 * 0 + j) (by omega)).trans (hat0 j hj)), lv_sub hl [4, 5, 0] rfl⟩ hn729
                                · exact absurd rfl c59_46
                            · exact absurd rfl c126_43
                          · skip
                            have h81 : n / 9 % 9 < 8 := by rcases Nat.lt_or_ge (n / 9 % 9) 8 with z9 | z9; exact z9; exact absurd (nI_le (a := 8) z9 (by omega)) c100_42
                            refine lv_aload_n hx hb dX4_twins_103 rfl (lv_at hl 3 rfl) ?_
                            refine lv_iload hx hb dX4_twins_104 (lv_at hl 0 rfl) ?_
                            refine lv_aload_n hx hb dX4_twins_106 rfl (lv_at hl 3 rfl) ?_
                            refine lv_iload_n hx hb dX4_twins_107 rfl (lv_at hl 4 rfl) ?_
                            refine lv_iload hx hb dX4_twins_108 (lv_at hl 1 rfl) ?_
                            refine vp_callSi (W.runV (As := [.int (stR (sc, ar) C), .int (nI (0 + 1))]) (rest := [.int (nI (n / 9 % 9)), .ref (AB 0)]) ⟨hx, hb, hml, hown, hts⟩ (m_beliefAt l dC dI AB cI cZ (va_up sc 0 0, va_up (va_up ar 31 at1) 32 (mrR (tiI (se (n / 81))) (fun j => y (n / 81) j) (twF (usR th (sc, ar)) (fun a => tiI (se a)) y (stR (sc, ar) C) n (fillN (ar 32) (fun _ => 0) 16)))) (stR (sc, ar) C) (d := 1) (by decide)) (cwV 2 hts gX4_twins_X4_beliefAt rfl rfl rfl (by decide +kernel) ⟨Nat.le_of_ble_eq_true rfl, Nat.le_of_ble_eq_true rfl⟩) ⟨bm_P, va_recv hK hP (ci := 4) (q0 := 0) rfl rfl, fun U hU hW => ⟨rfl, by rw [hU]; exact hP, va_K.moved hW.alike hK⟩⟩ rfl rfl hl.1 rfl (lv_room (Nat.le_of_ble_eq_true rfl)) dX4_twins_110 ⟨Nat.zero_le _, Nat.zero_le _⟩) (fun r er => ?_)
                            obtain rfl : r = imgN (fun j => y (n / 81) j) (stR (sc, ar) C) := er.trans (afN_congr (stR (sc, ar) C) 16 (fun j hj => (hat1 j hj).1))
                            refine vp_callSi (W.runV (As := [.int (nI (n / 9 % 9)), .int (imgN (fun j => y (n / 81) j) (stR (sc, ar) C))]) (rest := []) ⟨hx, hb, hml, hown, hts⟩ (m_usable l dC dI AB cI cZ (va_up sc 0 0, va_up (va_up ar 31 at1) 32 (mrR (tiI (se (n / 81))) (fun j => y (n / 81) j) (twF (usR th (sc, ar)) (fun a => tiI (se a)) y (stR (sc, ar) C) n (fillN (ar 32) (fun _ => 0) 16)))) th h81 ((frz_sc (frz_up (frz_up frz.rf (by decide)) (by decide)) (by decide)).mok hM _ h81).1 (imgN (fun j => y (n / 81) j) (stR (sc, ar) C))) (cwV 2 hts gX4_twins_X4_usable rfl rfl rfl (by decide +kernel) ⟨Nat.le_of_ble_eq_true rfl, Nat.le_of_ble_eq_true rfl⟩) ⟨bm_P, va_recv hK hP (ci := 4) (q0 := 0) rfl rfl, fun U hU hW => ⟨rfl, by rw [hU]; exact hP, va_K.moved hW.alike hK⟩⟩ rfl rfl hl.1 rfl (lv_room (Nat.le_of_ble_eq_true rfl)) dX4_twins_113 ⟨Nat.zero_le _, Nat.zero_le _⟩) (fun r er => ?_)
                            obtain rfl : r = b2i (usR th (sc, ar) (n / 9 % 9) (imgN (fun j => y (n / 81) j) (stR (sc, ar) C))) := er.trans (by rw [(frz_sc (frz_up (frz_up frz.rf (by decide)) (by decide)) (by decide)).us])
                            refine lv_if_eq (tgt := 123) hx hb dX4_twins_116 (by decide) (fun c116_48 => ?_) (fun c116_48 => ?_)
                            · skip
                              have hu1 := b2i_0.mp c116_48
                              refine lv_iconst (v := 0) hx hb dX4_twins_123 (by decide) ?_
                              refine lv_istore_n (lv' := [(3, .int 0), (5, .int (nI (n / 9 % 9))), (4, .int (nI (0 + 1))), (0, .ref (AB 0)), (1, .int (stR (sc, ar) C)), (2, .int (nI n))]) hx hb dX4_twins_124 rfl hl (by decide) rfl (fun ls hl => ?_)
                              refine lv_iload_n hx hb dX4_twins_125 rfl (lv_at hl 0 rfl) ?_
                              refine lv_if_eq (tgt := 137) hx hb dX4_twins_126 (by decide) (fun c126_49 => ?_) (fun c126_49 => ?_)
                              · skip
                                obtain ⟨y50, ey50⟩ : ∃ y : Int32, y = (nI (0 + 1)) + 1 := ⟨_, rfl⟩
                                refine lv_iinc (v := y50) (lv' := [(4, .int y50), (3, .int 0), (5, .int (nI (n / 9 % 9))), (0, .ref (AB 0)), (1, .int (stR (sc, ar) C)), (2, .int (nI n))]) hx hb dX4_twins_137 hl (k := 2) rfl (by rw [ey50]; rfl) (by decide) rfl (fun ls hl => ?_)
                                obtain rfl : y50 = nI ((0 + 1) + 1) := ey50.trans (nI_1 (0 + 1))
                                refine lv_goto (tgt := 52) hx hb dX4_twins_140 (by decide) ?_
                                refine lv_iload hx hb dX4_twins_52 (lv_at hl 0 rfl) ?_
                                refine lv_iconst (v := 3) hx hb dX4_twins_54 (by decide) ?_
                                refine lv_icmp_ge (tgt := 143) hx hb dX4_twins_55 (by decide) (fun c55_51 => ?_) (fun c55_51 => ?_)
                                · exact absurd c55_51 (by decide)
                                · skip
                                  refine lv_iload_n hx hb dX4_twins_58 rfl (lv_at hl 1 rfl) ?_
                                  refine lv_if_eq (tgt := 143) hx hb dX4_twins_59 (by decide) (fun c59_52 => ?_) (fun c59_52 => ?_)
                                  · skip
                                    obtain ⟨y53, ey53⟩ : ∃ y : Int32, y = (nI n) + 1 := ⟨_, rfl⟩
                                    refine lv_iinc (v := y53) (lv' := [(2, .int y53), (4, .int (nI ((0 + 1) + 1))), (3, .int 0), (5, .int (nI (n / 9 % 9))), (0, .ref (AB 0)), (1, .int (stR (sc, ar) C))]) hx hb dX4_twins_143 hl (k := 5) rfl (by rw [ey53]; rfl) (by decide) rfl (fun ls hl => ?_)
                                    obtain rfl : y53 = nI (n + 1) := ey53.trans (nI_1 n)
                                    refine lv_goto (tgt := 40) hx hb dX4_twins_146 (by decide) ?_
                                    have hst : twF (usR th (sc, ar)) (fun a => tiI (se a)) y (stR (sc, ar) C) (n + 1) (fillN (ar 32) (fun _ => 0) 16) = mrR (tiI (se (n / 81))) (fun j => y (n / 81) j) (twF (usR th (sc, ar)) (fun a => tiI (se a)) y (stR (sc, ar) C) n (fillN (ar 32) (fun _ => 0) 16)) := by rw [twF_s, rwF_go h80 hu0, rwF_u hu1]
                                    exact ihn ls H locs ⟨at1, by rw [hst]; exact hP, by rw [hst]; exact hD, hS, (fun j hj => (hlo1 (16 * 0 + j) (by omega)).trans (hat0 j hj)), lv_sub hl [4, 5, 0] rfl⟩ hn729
                                  · exact absurd rfl c59_52
                              · exact absurd rfl c126_49
                            · skip
                              have hu1 := b2i_n0.mp c116_48
                              refine lv_iconst (v := 1) hx hb dX4_twins_119 (by decide) ?_
                              refine lv_goto (tgt := 124) hx hb dX4_twins_120 (by decide) ?_
                              refine lv_istore_n (lv' := [(3, .int 1), (5, .int (nI (n / 9 % 9))), (4, .int (nI (0 + 1))), (0, .ref (AB 0)), (1, .int (stR (sc, ar) C)), (2, .int (nI n))]) hx hb dX4_twins_124 rfl hl (by decide) rfl (fun ls hl => ?_)
                              refine lv_iload_n hx hb dX4_twins_125 rfl (lv_at hl 0 rfl) ?_
                              refine lv_if_eq (tgt := 137) hx hb dX4_twins_126 (by decide) (fun c126_54 => ?_) (fun c126_54 => ?_)
                              · exact absurd c126_54 (by decide)
                              · skip
                                refine lv_aload_n hx hb dX4_twins_129 rfl (lv_at hl 3 rfl) ?_
                                refine lv_iload hx hb dX4_twins_130 (lv_at hl 1 rfl) ?_
                                refine lv_iload hx hb dX4_twins_132 (lv_at hl 2 rfl) ?_
                                have hFc := m_free (τ := (va_up sc 0 0, va_up (va_up ar 31 at1) 32 (mrR (tiI (se (n / 81))) (fun j => y (n / 81) j) (twF (usR th (sc, ar)) (fun a => tiI (se a)) y (stR (sc, ar) C) n (fillN (ar 32) (fun _ => 0) 16))))) hD hS hA
                                refine va_callv (va_runV (As := [.int (nI (n / 9 % 9)), .int (nI (0 + 1))]) (rest := []) ⟨hx, hb, hml, hown, hts⟩ (m_make l dC dI AB cI cZ (va_up sc 0 0, va_up (va_up ar 31 at1) 32 (mrR (tiI (se (n / 81))) (fun j => y (n / 81) j) (twF (usR th (sc, ar)) (fun a => tiI (se a)) y (stR (sc, ar) C) n (fillN (ar 32) (fun _ => 0) 16)))) H.size ((frz_sc (frz_up (frz_up frz.rf (by decide)) (by decide)) (by decide)).mok hM) (se := se) hse (y := y) (fun a ha u hu => by rw [(frz_sc (frz_up (frz_up frz.rf (by decide)) (by decide)) (by decide)).nx]; exact hy a ha u hu) h81 (d := 1) (by decide) (x := (fun j => y (n / 81) j)) hat1) (cwV 2 hts gX4_twins_X4_make rfl rfl rfl (by decide +kernel) ⟨Nat.le_of_ble_eq_true rfl, Nat.le_of_ble_eq_true rfl⟩) ⟨bm_F, va_recv hK hP (ci := 4) (q0 := 0) rfl rfl, fun U hU hW => ⟨rfl, by rw [hU], by rw [hU]; exact hP, va_K.moved hW.alike hK, hf_any hD⟩⟩ rfl rfl hl.1 rfl (lv_room (Nat.le_of_ble_eq_true rfl)) dX4_twins_134 ⟨Nat.zero_le _, Nat.zero_le _⟩) hS (fun q _ h => hFc q h) hFc (fun u t H locs ht hvm hw hB hz1 hk1 hS => ?_)
                                obtain ⟨hP1, hD1⟩ := hB
                                rw [ht] at hP1
                                subst hw
                                have hP : va_P (dC, dI) vwCl (mL AB cI cZ (va_up sc 0 0) (va_up (va_up ar 31 (stpN at1 1 (fun j => nI (y (n / 9 % 9) ((fun j => y (n / 81) j) j))) 16)) 32 (mrR (tiI (se (n / 9 % 9))) (fun j => y (n / 9 % 9) (y (n / 81) j)) (mrR (tiI (se (n / 81))) (fun j => y (n / 81) j) (twF (usR th (sc, ar)) (fun a => tiI (se a)) y (stR (sc, ar) C) n (fillN (ar 32) (fun _ => 0) 16)))))) H := hP1
                                have hD : va_D V (mL AB cI cZ (va_up sc 0 0) (va_up (va_up ar 31 (stpN at1 1 (fun j => nI (y (n / 9 % 9) ((fun j => y (n / 81) j) j))) 16)) 32 (mrR (tiI (se (n / 9 % 9))) (fun j => y (n / 9 % 9) (y (n / 81) j)) (mrR (tiI (se (n / 81))) (fun j => y (n / 81) j) (twF (usR th (sc, ar)) (fun a => tiI (se a)) y (stR (sc, ar) C) n (fillN (ar 32) (fun _ => 0) 16)))))) := hf_weak hD1 hFc
                                clear hP1 hD1 hFc
                                obtain ⟨at2, e_at2⟩ : ∃ f, f = stpN at1 1 (fun j => nI (y (n / 9 % 9) ((fun j => y (n / 81) j) j))) 16 := ⟨_, rfl⟩
                                have hP : va_P (dC, dI) vwCl (mL AB cI cZ (va_up sc 0 0) (va_up (va_up ar 31 at2) 32 (mrR (tiI (se (n / 9 % 9))) (fun j => y (n / 9 % 9) (y (n / 81) j)) (mrR (tiI (se (n / 81))) (fun j => y (n / 81) j) (twF (usR th (sc, ar)) (fun a => tiI (se a)) y (stR (sc, ar) C) n (fillN (ar 32) (fun _ => 0) 16)))))) H := by rw [e_at2]; exact hP
                                have hD : va_D V (mL AB cI cZ (va_up sc 0 0) (va_up (va_up ar 31 at2) 32 (mrR (tiI (se (n / 9 % 9))) (fun j => y (n / 9 % 9) (y (n / 81) j)) (mrR (tiI (se (n / 81))) (fun j => y (n / 81) j) (twF (usR th (sc, ar)) (fun a => tiI (se a)) y (stR (sc, ar) C) n (fillN (ar 32) (fun _ => 0) 16)))))) := by rw [e_at2]; exact hD
                                have hlo2 : ∀ q, q < 16 * 1 + 16 → at2 q = at1 q := fun q hq => by rw [e_at2]; exact stpN_lo _ _ _ hq
                                have hat2 : ∀ j, j < 16 → at2 (16 * 2 + j) = nI ((fun j => y (n / 9 % 9) (y (n / 81) j)) j) ∧ (fun j => y (n / 9 % 9) (y (n / 81) j)) j < 16 := fun j hj => ⟨by rw [e_at2]; exact stp_at at1 1 _ hj, (hy _ h81 _ (hat1 j hj).2).2⟩
                                clear e_at2
                                obtain ⟨y55, ey55⟩ : ∃ y : Int32, y = (nI (0 + 1)) + 1 := ⟨_, rfl⟩
                                refine lv_iinc (v := y55) (lv' := [(4, .int y55), (3, .int 1), (5, .int (nI (n / 9 % 9))), (0, .ref (AB 0)), (1, .int (stR (sc, ar) C)), (2, .int (nI n))]) hx hb dX4_twins_137 hl (k := 2) rfl (by rw [ey55]; rfl) (by decide) rfl (fun ls hl => ?_)
                                obtain rfl : y55 = nI ((0 + 1) + 1) := ey55.trans (nI_1 (0 + 1))
                                refine lv_goto (tgt := 52) hx hb dX4_twins_140 (by decide) ?_
                                refine lv_iload hx hb dX4_twins_52 (lv_at hl 0 rfl) ?_
                                refine lv_iconst (v := 3) hx hb dX4_twins_54 (by decide) ?_
                                refine lv_icmp_ge (tgt := 143) hx hb dX4_twins_55 (by decide) (fun c55_56 => ?_) (fun c55_56 => ?_)
                                · exact absurd c55_56 (by decide)
                                · skip
                                  refine lv_iload_n hx hb dX4_twins_58 rfl (lv_at hl 1 rfl) ?_
                                  refine lv_if_eq (tgt := 143) hx hb dX4_twins_59 (by decide) (fun c59_57 => ?_) (fun c59_57 => ?_)
                                  · exact absurd c59_57 (by decide)
                                  · skip
                                    refine lv_iload hx hb dX4_twins_62 (lv_at hl 0 rfl) ?_
                                    refine lv_if_ne (tgt := 74) hx hb dX4_twins_64 (by decide) (fun c64_58 => ?_) (fun c64_58 => ?_)
                                    · skip
                                      refine lv_iload hx hb dX4_twins_74 (lv_at hl 0 rfl) ?_
                                      refine lv_iconst (v := 1) hx hb dX4_twins_76 (by decide) ?_
                                      refine lv_icmp_ne (tgt := 90) hx hb dX4_twins_77 (by decide) (fun c77_59 => ?_) (fun c77_59 => ?_)
                                      · skip
                                        refine lv_iload_n hx hb dX4_twins_90 rfl (lv_at hl 5 rfl) ?_
                                        refine lv_bipush (v := 9) hx hb dX4_twins_91 (by decide) ?_
                                        refine lv_irem hx hb dX4_twins_93 (by decide) ?_
                                        refine lv_topi (fun y60 ey60 => ?_)
                                        obtain rfl : y60 = nI (n % 9) := ey60.trans (rm9 n hn729)
                                        refine lv_istore (lv' := [(5, .int (nI (n % 9))), (4, .int (nI ((0 + 1) + 1))), (3, .int 1), (0, .ref (AB 0)), (1, .int (stR (sc, ar) C)), (2, .int (nI n))]) hx hb dX4_twins_94 hl (by decide) rfl (fun ls hl => ?_)
                                        refine lv_iload hx hb dX4_twins_96 (lv_at hl 0 rfl) ?_
                                        refine lv_bipush (v := 8) hx hb dX4_twins_98 (by decide) ?_
                                        refine lv_icmp_ge (tgt := 123) hx hb dX4_twins_100 (by decide) (fun c100_61 => ?_) (fun c100_61 => ?_)
                                        · skip
                                          have h82 : ¬ n % 9 < 8 := fun z9 => absurd c100_61 (Int32.not_le.mpr (nI_lt (b := 8) z9 (by decide)))
                                          refine lv_iconst (v := 0) hx hb dX4_twins_123 (by decide) ?_
                                          refine lv_istore_n (lv' := [(3, .int 0), (5, .int (nI (n % 9))), (4, .int (nI ((0 + 1) + 1))), (0, .ref (AB 0)), (1, .int (stR (sc, ar) C)), (2, .int (nI n))]) hx hb dX4_twins_124 rfl hl (by decide) rfl (fun ls hl => ?_)
                                          refine lv_iload_n hx hb dX4_twins_125 rfl (lv_at hl 0 rfl) ?_
                                          refine lv_if_eq (tgt := 137) hx hb dX4_twins_126 (by decide) (fun c126_62 => ?_) (fun c126_62 => ?_)
                                          · skip
                                            obtain ⟨y63, ey63⟩ : ∃ y : Int32, y = (nI ((0 + 1) + 1)) + 1 := ⟨_, rfl⟩
                                            refine lv_iinc (v := y63) (lv' := [(4, .int y63), (3, .int 0), (5, .int (nI (n % 9))), (0, .ref (AB 0)), (1, .int (stR (sc, ar) C)), (2, .int (nI n))]) hx hb dX4_twins_137 hl (k := 2) rfl (by rw [ey63]; rfl) (by decide) rfl (fun ls hl => ?_)
                                            obtain rfl : y63 = nI (((0 + 1) + 1) + 1) := ey63.trans (nI_1 ((0 + 1) + 1))
                                            refine lv_goto (tgt := 52) hx hb dX4_twins_140 (by decide) ?_
                                            refine lv_iload hx hb dX4_twins_52 (lv_at hl 0 rfl) ?_
                                            refine lv_iconst (v := 3) hx hb dX4_twins_54 (by decide) ?_
                                            refine lv_icmp_ge (tgt := 143) hx hb dX4_twins_55 (by decide) (fun c55_64 => ?_) (fun c55_64 => ?_)
                                            · skip
                                              obtain ⟨y65, ey65⟩ : ∃ y : Int32, y = (nI n) + 1 := ⟨_, rfl⟩
                                              refine lv_iinc (v := y65) (lv' := [(2, .int y65), (4, .int (nI (((0 + 1) + 1) + 1))), (3, .int 0), (5, .int (nI (n % 9))), (0, .ref (AB 0)), (1, .int (stR (sc, ar) C))]) hx hb dX4_twins_143 hl (k := 5) rfl (by rw [ey65]; rfl) (by decide) rfl (fun ls hl => ?_)
                                              obtain rfl : y65 = nI (n + 1) := ey65.trans (nI_1 n)
                                              refine lv_goto (tgt := 40) hx hb dX4_twins_146 (by decide) ?_
                                              have hst : twF (usR th (sc, ar)) (fun a => tiI (se a)) y (stR (sc, ar) C) (n + 1) (fillN (ar 32) (fun _ => 0) 16) = mrR (tiI (se (n / 9 % 9))) (fun j => y (n / 9 % 9) (y (n / 81) j)) (mrR (tiI (se (n / 81))) (fun j => y (n / 81) j) (twF (usR th (sc, ar)) (fun a => tiI (se a)) y (stR (sc, ar) C) n (fillN (ar 32) (fun _ => 0) 16))) := by rw [twF_s, rwF_go h80 hu0, rwF_go h81 hu1, rwF_8 h82]
                                              exact ihn ls H locs ⟨at2, by rw [hst]; exact hP, by rw [hst]; exact hD, hS, (fun j hj => (hlo2 (16 * 0 + j) (by omega)).trans ((hlo1 (16 * 0 + j) (by omega)).trans (hat0 j hj))), lv_sub hl [4, 5, 0] rfl⟩ hn729
                                            · exact absurd (by decide) c55_64
                                          · exact absurd rfl c126_62
                                        · skip
                                          have h82 : n % 9 < 8 := by rcases Nat.lt_or_ge (n % 9) 8 with z9 | z9; exact z9; exact absurd (nI_le (a := 8) z9 (by omega)) c100_61
                                          refine lv_aload_n hx hb dX4_twins_103 rfl (lv_at hl 3 rfl) ?_
                                          refine lv_iload hx hb dX4_twins_104 (lv_at hl 0 rfl) ?_
                                          refine lv_aload_n hx hb dX4_twins_106 rfl (lv_at hl 3 rfl) ?_
                                          refine lv_iload_n hx hb dX4_twins_107 rfl (lv_at hl 4 rfl) ?_
                                          refine lv_iload hx hb dX4_twins_108 (lv_at hl 1 rfl) ?_
                                          refine vp_callSi (W.runV (As := [.int (stR (sc, ar) C), .int (nI ((0 + 1) + 1))]) (rest := [.int (nI (n % 9)), .ref (AB 0)]) ⟨hx, hb, hml, hown, hts⟩ (m_beliefAt l dC dI AB cI cZ (va_up sc 0 0, va_up (va_up ar 31 at2) 32 (mrR (tiI (se (n / 9 % 9))) (fun j => y (n / 9 % 9) (y (n / 81) j)) (mrR (tiI (se (n / 81))) (fun j => y (n / 81) j) (twF (usR th (sc, ar)) (fun a => tiI (se a)) y (stR (sc, ar) C) n (fillN (ar 32) (fun _ => 0) 16))))) (stR (sc, ar) C) (d := 2) (by decide)) (cwV 2 hts gX4_twins_X4_beliefAt rfl rfl rfl (by decide +kernel) ⟨Nat.le_of_ble_eq_true rfl, Nat.le_of_ble_eq_true rfl⟩) ⟨bm_P, va_recv hK hP (ci := 4) (q0 := 0) rfl rfl, fun U hU hW => ⟨rfl, by rw [hU]; exact hP, va_K.moved hW.alike hK⟩⟩ rfl rfl hl.1 rfl (lv_room (Nat.le_of_ble_eq_true rfl)) dX4_twins_110 ⟨Nat.zero_le _, Nat.zero_le _⟩) (fun r er => ?_)
                                          obtain rfl : r = imgN (fun j => y (n / 9 % 9) (y (n / 81) j)) (stR (sc, ar) C) := er.trans (afN_congr (stR (sc, ar) C) 16 (fun j hj => (hat2 j hj).1))
                                          refine vp_callSi (W.runV (As := [.int (nI (n % 9)), .int (imgN (fun j => y (n / 9 % 9) (y (n / 81) j)) (stR (sc, ar) C))]) (rest := []) ⟨hx, hb, hml, hown, hts⟩ (m_usable l dC dI AB cI cZ (va_up sc 0 0, va_up (va_up ar 31 at2) 32 (mrR (tiI (se (n / 9 % 9))) (fun j => y (n / 9 % 9) (y (n / 81) j)) (mrR (tiI (se (n / 81))) (fun j => y (n / 81) j) (twF (usR th (sc, ar)) (fun a => tiI (se a)) y (stR (sc, ar) C) n (fillN (ar 32) (fun _ => 0) 16))))) th h82 ((frz_sc (frz_up (frz_up frz.rf (by decide)) (by decide)) (by decide)).mok hM _ h82).1 (imgN (fun j => y (n / 9 % 9) (y (n / 81) j)) (stR (sc, ar) C))) (cwV 2 hts gX4_twins_X4_usable rfl rfl rfl (by decide +kernel) ⟨Nat.le_of_ble_eq_true rfl, Nat.le_of_ble_eq_true rfl⟩) ⟨bm_P, va_recv hK hP (ci := 4) (q0 := 0) rfl rfl, fun U hU hW => ⟨rfl, by rw [hU]; exact hP, va_K.moved hW.alike hK⟩⟩ rfl rfl hl.1 rfl (lv_room (Nat.le_of_ble_eq_true rfl)) dX4_twins_113 ⟨Nat.zero_le _, Nat.zero_le _⟩) (fun r er => ?_)
                                          obtain rfl : r = b2i (usR th (sc, ar) (n % 9) (imgN (fun j => y (n / 9 % 9) (y (n / 81) j)) (stR (sc, ar) C))) := er.trans (by rw [(frz_sc (frz_up (frz_up frz.rf (by decide)) (by decide)) (by decide)).us])
                                          refine lv_if_eq (tgt := 123) hx hb dX4_twins_116 (by decide) (fun c116_66 => ?_) (fun c116_66 => ?_)
                                          · skip
                                            have hu2 := b2i_0.mp c116_66
                                            refine lv_iconst (v := 0) hx hb dX4_twins_123 (by decide) ?_
                                            refine lv_istore_n (lv' := [(3, .int 0), (5, .int (nI (n % 9))), (4, .int (nI ((0 + 1) + 1))), (0, .ref (AB 0)), (1, .int (stR (sc, ar) C)), (2, .int (nI n))]) hx hb dX4_twins_124 rfl hl (by decide) rfl (fun ls hl => ?_)
                                            refine lv_iload_n hx hb dX4_twins_125 rfl (lv_at hl 0 rfl) ?_
                                            refine lv_if_eq (tgt := 137) hx hb dX4_twins_126 (by decide) (fun c126_67 => ?_) (fun c126_67 => ?_)
                                            · skip
                                              obtain ⟨y68, ey68⟩ : ∃ y : Int32, y = (nI ((0 + 1) + 1)) + 1 := ⟨_, rfl⟩
                                              refine lv_iinc (v := y68) (lv' := [(4, .int y68), (3, .int 0), (5, .int (nI (n % 9))), (0, .ref (AB 0)), (1, .int (stR (sc, ar) C)), (2, .int (nI n))]) hx hb dX4_twins_137 hl (k := 2) rfl (by rw [ey68]; rfl) (by decide) rfl (fun ls hl => ?_)
                                              obtain rfl : y68 = nI (((0 + 1) + 1) + 1) := ey68.trans (nI_1 ((0 + 1) + 1))
                                              refine lv_goto (tgt := 52) hx hb dX4_twins_140 (by decide) ?_
                                              refine lv_iload hx hb dX4_twins_52 (lv_at hl 0 rfl) ?_
                                              refine lv_iconst (v := 3) hx hb dX4_twins_54 (by decide) ?_
                                              refine lv_icmp_ge (tgt := 143) hx hb dX4_twins_55 (by decide) (fun c55_69 => ?_) (fun c55_69 => ?_)
                                              · skip
                                                obtain ⟨y70, ey70⟩ : ∃ y : Int32, y = (nI n) + 1 := ⟨_, rfl⟩
                                                refine lv_iinc (v := y70) (lv' := [(2, .int y70), (4, .int (nI (((0 + 1) + 1) + 1))), (3, .int 0), (5, .int (nI (n % 9))), (0, .ref (AB 0)), (1, .int (stR (sc, ar) C))]) hx hb dX4_twins_143 hl (k := 5) rfl (by rw [ey70]; rfl) (by decide) rfl (fun ls hl => ?_)
                                                obtain rfl : y70 = nI (n + 1) := ey70.trans (nI_1 n)
                                                refine lv_goto (tgt := 40) hx hb dX4_twins_146 (by decide) ?_
                                                have hst : twF (usR th (sc, ar)) (fun a => tiI (se a)) y (stR (sc, ar) C) (n + 1) (fillN (ar 32) (fun _ => 0) 16) = mrR (tiI (se (n / 9 % 9))) (fun j => y (n / 9 % 9) (y (n / 81) j)) (mrR (tiI (se (n / 81))) (fun j => y (n / 81) j) (twF (usR th (sc, ar)) (fun a => tiI (se a)) y (stR (sc, ar) C) n (fillN (ar 32) (fun _ => 0) 16))) := by rw [twF_s, rwF_go h80 hu0, rwF_go h81 hu1, rwF_u hu2]
                                                exact ihn ls H locs ⟨at2, by rw [hst]; exact hP, by rw [hst]; exact hD, hS, (fun j hj => (hlo2 (16 * 0 + j) (by omega)).trans ((hlo1 (16 * 0 + j) (by omega)).trans (hat0 j hj))), lv_sub hl [4, 5, 0] rfl⟩ hn729
                                              · exact absurd (by decide) c55_69
                                            · exact absurd rfl c126_67
                                          · skip
                                            have hu2 := b2i_n0.mp c116_66
                                            refine lv_iconst (v := 1) hx hb dX4_twins_119 (by decide) ?_
                                            refine lv_goto (tgt := 124) hx hb dX4_twins_120 (by decide) ?_
                                            refine lv_istore_n (lv' := [(3, .int 1), (5, .int (nI (n % 9))), (4, .int (nI ((0 + 1) + 1))), (0, .ref (AB 0)), (1, .int (stR (sc, ar) C)), (2, .int (nI n))]) hx hb dX4_twins_124 rfl hl (by decide) rfl (fun ls hl => ?_)
                                            refine lv_iload_n hx hb dX4_twins_125 rfl (lv_at hl 0 rfl) ?_
                                            refine lv_if_eq (tgt := 137) hx hb dX4_twins_126 (by decide) (fun c126_71 => ?_) (fun c126_71 => ?_)
                                            · exact absurd c126_71 (by decide)
                                            · skip
                                              refine lv_aload_n hx hb dX4_twins_129 rfl (lv_at hl 3 rfl) ?_
                                              refine lv_iload hx hb dX4_twins_130 (lv_at hl 1 rfl) ?_
                                              refine lv_iload hx hb dX4_twins_132 (lv_at hl 2 rfl) ?_
                                              have hFc := m_free (τ := (va_up sc 0 0, va_up (va_up ar 31 at2) 32 (mrR (tiI (se (n / 9 % 9))) (fun j => y (n / 9 % 9) (y (n / 81) j)) (mrR (tiI (se (n / 81))) (fun j => y (n / 81) j) (twF (usR th (sc, ar)) (fun a => tiI (se a)) y (stR (sc, ar) C) n (fillN (ar 32) (fun _ => 0) 16)))))) hD hS hA
                                              refine va_callv (va_runV (As := [.int (nI (n % 9)), .int (nI ((0 + 1) + 1))]) (rest := []) ⟨hx, hb, hml, hown, hts⟩ (m_make l dC dI AB cI cZ (va_up sc 0 0, va_up (va_up ar 31 at2) 32 (mrR (tiI (se (n / 9 % 9))) (fun j => y (n / 9 % 9) (y (n / 81) j)) (mrR (tiI (se (n / 81))) (fun j => y (n / 81) j) (twF (usR th (sc, ar)) (fun a => tiI (se a)) y (stR (sc, ar) C) n (fillN (ar 32) (fun _ => 0) 16))))) H.size ((frz_sc (frz_up (frz_up frz.rf (by decide)) (by decide)) (by decide)).mok hM) (se := se) hse (y := y) (fun a ha u hu => by rw [(frz_sc (frz_up (frz_up frz.rf (by decide)) (by decide)) (by decide)).nx]; exact hy a ha u hu) h82 (d := 2) (by decide) (x := (fun j => y (n / 9 % 9) (y (n / 81) j))) hat2) (cwV 2 hts gX4_twins_X4_make rfl rfl rfl (by decide +kernel) ⟨Nat.le_of_ble_eq_true rfl, Nat.le_of_ble_eq_true rfl⟩) ⟨bm_F, va_recv hK hP (ci := 4) (q0 := 0) rfl rfl, fun U hU hW => ⟨rfl, by rw [hU], by rw [hU]; exact hP, va_K.moved hW.alike hK, hf_any hD⟩⟩ rfl rfl hl.1 rfl (lv_room (Nat.le_of_ble_eq_true rfl)) dX4_twins_134 ⟨Nat.zero_le _, Nat.zero_le _⟩) hS (fun q _ h => hFc q h) hFc (fun u t H locs ht hvm hw hB hz1 hk1 hS => ?_)
                                              obtain ⟨hP1, hD1⟩ := hB
                                              rw [ht] at hP1
                                              subst hw
                                              have hP : va_P (dC, dI) vwCl (mL AB cI cZ (va_up sc 0 0) (va_up (va_up ar 31 (stpN at2 2 (fun j => nI (y (n % 9) ((fun j => y (n / 9 % 9) (y (n / 81) j)) j))) 16)) 32 (mrR (tiI (se (n % 9))) (fun j => y (n % 9) (y (n / 9 % 9) (y (n / 81) j))) (mrR (tiI (se (n / 9 % 9))) (fun j => y (n / 9 % 9) (y (n / 81) j)) (mrR (tiI (se (n / 81))) (fun j => y (n / 81) j) (twF (usR th (sc, ar)) (fun a => tiI (se a)) y (stR (sc, ar) C) n (fillN (ar 32) (fun _ => 0) 16))))))) H := hP1
                                              have hD : va_D V (mL AB cI cZ (va_up sc 0 0) (va_up (va_up ar 31 (stpN at2 2 (fun j => nI (y (n % 9) ((fun j => y (n / 9 % 9) (y (n / 81) j)) j))) 16)) 32 (mrR (tiI (se (n % 9))) (fun j => y (n % 9) (y (n / 9 % 9) (y (n / 81) j))) (mrR (tiI (se (n / 9 % 9))) (fun j => y (n / 9 % 9) (y (n / 81) j)) (mrR (tiI (se (n / 81))) (fun j => y (n / 81) j) (twF (usR th (sc, ar)) (fun a => tiI (se a)) y (stR (sc, ar) C) n (fillN (ar 32) (fun _ => 0) 16))))))) := hf_weak hD1 hFc
                                              clear hP1 hD1 hFc
                                              obtain ⟨at3, e_at3⟩ : ∃ f, f = stpN at2 2 (fun j => nI (y (n % 9) ((fun j => y (n / 9 % 9) (y (n / 81) j)) j))) 16 := ⟨_, rfl⟩
                                              have hP : va_P (dC, dI) vwCl (mL AB cI cZ (va_up sc 0 0) (va_up (va_up ar 31 at3) 32 (mrR (tiI (se (n % 9))) (fun j => y (n % 9) (y (n / 9 % 9) (y (n / 81) j))) (mrR (tiI (se (n / 9 % 9))) (fun j => y (n / 9 % 9) (y (n / 81) j)) (mrR (tiI (se (n / 81))) (fun j => y (n / 81) j) (twF (usR th (sc, ar)) (fun a => tiI (se a)) y (stR (sc, ar) C) n (fillN (ar 32) (fun _ => 0) 16))))))) H := by rw [e_at3]; exact hP
                                              have hD : va_D V (mL AB cI cZ (va_up sc 0 0) (va_up (va_up ar 31 at3) 32 (mrR (tiI (se (n % 9))) (fun j => y (n % 9) (y (n / 9 % 9) (y (n / 81) j))) (mrR (tiI (se (n / 9 % 9))) (fun j => y (n / 9 % 9) (y (n / 81) j)) (mrR (tiI (se (n / 81))) (fun j => y (n / 81) j) (twF (usR th (sc, ar)) (fun a => tiI (se a)) y (stR (sc, ar) C) n (fillN (ar 32) (fun _ => 0) 16))))))) := by rw [e_at3]; exact hD
                                              have hlo3 : ∀ q, q < 16 * 2 + 16 → at3 q = at2 q := fun q hq => by rw [e_at3]; exact stpN_lo _ _ _ hq
                                              have hat3 : ∀ j, j < 16 → at3 (16 * 3 + j) = nI ((fun j => y (n % 9) (y (n / 9 % 9) (y (n / 81) j))) j) ∧ (fun j => y (n % 9) (y (n / 9 % 9) (y (n / 81) j))) j < 16 := fun j hj => ⟨by rw [e_at3]; exact stp_at at2 2 _ hj, (hy _ h82 _ (hat2 j hj).2).2⟩
                                              clear e_at3
                                              obtain ⟨y72, ey72⟩ : ∃ y : Int32, y = (nI ((0 + 1) + 1)) + 1 := ⟨_, rfl⟩
                                              refine lv_iinc (v := y72) (lv' := [(4, .int y72), (3, .int 1), (5, .int (nI (n % 9))), (0, .ref (AB 0)), (1, .int (stR (sc, ar) C)), (2, .int (nI n))]) hx hb dX4_twins_137 hl (k := 2) rfl (by rw [ey72]; rfl) (by decide) rfl (fun ls hl => ?_)
                                              obtain rfl : y72 = nI (((0 + 1) + 1) + 1) := ey72.trans (nI_1 ((0 + 1) + 1))
                                              refine lv_goto (tgt := 52) hx hb dX4_twins_140 (by decide) ?_
                                              refine lv_iload hx hb dX4_twins_52 (lv_at hl 0 rfl) ?_
                                              refine lv_iconst (v := 3) hx hb dX4_twins_54 (by decide) ?_
                                              refine lv_icmp_ge (tgt := 143) hx hb dX4_twins_55 (by decide) (fun c55_73 => ?_) (fun c55_73 => ?_)
                                              · skip
                                                obtain ⟨y74, ey74⟩ : ∃ y : Int32, y = (nI n) + 1 := ⟨_, rfl⟩
                                                refine lv_iinc (v := y74) (lv' := [(2, .int y74), (4, .int (nI (((0 + 1) + 1) + 1))), (3, .int 1), (5, .int (nI (n % 9))), (0, .ref (AB 0)), (1, .int (stR (sc, ar) C))]) hx hb dX4_twins_143 hl (k := 5) rfl (by rw [ey74]; rfl) (by decide) rfl (fun ls hl => ?_)
                                                obtain rfl : y74 = nI (n + 1) := ey74.trans (nI_1 n)
                                                refine lv_goto (tgt := 40) hx hb dX4_twins_146 (by decide) ?_
                                                have hst : twF (usR th (sc, ar)) (fun a => tiI (se a)) y (stR (sc, ar) C) (n + 1) (fillN (ar 32) (fun _ => 0) 16) = mrR (tiI (se (n % 9))) (fun j => y (n % 9) (y (n / 9 % 9) (y (n / 81) j))) (mrR (tiI (se (n / 9 % 9))) (fun j => y (n / 9 % 9) (y (n / 81) j)) (mrR (tiI (se (n / 81))) (fun j => y (n / 81) j) (twF (usR th (sc, ar)) (fun a => tiI (se a)) y (stR (sc, ar) C) n (fillN (ar 32) (fun _ => 0) 16)))) := by rw [twF_s, rwF_go h80 hu0, rwF_go h81 hu1, rwF_go h82 hu2, rwF_nil]
                                                exact ihn ls H locs ⟨at3, by rw [hst]; exact hP, by rw [hst]; exact hD, hS, (fun j hj => (hlo3 (16 * 0 + j) (by omega)).trans ((hlo2 (16 * 0 + j) (by omega)).trans ((hlo1 (16 * 0 + j) (by omega)).trans (hat0 j hj)))), lv_sub hl [4, 5, 0] rfl⟩ hn729
                                              · exact absurd (by decide) c55_73
                                      · exact absurd c77_59 (by decide)
                                    · exact absurd c64_58 (by decide)
                      · exact absurd c64_38 (by decide)
  · skip
    have hlt := ctr_lt (N := 16) rfl (by decide) hk c15_0
    refine lv_aload_n hx hb dX4_twins_18 rfl (lv_at hl 0 rfl) ?_
    refine va_get (D := (dC, dI)) (ci := 4) (v := .ref (AB 32)) (C := RX4) (T := TX4) (N := 33) hx hb hts hinX4 hown hK hP 0 rfl rfl 32 (by decide) (hts _ (List.mem_of_getElem? (i := 2) rfl)) (fun _ h9 => h9) rfl dX4_twins_19 ?_
    refine lv_iload_n hx hb dX4_twins_22 rfl (lv_at hl 2 rfl) ?_
    refine lv_iconst (v := 0) hx hb dX4_twins_23 (by decide) ?_
    refine va_iast hx hb hK hP hD hS 26 0 rfl rfl (vp_in_nI (show k < 16 by omega) (by decide)) dX4_twins_24 (fun H locs hP hD hS => ?_)
    rw [nI_clamp (show k < 2 ^ 31 by have := (show k < 16 by omega); omega)] at hP hD
    have hP : va_P (dC, dI) vwCl (mL AB cI cZ (va_up sc 0 0) (va_up (va_up ar 31 (fillN (ar 31) (fun j => nI j) k)) 32 (upd (fillN (ar 32) (fun _ => 0) k) k 0))) H := hP
    have hD : va_D V (mL AB cI cZ (va_up sc 0 0) (va_up (va_up ar 31 (fillN (ar 31) (fun j => nI j) k)) 32 (upd (fillN (ar 32) (fun _ => 0) k) k 0))) := hD
    rw [show upd (fillN (ar 32) (fun _ => 0) k) k 0 = fillN (ar 32) (fun _ => 0) (k + 1) from fillN_s (ar 32) (fun _ => 0) k rfl] at hP hD
    refine lv_aload_n hx hb dX4_twins_25 rfl (lv_at hl 0 rfl) ?_
    refine va_get (D := (dC, dI)) (ci := 4) (v := .ref (AB 31)) (C := RX4) (T := TX4) (N := 33) hx hb hts hinX4 hown hK hP 0 rfl rfl 31 (by decide) (hts _ (List.mem_of_getElem? (i := 3) rfl)) (fun _ h9 => h9) rfl dX4_twins_26 ?_
    refine lv_iload_n hx hb dX4_twins_29 rfl (lv_at hl 2 rfl) ?_
    refine lv_iload_n hx hb dX4_twins_30 rfl (lv_at hl 2 rfl) ?_
    refine va_iast hx hb hK hP hD hS 25 0 rfl rfl (vp_in_nI (show k < 64 by omega) (by decide)) dX4_twins_31 (fun H locs hP hD hS => ?_)
    rw [nI_clamp (show k < 2 ^ 31 by have := (show k < 64 by omega); omega)] at hP hD
    have hP : va_P (dC, dI) vwCl (mL AB cI cZ (va_up sc 0 0) (va_up (va_up ar 31 (upd (fillN (ar 31) (fun j => nI j) k) k (nI k))) 32 (fillN (ar 32) (fun _ => 0) (k + 1)))) H := hP
    have hD : va_D V (mL AB cI cZ (va_up sc 0 0) (va_up (va_up ar 31 (upd (fillN (ar 31) (fun j => nI j) k) k (nI k))) 32 (fillN (ar 32) (fun _ => 0) (k + 1)))) := hD
    rw [show upd (fillN (ar 31) (fun j => nI j) k) k (nI k) = fillN (ar 31) (fun j => nI j) (k + 1) from fillN_s (ar 31) (fun j => nI j) k rfl] at hP hD
    obtain ⟨y75, ey75⟩ : ∃ y : Int32, y = (nI k) + 1 := ⟨_, rfl⟩
    refine lv_iinc (v := y75) (lv' := [(2, .int y75), (0, .ref (AB 0)), (1, .int (stR (sc, ar) C))]) hx hb dX4_twins_32 hl (k := 2) rfl (by rw [ey75]; rfl) (by decide) rfl (fun ls hl => ?_)
    obtain rfl : y75 = nI (k + 1) := ey75.trans (nI_1 k)
    refine lv_goto (tgt := 12) hx hb dX4_twins_35 (by decide) ?_
    exact ih ls H locs ⟨hP, hD, hS, lv_sub hl [1, 2, 0] rfl⟩ hlt
set_option maxHeartbeats 4000000 in
set_option maxRecDepth 100000 in
/-- twins 1 -/
theorem m_twins1 (l : Launch) (dC : Nat → ClassId) (dI : Nat → Nat → Nat) (AB : Nat → Nat) (cI cZ : ClassId) (τ : MS) (sz : Nat) {th : Nat → Bool} {ef : Nat → Nat} (hM : mok th ef τ) {C : Nat} (hC : τ.1 10 = nI C) (hC6 : C ≤ 6) {se : Nat → Option Nat} (hse : ∀ a, a < 8 → τ.2 4 a = o2i (se a) ∧ ∀ j, se a = some j → j < 4) {y : Nat → Nat → Nat} (hy : ∀ a, a < 8 → ∀ u, u < 16 → nxN τ.2 a u (ef a) = nI (y a u) ∧ y a u < 16) (h : (List.range 256).find? (twP (stR τ C) (twF (usR th τ) (fun a => tiI (se a)) y (stR τ C) 729 (fillN (τ.2 32) (fun _ => 0) 16))) = none) : Met l yX4_twins wsX4_twins ({ frames := 12, cells := 0, slots := 0, locals := 600 }) (va_Pc [.ref (AB 0)] (mF dC dI AB cI cZ sz τ)) (va_Qi (fun (r : Int32) (τ2 : MS) => r = 0 ∧ ∃ at0 : Nat → Int32, τ2 = (va_up τ.1 0 1, va_up (va_up τ.2 31 at0) 32 (twF (usR th τ) (fun a => tiI (se a)) y (stR τ C) 729 (fillN (τ.2 32) (fun _ => 0) 16)))) (mB dC dI AB cI cZ (va_A (mW AB cI cZ τ) sz)) (va_A (mW AB cI cZ τ) sz)) 0 0 (va_A (mW AB cI cZ τ) sz) := by
  obtain ⟨sc, ar⟩ := τ
  refine Met.ofW (cc := cX4_twins) (maxL := 6) (ret := (some .int)) (by decide) rfl ?_
  intro p e s m args below meth c s₁ B hml hv
  obtain ⟨rfl, hsz, hP, hK, hD0⟩ := hv
  have hx := B.exec
  have hb := B.bytes
  have hr := B.returns
  have hts := atoms_spec (ws := wsX4_twins) B.pre
  have hown : s.vm.findClass RX4 = some m.cls := findClass_of_methodNamed B.named
  have hlocks := B.notSynchronized
  have hinX4 : ∀ w ∈ wsX40, w ∈ wsX4_twins := fun _ h => List.mem_cons_of_mem _ (List.mem_append_right _ h)
  subst hsz
  have hD := hD0.self (sz := s.heap.size)
  generalize hAe : va_A (mW AB cI cZ _) s.heap.size = V at hD ⊢
  have hA : ∀ q : Nat, s.heap.size ≤ q → V q := fun q h => by rw [← hAe]; exact Or.inr h
  have hS : va_S V s.heap s.heap [] := va_S.rf
  have hl := lv_entry ([.ref (AB 0)]) (n := 6) (Nat.le_of_ble_eq_true rfl)
  rw [lg_entry_eq]
  generalize (lg_sl ([.ref (AB 0)]) ++ List.replicate (6 - (lg_sl ([.ref (AB 0)])).length) Slot.unset).toArray = ls at hl ⊢
  have hl : lv_has ls 6 [(0, .ref (AB 0))] := hl
  have hP : va_P (dC, dI) vwCl (mL AB cI cZ sc ar) s.heap := hP
  have hD : va_D V (mL AB cI cZ sc ar) := hD
  have hse : ∀ a, a < 8 → ar 4 a = o2i (se a) ∧ ∀ j, se a = some j → j < 4 := hse
  have hy : ∀ a, a < 8 → ∀ u, u < 16 → nxN ar a u (ef a) = nI (y a u) ∧ y a u < 16 := hy
  refine lv_aload_n hx hb dX4_twins_0 rfl (lv_at hl 0 rfl) ?_
  refine lv_iconst (v := 0) hx hb dX4_twins_1 (by decide) ?_
  refine va_put (D := (dC, dI)) (ci := 4) (v := .int 0) (ty := .int) (C := RX4) (T := TX4) (N := 33) hx hb hts hinX4 tyX4 tyX4_ok nmX4 hown hK hP hD hS 0 rfl rfl 0 (by decide) (hts _ (List.mem_of_getElem? (i := 1) rfl)) (fun _ h9 => h9) rfl (by decide +kernel) rfl rfl (Nat.le_of_ble_eq_true rfl) dX4_twins_2 (fun H locs hP hD hS => ?_)
  have hP : va_P (dC, dI) vwCl (mL AB cI cZ (va_up sc 0 0) ar) H := hP
  have hD : va_D V (mL AB cI cZ (va_up sc 0 0) ar) := hD
  refine lv_aload_n hx hb dX4_twins_5 rfl (lv_at hl 0 rfl) ?_
  refine vp_callSi (W.runV (As := []) (rest := []) ⟨hx, hb, hml, hown, hts⟩ (m_startBelief l dC dI AB cI cZ (va_up sc 0 0, ar) (C := C) hC hC6) (cwV 0 hts gX4_twins_X4_startBelief rfl rfl rfl (by decide +kernel) ⟨Nat.le_of_ble_eq_true rfl, Nat.le_of_ble_eq_true rfl⟩) ⟨bm_P, va_recv hK hP (ci := 4) (q0 := 0) rfl rfl, fun U hU hW => ⟨rfl, by rw [hU]; exact hP, va_K.moved hW.alike hK⟩⟩ rfl rfl hl.1 rfl (lv_room (Nat.le_of_ble_eq_true rfl)) dX4_twins_6 ⟨Nat.zero_le _, Nat.zero_le _⟩) (fun r er => ?_)
  obtain rfl : r = stR (sc, ar) C := er.trans (by rw [(frz_sc frz.rf (by decide)).st])
  refine lv_istore_n (lv' := [(1, .int (stR (sc, ar) C)), (0, .ref (AB 0))]) hx hb dX4_twins_9 rfl hl (by decide) rfl (fun ls hl => ?_)
  refine lv_iconst (v := 0) hx hb dX4_twins_10 (by decide) ?_
  refine lv_istore_n (lv' := [(2, .int 0), (1, .int (stR (sc, ar) C)), (0, .ref (AB 0))]) hx hb dX4_twins_11 rfl hl (by decide) rfl (fun ls hl => ?_)
  refine w_loopH (pc := 12) 16 (fun k ls H locs => va_P (dC, dI) vwCl (mL AB cI cZ (va_up sc 0 0) (va_up (va_up ar 31 (fillN (ar 31) (fun j => nI j) k)) 32 (fillN (ar 32) (fun _ => 0) k))) H ∧ va_D V (mL AB cI cZ (va_up sc 0 0) (va_up (va_up ar 31 (fillN (ar 31) (fun j => nI j) k)) 32 (fillN (ar 32) (fun _ => 0) k))) ∧ va_S V s.heap H locs ∧ lv_has ls 6 [(0, .ref (AB 0)), (1, .int (stR (sc, ar) C)), (2, .int (nI k))]) ?_ 0 (Nat.zero_le _) ls _ _ ⟨by rw [fillN_0, fillN_0]; exact hP, by rw [fillN_0, fillN_0]; exact hD, hS, lv_sub hl [2, 1, 0] rfl⟩
  intro k ls H locs hk hI ih
  obtain ⟨hP, hD, hS, hl⟩ := hI
  refine lv_iload_n hx hb dX4_twins_12 rfl (lv_at hl 2 rfl) ?_
  refine lv_bipush (v := 16) hx hb dX4_twins_13 (by decide) ?_
  refine lv_icmp_ge (tgt := 38) hx hb dX4_twins_15 (by decide) (fun c15_0 => ?_) (fun c15_0 => ?_)
  · skip
    obtain rfl := ctr_ge (N := 16) rfl (by decide) hk c15_0
    refine lv_iconst (v := 0) hx hb dX4_twins_38 (by decide) ?_
    refine lv_istore_n (lv' := [(2, .int 0), (0, .ref (AB 0)), (1, .int (stR (sc, ar) C))]) hx hb dX4_twins_39 rfl hl (by decide) rfl (fun ls hl => ?_)
    refine w_loopH (pc := 40) 729 (fun n ls H locs => ∃ at0 : Nat → Int32, va_P (dC, dI) vwCl (mL AB cI cZ (va_up sc 0 0) (va_up (va_up ar 31 at0) 32 (twF (usR th (sc, ar)) (fun a => tiI (se a)) y (stR (sc, ar) C) n (fillN (ar 32) (fun _ => 0) 16)))) H ∧ va_D V (mL AB cI cZ (va_up sc 0 0) (va_up (va_up ar 31 at0) 32 (twF (usR th (sc, ar)) (fun a => tiI (se a)) y (stR (sc, ar) C) n (fillN (ar 32) (fun _ => 0) 16)))) ∧ va_S V s.heap H locs ∧ (∀ j, j < 16 → at0 (16 * 0 + j) = nI j) ∧ lv_has ls 6 [(0, .ref (AB 0)), (1, .int (stR (sc, ar) C)), (2, .int (nI n))]) ?_ 0 (Nat.zero_le _) ls _ _ ⟨fillN (ar 31) (fun j => nI j) 16, hP, hD, hS, (fun j hj => by rw [Nat.mul_zero, Nat.zero_add]; exact fillN_lt _ _ hj), lv_sub hl [1, 2, 0] rfl⟩
    intro n ls H locs hkn hI ihn
    obtain ⟨at0, hP, hD, hS, hat0, hl⟩ := hI
    refine lv_iload_n hx hb dX4_twins_40 rfl (lv_at hl 2 rfl) ?_
    refine lv_sipush (v := 729) hx hb dX4_twins_41 (by decide) ?_
    refine lv_icmp_ge (tgt := 149) hx hb dX4_twins_44 (by decide) (fun c44_1 => ?_) (fun c44_1 => ?_)
    · skip
      have hn9 : n = 729 := ctr_ge (N := 729) rfl (by decide) hkn c44_1
      obtain ⟨apF, hapF⟩ : ∃ f, f = twF (usR th (sc, ar)) (fun a => tiI (se a)) y (stR (sc, ar) C) n (fillN (ar 32) (fun _ => 0) 16) := ⟨_, rfl⟩
      rw [← hapF] at hP hD
      rw [hn9] at hapF
      refine lv_iconst (v := 0) hx hb dX4_twins_149 (by decide) ?_
      refine lv_istore_n (lv' := [(2, .int 0), (0, .ref (AB 0)), (1, .int (stR (sc, ar) C))]) hx hb dX4_twins_150 rfl hl (by decide) rfl (fun ls hl => ?_)
      refine w_loopP (pc := 151) 16 (fun i ls => (∀ q, q < 16 * i → (twP (stR (sc, ar) C) apF) q = false) ∧ lv_has ls 6 [(0, .ref (AB 0)), (1, .int (stR (sc, ar) C)), (2, .int (nI i))]) ?_ 0 (Nat.zero_le _) ls ⟨fun q hq => absurd hq (by omega), lv_sub hl [1, 2, 0] rfl⟩
      intro i ls hk hI ih
      obtain ⟨hq, hl⟩ := hI
      refine lv_iload_n hx hb dX4_twins_151 rfl (lv_at hl 2 rfl) ?_
      refine lv_bipush (v := 16) hx hb dX4_twins_152 (by decide) ?_
      refine lv_icmp_ge (tgt := 217) hx hb dX4_twins_154 (by decide) (fun c154_2 => ?_) (fun c154_2 => ?_)
      · skip
        obtain rfl := ctr_ge (N := 16) rfl (by decide) hk c154_2
        refine lv_aload_n hx hb dX4_twins_217 rfl (lv_at hl 0 rfl) ?_
        refine lv_iconst (v := 1) hx hb dX4_twins_218 (by decide) ?_
        have hFc := m_free (τ := (va_up sc 0 0, va_up (va_up ar 31 at0) 32 apF)) hD hS hA
        refine va_calli (va_runV (As := [.int 1]) (rest := []) ⟨hx, hb, hml, hown, hts⟩ (m_fail l dC dI AB cI cZ (va_up sc 0 0, va_up (va_up ar 31 at0) 32 apF) H.size 1) (cwV 1 hts gX4_twins_X4_fail rfl rfl rfl (by decide +kernel) ⟨Nat.le_of_ble_eq_true rfl, Nat.le_of_ble_eq_true rfl⟩) ⟨bm_F, va_recv hK hP (ci := 4) (q0 := 0) rfl rfl, fun U hU hW => ⟨rfl, by rw [hU], by rw [hU]; exact hP, va_K.moved hW.alike hK, hf_any hD⟩⟩ rfl rfl hl.1 rfl (lv_room (Nat.le_of_ble_eq_true rfl)) dX4_twins_219 ⟨Nat.zero_le _, Nat.zero_le _⟩) hS (fun q _ h => hFc q h) hFc (fun r u t H locs ht hvm hw hB hz1 hk1 hS => ?_)
        obtain ⟨hP1, hD1⟩ := hB
        rw [ht] at hP1
        obtain ⟨rfl, rfl⟩ := hw
        have hP : va_P (dC, dI) vwCl (mL AB cI cZ (va_up sc 0 1) (va_up (va_up ar 31 at0) 32 apF)) H := hP1
        have hD : va_D V (mL AB cI cZ (va_up sc 0 1) (va_up (va_up ar 31 at0) 32 apF)) := hf_weak hD1 hFc
        clear hP1 hD1 hFc
        exact W.iret hx hb hr (fun t ht hW => ⟨⟨_, (va_up sc 0 1, va_up (va_up ar 31 at0) 32 apF), rfl, ⟨rfl, at0, by rw [hapF]⟩, by rw [ht]; exact hP, hD⟩, hS.F ht⟩) hS.2.2 dX4_twins_222
      · skip
        have hi := ctr_lt (N := 16) rfl (by decide) hk c154_2
        refine lv_iload_n hx hb dX4_twins_157 rfl (lv_at hl 2 rfl) ?_
        refine lv_iconst (v := 1) hx hb dX4_twins_158 (by decide) ?_
        refine lv_iadd hx hb dX4_twins_159 ?_
        refine lv_topi (fun y3 ey3 => ?_)
        obtain rfl : y3 = nI (i + 1) := ey3.trans (nI_1 i)
        refine lv_istore_n (lv' := [(3, .int (nI (i + 1))), (0, .ref (AB 0)), (1, .int (stR (sc, ar) C)), (2, .int (nI i))]) hx hb dX4_twins_160 rfl hl (by decide) rfl (fun ls hl => ?_)
        have hq1 : ∀ q, q < 16 * i + (i + 1) → (twP (stR (sc, ar) C) apF) q = false := fun q h => twP_lo hq h
        refine w_loopP (pc := 161) 16 (fun j ls => i < j ∧ (∀ q, q < 16 * i + j → (twP (stR (sc, ar) C) apF) q = false) ∧ lv_has ls 6 [(0, .ref (AB 0)), (1, .int (stR (sc, ar) C)), (2, .int (nI i)), (3, .int (nI j))]) ?_ (i + 1) (by omega) ls ⟨by omega, hq1, lv_sub hl [1, 2, 3, 0] rfl⟩
        intro j ls hk2 hI ih2
        obtain ⟨hij, hq, hl⟩ := hI
        refine lv_iload_n hx hb dX4_twins_161 rfl (lv_at hl 3 rfl) ?_
        refine lv_bipush (v := 16) hx hb dX4_twins_162 (by decide) ?_
        refine lv_icmp_ge (tgt := 211) hx hb dX4_twins_164 (by decide) (fun c164_4 => ?_) (fun c164_4 => ?_)
        · skip
          obtain rfl := ctr_ge (N := 16) rfl (by decide) hk2 c164_4
          obtain ⟨y5, ey5⟩ : ∃ y : Int32, y = (nI i) + 1 := ⟨_, rfl⟩
          refine lv_iinc (v := y5) (lv' := [(2, .int y5), (0, .ref (AB 0)), (1, .int (stR (sc, ar) C)), (3, .int (nI 16))]) hx hb dX4_twins_211 hl (k := 2) rfl (by rw [ey5]; rfl) (by decide) rfl (fun ls hl => ?_)
          obtain rfl : y5 = nI (i + 1) := ey5.trans (nI_1 i)
          refine lv_goto (tgt := 151) hx hb dX4_twins_214 (by decide) ?_
          exact ih ls ⟨by rw [show 16 * (i + 1) = 16 * i + 16 by omega]; exact hq, lv_sub hl [1, 2, 0] rfl⟩ hi
        · skip
          have hj := ctr_lt (N := 16) rfl (by decide) hk2 c164_4
          refine lv_iload_n hx hb dX4_twins_167 rfl (lv_at hl 1 rfl) ?_
          refine lv_iload_n hx hb dX4_twins_168 rfl (lv_at hl 2 rfl) ?_
          refine lv_ishr hx hb dX4_twins_169 ?_
          refine lv_iconst (v := 1) hx hb dX4_twins_170 (by decide) ?_
          refine lv_iand hx hb dX4_twins_171 ?_
          refine lv_topi (fun y6 ey6 => ?_)
          obtain rfl : y6 = b2i (bt (stR (sc, ar) C) i) := ey6.trans (b_shr1 (by omega) _)
          refine lv_iconst (v := 1) hx hb dX4_twins_172 (by decide) ?_
          refine lv_icmp_ne (tgt := 205) hx hb dX4_twins_173 (by decide) (fun c173_7 => ?_) (fun c173_7 => ?_)
          · skip
            obtain ⟨y8, ey8⟩ : ∃ y : Int32, y = (nI j) + 1 := ⟨_, rfl⟩
            refine lv_iinc (v := y8) (lv' := [(3, .int y8), (0, .ref (AB 0)), (1, .int (stR (sc, ar) C)), (2, .int (nI i))]) hx hb dX4_twins_205 hl (k := 3) rfl (by rw [ey8]; rfl) (by decide) rfl (fun ls hl => ?_)
            obtain rfl : y8 = nI (j + 1) := ey8.trans (nI_1 j)
            refine lv_goto (tgt := 161) hx hb dX4_twins_208 (by decide) ?_
            exact ih2 ls ⟨by omega, lt_s hq (twP_0 hi hj (b2i_n1.mp c173_7)), lv_sub hl [1, 2, 3, 0] rfl⟩ hj
          · skip
            refine lv_iload_n hx hb dX4_twins_176 rfl (lv_at hl 1 rfl) ?_
            refine lv_iload_n hx hb dX4_twins_177 rfl (lv_at hl 3 rfl) ?_
            refine lv_ishr hx hb dX4_twins_178 ?_
            refine lv_iconst (v := 1) hx hb dX4_twins_179 (by decide) ?_
            refine lv_iand hx hb dX4_twins_180 ?_
            refine lv_topi (fun y9 ey9 => ?_)
            obtain rfl : y9 = b2i (bt (stR (sc, ar) C) j) := ey9.trans (b_shr1 (by omega) _)
            refine lv_iconst (v := 1) hx hb dX4_twins_181 (by decide) ?_
            refine lv_icmp_ne (tgt := 205) hx hb dX4_twins_182 (by decide) (fun c182_10 => ?_) (fun c182_10 => ?_)
            · skip
              obtain ⟨y11, ey11⟩ : ∃ y : Int32, y = (nI j) + 1 := ⟨_, rfl⟩
              refine lv_iinc (v := y11) (lv' := [(3, .int y11), (0, .ref (AB 0)), (1, .int (stR (sc, ar) C)), (2, .int (nI i))]) hx hb dX4_twins_205 hl (k := 3) rfl (by rw [ey11]; rfl) (by decide) rfl (fun ls hl => ?_)
              obtain rfl : y11 = nI (j + 1) := ey11.trans (nI_1 j)
              refine lv_goto (tgt := 161) hx hb dX4_twins_208 (by decide) ?_
              exact ih2 ls ⟨by omega, lt_s hq (twP_1 hi hj (b2i_n1.mp c182_10)), lv_sub hl [1, 2, 3, 0] rfl⟩ hj
            · skip
              refine lv_aload_n hx hb dX4_twins_185 rfl (lv_at hl 0 rfl) ?_
              refine va_get (D := (dC, dI)) (ci := 4) (v := .ref (AB 32)) (C := RX4) (T := TX4) (N := 33) hx hb hts hinX4 hown hK hP 0 rfl rfl 32 (by decide) (hts _ (List.mem_of_getElem? (i := 2) rfl)) (fun _ h9 => h9) rfl dX4_twins_186 ?_
              refine lv_iload_n hx hb dX4_twins_189 rfl (lv_at hl 2 rfl) ?_
              refine va_iald hx hb hK hP 26 0 rfl rfl (vp_in_nI (show i < 16 by omega) (by decide)) dX4_twins_190 ?_
              rw [nI_clamp (show i < 2 ^ 31 by have := (show i < 16 by omega); omega)]
              refine lv_iload_n hx hb dX4_twins_191 rfl (lv_at hl 3 rfl) ?_
              refine lv_ishr hx hb dX4_twins_192 ?_
              refine lv_iconst (v := 1) hx hb dX4_twins_193 (by decide) ?_
              refine lv_iand hx hb dX4_twins_194 ?_
              refine lv_topi (fun y12 ey12 => ?_)
              obtain rfl : y12 = b2i (bt (apF i) j) := ey12.trans (b_shr1 (by omega) _)
              refine lv_if_ne (tgt := 205) hx hb dX4_twins_195 (by decide) (fun c195_13 => ?_) (fun c195_13 => ?_)
              · skip
                obtain ⟨y14, ey14⟩ : ∃ y : Int32, y = (nI j) + 1 := ⟨_, rfl⟩
                refine lv_iinc (v := y14) (lv' := [(3, .int y14), (0, .ref (AB 0)), (1, .int (stR (sc, ar) C)), (2, .int (nI i))]) hx hb dX4_twins_205 hl (k := 3) rfl (by rw [ey14]; rfl) (by decide) rfl (fun ls hl => ?_)
                obtain rfl : y14 = nI (j + 1) := ey14.trans (nI_1 j)
                refine lv_goto (tgt := 161) hx hb dX4_twins_208 (by decide) ?_
                exact ih2 ls ⟨by omega, lt_s hq (twP_2 hi hj (b2i_n0.mp c195_13)), lv_sub hl [1, 2, 3, 0] rfl⟩ hj
              · skip
                refine lv_bipush (v := 16) hx hb dX4_twins_198 (by decide) ?_
                refine lv_iload_n hx hb dX4_twins_200 rfl (lv_at hl 2 rfl) ?_
                refine lv_imul hx hb dX4_twins_201 ?_
                refine lv_topi (fun y15 ey15 => ?_)
                obtain rfl : y15 = nI (16 * i) := ey15.trans (pk_mul 16 i)
                refine lv_iload_n hx hb dX4_twins_202 rfl (lv_at hl 3 rfl) ?_
                refine lv_iadd hx hb dX4_twins_203 ?_
                refine lv_topi (fun y16 ey16 => ?_)
                obtain rfl : y16 = nI (16 * i + j) := ey16.trans (nI_add (16 * i) j)
                have hfd : (List.range 256).find? (twP (stR (sc, ar) C) apF) = some (16 * i + j) := find_at (show 16 * i + j < 256 by omega) (twP_t hi hj hij (b2i_1.mp c173_7) (b2i_1.mp c182_10) (b2i_0.mp c195_13)) hq
                rw [hapF] at hfd
                exact absurd (hfd.symm.trans h) (by simp)
    · skip
      have hn729 : n < 729 := ctr_lt (N := 729) rfl (by decide) hkn c44_1
      refine lv_iconst (v := 1) hx hb dX4_twins_47 (by decide) ?_
      refine lv_istore_n (lv' := [(3, .int 1), (0, .ref (AB 0)), (1, .int (stR (sc, ar) C)), (2, .int (nI n))]) hx hb dX4_twins_48 rfl hl (by decide) rfl (fun ls hl => ?_)
      refine lv_iconst (v := 0) hx hb dX4_twins_49 (by decide) ?_
      refine lv_topi (fun y17 ey17 => ?_)
      obtain rfl : y17 = nI 0 := ey17.trans (rfl)
      refine lv_istore (lv' := [(4, .int (nI 0)), (3, .int 1), (0, .ref (AB 0)), (1, .int (stR (sc, ar) C)), (2, .int (nI n))]) hx hb dX4_twins_50 hl (by decide) rfl (fun ls hl => ?_)
      refine lv_iload hx hb dX4_twins_52 (lv_at hl 0 rfl) ?_
      refine lv_iconst (v := 3) hx hb dX4_twins_54 (by decide) ?_
      refine lv_icmp_ge (tgt := 143) hx hb dX4_twins_55 (by decide) (fun c55_18 => ?_) (fun c55_18 => ?_)
      · exact absurd c55_18 (by decide)
      · skip
        refine lv_iload_n hx hb dX4_twins_58 rfl (lv_at hl 1 rfl) ?_
        refine lv_if_eq (tgt := 143) hx hb dX4_twins_59 (by decide) (fun c59_19 => ?_) (fun c59_19 => ?_)
        · exact absurd c59_19 (by decide)
        · skip
          refine lv_iload hx hb dX4_twins_62 (lv_at hl 0 rfl) ?_
          refine lv_if_ne (tgt := 74) hx hb dX4_twins_64 (by decide) (fun c64_20 => ?_) (fun c64_20 => ?_)
          · exact absurd rfl c64_20
          · skip
            refine lv_iload_n hx hb dX4_twins_67 rfl (lv_at hl 4 rfl) ?_
            refine lv_bipush (v := 81) hx hb dX4_twins_68 (by decide) ?_
            refine lv_idiv hx hb dX4_twins_70 (by decide) ?_
            refine lv_topi (fun y21 ey21 => ?_)
            obtain rfl : y21 = nI (n / 81) := ey21.trans (dv81 n hn729)
            refine lv_goto (tgt := 94) hx hb dX4_twins_71 (by decide) ?_
            refine lv_istore (lv' := [(5, .int (nI (n / 81))), (4, .int (nI 0)), (3, .int 1), (0, .ref (AB 0)), (1, .int (stR (sc, ar) C)), (2, .int (nI n))]) hx hb dX4_twins_94 hl (by decide) rfl (fun ls hl => ?_)
            refine lv_iload hx hb dX4_twins_96 (lv_at hl 0 rfl) ?_
            refine lv_bipush (v := 8) hx hb dX4_twins_98 (by decide) ?_
            refine lv_icmp_ge (tgt := 123) hx hb dX4_twins_100 (by decide) (fun c100_22 => ?_) (fun c100_22 => ?_)
            · skip
              have h80 : ¬ n / 81 < 8 := fun z9 => absurd c100_22 (Int32.not_le.mpr (nI_lt (b := 8) z9 (by decide)))
              refine lv_iconst (v := 0) hx hb dX4_twins_123 (by decide) ?_
              refine lv_istore_n (lv' := [(3, .int 0), (5, .int (nI (n / 81))), (4, .int (nI 0)), (0, .ref (AB 0)), (1, .int (stR (sc, ar) C)), (2, .int (nI n))]) hx hb dX4_twins_124 rfl hl (by decide) rfl (fun ls hl => ?_)
              refine lv_iload_n hx hb dX4_twins_125 rfl (lv_at hl 0 rfl) ?_
              refine lv_if_eq (tgt := 137) hx hb dX4_twins_126 (by decide) (fun c126_23 => ?_) (fun c126_23 => ?_)
              · skip
                obtain ⟨y24, ey24⟩ : ∃ y : Int32, y = (nI 0) + 1 := ⟨_, rfl⟩
                refine lv_iinc (v := y24) (lv' := [(4, .int y24), (3, .int 0), (5, .int (nI (n / 81))), (0, .ref (AB 0)), (1, .int (stR (sc, ar) C)), (2, .int (nI n))]) hx hb dX4_twins_137 hl (k := 2) rfl (by rw [ey24]; rfl) (by decide) rfl (fun ls hl => ?_)
                obtain rfl : y24 = nI (0 + 1) := ey24.trans (nI_1 0)
                refine lv_goto (tgt := 52) hx hb dX4_twins_140 (by decide) ?_
                refine lv_iload hx hb dX4_twins_52 (lv_at hl 0 rfl) ?_
                refine lv_iconst (v := 3) hx hb dX4_twins_54 (by decide) ?_
                refine lv_icmp_ge (tgt := 143) hx hb dX4_twins_55 (by decide) (fun c55_25 => ?_) (fun c55_25 => ?_)
                · exact absurd c55_25 (by decide)
                · skip
                  refine lv_iload_n hx hb dX4_twins_58 rfl (lv_at hl 1 rfl) ?_
                  refine lv_if_eq (tgt := 143) hx hb dX4_twins_59 (by decide) (fun c59_26 => ?_) (fun c59_26 => ?_)
                  · skip
                    obtain ⟨y27, ey27⟩ : ∃ y : Int32, y = (nI n) + 1 := ⟨_, rfl⟩
                    refine lv_iinc (v := y27) (lv' := [(2, .int y27), (4, .int (nI (0 + 1))), (3, .int 0), (5, .int (nI (n / 81))), (0, .ref (AB 0)), (1, .int (stR (sc, ar) C))]) hx hb dX4_twins_143 hl (k := 5) rfl (by rw [ey27]; rfl) (by decide) rfl (fun ls hl => ?_)
                    obtain rfl : y27 = nI (n + 1) := ey27.trans (nI_1 n)
                    refine lv_goto (tgt := 40) hx hb dX4_twins_146 (by decide) ?_
                    have hst : twF (usR th (sc, ar)) (fun a => tiI (se a)) y (stR (sc, ar) C) (n + 1) (fillN (ar 32) (fun _ => 0) 16) = twF (usR th (sc, ar)) (fun a => tiI (se a)) y (stR (sc, ar) C) n (fillN (ar 32) (fun _ => 0) 16) := by rw [twF_s, rwF_8 h80]
                    exact ihn ls H locs ⟨at0, by rw [hst]; exact hP, by rw [hst]; exact hD, hS, hat0, lv_sub hl [4, 5, 0] rfl⟩ hn729
                  · exact absurd rfl c59_26
              · exact absurd rfl c126_23
            · skip
              have h80 : n / 81 < 8 := by rcases Nat.lt_or_ge (n / 81) 8 with z9 | z9; exact z9; exact absurd (nI_le (a := 8) z9 (by omega)) c100_22
              refine lv_aload_n hx hb dX4_twins_103 rfl (lv_at hl 3 rfl) ?_
              refine lv_iload hx hb dX4_twins_104 (lv_at hl 0 rfl) ?_
              refine lv_aload_n hx hb dX4_twins_106 rfl (lv_at hl 3 rfl) ?_
              refine lv_iload_n hx hb dX4_twins_107 rfl (lv_at hl 4 rfl) ?_
              refine lv_iload hx hb dX4_twins_108 (lv_at hl 1 rfl) ?_
              refine vp_callSi (W.runV (As := [.int (stR (sc, ar) C), .int (nI 0)]) (rest := [.int (nI (n / 81)), .ref (AB 0)]) ⟨hx, hb, hml, hown, hts⟩ (m_beliefAt l dC dI AB cI cZ (va_up sc 0 0, va_up (va_up ar 31 at0) 32 (twF (usR th (sc, ar)) (fun a => tiI (se a)) y (stR (sc, ar) C) n (fillN (ar 32) (fun _ => 0) 16))) (stR (sc, ar) C) (d := 0) (by decide)) (cwV 2 hts gX4_twins_X4_beliefAt rfl rfl rfl (by decide +kernel) ⟨Nat.le_of_ble_eq_true rfl, Nat.le_of_ble_eq_true rfl⟩) ⟨bm_P, va_recv hK hP (ci := 4) (q0 := 0) rfl rfl, fun U hU hW => ⟨rfl, by rw [hU]; exact hP, va_K.moved hW.alike hK⟩⟩ rfl rfl hl.1 rfl (lv_room (Nat.le_of_ble_eq_true rfl)) dX4_twins_110 ⟨Nat.zero_le _, Nat.zero_le _⟩) (fun r er => ?_)
              obtain rfl : r = imgN (fun j => j) (stR (sc, ar) C) := er.trans (afN_congr (stR (sc, ar) C) 16 (fun j hj => hat0 j hj))
              refine vp_callSi (W.runV (As := [.int (nI (n / 81)), .int (imgN (fun j => j) (stR (sc, ar) C))]) (rest := []) ⟨hx, hb, hml, hown, hts⟩ (m_usable l dC dI AB cI cZ (va_up sc 0 0, va_up (va_up ar 31 at0) 32 (twF (usR th (sc, ar)) (fun a => tiI (se a)) y (stR (sc, ar) C) n (fillN (ar 32) (fun _ => 0) 16))) th h80 ((frz_sc (frz_up (frz_up frz.rf (by decide)) (by decide)) (by decide)).mok hM _ h80).1 (imgN (fun j => j) (stR (sc, ar) C))) (cwV 2 hts gX4_twins_X4_usable rfl rfl rfl (by decide +kernel) ⟨Nat.le_of_ble_eq_true rfl, Nat.le_of_ble_eq_true rfl⟩) ⟨bm_P, va_recv hK hP (ci := 4) (q0 := 0) rfl rfl, fun U hU hW => ⟨rfl, by rw [hU]; exact hP, va_K.moved hW.alike hK⟩⟩ rfl rfl hl.1 rfl (lv_room (Nat.le_of_ble_eq_true rfl)) dX4_twins_113 ⟨Nat.zero_le _, Nat.zero_le _⟩) (fun r er => ?_)
              obtain rfl : r = b2i (usR th (sc, ar) (n / 81) (imgN (fun j => j) (stR (sc, ar) C))) := er.trans (by rw [(frz_sc (frz_up (frz_up frz.rf (by decide)) (by decide)) (by decide)).us])
              refine lv_if_eq (tgt := 123) hx hb dX4_twins_116 (by decide) (fun c116_28 => ?_) (fun c116_28 => ?_)
              · skip
                have hu0 := b2i_0.mp c116_28
                refine lv_iconst (v := 0) hx hb dX4_twins_123 (by decide) ?_
                refine lv_istore_n (lv' := [(3, .int 0), (5, .int (nI (n / 81))), (4, .int (nI 0)), (0, .ref (AB 0)), (1, .int (stR (sc, ar) C)), (2, .int (nI n))]) hx hb dX4_twins_124 rfl hl (by decide) rfl (fun ls hl => ?_)
                refine lv_iload_n hx hb dX4_twins_125 rfl (lv_at hl 0 rfl) ?_
                refine lv_if_eq (tgt := 137) hx hb dX4_twins_126 (by decide) (fun c126_29 => ?_) (fun c126_29 => ?_)
                · skip
                  obtain ⟨y30, ey30⟩ : ∃ y : Int32, y = (nI 0) + 1 := ⟨_, rfl⟩
                  refine lv_iinc (v := y30) (lv' := [(4, .int y30), (3, .int 0), (5, .int (nI (n / 81))), (0, .ref (AB 0)), (1, .int (stR (sc, ar) C)), (2, .int (nI n))]) hx hb dX4_twins_137 hl (k := 2) rfl (by rw [ey30]; rfl) (by decide) rfl (fun ls hl => ?_)
                  obtain rfl : y30 = nI (0 + 1) := ey30.trans (nI_1 0)
                  refine lv_goto (tgt := 52) hx hb dX4_twins_140 (by decide) ?_
                  refine lv_iload hx hb dX4_twins_52 (lv_at hl 0 rfl) ?_
                  refine lv_iconst (v := 3) hx hb dX4_twins_54 (by decide) ?_
                  refine lv_icmp_ge (tgt := 143) hx hb dX4_twins_55 (by decide) (fun c55_31 => ?_) (fun c55_31 => ?_)
                  · exact absurd c55_31 (by decide)
                  · skip
                    refine lv_iload_n hx hb dX4_twins_58 rfl (lv_at hl 1 rfl) ?_
                    refine lv_if_eq (tgt := 143) hx hb dX4_twins_59 (by decide) (fun c59_32 => ?_) (fun c59_32 => ?_)
                    · skip
                      obtain ⟨y33, ey33⟩ : ∃ y : Int32, y = (nI n) + 1 := ⟨_, rfl⟩
                      refine lv_iinc (v := y33) (lv' := [(2, .int y33), (4, .int (nI (0 + 1))), (3, .int 0), (5, .int (nI (n / 81))), (0, .ref (AB 0)), (1, .int (stR (sc, ar) C))]) hx hb dX4_twins_143 hl (k := 5) rfl (by rw [ey33]; rfl) (by decide) rfl (fun ls hl => ?_)
                      obtain rfl : y33 = nI (n + 1) := ey33.trans (nI_1 n)
                      refine lv_goto (tgt := 40) hx hb dX4_twins_146 (by decide) ?_
                      have hst : twF (usR th (sc, ar)) (fun a => tiI (se a)) y (stR (sc, ar) C) (n + 1) (fillN (ar 32) (fun _ => 0) 16) = twF (usR th (sc, ar)) (fun a => tiI (se a)) y (stR (sc, ar) C) n (fillN (ar 32) (fun _ => 0) 16) := by rw [twF_s, rwF_u hu0]
                      exact ihn ls H locs ⟨at0, by rw [hst]; exact hP, by rw [hst]; exact hD, hS, hat0, lv_sub hl [4, 5, 0] rfl⟩ hn729
                    · exact absurd rfl c59_32
                · exact absurd rfl c126_29
              · skip
                have hu0 := b2i_n0.mp c116_28
                refine lv_iconst (v := 1) hx hb dX4_twins_119 (by decide) ?_
                refine lv_goto (tgt := 124) hx hb dX4_twins_120 (by decide) ?_
                refine lv_istore_n (lv' := [(3, .int 1), (5, .int (nI (n / 81))), (4, .int (nI 0)), (0, .ref (AB 0)), (1, .int (stR (sc, ar) C)), (2, .int (nI n))]) hx hb dX4_twins_124 rfl hl (by decide) rfl (fun ls hl => ?_)
                refine lv_iload_n hx hb dX4_twins_125 rfl (lv_at hl 0 rfl) ?_
                refine lv_if_eq (tgt := 137) hx hb dX4_twins_126 (by decide) (fun c126_34 => ?_) (fun c126_34 => ?_)
                · exact absurd c126_34 (by decide)
                · skip
                  refine lv_aload_n hx hb dX4_twins_129 rfl (lv_at hl 3 rfl) ?_
                  refine lv_iload hx hb dX4_twins_130 (lv_at hl 1 rfl) ?_
                  refine lv_iload hx hb dX4_twins_132 (lv_at hl 2 rfl) ?_
                  have hFc := m_free (τ := (va_up sc 0 0, va_up (va_up ar 31 at0) 32 (twF (usR th (sc, ar)) (fun a => tiI (se a)) y (stR (sc, ar) C) n (fillN (ar 32) (fun _ => 0) 16)))) hD hS hA
                  refine va_callv (va_runV (As := [.int (nI (n / 81)), .int (nI 0)]) (rest := []) ⟨hx, hb, hml, hown, hts⟩ (m_make l dC dI AB cI cZ (va_up sc 0 0, va_up (va_up ar 31 at0) 32 (twF (usR th (sc, ar)) (fun a => tiI (se a)) y (stR (sc, ar) C) n (fillN (ar 32) (fun _ => 0) 16))) H.size ((frz_sc (frz_up (frz_up frz.rf (by decide)) (by decide)) (by decide)).mok hM) (se := se) hse (y := y) (fun a ha u hu => by rw [(frz_sc (frz_up (frz_up frz.rf (by decide)) (by decide)) (by decide)).nx]; exact hy a ha u hu) h80 (d := 0) (by decide) (x := (fun j => j)) (fun j hj => ⟨hat0 j hj, hj⟩)) (cwV 2 hts gX4_twins_X4_make rfl rfl rfl (by decide +kernel) ⟨Nat.le_of_ble_eq_true rfl, Nat.le_of_ble_eq_true rfl⟩) ⟨bm_F, va_recv hK hP (ci := 4) (q0 := 0) rfl rfl, fun U hU hW => ⟨rfl, by rw [hU], by rw [hU]; exact hP, va_K.moved hW.alike hK, hf_any hD⟩⟩ rfl rfl hl.1 rfl (lv_room (Nat.le_of_ble_eq_true rfl)) dX4_twins_134 ⟨Nat.zero_le _, Nat.zero_le _⟩) hS (fun q _ h => hFc q h) hFc (fun u t H locs ht hvm hw hB hz1 hk1 hS => ?_)
                  obtain ⟨hP1, hD1⟩ := hB
                  rw [ht] at hP1
                  subst hw
                  have hP : va_P (dC, dI) vwCl (mL AB cI cZ (va_up sc 0 0) (va_up (va_up ar 31 (stpN at0 0 (fun j => nI (y (n / 81) ((fun j => j) j))) 16)) 32 (mrR (tiI (se (n / 81))) (fun j => y (n / 81) j) (twF (usR th (sc, ar)) (fun a => tiI (se a)) y (stR (sc, ar) C) n (fillN (ar 32) (fun _ => 0) 16))))) H := hP1
                  have hD : va_D V (mL AB cI cZ (va_up sc 0 0) (va_up (va_up ar 31 (stpN at0 0 (fun j => nI (y (n / 81) ((fun j => j) j))) 16)) 32 (mrR (tiI (se (n / 81))) (fun j => y (n / 81) j) (twF (usR th (sc, ar)) (fun a => tiI (se a)) y (stR (sc, ar) C) n (fillN (ar 32) (fun _ => 0) 16))))) := hf_weak hD1 hFc
                  clear hP1 hD1 hFc
                  obtain ⟨at1, e_at1⟩ : ∃ f, f = stpN at0 0 (fun j => nI (y (n / 81) ((fun j => j) j))) 16 := ⟨_, rfl⟩
                  have hP : va_P (dC, dI) vwCl (mL AB cI cZ (va_up sc 0 0) (va_up (va_up ar 31 at1) 32 (mrR (tiI (se (n / 81))) (fun j => y (n / 81) j) (twF (usR th (sc, ar)) (fun a => tiI (se a)) y (stR (sc, ar) C) n (fillN (ar 32) (fun _ => 0) 16))))) H := by rw [e_at1]; exact hP
                  have hD : va_D V (mL AB cI cZ (va_up sc 0 0) (va_up (va_up ar 31 at1) 32 (mrR (tiI (se (n / 81))) (fun j => y (n / 81) j) (twF (usR th (sc, ar)) (fun a => tiI (se a)) y (stR (sc, ar) C) n (fillN (ar 32) (fun _ => 0) 16))))) := by rw [e_at1]; exact hD
                  have hlo1 : ∀ q, q < 16 * 0 + 16 → at1 q = at0 q := fun q hq => by rw [e_at1]; exact stpN_lo _ _ _ hq
                  have hat1 : ∀ j, j < 16 → at1 (16 * 1 + j) = nI ((fun j => y (n / 81) j) j) ∧ (fun j => y (n / 81) j) j < 16 := fun j hj => ⟨by rw [e_at1]; exact stp_at at0 0 _ hj, (hy _ h80 _ hj).2⟩
                  clear e_at1
                  obtain ⟨y35, ey35⟩ : ∃ y : Int32, y = (nI 0) + 1 := ⟨_, rfl⟩
                  refine lv_iinc (v := y35) (lv' := [(4, .int y35), (3, .int 1), (5, .int (nI (n / 81))), (0, .ref (AB 0)), (1, .int (stR (sc, ar) C)), (2, .int (nI n))]) hx hb dX4_twins_137 hl (k := 2) rfl (by rw [ey35]; rfl) (by decide) rfl (fun ls hl => ?_)
                  obtain rfl : y35 = nI (0 + 1) := ey35.trans (nI_1 0)
                  refine lv_goto (tgt := 52) hx hb dX4_twins_140 (by decide) ?_
                  refine lv_iload hx hb dX4_twins_52 (lv_at hl 0 rfl) ?_
                  refine lv_iconst (v := 3) hx hb dX4_twins_54 (by decide) ?_
                  refine lv_icmp_ge (tgt := 143) hx hb dX4_twins_55 (by decide) (fun c55_36 => ?_) (fun c55_36 => ?_)
                  · exact absurd c55_36 (by decide)
                  · skip
                    refine lv_iload_n hx hb dX4_twins_58 rfl (lv_at hl 1 rfl) ?_
                    refine lv_if_eq (tgt := 143) hx hb dX4_twins_59 (by decide) (fun c59_37 => ?_) (fun c59_37 => ?_)
                    · exact absurd c59_37 (by decide)
                    · skip
                      refine lv_iload hx hb dX4_twins_62 (lv_at hl 0 rfl) ?_
                      refine lv_if_ne (tgt := 74) hx hb dX4_twins_64 (by decide) (fun c64_38 => ?_) (fun c64_38 => ?_)
                      · skip
                        refine lv_iload hx hb dX4_twins_74 (lv_at hl 0 rfl) ?_
                        refine lv_iconst (v := 1) hx hb dX4_twins_76 (by decide) ?_
                        refine lv_icmp_ne (tgt := 90) hx hb dX4_twins_77 (by decide) (fun c77_39 => ?_) (fun c77_39 => ?_)
                        · exact absurd rfl c77_39
                        · skip
                          refine lv_iload_n hx hb dX4_twins_80 rfl (lv_at hl 5 rfl) ?_
                          refine lv_bipush (v := 9) hx hb dX4_twins_81 (by decide) ?_
                          refine lv_idiv hx hb dX4_twins_83 (by decide) ?_
                          refine lv_topi (fun y40 ey40 => ?_)
                          obtain rfl : y40 = nI (n / 9) := ey40.trans (dv9 n hn729)
                          refine lv_bipush (v := 9) hx hb dX4_twins_84 (by decide) ?_
                          refine lv_irem hx hb dX4_twins_86 (by decide) ?_
                          refine lv_topi (fun y41 ey41 => ?_)
                          obtain rfl : y41 = nI (n / 9 % 9) := ey41.trans (rm9 (n / 9) (by omega))
                          refine lv_goto (tgt := 94) hx hb dX4_twins_87 (by decide) ?_
                          refine lv_istore (lv' := [(5, .int (nI (n / 9 % 9))), (4, .int (nI (0 + 1))), (3, .int 1), (0, .ref (AB 0)), (1, .int (stR (sc, ar) C)), (2, .int (nI n))]) hx hb dX4_twins_94 hl (by decide) rfl (fun ls hl => ?_)
                          refine lv_iload hx hb dX4_twins_96 (lv_at hl 0 rfl) ?_
                          refine lv_bipush (v := 8) hx hb dX4_twins_98 (by decide) ?_
                          refine lv_icmp_ge (tgt := 123) hx hb dX4_twins_100 (by decide) (fun c100_42 => ?_) (fun c100_42 => ?_)
                          · skip
                            have h81 : ¬ n / 9 % 9 < 8 := fun z9 => absurd c100_42 (Int32.not_le.mpr (nI_lt (b := 8) z9 (by decide)))
                            refine lv_iconst (v := 0) hx hb dX4_twins_123 (by decide) ?_
                            refine lv_istore_n (lv' := [(3, .int 0), (5, .int (nI (n / 9 % 9))), (4, .int (nI (0 + 1))), (0, .ref (AB 0)), (1, .int (stR (sc, ar) C)), (2, .int (nI n))]) hx hb dX4_twins_124 rfl hl (by decide) rfl (fun ls hl => ?_)
                            refine lv_iload_n hx hb dX4_twins_125 rfl (lv_at hl 0 rfl) ?_
                            refine lv_if_eq (tgt := 137) hx hb dX4_twins_126 (by decide) (fun c126_43 => ?_) (fun c126_43 => ?_)
                            · skip
                              obtain ⟨y44, ey44⟩ : ∃ y : Int32, y = (nI (0 + 1)) + 1 := ⟨_, rfl⟩
                              refine lv_iinc (v := y44) (lv' := [(4, .int y44), (3, .int 0), (5, .int (nI (n / 9 % 9))), (0, .ref (AB 0)), (1, .int (stR (sc, ar) C)), (2, .int (nI n))]) hx hb dX4_twins_137 hl (k := 2) rfl (by rw [ey44]; rfl) (by decide) rfl (fun ls hl => ?_)
                              obtain rfl : y44 = nI ((0 + 1) + 1) := ey44.trans (nI_1 (0 + 1))
                              refine lv_goto (tgt := 52) hx hb dX4_twins_140 (by decide) ?_
                              refine lv_iload hx hb dX4_twins_52 (lv_at hl 0 rfl) ?_
                              refine lv_iconst (v := 3) hx hb dX4_twins_54 (by decide) ?_
                              refine lv_icmp_ge (tgt := 143) hx hb dX4_twins_55 (by decide) (fun c55_45 => ?_) (fun c55_45 => ?_)
                              · exact absurd c55_45 (by decide)
                              · skip
                                refine lv_iload_n hx hb dX4_twins_58 rfl (lv_at hl 1 rfl) ?_
                                refine lv_if_eq (tgt := 143) hx hb dX4_twins_59 (by decide) (fun c59_46 => ?_) (fun c59_46 => ?_)
                                · skip
                                  obtain ⟨y47, ey47⟩ : ∃ y : Int32, y = (nI n) + 1 := ⟨_, rfl⟩
                                  refine lv_iinc (v := y47) (lv' := [(2, .int y47), (4, .int (nI ((0 + 1) + 1))), (3, .int 0), (5, .int (nI (n / 9 % 9))), (0, .ref (AB 0)), (1, .int (stR (sc, ar) C))]) hx hb dX4_twins_143 hl (k := 5) rfl (by rw [ey47]; rfl) (by decide) rfl (fun ls hl => ?_)
                                  obtain rfl : y47 = nI (n + 1) := ey47.trans (nI_1 n)
                                  refine lv_goto (tgt := 40) hx hb dX4_twins_146 (by decide) ?_
                                  have hst : twF (usR th (sc, ar)) (fun a => tiI (se a)) y (stR (sc, ar) C) (n + 1) (fillN (ar 32) (fun _ => 0) 16) = mrR (tiI (se (n / 81))) (fun j => y (n / 81) j) (twF (usR th (sc, ar)) (fun a => tiI (se a)) y (stR (sc, ar) C) n (fillN (ar 32) (fun _ => 0) 16)) := by rw [twF_s, rwF_go h80 hu0, rwF_8 h81]
                                  exact ihn ls H locs ⟨at1, by rw [hst]; exact hP, by rw [hst]; exact hD, hS, (fun j hj => (hlo1 (16 * 0 + j) (by omega)).trans (hat0 j hj)), lv_sub hl [4, 5, 0] rfl⟩ hn729
                                · exact absurd rfl c59_46
                            · exact absurd rfl c126_43
                          · skip
                            have h81 : n / 9 % 9 < 8 := by rcases Nat.lt_or_ge (n / 9 % 9) 8 with z9 | z9; exact z9; exact absurd (nI_le (a := 8) z9 (by omega)) c100_42
                            refine lv_aload_n hx hb dX4_twins_103 rfl (lv_at hl 3 rfl) ?_
                            refine lv_iload hx hb dX4_twins_104 (lv_at hl 0 rfl) ?_
                            refine lv_aload_n hx hb dX4_twins_106 rfl (lv_at hl 3 rfl) ?_
                            refine lv_iload_n hx hb dX4_twins_107 rfl (lv_at hl 4 rfl) ?_
                            refine lv_iload hx hb dX4_twins_108 (lv_at hl 1 rfl) ?_
                            refine vp_callSi (W.runV (As := [.int (stR (sc, ar) C), .int (nI (0 + 1))]) (rest := [.int (nI (n / 9 % 9)), .ref (AB 0)]) ⟨hx, hb, hml, hown, hts⟩ (m_beliefAt l dC dI AB cI cZ (va_up sc 0 0, va_up (va_up ar 31 at1) 32 (mrR (tiI (se (n / 81))) (fun j => y (n / 81) j) (twF (usR th (sc, ar)) (fun a => tiI (se a)) y (stR (sc, ar) C) n (fillN (ar 32) (fun _ => 0) 16)))) (stR (sc, ar) C) (d := 1) (by decide)) (cwV 2 hts gX4_twins_X4_beliefAt rfl rfl rfl (by decide +kernel) ⟨Nat.le_of_ble_eq_true rfl, Nat.le_of_ble_eq_true rfl⟩) ⟨bm_P, va_recv hK hP (ci := 4) (q0 := 0) rfl rfl, fun U hU hW => ⟨rfl, by rw [hU]; exact hP, va_K.moved hW.alike hK⟩⟩ rfl rfl hl.1 rfl (lv_room (Nat.le_of_ble_eq_true rfl)) dX4_twins_110 ⟨Nat.zero_le _, Nat.zero_le _⟩) (fun r er => ?_)
                            obtain rfl : r = imgN (fun j => y (n / 81) j) (stR (sc, ar) C) := er.trans (afN_congr (stR (sc, ar) C) 16 (fun j hj => (hat1 j hj).1))
                            refine vp_callSi (W.runV (As := [.int (nI (n / 9 % 9)), .int (imgN (fun j => y (n / 81) j) (stR (sc, ar) C))]) (rest := []) ⟨hx, hb, hml, hown, hts⟩ (m_usable l dC dI AB cI cZ (va_up sc 0 0, va_up (va_up ar 31 at1) 32 (mrR (tiI (se (n / 81))) (fun j => y (n / 81) j) (twF (usR th (sc, ar)) (fun a => tiI (se a)) y (stR (sc, ar) C) n (fillN (ar 32) (fun _ => 0) 16)))) th h81 ((frz_sc (frz_up (frz_up frz.rf (by decide)) (by decide)) (by decide)).mok hM _ h81).1 (imgN (fun j => y (n / 81) j) (stR (sc, ar) C))) (cwV 2 hts gX4_twins_X4_usable rfl rfl rfl (by decide +kernel) ⟨Nat.le_of_ble_eq_true rfl, Nat.le_of_ble_eq_true rfl⟩) ⟨bm_P, va_recv hK hP (ci := 4) (q0 := 0) rfl rfl, fun U hU hW => ⟨rfl, by rw [hU]; exact hP, va_K.moved hW.alike hK⟩⟩ rfl rfl hl.1 rfl (lv_room (Nat.le_of_ble_eq_true rfl)) dX4_twins_113 ⟨Nat.zero_le _, Nat.zero_le _⟩) (fun r er => ?_)
                            obtain rfl : r = b2i (usR th (sc, ar) (n / 9 % 9) (imgN (fun j => y (n / 81) j) (stR (sc, ar) C))) := er.trans (by rw [(frz_sc (frz_up (frz_up frz.rf (by decide)) (by decide)) (by decide)).us])
                            refine lv_if_eq (tgt := 123) hx hb dX4_twins_116 (by decide) (fun c116_48 => ?_) (fun c116_48 => ?_)
                            · skip
                              have hu1 := b2i_0.mp c116_48
                              refine lv_iconst (v := 0) hx hb dX4_twins_123 (by decide) ?_
                              refine lv_istore_n (lv' := [(3, .int 0), (5, .int (nI (n / 9 % 9))), (4, .int (nI (0 + 1))), (0, .ref (AB 0)), (1, .int (stR (sc, ar) C)), (2, .int (nI n))]) hx hb dX4_twins_124 rfl hl (by decide) rfl (fun ls hl => ?_)
                              refine lv_iload_n hx hb dX4_twins_125 rfl (lv_at hl 0 rfl) ?_
                              refine lv_if_eq (tgt := 137) hx hb dX4_twins_126 (by decide) (fun c126_49 => ?_) (fun c126_49 => ?_)
                              · skip
                                obtain ⟨y50, ey50⟩ : ∃ y : Int32, y = (nI (0 + 1)) + 1 := ⟨_, rfl⟩
                                refine lv_iinc (v := y50) (lv' := [(4, .int y50), (3, .int 0), (5, .int (nI (n / 9 % 9))), (0, .ref (AB 0)), (1, .int (stR (sc, ar) C)), (2, .int (nI n))]) hx hb dX4_twins_137 hl (k := 2) rfl (by rw [ey50]; rfl) (by decide) rfl (fun ls hl => ?_)
                                obtain rfl : y50 = nI ((0 + 1) + 1) := ey50.trans (nI_1 (0 + 1))
                                refine lv_goto (tgt := 52) hx hb dX4_twins_140 (by decide) ?_
                                refine lv_iload hx hb dX4_twins_52 (lv_at hl 0 rfl) ?_
                                refine lv_iconst (v := 3) hx hb dX4_twins_54 (by decide) ?_
                                refine lv_icmp_ge (tgt := 143) hx hb dX4_twins_55 (by decide) (fun c55_51 => ?_) (fun c55_51 => ?_)
                                · exact absurd c55_51 (by decide)
                                · skip
                                  refine lv_iload_n hx hb dX4_twins_58 rfl (lv_at hl 1 rfl) ?_
                                  refine lv_if_eq (tgt := 143) hx hb dX4_twins_59 (by decide) (fun c59_52 => ?_) (fun c59_52 => ?_)
                                  · skip
                                    obtain ⟨y53, ey53⟩ : ∃ y : Int32, y = (nI n) + 1 := ⟨_, rfl⟩
                                    refine lv_iinc (v := y53) (lv' := [(2, .int y53), (4, .int (nI ((0 + 1) + 1))), (3, .int 0), (5, .int (nI (n / 9 % 9))), (0, .ref (AB 0)), (1, .int (stR (sc, ar) C))]) hx hb dX4_twins_143 hl (k := 5) rfl (by rw [ey53]; rfl) (by decide) rfl (fun ls hl => ?_)
                                    obtain rfl : y53 = nI (n + 1) := ey53.trans (nI_1 n)
                                    refine lv_goto (tgt := 40) hx hb dX4_twins_146 (by decide) ?_
                                    have hst : twF (usR th (sc, ar)) (fun a => tiI (se a)) y (stR (sc, ar) C) (n + 1) (fillN (ar 32) (fun _ => 0) 16) = mrR (tiI (se (n / 81))) (fun j => y (n / 81) j) (twF (usR th (sc, ar)) (fun a => tiI (se a)) y (stR (sc, ar) C) n (fillN (ar 32) (fun _ => 0) 16)) := by rw [twF_s, rwF_go h80 hu0, rwF_u hu1]
                                    exact ihn ls H locs ⟨at1, by rw [hst]; exact hP, by rw [hst]; exact hD, hS, (fun j hj => (hlo1 (16 * 0 + j) (by omega)).trans (hat0 j hj)), lv_sub hl [4, 5, 0] rfl⟩ hn729
                                  · exact absurd rfl c59_52
                              · exact absurd rfl c126_49
                            · skip
                              have hu1 := b2i_n0.mp c116_48
                              refine lv_iconst (v := 1) hx hb dX4_twins_119 (by decide) ?_
                              refine lv_goto (tgt := 124) hx hb dX4_twins_120 (by decide) ?_
                              refine lv_istore_n (lv' := [(3, .int 1), (5, .int (nI (n / 9 % 9))), (4, .int (nI (0 + 1))), (0, .ref (AB 0)), (1, .int (stR (sc, ar) C)), (2, .int (nI n))]) hx hb dX4_twins_124 rfl hl (by decide) rfl (fun ls hl => ?_)
                              refine lv_iload_n hx hb dX4_twins_125 rfl (lv_at hl 0 rfl) ?_
                              refine lv_if_eq (tgt := 137) hx hb dX4_twins_126 (by decide) (fun c126_54 => ?_) (fun c126_54 => ?_)
                              · exact absurd c126_54 (by decide)
                              · skip
                                refine lv_aload_n hx hb dX4_twins_129 rfl (lv_at hl 3 rfl) ?_
                                refine lv_iload hx hb dX4_twins_130 (lv_at hl 1 rfl) ?_
                                refine lv_iload hx hb dX4_twins_132 (lv_at hl 2 rfl) ?_
                                have hFc := m_free (τ := (va_up sc 0 0, va_up (va_up ar 31 at1) 32 (mrR (tiI (se (n / 81))) (fun j => y (n / 81) j) (twF (usR th (sc, ar)) (fun a => tiI (se a)) y (stR (sc, ar) C) n (fillN (ar 32) (fun _ => 0) 16))))) hD hS hA
                                refine va_callv (va_runV (As := [.int (nI (n / 9 % 9)), .int (nI (0 + 1))]) (rest := []) ⟨hx, hb, hml, hown, hts⟩ (m_make l dC dI AB cI cZ (va_up sc 0 0, va_up (va_up ar 31 at1) 32 (mrR (tiI (se (n / 81))) (fun j => y (n / 81) j) (twF (usR th (sc, ar)) (fun a => tiI (se a)) y (stR (sc, ar) C) n (fillN (ar 32) (fun _ => 0) 16)))) H.size ((frz_sc (frz_up (frz_up frz.rf (by decide)) (by decide)) (by decide)).mok hM) (se := se) hse (y := y) (fun a ha u hu => by rw [(frz_sc (frz_up (frz_up frz.rf (by decide)) (by decide)) (by decide)).nx]; exact hy a ha u hu) h81 (d := 1) (by decide) (x := (fun j => y (n / 81) j)) hat1) (cwV 2 hts gX4_twins_X4_make rfl rfl rfl (by decide +kernel) ⟨Nat.le_of_ble_eq_true rfl, Nat.le_of_ble_eq_true rfl⟩) ⟨bm_F, va_recv hK hP (ci := 4) (q0 := 0) rfl rfl, fun U hU hW => ⟨rfl, by rw [hU], by rw [hU]; exact hP, va_K.moved hW.alike hK, hf_any hD⟩⟩ rfl rfl hl.1 rfl (lv_room (Nat.le_of_ble_eq_true rfl)) dX4_twins_134 ⟨Nat.zero_le _, Nat.zero_le _⟩) hS (fun q _ h => hFc q h) hFc (fun u t H locs ht hvm hw hB hz1 hk1 hS => ?_)
                                obtain ⟨hP1, hD1⟩ := hB
                                rw [ht] at hP1
                                subst hw
                                have hP : va_P (dC, dI) vwCl (mL AB cI cZ (va_up sc 0 0) (va_up (va_up ar 31 (stpN at1 1 (fun j => nI (y (n / 9 % 9) ((fun j => y (n / 81) j) j))) 16)) 32 (mrR (tiI (se (n / 9 % 9))) (fun j => y (n / 9 % 9) (y (n / 81) j)) (mrR (tiI (se (n / 81))) (fun j => y (n / 81) j) (twF (usR th (sc, ar)) (fun a => tiI (se a)) y (stR (sc, ar) C) n (fillN (ar 32) (fun _ => 0) 16)))))) H := hP1
                                have hD : va_D V (mL AB cI cZ (va_up sc 0 0) (va_up (va_up ar 31 (stpN at1 1 (fun j => nI (y (n / 9 % 9) ((fun j => y (n / 81) j) j))) 16)) 32 (mrR (tiI (se (n / 9 % 9))) (fun j => y (n / 9 % 9) (y (n / 81) j)) (mrR (tiI (se (n / 81))) (fun j => y (n / 81) j) (twF (usR th (sc, ar)) (fun a => tiI (se a)) y (stR (sc, ar) C) n (fillN (ar 32) (fun _ => 0) 16)))))) := hf_weak hD1 hFc
                                clear hP1 hD1 hFc
                                obtain ⟨at2, e_at2⟩ : ∃ f, f = stpN at1 1 (fun j => nI (y (n / 9 % 9) ((fun j => y (n / 81) j) j))) 16 := ⟨_, rfl⟩
                                have hP : va_P (dC, dI) vwCl (mL AB cI cZ (va_up sc 0 0) (va_up (va_up ar 31 at2) 32 (mrR (tiI (se (n / 9 % 9))) (fun j => y (n / 9 % 9) (y (n / 81) j)) (mrR (tiI (se (n / 81))) (fun j => y (n / 81) j) (twF (usR th (sc, ar)) (fun a => tiI (se a)) y (stR (sc, ar) C) n (fillN (ar 32) (fun _ => 0) 16)))))) H := by rw [e_at2]; exact hP
                                have hD : va_D V (mL AB cI cZ (va_up sc 0 0) (va_up (va_up ar 31 at2) 32 (mrR (tiI (se (n / 9 % 9))) (fun j => y (n / 9 % 9) (y (n / 81) j)) (mrR (tiI (se (n / 81))) (fun j => y (n / 81) j) (twF (usR th (sc, ar)) (fun a => tiI (se a)) y (stR (sc, ar) C) n (fillN (ar 32) (fun _ => 0) 16)))))) := by rw [e_at2]; exact hD
                                have hlo2 : ∀ q, q < 16 * 1 + 16 → at2 q = at1 q := fun q hq => by rw [e_at2]; exact stpN_lo _ _ _ hq
                                have hat2 : ∀ j, j < 16 → at2 (16 * 2 + j) = nI ((fun j => y (n / 9 % 9) (y (n / 81) j)) j) ∧ (fun j => y (n / 9 % 9) (y (n / 81) j)) j < 16 := fun j hj => ⟨by rw [e_at2]; exact stp_at at1 1 _ hj, (hy _ h81 _ (hat1 j hj).2).2⟩
                                clear e_at2
                                obtain ⟨y55, ey55⟩ : ∃ y : Int32, y = (nI (0 + 1)) + 1 := ⟨_, rfl⟩
                                refine lv_iinc (v := y55) (lv' := [(4, .int y55), (3, .int 1), (5, .int (nI (n / 9 % 9))), (0, .ref (AB 0)), (1, .int (stR (sc, ar) C)), (2, .int (nI n))]) hx hb dX4_twins_137 hl (k := 2) rfl (by rw [ey55]; rfl) (by decide) rfl (fun ls hl => ?_)
                                obtain rfl : y55 = nI ((0 + 1) + 1) := ey55.trans (nI_1 (0 + 1))
                                refine lv_goto (tgt := 52) hx hb dX4_twins_140 (by decide) ?_
                                refine lv_iload hx hb dX4_twins_52 (lv_at hl 0 rfl) ?_
                                refine lv_iconst (v := 3) hx hb dX4_twins_54 (by decide) ?_
                                refine lv_icmp_ge (tgt := 143) hx hb dX4_twins_55 (by decide) (fun c55_56 => ?_) (fun c55_56 => ?_)
                                · exact absurd c55_56 (by decide)
                                · skip
                                  refine lv_iload_n hx hb dX4_twins_58 rfl (lv_at hl 1 rfl) ?_
                                  refine lv_if_eq (tgt := 143) hx hb dX4_twins_59 (by decide) (fun c59_57 => ?_) (fun c59_57 => ?_)
                                  · exact absurd c59_57 (by decide)
                                  · skip
                                    refine lv_iload hx hb dX4_twins_62 (lv_at hl 0 rfl) ?_
                                    refine lv_if_ne (tgt := 74) hx hb dX4_twins_64 (by decide) (fun c64_58 => ?_) (fun c64_58 => ?_)
                                    · skip
                                      refine lv_iload hx hb dX4_twins_74 (lv_at hl 0 rfl) ?_
                                      refine lv_iconst (v := 1) hx hb dX4_twins_76 (by decide) ?_
                                      refine lv_icmp_ne (tgt := 90) hx hb dX4_twins_77 (by decide) (fun c77_59 => ?_) (fun c77_59 => ?_)
                                      · skip
                                        refine lv_iload_n hx hb dX4_twins_90 rfl (lv_at hl 5 rfl) ?_
                                        refine lv_bipush (v := 9) hx hb dX4_twins_91 (by decide) ?_
                                        refine lv_irem hx hb dX4_twins_93 (by decide) ?_
                                        refine lv_topi (fun y60 ey60 => ?_)
                                        obtain rfl : y60 = nI (n % 9) := ey60.trans (rm9 n hn729)
                                        refine lv_istore (lv' := [(5, .int (nI (n % 9))), (4, .int (nI ((0 + 1) + 1))), (3, .int 1), (0, .ref (AB 0)), (1, .int (stR (sc, ar) C)), (2, .int (nI n))]) hx hb dX4_twins_94 hl (by decide) rfl (fun ls hl => ?_)
                                        refine lv_iload hx hb dX4_twins_96 (lv_at hl 0 rfl) ?_
                                        refine lv_bipush (v := 8) hx hb dX4_twins_98 (by decide) ?_
                                        refine lv_icmp_ge (tgt := 123) hx hb dX4_twins_100 (by decide) (fun c100_61 => ?_) (fun c100_61 => ?_)
                                        · skip
                                          have h82 : ¬ n % 9 < 8 := fun z9 => absurd c100_61 (Int32.not_le.mpr (nI_lt (b := 8) z9 (by decide)))
                                          refine lv_iconst (v := 0) hx hb dX4_twins_123 (by decide) ?_
                                          refine lv_istore_n (lv' := [(3, .int 0), (5, .int (nI (n % 9))), (4, .int (nI ((0 + 1) + 1))), (0, .ref (AB 0)), (1, .int (stR (sc, ar) C)), (2, .int (nI n))]) hx hb dX4_twins_124 rfl hl (by decide) rfl (fun ls hl => ?_)
                                          refine lv_iload_n hx hb dX4_twins_125 rfl (lv_at hl 0 rfl) ?_
                                          refine lv_if_eq (tgt := 137) hx hb dX4_twins_126 (by decide) (fun c126_62 => ?_) (fun c126_62 => ?_)
                                          · skip
                                            obtain ⟨y63, ey63⟩ : ∃ y : Int32, y = (nI ((0 + 1) + 1)) + 1 := ⟨_, rfl⟩
                                            refine lv_iinc (v := y63) (lv' := [(4, .int y63), (3, .int 0), (5, .int (nI (n % 9))), (0, .ref (AB 0)), (1, .int (stR (sc, ar) C)), (2, .int (nI n))]) hx hb dX4_twins_137 hl (k := 2) rfl (by rw [ey63]; rfl) (by decide) rfl (fun ls hl => ?_)
                                            obtain rfl : y63 = nI (((0 + 1) + 1) + 1) := ey63.trans (nI_1 ((0 + 1) + 1))
                                            refine lv_goto (tgt := 52) hx hb dX4_twins_140 (by decide) ?_
                                            refine lv_iload hx hb dX4_twins_52 (lv_at hl 0 rfl) ?_
                                            refine lv_iconst (v := 3) hx hb dX4_twins_54 (by decide) ?_
                                            refine lv_icmp_ge (tgt := 143) hx hb dX4_twins_55 (by decide) (fun c55_64 => ?_) (fun c55_64 => ?_)
                                            · skip
                                              obtain ⟨y65, ey65⟩ : ∃ y : Int32, y = (nI n) + 1 := ⟨_, rfl⟩
                                              refine lv_iinc (v := y65) (lv' := [(2, .int y65), (4, .int (nI (((0 + 1) + 1) + 1))), (3, .int 0), (5, .int (nI (n % 9))), (0, .ref (AB 0)), (1, .int (stR (sc, ar) C))]) hx hb dX4_twins_143 hl (k := 5) rfl (by rw [ey65]; rfl) (by decide) rfl (fun ls hl => ?_)
                                              obtain rfl : y65 = nI (n + 1) := ey65.trans (nI_1 n)
                                              refine lv_goto (tgt := 40) hx hb dX4_twins_146 (by decide) ?_
                                              have hst : twF (usR th (sc, ar)) (fun a => tiI (se a)) y (stR (sc, ar) C) (n + 1) (fillN (ar 32) (fun _ => 0) 16) = mrR (tiI (se (n / 9 % 9))) (fun j => y (n / 9 % 9) (y (n / 81) j)) (mrR (tiI (se (n / 81))) (fun j => y (n / 81) j) (twF (usR th (sc, ar)) (fun a => tiI (se a)) y (stR (sc, ar) C) n (fillN (ar 32) (fun _ => 0) 16))) := by rw [twF_s, rwF_go h80 hu0, rwF_go h81 hu1, rwF_8 h82]
                                              exact ihn ls H locs ⟨at2, by rw [hst]; exact hP, by rw [hst]; exact hD, hS, (fun j hj => (hlo2 (16 * 0 + j) (by omega)).trans ((hlo1 (16 * 0 + j) (by omega)).trans (hat0 j hj))), lv_sub hl [4, 5, 0] rfl⟩ hn729
                                            · exact absurd (by decide) c55_64
                                          · exact absurd rfl c126_62
                                        · skip
                                          have h82 : n % 9 < 8 := by rcases Nat.lt_or_ge (n % 9) 8 with z9 | z9; exact z9; exact absurd (nI_le (a := 8) z9 (by omega)) c100_61
                                          refine lv_aload_n hx hb dX4_twins_103 rfl (lv_at hl 3 rfl) ?_
                                          refine lv_iload hx hb dX4_twins_104 (lv_at hl 0 rfl) ?_
                                          refine lv_aload_n hx hb dX4_twins_106 rfl (lv_at hl 3 rfl) ?_
                                          refine lv_iload_n hx hb dX4_twins_107 rfl (lv_at hl 4 rfl) ?_
                                          refine lv_iload hx hb dX4_twins_108 (lv_at hl 1 rfl) ?_
                                          refine vp_callSi (W.runV (As := [.int (stR (sc, ar) C), .int (nI ((0 + 1) + 1))]) (rest := [.int (nI (n % 9)), .ref (AB 0)]) ⟨hx, hb, hml, hown, hts⟩ (m_beliefAt l dC dI AB cI cZ (va_up sc 0 0, va_up (va_up ar 31 at2) 32 (mrR (tiI (se (n / 9 % 9))) (fun j => y (n / 9 % 9) (y (n / 81) j)) (mrR (tiI (se (n / 81))) (fun j => y (n / 81) j) (twF (usR th (sc, ar)) (fun a => tiI (se a)) y (stR (sc, ar) C) n (fillN (ar 32) (fun _ => 0) 16))))) (stR (sc, ar) C) (d := 2) (by decide)) (cwV 2 hts gX4_twins_X4_beliefAt rfl rfl rfl (by decide +kernel) ⟨Nat.le_of_ble_eq_true rfl, Nat.le_of_ble_eq_true rfl⟩) ⟨bm_P, va_recv hK hP (ci := 4) (q0 := 0) rfl rfl, fun U hU hW => ⟨rfl, by rw [hU]; exact hP, va_K.moved hW.alike hK⟩⟩ rfl rfl hl.1 rfl (lv_room (Nat.le_of_ble_eq_true rfl)) dX4_twins_110 ⟨Nat.zero_le _, Nat.zero_le _⟩) (fun r er => ?_)
                                          obtain rfl : r = imgN (fun j => y (n / 9 % 9) (y (n / 81) j)) (stR (sc, ar) C) := er.trans (afN_congr (stR (sc, ar) C) 16 (fun j hj => (hat2 j hj).1))
                                          refine vp_callSi (W.runV (As := [.int (nI (n % 9)), .int (imgN (fun j => y (n / 9 % 9) (y (n / 81) j)) (stR (sc, ar) C))]) (rest := []) ⟨hx, hb, hml, hown, hts⟩ (m_usable l dC dI AB cI cZ (va_up sc 0 0, va_up (va_up ar 31 at2) 32 (mrR (tiI (se (n / 9 % 9))) (fun j => y (n / 9 % 9) (y (n / 81) j)) (mrR (tiI (se (n / 81))) (fun j => y (n / 81) j) (twF (usR th (sc, ar)) (fun a => tiI (se a)) y (stR (sc, ar) C) n (fillN (ar 32) (fun _ => 0) 16))))) th h82 ((frz_sc (frz_up (frz_up frz.rf (by decide)) (by decide)) (by decide)).mok hM _ h82).1 (imgN (fun j => y (n / 9 % 9) (y (n / 81) j)) (stR (sc, ar) C))) (cwV 2 hts gX4_twins_X4_usable rfl rfl rfl (by decide +kernel) ⟨Nat.le_of_ble_eq_true rfl, Nat.le_of_ble_eq_true rfl⟩) ⟨bm_P, va_recv hK hP (ci := 4) (q0 := 0) rfl rfl, fun U hU hW => ⟨rfl, by rw [hU]; exact hP, va_K.moved hW.alike hK⟩⟩ rfl rfl hl.1 rfl (lv_room (Nat.le_of_ble_eq_true rfl)) dX4_twins_113 ⟨Nat.zero_le _, Nat.zero_le _⟩) (fun r er => ?_)
                                          obtain rfl : r = b2i (usR th (sc, ar) (n % 9) (imgN (fun j => y (n / 9 % 9) (y (n / 81) j)) (stR (sc, ar) C))) := er.trans (by rw [(frz_sc (frz_up (frz_up frz.rf (by decide)) (by decide)) (by decide)).us])
                                          refine lv_if_eq (tgt := 123) hx hb dX4_twins_116 (by decide) (fun c116_66 => ?_) (fun c116_66 => ?_)
                                          · skip
                                            have hu2 := b2i_0.mp c116_66
                                            refine lv_iconst (v := 0) hx hb dX4_twins_123 (by decide) ?_
                                            refine lv_istore_n (lv' := [(3, .int 0), (5, .int (nI (n % 9))), (4, .int (nI ((0 + 1) + 1))), (0, .ref (AB 0)), (1, .int (stR (sc, ar) C)), (2, .int (nI n))]) hx hb dX4_twins_124 rfl hl (by decide) rfl (fun ls hl => ?_)
                                            refine lv_iload_n hx hb dX4_twins_125 rfl (lv_at hl 0 rfl) ?_
                                            refine lv_if_eq (tgt := 137) hx hb dX4_twins_126 (by decide) (fun c126_67 => ?_) (fun c126_67 => ?_)
                                            · skip
                                              obtain ⟨y68, ey68⟩ : ∃ y : Int32, y = (nI ((0 + 1) + 1)) + 1 := ⟨_, rfl⟩
                                              refine lv_iinc (v := y68) (lv' := [(4, .int y68), (3, .int 0), (5, .int (nI (n % 9))), (0, .ref (AB 0)), (1, .int (stR (sc, ar) C)), (2, .int (nI n))]) hx hb dX4_twins_137 hl (k := 2) rfl (by rw [ey68]; rfl) (by decide) rfl (fun ls hl => ?_)
                                              obtain rfl : y68 = nI (((0 + 1) + 1) + 1) := ey68.trans (nI_1 ((0 + 1) + 1))
                                              refine lv_goto (tgt := 52) hx hb dX4_twins_140 (by decide) ?_
                                              refine lv_iload hx hb dX4_twins_52 (lv_at hl 0 rfl) ?_
                                              refine lv_iconst (v := 3) hx hb dX4_twins_54 (by decide) ?_
                                              refine lv_icmp_ge (tgt := 143) hx hb dX4_twins_55 (by decide) (fun c55_69 => ?_) (fun c55_69 => ?_)
                                              · skip
                                                obtain ⟨y70, ey70⟩ : ∃ y : Int32, y = (nI n) + 1 := ⟨_, rfl⟩
                                                refine lv_iinc (v := y70) (lv' := [(2, .int y70), (4, .int (nI (((0 + 1) + 1) + 1))), (3, .int 0), (5, .int (nI (n % 9))), (0, .ref (AB 0)), (1, .int (stR (sc, ar) C))]) hx hb dX4_twins_143 hl (k := 5) rfl (by rw [ey70]; rfl) (by decide) rfl (fun ls hl => ?_)
                                                obtain rfl : y70 = nI (n + 1) := ey70.trans (nI_1 n)
                                                refine lv_goto (tgt := 40) hx hb dX4_twins_146 (by decide) ?_
                                                have hst : twF (usR th (sc, ar)) (fun a => tiI (se a)) y (stR (sc, ar) C) (n + 1) (fillN (ar 32) (fun _ => 0) 16) = mrR (tiI (se (n / 9 % 9))) (fun j => y (n / 9 % 9) (y (n / 81) j)) (mrR (tiI (se (n / 81))) (fun j => y (n / 81) j) (twF (usR th (sc, ar)) (fun a => tiI (se a)) y (stR (sc, ar) C) n (fillN (ar 32) (fun _ => 0) 16))) := by rw [twF_s, rwF_go h80 hu0, rwF_go h81 hu1, rwF_u hu2]
                                                exact ihn ls H locs ⟨at2, by rw [hst]; exact hP, by rw [hst]; exact hD, hS, (fun j hj => (hlo2 (16 * 0 + j) (by omega)).trans ((hlo1 (16 * 0 + j) (by omega)).trans (hat0 j hj))), lv_sub hl [4, 5, 0] rfl⟩ hn729
                                              · exact absurd (by decide) c55_69
                                            · exact absurd rfl c126_67
                                          · skip
                                            have hu2 := b2i_n0.mp c116_66
                                            refine lv_iconst (v := 1) hx hb dX4_twins_119 (by decide) ?_
                                            refine lv_goto (tgt := 124) hx hb dX4_twins_120 (by decide) ?_
                                            refine lv_istore_n (lv' := [(3, .int 1), (5, .int (nI (n % 9))), (4, .int (nI ((0 + 1) + 1))), (0, .ref (AB 0)), (1, .int (stR (sc, ar) C)), (2, .int (nI n))]) hx hb dX4_twins_124 rfl hl (by decide) rfl (fun ls hl => ?_)
                                            refine lv_iload_n hx hb dX4_twins_125 rfl (lv_at hl 0 rfl) ?_
                                            refine lv_if_eq (tgt := 137) hx hb dX4_twins_126 (by decide) (fun c126_71 => ?_) (fun c126_71 => ?_)
                                            · exact absurd c126_71 (by decide)
                                            · skip
                                              refine lv_aload_n hx hb dX4_twins_129 rfl (lv_at hl 3 rfl) ?_
                                              refine lv_iload hx hb dX4_twins_130 (lv_at hl 1 rfl) ?_
                                              refine lv_iload hx hb dX4_twins_132 (lv_at hl 2 rfl) ?_
                                              have hFc := m_free (τ := (va_up sc 0 0, va_up (va_up ar 31 at2) 32 (mrR (tiI (se (n / 9 % 9))) (fun j => y (n / 9 % 9) (y (n / 81) j)) (mrR (tiI (se (n / 81))) (fun j => y (n / 81) j) (twF (usR th (sc, ar)) (fun a => tiI (se a)) y (stR (sc, ar) C) n (fillN (ar 32) (fun _ => 0) 16)))))) hD hS hA
                                              refine va_callv (va_runV (As := [.int (nI (n % 9)), .int (nI ((0 + 1) + 1))]) (rest := []) ⟨hx, hb, hml, hown, hts⟩ (m_make l dC dI AB cI cZ (va_up sc 0 0, va_up (va_up ar 31 at2) 32 (mrR (tiI (se (n / 9 % 9))) (fun j => y (n / 9 % 9) (y (n / 81) j)) (mrR (tiI (se (n / 81))) (fun j => y (n / 81) j) (twF (usR th (sc, ar)) (fun a => tiI (se a)) y (stR (sc, ar) C) n (fillN (ar 32) (fun _ => 0) 16))))) H.size ((frz_sc (frz_up (frz_up frz.rf (by decide)) (by decide)) (by decide)).mok hM) (se := se) hse (y := y) (fun a ha u hu => by rw [(frz_sc (frz_up (frz_up frz.rf (by decide)) (by decide)) (by decide)).nx]; exact hy a ha u hu) h82 (d := 2) (by decide) (x := (fun j => y (n / 9 % 9) (y (n / 81) j))) hat2) (cwV 2 hts gX4_twins_X4_make rfl rfl rfl (by decide +kernel) ⟨Nat.le_of_ble_eq_true rfl, Nat.le_of_ble_eq_true rfl⟩) ⟨bm_F, va_recv hK hP (ci := 4) (q0 := 0) rfl rfl, fun U hU hW => ⟨rfl, by rw [hU], by rw [hU]; exact hP, va_K.moved hW.alike hK, hf_any hD⟩⟩ rfl rfl hl.1 rfl (lv_room (Nat.le_of_ble_eq_true rfl)) dX4_twins_134 ⟨Nat.zero_le _, Nat.zero_le _⟩) hS (fun q _ h => hFc q h) hFc (fun u t H locs ht hvm hw hB hz1 hk1 hS => ?_)
                                              obtain ⟨hP1, hD1⟩ := hB
                                              rw [ht] at hP1
                                              subst hw
                                              have hP : va_P (dC, dI) vwCl (mL AB cI cZ (va_up sc 0 0) (va_up (va_up ar 31 (stpN at2 2 (fun j => nI (y (n % 9) ((fun j => y (n / 9 % 9) (y (n / 81) j)) j))) 16)) 32 (mrR (tiI (se (n % 9))) (fun j => y (n % 9) (y (n / 9 % 9) (y (n / 81) j))) (mrR (tiI (se (n / 9 % 9))) (fun j => y (n / 9 % 9) (y (n / 81) j)) (mrR (tiI (se (n / 81))) (fun j => y (n / 81) j) (twF (usR th (sc, ar)) (fun a => tiI (se a)) y (stR (sc, ar) C) n (fillN (ar 32) (fun _ => 0) 16))))))) H := hP1
                                              have hD : va_D V (mL AB cI cZ (va_up sc 0 0) (va_up (va_up ar 31 (stpN at2 2 (fun j => nI (y (n % 9) ((fun j => y (n / 9 % 9) (y (n / 81) j)) j))) 16)) 32 (mrR (tiI (se (n % 9))) (fun j => y (n % 9) (y (n / 9 % 9) (y (n / 81) j))) (mrR (tiI (se (n / 9 % 9))) (fun j => y (n / 9 % 9) (y (n / 81) j)) (mrR (tiI (se (n / 81))) (fun j => y (n / 81) j) (twF (usR th (sc, ar)) (fun a => tiI (se a)) y (stR (sc, ar) C) n (fillN (ar 32) (fun _ => 0) 16))))))) := hf_weak hD1 hFc
                                              clear hP1 hD1 hFc
                                              obtain ⟨at3, e_at3⟩ : ∃ f, f = stpN at2 2 (fun j => nI (y (n % 9) ((fun j => y (n / 9 % 9) (y (n / 81) j)) j))) 16 := ⟨_, rfl⟩
                                              have hP : va_P (dC, dI) vwCl (mL AB cI cZ (va_up sc 0 0) (va_up (va_up ar 31 at3) 32 (mrR (tiI (se (n % 9))) (fun j => y (n % 9) (y (n / 9 % 9) (y (n / 81) j))) (mrR (tiI (se (n / 9 % 9))) (fun j => y (n / 9 % 9) (y (n / 81) j)) (mrR (tiI (se (n / 81))) (fun j => y (n / 81) j) (twF (usR th (sc, ar)) (fun a => tiI (se a)) y (stR (sc, ar) C) n (fillN (ar 32) (fun _ => 0) 16))))))) H := by rw [e_at3]; exact hP
                                              have hD : va_D V (mL AB cI cZ (va_up sc 0 0) (va_up (va_up ar 31 at3) 32 (mrR (tiI (se (n % 9))) (fun j => y (n % 9) (y (n / 9 % 9) (y (n / 81) j))) (mrR (tiI (se (n / 9 % 9))) (fun j => y (n / 9 % 9) (y (n / 81) j)) (mrR (tiI (se (n / 81))) (fun j => y (n / 81) j) (twF (usR th (sc, ar)) (fun a => tiI (se a)) y (stR (sc, ar) C) n (fillN (ar 32) (fun _ => 0) 16))))))) := by rw [e_at3]; exact hD
                                              have hlo3 : ∀ q, q < 16 * 2 + 16 → at3 q = at2 q := fun q hq => by rw [e_at3]; exact stpN_lo _ _ _ hq
                                              have hat3 : ∀ j, j < 16 → at3 (16 * 3 + j) = nI ((fun j => y (n % 9) (y (n / 9 % 9) (y (n / 81) j))) j) ∧ (fun j => y (n % 9) (y (n / 9 % 9) (y (n / 81) j))) j < 16 := fun j hj => ⟨by rw [e_at3]; exact stp_at at2 2 _ hj, (hy _ h82 _ (hat2 j hj).2).2⟩
                                              clear e_at3
                                              obtain ⟨y72, ey72⟩ : ∃ y : Int32, y = (nI ((0 + 1) + 1)) + 1 := ⟨_, rfl⟩
                                              refine lv_iinc (v := y72) (lv' := [(4, .int y72), (3, .int 1), (5, .int (nI (n % 9))), (0, .ref (AB 0)), (1, .int (stR (sc, ar) C)), (2, .int (nI n))]) hx hb dX4_twins_137 hl (k := 2) rfl (by rw [ey72]; rfl) (by decide) rfl (fun ls hl => ?_)
                                              obtain rfl : y72 = nI (((0 + 1) + 1) + 1) := ey72.trans (nI_1 ((0 + 1) + 1))
                                              refine lv_goto (tgt := 52) hx hb dX4_twins_140 (by decide) ?_
                                              refine lv_iload hx hb dX4_twins_52 (lv_at hl 0 rfl) ?_
                                              refine lv_iconst (v := 3) hx hb dX4_twins_54 (by decide) ?_
                                              refine lv_icmp_ge (tgt := 143) hx hb dX4_twins_55 (by decide) (fun c55_73 => ?_) (fun c55_73 => ?_)
                                              · skip
                                                obtain ⟨y74, ey74⟩ : ∃ y : Int32, y = (nI n) + 1 := ⟨_, rfl⟩
                                                refine lv_iinc (v := y74) (lv' := [(2, .int y74), (4, .int (nI (((0 + 1) + 1) + 1))), (3, .int 1), (5, .int (nI (n % 9))), (0, .ref (AB 0)), (1, .int (stR (sc, ar) C))]) hx hb dX4_twins_143 hl (k := 5) rfl (by rw [ey74]; rfl) (by decide) rfl (fun ls hl => ?_)
                                                obtain rfl : y74 = nI (n + 1) := ey74.trans (nI_1 n)
                                                refine lv_goto (tgt := 40) hx hb dX4_twins_146 (by decide) ?_
                                                have hst : twF (usR th (sc, ar)) (fun a => tiI (se a)) y (stR (sc, ar) C) (n + 1) (fillN (ar 32) (fun _ => 0) 16) = mrR (tiI (se (n % 9))) (fun j => y (n % 9) (y (n / 9 % 9) (y (n / 81) j))) (mrR (tiI (se (n / 9 % 9))) (fun j => y (n / 9 % 9) (y (n / 81) j)) (mrR (tiI (se (n / 81))) (fun j => y (n / 81) j) (twF (usR th (sc, ar)) (fun a => tiI (se a)) y (stR (sc, ar) C) n (fillN (ar 32) (fun _ => 0) 16)))) := by rw [twF_s, rwF_go h80 hu0, rwF_go h81 hu1, rwF_go h82 hu2, rwF_nil]
                                                exact ihn ls H locs ⟨at3, by rw [hst]; exact hP, by rw [hst]; exact hD, hS, (fun j hj => (hlo3 (16 * 0 + j) (by omega)).trans ((hlo2 (16 * 0 + j) (by omega)).trans ((hlo1 (16 * 0 + j) (by omega)).trans (hat0 j hj)))), lv_sub hl [4, 5, 0] rfl⟩ hn729
                                              · exact absurd (by decide) c55_73
                                      · exact absurd c77_59 (by decide)
                                    · exact absurd c64_58 (by decide)
                      · exact absurd c64_38 (by decide)
  · skip
    have hlt := ctr_lt (N := 16) rfl (by decide) hk c15_0
    refine lv_aload_n hx hb dX4_twins_18 rfl (lv_at hl 0 rfl) ?_
    refine va_get (D := (dC, dI)) (ci := 4) (v := .ref (AB 32)) (C := RX4) (T := TX4) (N := 33) hx hb hts hinX4 hown hK hP 0 rfl rfl 32 (by decide) (hts _ (List.mem_of_getElem? (i := 2) rfl)) (fun _ h9 => h9) rfl dX4_twins_19 ?_
    refine lv_iload_n hx hb dX4_twins_22 rfl (lv_at hl 2 rfl) ?_
    refine lv_iconst (v := 0) hx hb dX4_twins_23 (by decide) ?_
    refine va_iast hx hb hK hP hD hS 26 0 rfl rfl (vp_in_nI (show k < 16 by omega) (by decide)) dX4_twins_24 (fun H locs hP hD hS => ?_)
    rw [nI_clamp (show k < 2 ^ 31 by have := (show k < 16 by omega); omega)] at hP hD
    have hP : va_P (dC, dI) vwCl (mL AB cI cZ (va_up sc 0 0) (va_up (va_up ar 31 (fillN (ar 31) (fun j => nI j) k)) 32 (upd (fillN (ar 32) (fun _ => 0) k) k 0))) H := hP
    have hD : va_D V (mL AB cI cZ (va_up sc 0 0) (va_up (va_up ar 31 (fillN (ar 31) (fun j => nI j) k)) 32 (upd (fillN (ar 32) (fun _ => 0) k) k 0))) := hD
    rw [show upd (fillN (ar 32) (fun _ => 0) k) k 0 = fillN (ar 32) (fun _ => 0) (k + 1) from fillN_s (ar 32) (fun _ => 0) k rfl] at hP hD
    refine lv_aload_n hx hb dX4_twins_25 rfl (lv_at hl 0 rfl) ?_
    refine va_get (D := (dC, dI)) (ci := 4) (v := .ref (AB 31)) (C := RX4) (T := TX4) (N := 33) hx hb hts hinX4 hown hK hP 0 rfl rfl 31 (by decide) (hts _ (List.mem_of_getElem? (i := 3) rfl)) (fun _ h9 => h9) rfl dX4_twins_26 ?_
    refine lv_iload_n hx hb dX4_twins_29 rfl (lv_at hl 2 rfl) ?_
    refine lv_iload_n hx hb dX4_twins_30 rfl (lv_at hl 2 rfl) ?_
    refine va_iast hx hb hK hP hD hS 25 0 rfl rfl (vp_in_nI (show k < 64 by omega) (by decide)) dX4_twins_31 (fun H locs hP hD hS => ?_)
    rw [nI_clamp (show k < 2 ^ 31 by have := (show k < 64 by omega); omega)] at hP hD
    have hP : va_P (dC, dI) vwCl (mL AB cI cZ (va_up sc 0 0) (va_up (va_up ar 31 (upd (fillN (ar 31) (fun j => nI j) k) k (nI k))) 32 (fillN (ar 32) (fun _ => 0) (k + 1)))) H := hP
    have hD : va_D V (mL AB cI cZ (va_up sc 0 0) (va_up (va_up ar 31 (upd (fillN (ar 31) (fun j => nI j) k) k (nI k))) 32 (fillN (ar 32) (fun _ => 0) (k + 1)))) := hD
    rw [show upd (fillN (ar 31) (fun j => nI j) k) k (nI k) = fillN (ar 31) (fun j => nI j) (k + 1) from fillN_s (ar 31) (fun j => nI j) k rfl] at hP hD
    obtain ⟨y75, ey75⟩ : ∃ y : Int32, y = (nI k) + 1 := ⟨_, rfl⟩
    refine lv_iinc (v := y75) (lv' := [(2, .int y75), (0, .ref (AB 0)), (1, .int (stR (sc, ar) C))]) hx hb dX4_twins_32 hl (k := 2) rfl (by rw [ey75]; rfl) (by decide) rfl (fun ls hl => ?_)
    obtain rfl : y75 = nI (k + 1) := ey75.trans (nI_1 k)
    refine lv_goto (tgt := 12) hx hb dX4_twins_35 (by decide) ?_
    exact ih ls H locs ⟨hP, hD, hS, lv_sub hl [1, 2, 0] rfl⟩ hlt
