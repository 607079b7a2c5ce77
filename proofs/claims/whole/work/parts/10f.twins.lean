/-! ===== twins: rows of three actions, and the class's way through them ===== -/
theorem bt_or_one {f : Nat → Int32} {gg : Nat → Nat} (hf : ∀ j, j < 16 → f j = nI (gg j) ∧ gg j < 16) (b : Int32) : ∀ n, n ≤ 16 → ∀ i, i < 32 → bt (afN f b n) i = (List.range n).any (fun j => bt b j && decide (gg j = i)) := by
  intro n
  induction n with
  | zero => intro _ i _; exact b_0 i
  | succ n ih =>
    intro hn i hi
    rw [List.range_succ, List.any_append, ← ih (by omega) i hi, afN.eq_2]
    obtain ⟨e1, e2⟩ := hf n (by omega)
    cases hb : bt b n with
    | false => rw [if_neg (by decide)]; simp [hb]
    | true =>
      rw [if_pos rfl, b_or, e1, b_one (by omega) hi]
      simp only [List.any_cons, List.any_nil, Bool.or_false, hb, Bool.true_and]
      congr 1
      rw [decide_eq_decide]
      exact ⟨fun q => q.symm, fun q => q.symm⟩
theorem bt_img {x : Nat → Nat} (hx : ∀ j, j < 16 → x j < 16) (b : Int32) {i : Nat} (hi : i < 32) : bt (imgN x b) i = (List.range 16).any (fun j => bt b j && decide (x j = i)) := bt_or_one (fun j hj => ⟨rfl, hx j hj⟩) b 16 (Nat.le_refl _) i hi
theorem any_f {P : Nat → Bool} {n : Nat} (h : ∀ j, j < n → P j = false) : (List.range n).any P = false := by
  rw [List.any_eq_false]
  intro j hj
  rw [h j (List.mem_range.mp hj)]
  decide
theorem any_t {P : Nat → Bool} {n : Nat} : (List.range n).any P = true ↔ ∃ j, j < n ∧ P j = true := by
  rw [List.any_eq_true]
  exact ⟨fun ⟨j, h1, h2⟩ => ⟨j, List.mem_range.mp h1, h2⟩, fun ⟨j, h1, h2⟩ => ⟨j, List.mem_range.mpr h1, h2⟩⟩
theorem bool_iff {p q : Bool} (h : p = true ↔ q = true) : p = q := by
  cases p <;> cases q
  · rfl
  · exact absurd (h.mpr rfl) (by decide)
  · exact absurd (h.mp rfl) (by decide)
  · rfl
theorem img_16 {x : Nat → Nat} (hx : ∀ j, j < 16 → x j < 16) (b : Int32) : is16 (imgN x b) := by
  intro i hi
  rcases Nat.lt_or_ge i 32 with z | z
  · rw [bt_img hx b z]
    exact any_f fun j hj => by rw [decide_eq_false (by have := hx j hj; omega), Bool.and_false]
  · exact b_big z
theorem img_img {f : Nat → Int32} {y x : Nat → Nat} (hf : ∀ j, j < 16 → f j = nI (y j) ∧ y j < 16) (hx : ∀ j, j < 16 → x j < 16) (b : Int32) : afN f (imgN x b) 16 = imgN (fun j => y (x j)) b := by
  apply b_ext
  intro i hi
  rw [bt_or_one hf (imgN x b) 16 (Nat.le_refl _) i hi, bt_img (fun j hj => (hf (x j) (hx j hj)).2) b hi]
  apply bool_iff
  rw [any_t, any_t]
  constructor
  · rintro ⟨j, hj, h⟩
    rw [Bool.and_eq_true, decide_eq_true_iff, bt_img hx b (by omega), any_t] at h
    obtain ⟨⟨k, hk, h1⟩, h2⟩ := h
    rw [Bool.and_eq_true, decide_eq_true_iff] at h1
    exact ⟨k, hk, by rw [Bool.and_eq_true, decide_eq_true_iff]; exact ⟨h1.1, by rw [h1.2]; exact h2⟩⟩
  · rintro ⟨k, hk, h⟩
    rw [Bool.and_eq_true, decide_eq_true_iff] at h
    refine ⟨x k, hx k hk, ?_⟩
    rw [Bool.and_eq_true, decide_eq_true_iff, bt_img hx b (by have := hx k hk; omega), any_t]
    exact ⟨⟨k, hk, by rw [Bool.and_eq_true, decide_eq_true_iff]; exact ⟨h.1, rfl⟩⟩, h.2⟩
theorem img_id {b : Int32} (hb : is16 b) : imgN (fun j => j) b = b := by
  refine ext16 (img_16 (fun j hj => hj) b) hb fun i hi => ?_
  rw [bt_img (fun j hj => hj) b (by omega)]
  apply bool_iff
  rw [any_t]
  constructor
  · rintro ⟨j, hj, h⟩
    rw [Bool.and_eq_true, decide_eq_true_iff] at h
    rw [← h.2]
    exact h.1
  · intro h
    exact ⟨i, hi, by rw [h, decide_eq_true rfl]; rfl⟩
theorem img_cg {x x' : Nat → Nat} (h : ∀ j, j < 16 → x j = x' j) (b : Int32) : imgN x b = imgN x' b := afN_congr b 16 fun j hj => by rw [h j hj]
/-- what is told apart by rows of f more actions -/
def lkv (us : Nat → Int32 → Bool) (sn : Nat → Int32) (y : Nat → Nat → Nat) (b : Int32) : Nat → (Nat → Nat) → Nat → Nat → Bool
  | 0, _, _, _ => false
  | f + 1, x, s, r => (List.range 8).any (fun a => us a (imgN x b) && ((bt (sn a) (y a (x s)) ^^ bt (sn a) (y a (x r))) || lkv us sn y b f (fun j => y a (x j)) s r))
def vmk (us : Nat → Int32 → Bool) (sn : Nat → Int32) (y : Nat → Nat → Nat) (b : Int32) : List Nat → (Nat → Nat) → Nat → Nat → Bool
  | [], _, _, _ => false
  | a :: as, x, s, r => (decide (a < 8) && us a (imgN x b)) && ((bt (sn a) (y a (x s)) ^^ bt (sn a) (y a (x r))) || vmk us sn y b as (fun j => y a (x j)) s r)
section VMK
variable {us us' : Nat → Int32 → Bool} {sn sn' : Nat → Int32} {y y' : Nat → Nat → Nat} {b : Int32}
theorem bt_mrR (S : Int32) (x : Nat → Nat) (ap : Nat → Int32) {s r : Nat} (hs : s < 16) (hr : r < 16) : bt (mrR S x ap s) r = (bt (ap s) r || (bt S (x s) ^^ bt S (x r))) := by
  unfold mrR
  rw [fillN_lt _ _ hs, b_or, bt_mk' _ hr]
  rfl
theorem bt_mrk (S : Int32) (x : Nat → Nat) (ap : Nat → Int32) {s r : Nat} (hs : s < 16) (hr : r < 16) : bt (mrk S x ap s) r = (bt (ap s) r || (bt S (x s) ^^ bt S (x r))) := by
  unfold mrk
  rw [fillN_lt _ _ hs, b_or, bt_mk' _ hs]
  congr 1
  cases h : bt S (x s) with
  | true => rw [if_pos rfl, b_not _ (by omega), bt_mk' _ hr]; cases bt S (x r) <;> rfl
  | false => rw [if_neg (by decide), bt_mk' _ hr]; cases bt S (x r) <;> rfl
theorem bt_rwF : ∀ (as : List Nat) (x : Nat → Nat) (ap : Nat → Int32) {s r : Nat}, s < 16 → r < 16 → bt (rwF us sn y b as x ap s) r = (bt (ap s) r || vmk us sn y b as x s r) := by
  intro as
  induction as with
  | nil => intro x ap s r hs hr; rw [rwF_nil]; unfold vmk; rw [Bool.or_false]
  | cons a as ih =>
    intro x ap s r hs hr
    unfold vmk
    by_cases h8 : a < 8
    · cases hu : us a (imgN x b) with
      | false => rw [rwF_u hu]; simp
      | true => rw [rwF_go h8 hu, ih _ _ hs hr, bt_mrR _ _ _ hs hr, decide_eq_true h8]; simp [Bool.or_assoc]
    · rw [rwF_8 h8, decide_eq_false h8]; simp
theorem bt_twF (ap : Nat → Int32) {s r : Nat} (hs : s < 16) (hr : r < 16) : ∀ n, bt (twF us sn y b n ap s) r = (bt (ap s) r || (List.range n).any (fun row => vmk us sn y b [row / 81, row / 9 % 9, row % 9] (fun j => j) s r)) := by
  intro n
  induction n with
  | zero => show bt (ap s) r = (bt (ap s) r || false); rw [Bool.or_false]
  | succ n ih => rw [twF_s, bt_rwF _ _ _ hs hr, ih, List.range_succ, List.any_append, Bool.or_assoc]; simp
theorem bt_lkA {af : Nat → Int32 → Int32} (haf : ∀ a, a < 8 → ∀ x : Nat → Nat, (∀ j, j < 16 → x j < 16) → us a (imgN x b) = true → af a (imgN x b) = imgN (fun j => y a (x j)) b) (hy : ∀ a, a < 8 → ∀ j, j < 16 → y a j < 16) : ∀ (f : Nat) (x : Nat → Nat), (∀ j, j < 16 → x j < 16) → ∀ (ap : Nat → Int32) {s r : Nat}, s < 16 → r < 16 → bt (lkA us af sn y f (imgN x b) x ap s) r = (bt (ap s) r || lkv us sn y b f x s r) := by
  intro f
  induction f with
  | zero => intro x hx ap s r hs hr; show bt (ap s) r = (bt (ap s) r || false); rw [Bool.or_false]
  | succ f ih =>
    intro x hx ap s r hs hr
    have key : ∀ n, n ≤ 8 → bt ((List.range n).foldl (fun ap a => if us a (imgN x b) = true then lkA us af sn y f (af a (imgN x b)) (fun j => y a (x j)) (mrk (sn a) (fun j => y a (x j)) ap) else ap) ap s) r = (bt (ap s) r || (List.range n).any (fun a => us a (imgN x b) && ((bt (sn a) (y a (x s)) ^^ bt (sn a) (y a (x r))) || lkv us sn y b f (fun j => y a (x j)) s r))) := by
      intro n
      induction n with
      | zero => intro _; show bt (ap s) r = (bt (ap s) r || false); rw [Bool.or_false]
      | succ n ihn =>
        intro hn
        rw [fold_s, List.range_succ, List.any_append, ← Bool.or_assoc, ← ihn (by omega)]
        cases hu : us n (imgN x b) with
        | false => rw [if_neg (by decide)]; simp [hu]
        | true => rw [if_pos rfl, haf n (by omega) x hx hu, ih (fun j => y n (x j)) (fun j hj => hy n (by omega) _ (hx j hj)) _ hs hr, bt_mrk _ _ _ hs hr]; simp [hu, Bool.or_assoc]
    exact key 8 (Nat.le_refl _)
theorem lkx_cg : ∀ (f : Nat) (x x' : Nat → Nat), (∀ j, j < 16 → x j = x' j) → ∀ {s r : Nat}, s < 16 → r < 16 → lkv us sn y b f x s r = lkv us sn y b f x' s r := by
  intro f
  induction f with
  | zero => intro x x' _ s r _ _; rfl
  | succ f ih =>
    intro x x' h s r hs hr
    unfold lkv
    rw [img_cg h b, h s hs, h r hr]
    congr 1
    funext a
    rw [ih (fun j => y a (x j)) (fun j => y a (x' j)) (fun j hj => by rw [h j hj]) hs hr]
theorem lkv_cg (hu : ∀ a, a < 8 → ∀ c, is16 c → us a c = us' a c) (hsy : ∀ a, a < 8 → ∀ c, us a c = true → sn a = sn' a ∧ ∀ j, j < 16 → y a j = y' a j) (hy : ∀ a, a < 8 → ∀ j, j < 16 → y a j < 16) : ∀ (f : Nat) (x : Nat → Nat), (∀ j, j < 16 → x j < 16) → ∀ {s r : Nat}, s < 16 → r < 16 → lkv us sn y b f x s r = lkv us' sn' y' b f x s r := by
  intro f
  induction f with
  | zero => intro x _ s r _ _; rfl
  | succ f ih =>
    intro x hx s r hs hr
    unfold lkv
    apply bool_iff
    rw [any_t, any_t]
    have key : ∀ a, a < 8 → (us a (imgN x b) && ((bt (sn a) (y a (x s)) ^^ bt (sn a) (y a (x r))) || lkv us sn y b f (fun j => y a (x j)) s r)) = (us' a (imgN x b) && ((bt (sn' a) (y' a (x s)) ^^ bt (sn' a) (y' a (x r))) || lkv us' sn' y' b f (fun j => y' a (x j)) s r)) := by
      intro a ha
      rw [← hu a ha _ (img_16 hx b)]
      cases hua : us a (imgN x b) with
      | false => rfl
      | true =>
        obtain ⟨e1, e2⟩ := hsy a ha _ hua
        rw [ih (fun j => y a (x j)) (fun j hj => hy a ha _ (hx j hj)) hs hr, e1, e2 _ (hx s hs), e2 _ (hx r hr)]
        congr 2
        exact lkx_cg f _ _ (fun j hj => e2 _ (hx j hj)) hs hr
    exact ⟨fun ⟨a, h1, h2⟩ => ⟨a, h1, by rw [← key a h1]; exact h2⟩, fun ⟨a, h1, h2⟩ => ⟨a, h1, by rw [key a h1]; exact h2⟩⟩
/-- by lists of digits -/
theorem lkv_rows : ∀ (f : Nat) (x : Nat → Nat) (s r : Nat), lkv us sn y b f x s r = true ↔ ∃ as : List Nat, as.length = f ∧ (∀ a ∈ as, a < 9) ∧ vmk us sn y b as x s r = true := by
  intro f
  induction f with
  | zero =>
    intro x s r
    constructor
    · intro h; cases h
    · rintro ⟨as, h1, h2, h3⟩
      rw [List.eq_nil_of_length_eq_zero h1] at h3
      cases h3
  | succ f ih =>
    intro x s r
    unfold lkv
    rw [any_t]
    constructor
    · rintro ⟨a, ha, h⟩
      rw [Bool.and_eq_true, Bool.or_eq_true] at h
      rcases h.2 with z | z
      · refine ⟨a :: List.replicate f 0, by rw [List.length_cons, List.length_replicate], fun q hq => ?_, ?_⟩
        · rcases List.mem_cons.mp hq with rfl | hq
          · omega
          · rw [(List.mem_replicate.mp hq).2]; decide
        · unfold vmk; rw [decide_eq_true ha, h.1, z]; rfl
      · obtain ⟨as, h1, h2, h3⟩ := (ih (fun j => y a (x j)) s r).mp z
        refine ⟨a :: as, by rw [List.length_cons, h1], fun q hq => ?_, ?_⟩
        · rcases List.mem_cons.mp hq with rfl | hq
          · omega
          · exact h2 q hq
        · unfold vmk; rw [decide_eq_true ha, h.1, h3, Bool.or_true]; rfl
    · rintro ⟨as, h1, h2, h3⟩
      cases as with
      | nil => cases h1
      | cons a as =>
        unfold vmk at h3
        rw [Bool.and_eq_true, Bool.and_eq_true, decide_eq_true_iff, Bool.or_eq_true] at h3
        refine ⟨a, h3.1.1, ?_⟩
        rw [Bool.and_eq_true, Bool.or_eq_true]
        refine ⟨h3.1.2, h3.2.elim Or.inl (fun z => Or.inr ((ih (fun j => y a (x j)) s r).mpr ⟨as, by rw [List.length_cons] at h1; omega, fun q hq => h2 q (List.mem_cons_of_mem _ hq), z⟩))⟩
theorem rows_lkv (x : Nat → Nat) (s r : Nat) : (List.range 729).any (fun row => vmk us sn y b [row / 81, row / 9 % 9, row % 9] x s r) = lkv us sn y b 3 x s r := by
  apply bool_iff
  rw [any_t, lkv_rows]
  constructor
  · rintro ⟨n, hn, h⟩
    refine ⟨_, rfl, fun a ha => ?_, h⟩
    simp only [List.mem_cons, List.not_mem_nil, or_false] at ha
    omega
  · rintro ⟨as, h1, h2, h3⟩
    match as, h1, h2, h3 with
    | [a, c, d], _, h2, h3 =>
      have ha := h2 a (by simp)
      have hc := h2 c (by simp)
      have hd := h2 d (by simp)
      refine ⟨81 * a + 9 * c + d, by omega, ?_⟩
      rw [show (81 * a + 9 * c + d) / 81 = a by omega, show (81 * a + 9 * c + d) / 9 % 9 = c by omega, show (81 * a + 9 * c + d) % 9 = d by omega]
      exact h3
end VMK
theorem twP_cg {be : Int32} {ap ap' : Nat → Int32} (h : ∀ s r, s < 16 → r < 16 → bt (ap s) r = bt (ap' s) r) : (List.range 256).find? (twP be ap) = (List.range 256).find? (twP be ap') := find_cg fun q hq => by unfold twP; rw [h (q / 16) (q % 16) (by omega) (by omega)]
