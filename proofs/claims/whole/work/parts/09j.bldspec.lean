/-! ===== the reference's plan in a heap of places: 1 the top, 2 k and 2 k + 1 the parts of k ===== -/
def eqA (bel dos sm : Nat → Int32) (i j : Nat) : Bool := if bel i = 0 ∨ bel j = 0 then decide (bel i = bel j) else if dos i = dos j then (decide (dos i < 0) || (decide ((if bel (2 * i) = 0 then 0 else sm (2 * i)) = (if bel (2 * j) = 0 then 0 else sm (2 * j))) && decide ((if bel (2 * i + 1) = 0 then 0 else sm (2 * i + 1)) = (if bel (2 * j + 1) = 0 then 0 else sm (2 * j + 1))))) else false
theorem eqR_A (ar : Nat → Nat → Int32) (i j : Nat) : eqR ar i j = eqA (ar 22) (ar 23) (ar 24) i j := rfl
def smS (bel dos : Nat → Int32) (k j : Nat) (g : Nat → Int32) : Nat → Int32 := if 0 < bel k ∧ 0 < bel j ∧ g j = nI j ∧ eqA bel dos g k j = true then upd g k (nI j) else g
def smI (bel dos : Nat → Int32) (k : Nat) : Nat → (Nat → Int32) → Nat → Int32
  | 0, g => g
  | c + 1, g => smS bel dos k (31 - c) (smI bel dos k c g)
def smO (bel dos : Nat → Int32) : Nat → (Nat → Int32) → Nat → Int32
  | 0, g => g
  | c + 1, g => smI bel dos (31 - c) c (upd (smO bel dos c g) (31 - c) (nI (31 - c)))
theorem nI_subN {a b : Nat} (h : b ≤ a) : nI a - nI b = nI (a - b) := by
  have h9 : nI a = nI (a - b) + nI b := by rw [nI_add]; congr 1; omega
  rw [h9, Int32.add_sub_cancel]
theorem nI_dn {c : Nat} (h : c < 31) : nI (31 - c) + (-1) = nI (31 - (c + 1)) := by
  obtain ⟨d, hd⟩ : ∃ d, 31 - c = d + 1 := ⟨30 - c, by omega⟩
  rw [hd, show 31 - (c + 1) = d by omega]
  exact dpt_a (d + 1)
def bldI (us : Nat → Int32 → Bool) (pt : Nat → Int32 → Int32 → Int32) (re : Int32 → Bool) (n : Nat) (b : Int32) (bel dos num : Nat → Int32) (kk : Nat) : Prop :=
  bel 1 = b ∧ (∀ k, 1 ≤ k → k < kk → Nat.log2 k ≤ n → dos k = o2i (dcO us pt re (n - Nat.log2 k) (bel k)) ∧ bel (2 * k) = chO pt (bel k) 0 (dcO us pt re (n - Nat.log2 k) (bel k)) ∧ bel (2 * k + 1) = chO pt (bel k) 1 (dcO us pt re (n - Nat.log2 k) (bel k))) ∧
  (∀ k, 1 ≤ k → k < kk → n < Nat.log2 k → bel k = 0) ∧ (∀ k, 1 ≤ k → k < kk → num k = -1)
theorem log_half : ∀ k, k < 64 → 2 ≤ k → 1 ≤ k / 2 ∧ k / 2 < k ∧ Nat.log2 k = Nat.log2 (k / 2) + 1 ∧ (k = 2 * (k / 2) ∨ k = 2 * (k / 2) + 1) := by decide +kernel
section BLD
variable {us : Nat → Int32 → Bool} {pt : Nat → Int32 → Int32 → Int32} {re : Int32 → Bool} {n : Nat} {b : Int32} {bel dos num : Nat → Int32} {kk : Nat}
theorem dcO_lt {x : Int32} {a : Nat} (h : dcO us pt re n x = some a) : a < 8 ∧ ¬ x = 0 ∧ re x = false ∧ lea us pt re n x = some a := by
  unfold dcO at h
  by_cases hc : x = 0 ∨ re x = true
  · rw [if_pos hc] at h; cases h
  · rw [if_neg hc] at h
    exact ⟨lea_lt h, fun q => hc (Or.inl q), by cases hr : re x; rfl; exact absurd (Or.inr hr) hc, h⟩
theorem chO_sol {x : Int32} {w : Int32} (hw : w = 0 ∨ w = 1) : chO pt x w (dcO us pt re n x) = 0 ∨ (slv us pt re (n - 1) (chO pt x w (dcO us pt re n x)) = true ∧ 1 ≤ n) := by
  cases h : dcO us pt re n x with
  | none => exact Or.inl rfl
  | some a =>
    right
    have h2 := (dcO_lt h).2.2.2
    cases n with
    | zero => cases h2
    | succ m =>
      have h3 := (lea_first h2).2.1
      rw [Bool.and_eq_true, Bool.and_eq_true] at h3
      refine ⟨?_, by omega⟩
      rcases hw with rfl | rfl
      · exact h3.2.1
      · exact h3.2.2
theorem bldI.sol (h : bldI us pt re n b bel dos num kk) (h1 : 1 ≤ kk) (h2 : kk < 32) (hn : Nat.log2 kk ≤ n) (hs : slv us pt re n b = true) : bel kk = 0 ∨ slv us pt re (n - Nat.log2 kk) (bel kk) = true := by
  rcases Nat.lt_or_ge kk 2 with z | z
  · obtain rfl : kk = 1 := by omega
    right
    rw [h.1]
    exact hs
  · obtain ⟨q1, q2, q3, q4⟩ := log_half kk (by omega) z
    obtain ⟨e1, e2, e3⟩ := h.2.1 (kk / 2) q1 q2 (by omega)
    have key : ∀ w, (w = 0 ∨ w = 1) → bel kk = chO pt (bel (kk / 2)) w (dcO us pt re (n - Nat.log2 (kk / 2)) (bel (kk / 2))) → bel kk = 0 ∨ slv us pt re (n - Nat.log2 kk) (bel kk) = true := by
      intro w hw e
      rw [e]
      rcases chO_sol (us := us) (pt := pt) (re := re) (n := n - Nat.log2 (kk / 2)) (x := bel (kk / 2)) hw with z | z
      · exact Or.inl z
      · right
        rw [q3, show n - (Nat.log2 (kk / 2) + 1) = n - Nat.log2 (kk / 2) - 1 by omega]
        exact z.1
    rcases q4 with z | z
    · exact key 0 (Or.inl rfl) (by rw [← e2, ← z])
    · exact key 1 (Or.inr rfl) (by rw [← e3, ← z])
theorem bldI.deep (h : bldI us pt re n b bel dos num kk) (h1 : 1 ≤ kk) (h2 : kk < 32) (hn : n < Nat.log2 kk) : bldI us pt re n b (upd bel kk 0) dos (upd num kk (-1)) (kk + 1) := by
  have hk2 : 2 ≤ kk := by
    rcases Nat.lt_or_ge kk 2 with z | z
    · obtain rfl : kk = 1 := by omega
      exact absurd hn (by rw [show Nat.log2 1 = 0 from rfl]; omega)
    · exact z
  obtain ⟨q1, q2, q3, q4⟩ := log_half kk (by omega) hk2
  have hb0 : ∀ k, 1 ≤ k → k < kk → Nat.log2 k ≤ n → (2 * k = kk ∨ 2 * k + 1 = kk) → dcO us pt re (n - Nat.log2 k) (bel k) = none := by
    intro k k1 k2 k3 e
    have hk : k = kk / 2 := by omega
    have : n - Nat.log2 k = 0 := by rw [hk]; omega
    rw [this]
    unfold dcO
    split <;> rfl
  refine ⟨by rw [upd_ne (by omega)]; exact h.1, fun k k1 k2 k3 => ?_, fun k k1 k2 k3 => ?_, fun k k1 k2 => ?_⟩
  · have hne : ¬ k = kk := fun q => by rw [q] at k3; omega
    obtain ⟨e1, e2, e3⟩ := h.2.1 k k1 (by omega) k3
    rw [upd_ne hne]
    refine ⟨e1, ?_, ?_⟩
    · by_cases hq : 2 * k = kk
      · rw [hq, upd_eq, hb0 k k1 (by omega) k3 (Or.inl hq)]; rfl
      · rw [upd_ne hq]; exact e2
    · by_cases hq : 2 * k + 1 = kk
      · rw [hq, upd_eq, hb0 k k1 (by omega) k3 (Or.inr hq)]; rfl
      · rw [upd_ne hq]; exact e3
  · by_cases hq : k = kk
    · rw [hq, upd_eq]
    · rw [upd_ne hq]; exact h.2.2.1 k k1 (by omega) k3
  · by_cases hq : k = kk
    · rw [hq, upd_eq]
    · rw [upd_ne hq]; exact h.2.2.2 k k1 (by omega)
theorem bldI.step (h : bldI us pt re n b bel dos num kk) (h1 : 1 ≤ kk) (h2 : kk < 32) (hn : Nat.log2 kk ≤ n) : bldI us pt re n b (upd (upd bel (2 * kk) (chO pt (bel kk) 0 (dcO us pt re (n - Nat.log2 kk) (bel kk)))) (2 * kk + 1) (chO pt (bel kk) 1 (dcO us pt re (n - Nat.log2 kk) (bel kk)))) (upd dos kk (o2i (dcO us pt re (n - Nat.log2 kk) (bel kk)))) (upd num kk (-1)) (kk + 1) := by
  have hu : ∀ q, ¬ q = 2 * kk → ¬ q = 2 * kk + 1 → upd (upd bel (2 * kk) (chO pt (bel kk) 0 (dcO us pt re (n - Nat.log2 kk) (bel kk)))) (2 * kk + 1) (chO pt (bel kk) 1 (dcO us pt re (n - Nat.log2 kk) (bel kk))) q = bel q := fun q a1 a2 => by rw [upd_ne a2, upd_ne a1]
  refine ⟨by rw [hu 1 (by omega) (by omega)]; exact h.1, fun k k1 k2 k3 => ?_, fun k k1 k2 k3 => ?_, fun k k1 k2 => ?_⟩
  · by_cases hq : k = kk
    · subst hq
      rw [hu k (by omega) (by omega), upd_eq, upd_eq, upd_ne (by omega), upd_eq]
      exact ⟨rfl, rfl, rfl⟩
    · rw [hu k (by omega) (by omega), hu (2 * k) (by omega) (by omega), hu (2 * k + 1) (by omega) (by omega), upd_ne hq]
      exact h.2.1 k k1 (by omega) k3
  · have hne : ¬ k = kk := fun q => by rw [q] at k3; omega
    rw [hu k (by omega) (by omega)]
    exact h.2.2.1 k k1 (by omega) k3
  · by_cases hq : k = kk
    · rw [hq, upd_eq]
    · rw [upd_ne hq]; exact h.2.2.2 k k1 (by omega)
end BLD
