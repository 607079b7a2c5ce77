/-! ===== numbering the nodes of a plan, with a stack: S what is still to be seen (the top first), K what has its number ===== -/
def nrun (bel dos : Nat → Int32) (sam : Nat → Nat) : Nat → List Nat → List Nat → List Nat
  | 0, _, K => K
  | _ + 1, [], K => K
  | f + 1, k :: S, K => if 0 < bel k ∧ ¬ sam k ∈ K.map sam then nrun bel dos sam f (if 0 ≤ dos k then 2 * k :: (2 * k + 1) :: S else S) (K ++ [k]) else nrun bel dos sam f S K
theorem nrun_nil {bel dos : Nat → Int32} {sam : Nat → Nat} (f : Nat) (K : List Nat) : nrun bel dos sam f [] K = K := by cases f <;> rfl
def stk (wk : Nat → Int32) : List Nat → Prop
  | [] => True
  | k :: S => wk S.length = nI k ∧ stk wk S
theorem stk_upd {wk : Nat → Int32} {q : Nat} {v : Int32} : ∀ {S : List Nat}, S.length ≤ q → stk wk S → stk (upd wk q v) S := by
  intro S
  induction S with
  | nil => intro _ _; trivial
  | cons k S ih => intro hq h; exact ⟨by rw [upd_ne (show ¬ S.length = q by rw [List.length_cons] at hq; omega)]; exact h.1, ih (by rw [List.length_cons] at hq; omega) h.2⟩
def msz (k : Nat) : Nat := 2 ^ (5 - Nat.log2 k) - 1
def msm (S : List Nat) : Nat := (S.map msz).sum
theorem msm_cons (k : Nat) (S : List Nat) : msm (k :: S) = msz k + msm S := rfl
theorem msz_pos : ∀ k, k < 32 → 1 ≤ msz k := by decide +kernel
theorem msz_kid : ∀ k, k < 16 → 1 ≤ k → msz (2 * k) + msz (2 * k + 1) + 1 = msz k := by decide +kernel
theorem msm_len : ∀ {S : List Nat}, (∀ k ∈ S, k < 32) → S.length ≤ msm S := by
  intro S
  induction S with
  | nil => intro _; exact Nat.zero_le _
  | cons k S ih =>
    intro h
    have h1 := msz_pos k (h k (List.mem_cons_self ..))
    have h2 := ih (fun j hj => h j (List.mem_cons_of_mem _ hj))
    rw [msm_cons, List.length_cons]
    omega
/-- what the loop keeps -/
def nIv (bel dos : Nat → Int32) (sam : Nat → Nat) (Kf : List Nat) (f : Nat) (S K : List Nat) (na nf nm wk : Nat → Int32) : Prop :=
  stk wk S ∧ (∀ k ∈ S, 1 ≤ k ∧ k < 32) ∧ msm S ≤ f ∧ msm S + K.length ≤ 31 ∧ nrun bel dos sam f S K = Kf ∧
  (∀ i k, K[i]? = some k → na i = dos k ∧ nf i = nI k ∧ nm (sam k) = nI i ∧ (1 ≤ k ∧ k < 32) ∧ 0 < bel k) ∧ (∀ c, 1 ≤ c → c < 32 → ¬ c ∈ K.map sam → nm c = -1)
theorem getq_app {K : List Nat} {k i x : Nat} (h : (K ++ [k])[i]? = some x) : K[i]? = some x ∨ (i = K.length ∧ x = k) := by
  rcases Nat.lt_trichotomy i K.length with z | z | z
  · rw [List.getElem?_append_left z] at h; exact Or.inl h
  · subst z; rw [List.getElem?_append_right (Nat.le_refl _), Nat.sub_self] at h; exact Or.inr ⟨rfl, (Option.some.inj h).symm⟩
  · rw [List.getElem?_eq_none (by rw [List.length_append, List.length_singleton]; omega)] at h; cases h
theorem getq_lt {K : List Nat} {i x : Nat} (h : K[i]? = some x) : i < K.length := by
  rcases Nat.lt_or_ge i K.length with z | z
  · exact z
  · rw [List.getElem?_eq_none z] at h; cases h
section NIV
variable {bel dos : Nat → Int32} {sam : Nat → Nat} {Kf : List Nat} {f k : Nat} {S K : List Nat} {na nf nm wk : Nat → Int32}
theorem nIv.f_pos (h : nIv bel dos sam Kf f (k :: S) K na nf nm wk) : ∃ g, f = g + 1 := by
  have h1 := msz_pos k (h.2.1 k (List.mem_cons_self ..)).2
  have h2 := h.2.2.1
  rw [msm_cons] at h2
  exact ⟨f - 1, by omega⟩
theorem nIv.len (h : nIv bel dos sam Kf f S K na nf nm wk) : S.length + K.length ≤ 31 := by
  have := msm_len (S := S) fun k hk => (h.2.1 k hk).2
  have := h.2.2.2.1
  omega
theorem nIv.skip (h : nIv bel dos sam Kf (f + 1) (k :: S) K na nf nm wk) (hn : ¬ (0 < bel k ∧ ¬ sam k ∈ K.map sam)) : nIv bel dos sam Kf f S K na nf nm wk := by
  obtain ⟨h1, h2, h3, h4, h5, h6, h7⟩ := h
  have hm := msz_pos k (h2 k (List.mem_cons_self ..)).2
  rw [msm_cons] at h3 h4
  refine ⟨h1.2, fun j hj => h2 j (List.mem_cons_of_mem _ hj), by omega, by omega, ?_, h6, h7⟩
  rw [nrun, if_neg hn] at h5
  exact h5
theorem nIv.newK (h : nIv bel dos sam Kf (f + 1) (k :: S) K na nf nm wk) (hb : 0 < bel k) (hn : ¬ sam k ∈ K.map sam) :
    (∀ i x, (K ++ [k])[i]? = some x → upd na K.length (dos k) i = dos x ∧ upd nf K.length (nI k) i = nI x ∧ upd nm (sam k) (nI K.length) (sam x) = nI i ∧ (1 ≤ x ∧ x < 32) ∧ 0 < bel x) ∧ (∀ c, 1 ≤ c → c < 32 → ¬ c ∈ (K ++ [k]).map sam → upd nm (sam k) (nI K.length) c = -1) := by
  obtain ⟨h1, h2, h3, h4, h5, h6, h7⟩ := h
  refine ⟨fun i x hx => ?_, fun c c1 c2 c3 => ?_⟩
  · rcases getq_app hx with z | ⟨rfl, rfl⟩
    · have hl := getq_lt z
      obtain ⟨e1, e2, e3, e4⟩ := h6 i x z
      have hne : ¬ sam x = sam k := fun q => hn (q ▸ List.mem_map_of_mem (List.mem_of_getElem? z))
      rw [upd_ne (by omega), upd_ne (by omega), upd_ne hne]
      exact ⟨e1, e2, e3, e4⟩
    · rw [upd_eq, upd_eq, upd_eq]
      exact ⟨rfl, rfl, rfl, h2 x (List.mem_cons_self ..), hb⟩
  · rw [List.map_append, List.mem_append] at c3
    rw [upd_ne (fun q => c3 (Or.inr (by rw [q]; exact List.mem_singleton_self _)))]
    exact h7 c c1 c2 (fun q => c3 (Or.inl q))
theorem nIv.leaf (h : nIv bel dos sam Kf (f + 1) (k :: S) K na nf nm wk) (hb : 0 < bel k) (hn : ¬ sam k ∈ K.map sam) (hd : ¬ 0 ≤ dos k) : nIv bel dos sam Kf f S (K ++ [k]) (upd na K.length (dos k)) (upd nf K.length (nI k)) (upd nm (sam k) (nI K.length)) wk := by
  obtain ⟨n1, n2⟩ := h.newK hb hn
  obtain ⟨h1, h2, h3, h4, h5, h6, h7⟩ := h
  have hm := msz_pos k (h2 k (List.mem_cons_self ..)).2
  rw [msm_cons] at h3 h4
  rw [nrun, if_pos ⟨hb, hn⟩, if_neg hd] at h5
  exact ⟨h1.2, fun j hj => h2 j (List.mem_cons_of_mem _ hj), by omega, by rw [List.length_append, List.length_singleton]; omega, h5, n1, n2⟩
theorem nIv.node (h : nIv bel dos sam Kf (f + 1) (k :: S) K na nf nm wk) (hb : 0 < bel k) (hn : ¬ sam k ∈ K.map sam) (hd : 0 ≤ dos k) (hk : k < 16) : nIv bel dos sam Kf f (2 * k :: (2 * k + 1) :: S) (K ++ [k]) (upd na K.length (dos k)) (upd nf K.length (nI k)) (upd nm (sam k) (nI K.length)) (upd (upd wk S.length (nI (2 * k + 1))) (S.length + 1) (nI (2 * k))) := by
  obtain ⟨n1, n2⟩ := h.newK hb hn
  obtain ⟨h1, h2, h3, h4, h5, h6, h7⟩ := h
  have hm := msz_kid k hk (h2 k (List.mem_cons_self ..)).1
  have hk1 := (h2 k (List.mem_cons_self ..)).1
  rw [msm_cons] at h3 h4
  rw [nrun, if_pos ⟨hb, hn⟩, if_pos hd] at h5
  refine ⟨⟨upd_eq, by rw [upd_ne (by omega)]; exact upd_eq, stk_upd (by omega) (stk_upd (Nat.le_refl _) h1.2)⟩, fun j hj => ?_, by rw [msm_cons, msm_cons]; omega, by rw [msm_cons, msm_cons, List.length_append, List.length_singleton]; omega, h5, n1, n2⟩
  rcases List.mem_cons.mp hj with rfl | hj
  · omega
  rcases List.mem_cons.mp hj with rfl | hj
  · omega
  exact h2 j (List.mem_cons_of_mem _ hj)
theorem nIv.known (h : nIv bel dos sam Kf f S K na nf nm wk) (hc1 : 1 ≤ sam k) (hc2 : sam k < 32) : ¬ 0 ≤ nm (sam k) ↔ ¬ sam k ∈ K.map sam := by
  constructor
  · intro q hm
    obtain ⟨x, hx, e⟩ := List.mem_map.mp hm
    obtain ⟨i, hi⟩ := List.getElem?_of_mem hx
    rw [← e, (h.2.2.2.2.2.1 i x hi).2.2.1] at q
    have := getq_lt hi
    have := h.len
    exact q (nI_nlt0 (by omega))
  · intro q
    rw [h.2.2.2.2.2.2 _ hc1 hc2 q]
    decide
end NIV
