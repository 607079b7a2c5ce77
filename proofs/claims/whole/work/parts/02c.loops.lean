/-! ===== loops: at the head with k rounds done; the back edge gives the next round ===== -/
section WL
variable {p : Program} {l : Launch} {e : Env} {R : Room} {s : State} {m : MethodId} {args : Array Value} {below : List Frame} {meth : Method} {c : Code} {H : Heap} {locs : List Loc} {cells slots : Nat} {Q : State → Prop}
/-- the heap stays -/
theorem w_loopP {pc : Nat} {st : List Value} (N : Nat) (I : Nat → Array Slot → Prop)
    (hs : ∀ (k : Nat) (ls : Array Slot), k ≤ N → I k ls → (∀ ls' : Array Slot, I (k + 1) ls' → k < N → W p l e R s m args below meth c H locs cells slots Q (F0 m pc ls' st)) → W p l e R s m args below meth c H locs cells slots Q (F0 m pc ls st)) :
    ∀ (k : Nat), k ≤ N → ∀ ls : Array Slot, I k ls → W p l e R s m args below meth c H locs cells slots Q (F0 m pc ls st) := by
  have key : ∀ (n k : Nat), k ≤ N → N ≤ k + n → ∀ ls : Array Slot, I k ls → W p l e R s m args below meth c H locs cells slots Q (F0 m pc ls st) := by
    intro n
    induction n with
    | zero => intro k h1 h2 ls hI; exact hs k ls h1 hI (fun _ _ h => absurd h (by omega))
    | succ n ih => intro k h1 h2 ls hI; exact hs k ls h1 hI (fun ls' hI' h => ih (k + 1) h (by omega) ls' hI')
  intro k hk ls hI
  exact key N k hk (by omega) ls hI
/-- the heap may change -/
theorem w_loopH {pc : Nat} {st : List Value} (N : Nat) (I : Nat → Array Slot → Heap → List Loc → Prop)
    (hs : ∀ (k : Nat) (ls : Array Slot) (H : Heap) (locs : List Loc), k ≤ N → I k ls H locs → (∀ (ls' : Array Slot) (H' : Heap) (locs' : List Loc), I (k + 1) ls' H' locs' → k < N → W p l e R s m args below meth c H' locs' cells slots Q (F0 m pc ls' st)) → W p l e R s m args below meth c H locs cells slots Q (F0 m pc ls st)) :
    ∀ (k : Nat), k ≤ N → ∀ (ls : Array Slot) (H : Heap) (locs : List Loc), I k ls H locs → W p l e R s m args below meth c H locs cells slots Q (F0 m pc ls st) := by
  have key : ∀ (n k : Nat), k ≤ N → N ≤ k + n → ∀ (ls : Array Slot) (H : Heap) (locs : List Loc), I k ls H locs → W p l e R s m args below meth c H locs cells slots Q (F0 m pc ls st) := by
    intro n
    induction n with
    | zero => intro k h1 h2 ls H locs hI; exact hs k ls H locs h1 hI (fun _ _ _ _ h => absurd h (by omega))
    | succ n ih => intro k h1 h2 ls H locs hI; exact hs k ls H locs h1 hI (fun ls' H' locs' hI' h => ih (k + 1) h (by omega) ls' H' locs' hI')
  intro k hk ls H locs hI
  exact key N k hk (by omega) ls H locs hI
end WL
theorem mkN_t {f : Nat → Bool} {n : Nat} (h : f n = true) : mkN f (n + 1) = mkN f n ||| ((1 : Int32) <<< (nI n &&& 31)) := by rw [mkN, if_pos h]
theorem mkN_f {f : Nat → Bool} {n : Nat} (h : f n = false) : mkN f (n + 1) = mkN f n := by rw [mkN, if_neg (by rw [h]; decide)]
/-- a counter against a bound -/
theorem ctr_ge {k N : Nat} {x : Int32} (hx : x = nI N) (hN : N < 2 ^ 31) (hk : k ≤ N) (h : x ≤ nI k) : k = N := by
  rw [hx] at h
  have := (nI_leI hN (by omega)).mp h
  omega
theorem ctr_lt {k N : Nat} {x : Int32} (hx : x = nI N) (hN : N < 2 ^ 31) (hk : k ≤ N) (h : ¬ x ≤ nI k) : k < N := by
  rw [hx] at h
  exact Nat.lt_of_not_le fun q => h ((nI_leI hN (by omega)).mpr q)
