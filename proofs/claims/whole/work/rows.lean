section
-- ===== PART A: goes FIRST, ahead of the names: the tables' words, and 'selects' of the private methods out of them =====
/-- a private method of a class that the tables say can be made, by its rows of tables_1 -/
def lw_okq (q : MethodName × Nat) : Prop := (q.1.cls ≠ "java/lang/invoke/MethodHandle" ∧ q.1.cls ≠ "java/lang/invoke/VarHandle") ∧ Cond.instantiable q.1.cls q.2 ∈ tables_1 ∧ Cond.privateMethod q.1 ∈ tables_1 ∧ Cond.instanceMethod q.1 ∈ tables_1
theorem lw_p0 : lw_okq (⟨"HiddenFacts", "forgetAll", "()V"⟩, 9) := ⟨⟨by decide +kernel, by decide +kernel⟩, List.mem_of_getElem? (i := 16) (by decide +kernel), List.mem_of_getElem? (i := 82) (by decide +kernel), List.mem_of_getElem? (i := 83) (by decide +kernel)⟩
theorem lw_p1 : lw_okq (⟨"java/lang/Throwable", "fillInStackTrace", "(I)Ljava/lang/Throwable;"⟩, 6) := ⟨⟨by decide +kernel, by decide +kernel⟩, List.mem_of_getElem? (i := 187) (by decide +kernel), List.mem_of_getElem? (i := 185) (by decide +kernel), List.mem_of_getElem? (i := 186) (by decide +kernel)⟩
theorem lw_p2 : lw_okq (⟨"HiddenFacts", "needThere", "(I)V"⟩, 9) := ⟨⟨by decide +kernel, by decide +kernel⟩, List.mem_of_getElem? (i := 16) (by decide +kernel), List.mem_of_getElem? (i := 255) (by decide +kernel), List.mem_of_getElem? (i := 256) (by decide +kernel)⟩
theorem lw_p3 : lw_okq (⟨"HiddenFacts", "fewest", "(II)I"⟩, 9) := ⟨⟨by decide +kernel, by decide +kernel⟩, List.mem_of_getElem? (i := 16) (by decide +kernel), List.mem_of_getElem? (i := 368) (by decide +kernel), List.mem_of_getElem? (i := 369) (by decide +kernel)⟩
theorem lw_p4 : lw_okq (⟨"HiddenFacts", "solved", "(II)Z"⟩, 9) := ⟨⟨by decide +kernel, by decide +kernel⟩, List.mem_of_getElem? (i := 16) (by decide +kernel), List.mem_of_getElem? (i := 372) (by decide +kernel), List.mem_of_getElem? (i := 373) (by decide +kernel)⟩
theorem lw_p5 : lw_okq (⟨"HiddenFacts", "reached", "(I)Z"⟩, 9) := ⟨⟨by decide +kernel, by decide +kernel⟩, List.mem_of_getElem? (i := 16) (by decide +kernel), List.mem_of_getElem? (i := 376) (by decide +kernel), List.mem_of_getElem? (i := 377) (by decide +kernel)⟩
theorem lw_p6 : lw_okq (⟨"HiddenFacts", "leastAction", "(II)I"⟩, 9) := ⟨⟨by decide +kernel, by decide +kernel⟩, List.mem_of_getElem? (i := 16) (by decide +kernel), List.mem_of_getElem? (i := 380) (by decide +kernel), List.mem_of_getElem? (i := 381) (by decide +kernel)⟩
theorem lw_p7 : lw_okq (⟨"HiddenFacts", "solves", "(LHiddenFacts$Action;II)Z"⟩, 9) := ⟨⟨by decide +kernel, by decide +kernel⟩, List.mem_of_getElem? (i := 16) (by decide +kernel), List.mem_of_getElem? (i := 384) (by decide +kernel), List.mem_of_getElem? (i := 385) (by decide +kernel)⟩
theorem lw_p8 : lw_okq (⟨"HiddenFacts", "grow", "(II)I"⟩, 9) := ⟨⟨by decide +kernel, by decide +kernel⟩, List.mem_of_getElem? (i := 16) (by decide +kernel), List.mem_of_getElem? (i := 404) (by decide +kernel), List.mem_of_getElem? (i := 405) (by decide +kernel)⟩
theorem lw_p9 : lw_okq (⟨"HiddenFacts", "growPart", "(II)I"⟩, 9) := ⟨⟨by decide +kernel, by decide +kernel⟩, List.mem_of_getElem? (i := 16) (by decide +kernel), List.mem_of_getElem? (i := 424) (by decide +kernel), List.mem_of_getElem? (i := 425) (by decide +kernel)⟩
theorem lw_p10 : lw_okq (⟨"HiddenFacts", "needNode", "(I)V"⟩, 9) := ⟨⟨by decide +kernel, by decide +kernel⟩, List.mem_of_getElem? (i := 16) (by decide +kernel), List.mem_of_getElem? (i := 435) (by decide +kernel), List.mem_of_getElem? (i := 436) (by decide +kernel)⟩
theorem lw_p11 : lw_okq (⟨"HiddenFacts", "needPlan", "()V"⟩, 9) := ⟨⟨by decide +kernel, by decide +kernel⟩, List.mem_of_getElem? (i := 16) (by decide +kernel), List.mem_of_getElem? (i := 458) (by decide +kernel), List.mem_of_getElem? (i := 459) (by decide +kernel)⟩
theorem lw_p12 : lw_okq (⟨"HiddenFacts", "fits", "(III)Z"⟩, 9) := ⟨⟨by decide +kernel, by decide +kernel⟩, List.mem_of_getElem? (i := 16) (by decide +kernel), List.mem_of_getElem? (i := 463) (by decide +kernel), List.mem_of_getElem? (i := 464) (by decide +kernel)⟩
theorem lw_p13 : lw_okq (⟨"HiddenFacts", "carryOut", "()Z"⟩, 9) := ⟨⟨by decide +kernel, by decide +kernel⟩, List.mem_of_getElem? (i := 16) (by decide +kernel), List.mem_of_getElem? (i := 484) (by decide +kernel), List.mem_of_getElem? (i := 485) (by decide +kernel)⟩
theorem lw_p14 : lw_okq (⟨"HiddenFacts", "look", "(II)V"⟩, 9) := ⟨⟨by decide +kernel, by decide +kernel⟩, List.mem_of_getElem? (i := 16) (by decide +kernel), List.mem_of_getElem? (i := 511) (by decide +kernel), List.mem_of_getElem? (i := 512) (by decide +kernel)⟩
theorem lw_p15 : lw_okq (⟨"HiddenFactsModel", "fail", "(I)I"⟩, 33) := ⟨⟨by decide +kernel, by decide +kernel⟩, List.mem_of_getElem? (i := 526) (by decide +kernel), List.mem_of_getElem? (i := 648) (by decide +kernel), List.mem_of_getElem? (i := 649) (by decide +kernel)⟩
def lw_privs_1 : List (MethodName × Nat) := [(⟨"HiddenFacts", "forgetAll", "()V"⟩, 9), (⟨"java/lang/Throwable", "fillInStackTrace", "(I)Ljava/lang/Throwable;"⟩, 6), (⟨"HiddenFacts", "needThere", "(I)V"⟩, 9), (⟨"HiddenFacts", "fewest", "(II)I"⟩, 9), (⟨"HiddenFacts", "solved", "(II)Z"⟩, 9), (⟨"HiddenFacts", "reached", "(I)Z"⟩, 9), (⟨"HiddenFacts", "leastAction", "(II)I"⟩, 9), (⟨"HiddenFacts", "solves", "(LHiddenFacts$Action;II)Z"⟩, 9), (⟨"HiddenFacts", "grow", "(II)I"⟩, 9), (⟨"HiddenFacts", "growPart", "(II)I"⟩, 9), (⟨"HiddenFacts", "needNode", "(I)V"⟩, 9), (⟨"HiddenFacts", "needPlan", "()V"⟩, 9), (⟨"HiddenFacts", "fits", "(III)Z"⟩, 9), (⟨"HiddenFacts", "carryOut", "()Z"⟩, 9), (⟨"HiddenFacts", "look", "(II)V"⟩, 9), (⟨"HiddenFactsModel", "fail", "(I)I"⟩, 33)]
theorem lw_r1 : ∀ q ∈ lw_privs_1, lw_okq q := List.forall_mem_cons.mpr ⟨lw_p0, List.forall_mem_cons.mpr ⟨lw_p1, List.forall_mem_cons.mpr ⟨lw_p2, List.forall_mem_cons.mpr ⟨lw_p3, List.forall_mem_cons.mpr ⟨lw_p4, List.forall_mem_cons.mpr ⟨lw_p5, List.forall_mem_cons.mpr ⟨lw_p6, List.forall_mem_cons.mpr ⟨lw_p7, List.forall_mem_cons.mpr ⟨lw_p8, List.forall_mem_cons.mpr ⟨lw_p9, List.forall_mem_cons.mpr ⟨lw_p10, List.forall_mem_cons.mpr ⟨lw_p11, List.forall_mem_cons.mpr ⟨lw_p12, List.forall_mem_cons.mpr ⟨lw_p13, List.forall_mem_cons.mpr ⟨lw_p14, List.forall_mem_cons.mpr ⟨lw_p15, fun _ h => absurd h List.not_mem_nil⟩⟩⟩⟩⟩⟩⟩⟩⟩⟩⟩⟩⟩⟩⟩⟩
theorem lw_p16 : lw_okq (⟨"HiddenFactsModel", "startBelief", "()I"⟩, 33) := ⟨⟨by decide +kernel, by decide +kernel⟩, List.mem_of_getElem? (i := 526) (by decide +kernel), List.mem_of_getElem? (i := 674) (by decide +kernel), List.mem_of_getElem? (i := 675) (by decide +kernel)⟩
theorem lw_p17 : lw_okq (⟨"HiddenFactsModel", "usable", "(II)Z"⟩, 33) := ⟨⟨by decide +kernel, by decide +kernel⟩, List.mem_of_getElem? (i := 526) (by decide +kernel), List.mem_of_getElem? (i := 683) (by decide +kernel), List.mem_of_getElem? (i := 684) (by decide +kernel)⟩
theorem lw_p18 : lw_okq (⟨"HiddenFactsModel", "after", "(II)I"⟩, 33) := ⟨⟨by decide +kernel, by decide +kernel⟩, List.mem_of_getElem? (i := 526) (by decide +kernel), List.mem_of_getElem? (i := 687) (by decide +kernel), List.mem_of_getElem? (i := 688) (by decide +kernel)⟩
theorem lw_p19 : lw_okq (⟨"HiddenFactsModel", "next", "(II)I"⟩, 33) := ⟨⟨by decide +kernel, by decide +kernel⟩, List.mem_of_getElem? (i := 526) (by decide +kernel), List.mem_of_getElem? (i := 691) (by decide +kernel), List.mem_of_getElem? (i := 692) (by decide +kernel)⟩
theorem lw_p20 : lw_okq (⟨"HiddenFactsModel", "leastFor", "(II)I"⟩, 33) := ⟨⟨by decide +kernel, by decide +kernel⟩, List.mem_of_getElem? (i := 526) (by decide +kernel), List.mem_of_getElem? (i := 699) (by decide +kernel), List.mem_of_getElem? (i := 700) (by decide +kernel)⟩
theorem lw_p21 : lw_okq (⟨"HiddenFactsModel", "solved", "(II)Z"⟩, 33) := ⟨⟨by decide +kernel, by decide +kernel⟩, List.mem_of_getElem? (i := 526) (by decide +kernel), List.mem_of_getElem? (i := 703) (by decide +kernel), List.mem_of_getElem? (i := 704) (by decide +kernel)⟩
theorem lw_p22 : lw_okq (⟨"HiddenFactsModel", "reached", "(I)Z"⟩, 33) := ⟨⟨by decide +kernel, by decide +kernel⟩, List.mem_of_getElem? (i := 526) (by decide +kernel), List.mem_of_getElem? (i := 707) (by decide +kernel), List.mem_of_getElem? (i := 708) (by decide +kernel)⟩
theorem lw_p23 : lw_okq (⟨"HiddenFactsModel", "part", "(III)I"⟩, 33) := ⟨⟨by decide +kernel, by decide +kernel⟩, List.mem_of_getElem? (i := 526) (by decide +kernel), List.mem_of_getElem? (i := 711) (by decide +kernel), List.mem_of_getElem? (i := 712) (by decide +kernel)⟩
theorem lw_p24 : lw_okq (⟨"HiddenFactsModel", "build", "(II)V"⟩, 33) := ⟨⟨by decide +kernel, by decide +kernel⟩, List.mem_of_getElem? (i := 526) (by decide +kernel), List.mem_of_getElem? (i := 719) (by decide +kernel), List.mem_of_getElem? (i := 720) (by decide +kernel)⟩
theorem lw_p25 : lw_okq (⟨"HiddenFactsModel", "choose", "(II)V"⟩, 33) := ⟨⟨by decide +kernel, by decide +kernel⟩, List.mem_of_getElem? (i := 526) (by decide +kernel), List.mem_of_getElem? (i := 726) (by decide +kernel), List.mem_of_getElem? (i := 727) (by decide +kernel)⟩
theorem lw_p26 : lw_okq (⟨"HiddenFactsModel", "partSolved", "(IIII)Z"⟩, 33) := ⟨⟨by decide +kernel, by decide +kernel⟩, List.mem_of_getElem? (i := 526) (by decide +kernel), List.mem_of_getElem? (i := 730) (by decide +kernel), List.mem_of_getElem? (i := 731) (by decide +kernel)⟩
theorem lw_p27 : lw_okq (⟨"HiddenFactsModel", "equal", "(II)Z"⟩, 33) := ⟨⟨by decide +kernel, by decide +kernel⟩, List.mem_of_getElem? (i := 526) (by decide +kernel), List.mem_of_getElem? (i := 734) (by decide +kernel), List.mem_of_getElem? (i := 735) (by decide +kernel)⟩
theorem lw_p28 : lw_okq (⟨"HiddenFactsModel", "classOf", "(I)I"⟩, 33) := ⟨⟨by decide +kernel, by decide +kernel⟩, List.mem_of_getElem? (i := 526) (by decide +kernel), List.mem_of_getElem? (i := 738) (by decide +kernel), List.mem_of_getElem? (i := 739) (by decide +kernel)⟩
theorem lw_p29 : lw_okq (⟨"HiddenFactsModel", "number", "()V"⟩, 33) := ⟨⟨by decide +kernel, by decide +kernel⟩, List.mem_of_getElem? (i := 526) (by decide +kernel), List.mem_of_getElem? (i := 742) (by decide +kernel), List.mem_of_getElem? (i := 743) (by decide +kernel)⟩
theorem lw_p30 : lw_okq (⟨"HiddenFactsModel", "beliefAt", "(II)I"⟩, 33) := ⟨⟨by decide +kernel, by decide +kernel⟩, List.mem_of_getElem? (i := 526) (by decide +kernel), List.mem_of_getElem? (i := 782) (by decide +kernel), List.mem_of_getElem? (i := 783) (by decide +kernel)⟩
theorem lw_p31 : lw_okq (⟨"HiddenFactsModel", "make", "(II)V"⟩, 33) := ⟨⟨by decide +kernel, by decide +kernel⟩, List.mem_of_getElem? (i := 526) (by decide +kernel), List.mem_of_getElem? (i := 786) (by decide +kernel), List.mem_of_getElem? (i := 787) (by decide +kernel)⟩
def lw_privs_2 : List (MethodName × Nat) := [(⟨"HiddenFactsModel", "startBelief", "()I"⟩, 33), (⟨"HiddenFactsModel", "usable", "(II)Z"⟩, 33), (⟨"HiddenFactsModel", "after", "(II)I"⟩, 33), (⟨"HiddenFactsModel", "next", "(II)I"⟩, 33), (⟨"HiddenFactsModel", "leastFor", "(II)I"⟩, 33), (⟨"HiddenFactsModel", "solved", "(II)Z"⟩, 33), (⟨"HiddenFactsModel", "reached", "(I)Z"⟩, 33), (⟨"HiddenFactsModel", "part", "(III)I"⟩, 33), (⟨"HiddenFactsModel", "build", "(II)V"⟩, 33), (⟨"HiddenFactsModel", "choose", "(II)V"⟩, 33), (⟨"HiddenFactsModel", "partSolved", "(IIII)Z"⟩, 33), (⟨"HiddenFactsModel", "equal", "(II)Z"⟩, 33), (⟨"HiddenFactsModel", "classOf", "(I)I"⟩, 33), (⟨"HiddenFactsModel", "number", "()V"⟩, 33), (⟨"HiddenFactsModel", "beliefAt", "(II)I"⟩, 33), (⟨"HiddenFactsModel", "make", "(II)V"⟩, 33)]
theorem lw_r2 : ∀ q ∈ lw_privs_2, lw_okq q := List.forall_mem_cons.mpr ⟨lw_p16, List.forall_mem_cons.mpr ⟨lw_p17, List.forall_mem_cons.mpr ⟨lw_p18, List.forall_mem_cons.mpr ⟨lw_p19, List.forall_mem_cons.mpr ⟨lw_p20, List.forall_mem_cons.mpr ⟨lw_p21, List.forall_mem_cons.mpr ⟨lw_p22, List.forall_mem_cons.mpr ⟨lw_p23, List.forall_mem_cons.mpr ⟨lw_p24, List.forall_mem_cons.mpr ⟨lw_p25, List.forall_mem_cons.mpr ⟨lw_p26, List.forall_mem_cons.mpr ⟨lw_p27, List.forall_mem_cons.mpr ⟨lw_p28, List.forall_mem_cons.mpr ⟨lw_p29, List.forall_mem_cons.mpr ⟨lw_p30, List.forall_mem_cons.mpr ⟨lw_p31, fun _ h => absurd h List.not_mem_nil⟩⟩⟩⟩⟩⟩⟩⟩⟩⟩⟩⟩⟩⟩⟩⟩
def lw_privs : List (MethodName × Nat) := lw_privs_1 ++ (lw_privs_2)
def lw_tbl : List Cond := k2_sels lw_privs ++ tables_1
theorem lw_privs_ok : ∀ q ∈ lw_privs, lw_okq q := by
  show ∀ q ∈ lw_privs_1 ++ (lw_privs_2), lw_okq q
  exact List.forall_mem_append.mpr ⟨lw_r1, lw_r2⟩
-- ===== end of PART A; then your names; then what follows =====
end
section
/-! A thrown object on its way through a table of handlers whose classes may not be resolved yet: one entry, then the whole row of entries. -/
section XC
variable {e : Env} {f : JFrame} {a : Addr} {cell : Cell}
theorem xc_one {s : State} {Q : Handler → Pre} {E : CtlPost} {d : Bool} {acts : List Action} {x : ExceptionTableEntry} {t : List ExceptionTableEntry} {c : ClassId} (hx : covers x f.pc = true) (h0 : x.catchType ≠ 0)
    (hl : s.vm.ClassLinks e.platform f.method.cls x.catchType c) (hcell : s.heap[a]? = some cell) (hobj : ∀ k, cell.vm ≠ .statics k)
    (hk : ∃ k, s.vm.classes[cell.cls]? = some k) (hc : ∃ k, s.vm.classes[c]? = some k) :
    wp (findHandler.go f a (x :: t)) Q E e d acts s ↔
      if s.vm.assignable cell.cls c = true then Q (.found x.handlerPc) d acts (s.setVm (s.vm.noted f.method.cls x.catchType (.cls c))) else wp (findHandler.go f a t) Q E e d acts (s.setVm (s.vm.noted f.method.cls x.catchType (.cls c))) := by
  simp only [covers] at hx
  obtain ⟨ha, ht⟩ := (resolveClass_links e.toSetting hl).op (op := VmOp.resolveClass f.method.cls x.catchType) rfl
  have hal : s.vm.Alike (s.vm.noted f.method.cls x.catchType (.cls c)) := (Vm.Alike.refl s.vm).noted _ _ _
  obtain ⟨k1, hk1⟩ := hk
  obtain ⟨k2, hk2⟩ := hc
  obtain ⟨k1', hk1', -⟩ := hal.2.2 _ _ hk1
  obtain ⟨k2', hk2', -⟩ := hal.2.2 _ _ hk2
  have has : (s.vm.noted f.method.cls x.catchType (.cls c)).assignable cell.cls c = s.vm.assignable cell.cls c := hal.assignable _ _
  cases hfit : s.vm.assignable cell.cls c <;> rw [hfit] at has <;>
    simp [findHandler.go, hx, h0, ha, ht, hcell, hobj, hk1', hk2', has, VmOp.dirties, VmOp.acts]
theorem xc_row {s0 : State} (hobj : ∀ k, cell.vm ≠ .statics k) (hk0 : ∃ k, s0.vm.classes[cell.cls]? = some k)
    (x : ExceptionTableEntry) (rest : List ExceptionTableEntry) (hx : covers x f.pc = true) (h0 : x.catchType ≠ 0) {c : ClassId} (hl : s0.vm.ClassLinks e.platform f.method.cls x.catchType c) (hfit : s0.vm.assignable cell.cls c = true) :
    ∀ (pre : List ExceptionTableEntry) (S : State), s0.WarmedH S.vm → S.heap[a]? = some cell → (∀ y ∈ pre, covers y f.pc = false ∨ (y.catchType ≠ 0 ∧ ∃ c1, s0.vm.ClassLinks e.platform f.method.cls y.catchType c1 ∧ s0.vm.assignable cell.cls c1 = false)) →
      ∃ vm', s0.WarmedH vm' ∧ ∀ (Q : Handler → Pre) (E : CtlPost) (d : Bool) (acts : List Action), wp (findHandler.go f a (pre ++ x :: rest)) Q E e d acts S ↔ Q (.found x.handlerPc) d acts (S.setVm vm') := by
  obtain ⟨k0, hk0⟩ := hk0
  have one : ∀ (y : ExceptionTableEntry) (c1 : ClassId) (S : State), s0.WarmedH S.vm → s0.vm.ClassLinks e.platform f.method.cls y.catchType c1 →
      S.vm.ClassLinks e.platform f.method.cls y.catchType c1 ∧ s0.WarmedH (S.vm.noted f.method.cls y.catchType (.cls c1)) ∧ (∃ k, S.vm.classes[cell.cls]? = some k) ∧ (∃ k, S.vm.classes[c1]? = some k) := by
    intro y c1 S hW hl1
    obtain ⟨dk, _, _, kt, hd, _, _, _, _, hkt, _, hopen⟩ := hl1.here
    obtain ⟨k0', hk0', -⟩ := hW.alike.2.2 _ _ hk0
    obtain ⟨kt', hkt', -⟩ := hW.alike.2.2 _ _ hkt
    exact ⟨hW.classLinks hl1, hW.noted hd hopen (State.rightAt_cls hl1), ⟨k0', hk0'⟩, ⟨kt', hkt'⟩⟩
  intro pre
  induction pre with
  | nil =>
    intro S hW hcell _
    obtain ⟨q1, q2, q3, q4⟩ := one x c S hW hl
    refine ⟨_, q2, fun Q E d acts => ?_⟩
    rw [List.nil_append, xc_one hx h0 q1 hcell hobj q3 q4, if_pos (by rw [hW.alike.assignable]; exact hfit)]
  | cons y ys ih =>
    intro S hW hcell hpass
    have hrest := fun z hz => hpass z (List.mem_cons_of_mem _ hz)
    cases hcov : covers y f.pc with
    | false =>
      obtain ⟨vm', hW', hq⟩ := ih S hW hcell hrest
      refine ⟨vm', hW', fun Q E d acts => ?_⟩
      rw [List.cons_append, W.findHandler_go_skip hcov]
      exact hq Q E d acts
    | true =>
      rcases hpass y List.mem_cons_self with h | ⟨hy0, c1, hl1, hno⟩
      · rw [h] at hcov; cases hcov
      · obtain ⟨q1, q2, q3, q4⟩ := one y c1 S hW hl1
        obtain ⟨vm', hW', hq⟩ := ih (S.setVm (S.vm.noted f.method.cls y.catchType (.cls c1))) q2 hcell hrest
        refine ⟨vm', hW', fun Q E d acts => ?_⟩
        rw [List.cons_append, xc_one hcov hy0 q1 hcell hobj q3 q4, if_neg (by rw [hW.alike.assignable, hno]; decide)]
        exact hq Q E d acts
end XC
section XC2
variable {p : Program} {l : Launch} {e : Env} {R : Room} {s : State} {m : MethodId} {args : Array Value} {below : List Frame} {meth : Method} {c : Code} {T : State} {locs : List Loc} {cells slots : Nat}
/-- one step of the machine: the note is taken away, the frame goes on at the handler -/
theorem xc_step {tb : Tables} {u target : State} {g : JFrame} {q : Addr} (h : At u g.method c below) {pc : Nat} {vm' : Vm}
    (hfind : ∀ (Q : Handler → Pre) (E : CtlPost) (d : Bool) (acts : List Action), wp (findHandler g q) Q E e d acts ((u.setTop g).pushFrame (.throwing q)) ↔ Q (.found pc) d acts (((u.setTop g).pushFrame (.throwing q)).setVm vm'))
    (hrest : Steps tb e below ((u.setVm vm').setTop { g with pc := pc, stack := [.ref q] }) target) :
    Steps tb e below ((u.setTop g).pushFrame (.throwing q)) target := by
  obtain ⟨hgo, hw⟩ := h.throwing q
  have hone : (stepThrowing e ((u.setTop g).pushFrame (.throwing q)) q (.java g :: u.frames.tail)).Is ((((u.setTop g).pushFrame (.throwing q)).setVm vm').setFrames (.java { g with pc := pc, stack := [.ref q] } :: u.frames.tail)) [] := by
    simp only [stepThrowing, searchFrame, vmDo]
    generalize hr : Sem.go _ e false [] ((u.setTop g).pushFrame (.throwing q)) = res
    obtain ⟨as, rfl, ha⟩ := Sem.eq_ok_of hr (a := Handler.found pc) (s' := ((u.setTop g).pushFrame (.throwing q)).setVm vm') (acts' := []) (by simp [hfind _ _ _ _])
    exact ⟨rfl, ha⟩
  refine Steps.head hgo hw ?_
  rw [stepThread_throwing (frames_entered h.top _), hone.1]
  obtain ⟨g0, hg⟩ := Option.isSome_iff_exists.mp h.top
  obtain ⟨r, hr⟩ := State.topJava?_eq_some.mp hg
  have hr' : (u.setVm vm').frames = .java g0 :: r := hr
  rw [State.setTop_of_frames _ hr'] at hrest
  have hfs : ∀ (v : State) (F G : List Frame), ((v.setFrames F).setVm vm').setFrames G = (v.setVm vm').setFrames G := fun v F G => by
    rw [show (v.setFrames F).setVm vm' = (v.setVm vm').setFrames F from rfl, State.setFrames_setFrames]
  rw [hr, List.tail_cons, State.pushFrame, hfs, State.setTop_of_frames _ hr, hfs]
  exact hrest
/-- thrown into this frame, past rows that don't take it, taken by the row x -/
theorem xc_through (X : Stand p l e R s m args below meth c T locs cells slots) (q : Addr) {g : JFrame} (hg : g.method = m) {s0 : State} (hcome : Steps p.tables e below s0 ((T.setTop g).pushFrame (.throwing q)))
    {cell : Cell} (hcell : T.heap[q]? = some cell) (hobj : cell.vm.isStatics = false) (hk0 : ∃ k, s.vm.classes[cell.cls]? = some k)
    (pre : List ExceptionTableEntry) (x : ExceptionTableEntry) (rest : List ExceptionTableEntry) (hsplit : c.exceptionTable.toList = pre ++ x :: rest)
    (hpass : ∀ y ∈ pre, covers y g.pc = false ∨ (y.catchType ≠ 0 ∧ ∃ c1, s.vm.ClassLinks e.platform m.cls y.catchType c1 ∧ s.vm.assignable cell.cls c1 = false)) (hx : covers x g.pc = true) (h0 : x.catchType ≠ 0) {c1 : ClassId} (hl : s.vm.ClassLinks e.platform m.cls x.catchType c1) (hfit : s.vm.assignable cell.cls c1 = true) :
    ∃ vm', Stand p l e R s m args below meth c (T.setVm vm') locs cells slots ∧ Steps p.tables e below s0 ((T.setVm vm').setTop { g with pc := x.handlerPc, stack := [.ref q] }) := by
  subst hg
  obtain ⟨vm', hW', hf⟩ := xc_row (e := e) (f := g) (a := q) (s0 := s) (VmData.ne_statics_of hobj) hk0 x rest hx h0 hl hfit pre ((T.setTop g).pushFrame (.throwing q)) X.warmed hcell hpass
  refine ⟨vm', X.noted hW', hcome.trans (xc_step X.here (fun Q E d acts => ?_) (Steps.refl _))⟩
  rw [W.findHandler_eq (s := (T.setTop g).pushFrame (.throwing q)) (meth := meth) (code := c) X.method' X.code, hsplit]
  exact hf Q E d acts
end XC2
/-! NoSuchElementException: its constructor's call stands at another place of its pool (13) than the others' (7): its words, and 'throw' of it. -/
def xn_six : ByteArray := ⟨#[0x2a, 0x2b, 0xb7, 0x00, 0x0d, 0xb1]⟩
def xn_own (own : String) (ic : Nat) (X : String) (names : List String) : List Cond :=
  Bundle.throwableAtoms ++ Bundle.throwableSAtoms ++ (match names with | [] => [] | Y :: r => Bundle.passSAtoms X Y 13 xn_six ++ Bundle.chainSAtoms Y r) ++
  [.methodLink own ic (Bundle.initS X), .instantiable X 6, .castable X X, .selects X Bundle.tFill0 Bundle.tFill0, .selects X Bundle.tFill Bundle.tFill,
   .lays X Bundle.tN "cause" "Ljava/lang/Throwable;", .lays X Bundle.tN "stackTrace" Bundle.steD, .lays X Bundle.tN "suppressedExceptions" Bundle.listD, .lays X Bundle.tN "detailMessage" "Ljava/lang/String;",
   .isRef (.static Bundle.tN "UNASSIGNED_STACK" Bundle.steD), .isRef (.static Bundle.tN "SUPPRESSED_SENTINEL" Bundle.listD),
   .fieldLink Bundle.tN 198 Bundle.tN "backtrace" "Ljava/lang/Object;", .lays Bundle.tN Bundle.tN "backtrace" "Ljava/lang/Object;", .lays X Bundle.tN "backtrace" "Ljava/lang/Object;"]
section XN
variable {p : Program} {l : Launch} {e : Env} {R : Room} {s : State} {m₀ : MethodId} {args : Array Value} {below : List Frame} {meth : Method} {c : Code} {W : State} {locs : List Loc} {cells slots : Nat}
set_option maxHeartbeats 2000000 in
theorem xn_ctor (X : Stand p l e R s m₀ args below meth c W locs cells slots) (hexec : p.tables.exec = Jvm.exec) (htr : e.platform.stackTraces = false) {own cls up : String} {r : List String} {ic : Nat}
    (hown : s.vm.findClass own = some m₀.cls) (hcls : Bundle.fit cls = true) (hnames : ∀ n ∈ up :: r, Bundle.fit n = true)
    (h : ∀ a ∈ xn_own own ic cls (up :: r), a.before args s = true)
    (hlocs : ∀ x ∈ locs, ∀ cell, s.heap[x.base]? = some cell → cell.vm.isStatics = false)
    {a : Addr} {cX : ClassId} {kX : Class} (hfoundX : s.vm.findClass cls = some cX) (hkX : s.vm.classes[cX]? = some kX) (hcell : W.heap[a]? = some (freshCell cX kX)) (hnew : s.heap.size ≤ a)
    {msg : Value} (hmsg : msg.isRef = true)
    {g : JFrame} (hg : g.method = m₀) (hsize : g.locals.size = c.maxLocals) (hlocked : g.locked = none) (hentered : g.entered = []) {rest : List Value} (hstack : g.stack = msg :: .ref a :: .ref a :: rest)
    (hd6 : decode c.code g.pc = .ok (.invokespecial ic, 3)) (hd9 : decode c.code (g.pc + 3) = .ok (.athrow, 1)) (hout : ∀ x ∈ c.exceptionTable.toList, covers x (g.pc + 3) = false)
    (hRframes : (up :: r).length + 3 < R.frames) (hRlocals : 2 * g.monitorRoom + ((Value.ref a :: rest).map fun v => v.category).sum + (13 * ((up :: r).length + 1) + 42) ≤ R.locals) (hlocks : meth.locks = false) :
    ∃ U : State, Steps p.tables e below (W.setTop g) U ∧ U.status = .running ∧ Ended U below (.threw a) ∧ s.WarmedH U.vm ∧ s.sameButNew ({ U with vm := s.vm } : State) locs cells slots ∧
      ∃ ce, U.heap[a]? = some ce ∧ s.vm.findClass cls = some ce.cls ∧ ce.vm = .none := by
  have howns : e.platform.frameOwnsMonitors = true := by rw [X.admits.platform]
  have hfin : e.platform.finalization = false := by rw [X.admits.platform]
  have hpl : e.platform.magicAccessors = ({} : Platform).magicAccessors := by rw [X.admits.platform]
  have a' : ∀ x, x ∈ xn_own own ic cls (up :: r) → x.holds args s none s [] = true := fun x hx => h x hx
  obtain ⟨T, Z0, L, -, Y⟩ := ThrowableC.of_atoms (args := args) howns hfin hpl (fun x hx => h x (by simp [xn_own, hx]))
  obtain ⟨Z, M, LZ, LM, hnZ⟩ := Init0T.ofS_atoms (args := args) hpl L Y (fun x hx => h x (by simp [xn_own, hx]))
  obtain ⟨P1, L1, hP1m, hs1⟩ := PassC.ofS_atoms (args := args) (s := s) hpl (X := cls) (Y := up) (index := 13) (bytes := xn_six) (Bundle.fit_spec hcls).1 (Bundle.fit_spec (hnames up List.mem_cons_self)).2 (by decide +kernel) (by decide +kernel) (by decide +kernel) (by decide +kernel) (fun x hx => h x (by simp [xn_own, hx]))
  obtain ⟨P2, Ps, hlen, L2, hL, hP2m, hlink2, hlink⟩ := Bundle.chainS (args := args) hpl hnZ r up (hnames up List.mem_cons_self) (fun n hn => hnames n (List.mem_cons_of_mem _ hn)) (fun x hx => h x (by simp [xn_own, hx]))
  have hsup : P1.sup = P2.m := Option.some.inj (hs1.symm.trans hP2m)
  have hfound : s.vm.findClass cls = some P1.m.cls := findClass_of_methodNamed hP1m
  cases Option.some.inj (hfoundX.symm.trans hfound)
  obtain ⟨c1, kX', hc1, hk, hord, -, -, hn6⟩ := Cond.instantiable_spec (a' (.instantiable cls 6) (by simp [xn_own]))
  cases Option.some.inj (hc1.symm.trans hfound)
  cases Option.some.inj (hkX.symm.trans hk)
  have hsel : ∀ (f : MethodName) (mf : MethodId), s.methodNamed? f = some mf → (f.cls ≠ "java/lang/invoke/MethodHandle" ∧ f.cls ≠ "java/lang/invoke/VarHandle") → (Cond.selects cls f f).holds args s none s [] = true → selectMethod e.platform s.vm P1.m.cls mf = .method mf := by
    intro f mf hf hne hs
    obtain ⟨c2, r2, m2, q1, q2, q3, q4, -⟩ := Cond.selects_spec hs
    cases Option.some.inj (q1.symm.trans hfound)
    cases Option.some.inj (q2.symm.trans (State.methodFound?_of_named hf hne))
    cases Option.some.inj (q3.symm.trans hf)
    rw [Launch.admits_selectMethod X.admits]; exact q4
  obtain ⟨cellS0, hcS0, hiss⟩ := Y.statics
  obtain ⟨u0, hu0⟩ := Cond.staticRefV Y.unassigned L.unassignedStatic L.statics hcS0 hiss (a' (.isRef (.static Bundle.tN "UNASSIGNED_STACK" Bundle.steD)) (by simp [xn_own]))
  obtain ⟨sen, hsen⟩ := Cond.staticRefV Y.sentinel L.sentinelStatic L.statics hcS0 hiss (a' (.isRef (.static Bundle.tN "SUPPRESSED_SENTINEL" Bundle.listD)) (by simp [xn_own]))
  obtain ⟨ci198, i198, fB, hk198, hg198, ha198, hsB, -, hnB, htB, hffB⟩ := Cond.ownField (t := .object "java/lang/Object") Y.found L.cls (by decide +kernel) (a' (.fieldLink Bundle.tN 198 Bundle.tN "backtrace" "Ljava/lang/Object;") (by simp [xn_own])) (a' (.lays Bundle.tN Bundle.tN "backtrace" "Ljava/lang/Object;") (by simp [xn_own])) e.platform hpl
  obtain ⟨cellS, hcS', heS, -, hkeep⟩ := X.same.2.2.2.2.2 T.aS cellS0 hcS0
  have hcellS : W.heap[T.aS]? = some cellS := hcS'
  have hout' : ∀ i, (⟨T.aS, i⟩ : Loc) ∉ locs := fun i hmem => by
    have := hlocs _ hmem cellS0 hcS0
    rw [hiss] at this; cases this
  have hknownS : cellS.vm ≠ .unknown := by
    rw [heS]; intro hu
    rw [show cellS0.vm = .unknown from hu] at hiss
    cases hiss
  have hneS : T.aS ≠ a := Nat.ne_of_lt (Nat.lt_of_lt_of_le (Array.getElem?_eq_some_iff.mp hcS0).1 hnew)
  obtain ⟨iM, hffM⟩ := Y.msg
  obtain ⟨tyC, dC, hdC, hdnC⟩ := Cond.laysAt hfound hk Y.cause (a' (.lays cls Bundle.tN "cause" "Ljava/lang/Throwable;") (by simp [xn_own]))
  obtain ⟨tyS, dS, hdS, hdnS⟩ := Cond.laysAt hfound hk Y.stack (a' (.lays cls Bundle.tN "stackTrace" Bundle.steD) (by simp [xn_own]))
  obtain ⟨tyP, dP, hdP, hdnP⟩ := Cond.laysAt hfound hk Y.supp (a' (.lays cls Bundle.tN "suppressedExceptions" Bundle.listD) (by simp [xn_own]))
  obtain ⟨tyM, dM, hdM, hdnM⟩ := Cond.laysAt hfound hk hffM (a' (.lays cls Bundle.tN "detailMessage" "Ljava/lang/String;") (by simp [xn_own]))
  obtain ⟨tyB, dB, hdB, hdnB⟩ := Cond.laysAt hfound hk hffB (a' (.lays cls Bundle.tN "backtrace" "Ljava/lang/Object;") (by simp [xn_own]))
  have bC := Cond.laysApart hdB hdC hdnB hdnC (by rw [hnB, Y.causeName]; decide)
  have bS := Cond.laysApart hdB hdS hdnB hdnS (by rw [hnB, Y.stackName]; decide)
  have bP := Cond.laysApart hdB hdP hdnB hdnP (by rw [hnB, Y.suppName]; decide)
  have hskip : SkipFacts T e.platform s (fun u => u) u0 ((preparedCellV T.toThrowableT (freshCell P1.m.cls kX) a u0 sen).withEntry W.cur) :=
    ⟨{ ci198 := ci198, i198 := i198, fBack := fB }, ⟨hk198, hg198, ha198, hsB⟩, by
      have := fresh_default (c := P1.m.cls) tyB
      rw [htB] at this
      simpa [preparedCellV, Cell.setSlot, Cell.withEntry, Array.getElem?_setIfInBounds, bC, bS, bP, bC.symm, bS.symm, bP.symm, defaultValue] using this, fun _ _ => rfl⟩
  obtain ⟨tm, methC, cdC, kC, vm₁, hnC, -, -, -, -, -, -, -, hW₁, st1⟩ := Steps.initColdS (tb := p.tables) (e := e) (below := below) (s := s) (U := W) X.here hexec X.warmed hpl hown (t := Bundle.initS cls) rfl rfl (Bundle.fit_spec hcls).2
    (a' (.methodLink own ic (Bundle.initS cls)) (by simp [xn_own])) (h (.instanceMethod (Bundle.initS cls)) (by simp [xn_own, Bundle.passSAtoms])) (bytes := xn_six) (maxL := 2) (h (.code (Bundle.initS cls) xn_six 2 none) (by simp [xn_own, Bundle.passSAtoms]))
    (f := g) hg (a := a) (msg := msg) (rest := .ref a :: rest) hstack hd6
  cases Option.some.inj (hnC.symm.trans hP1m)
  have X₁ := X.noted hW₁
  obtain ⟨vm₂, X₂, st2⟩ := X₁.ctorMessageOffV hexec (g := { g with stack := .ref a :: rest }) hg hsize T L Z LZ M LM (P1 :: P2 :: Ps)
    (fun P hP => by
      rcases List.mem_cons.mp hP with rfl | hP
      · exact L1
      · rcases List.mem_cons.mp hP with rfl | hP
        · exact L2
        · exact hL P hP) ⟨hsup, hlink2, hlink⟩ (u0 := u0) (sen := sen) (self := a) hmsg (cell := freshCell P1.m.cls kX) (cellS := cellS)
    hcell (fun _ => by simp) (by simp) rfl rfl (hsel _ _ Y.fill0 (by decide) (a' _ (by simp [xn_own]))) (hsel _ _ Y.fill (by decide) (a' _ (by simp [xn_own]))) hcellS hneS hknownS (by rw [hkeep _ (hout' _)]; exact hu0) (by rw [hkeep _ (hout' _)]; exact hsen)
    (Takes.of_laid hk hord tyC (by rw [Y.causeType]; rfl)) (Takes.of_laid hk hord tyS (by rw [Y.stackType]; exact fits_refV_array _ u0)) (Takes.of_laid hk hord tyP (by rw [Y.suppType]; exact fits_refV_object _ sen))
    (Takes.of_laid hk hord tyM (by rw [Y.msgType]; exact fits_refV_object _ ⟨msg, hmsg⟩)) Y.objLocals hskip htr [] hd6
    (by simp only [List.length_cons, hlen] at hRframes ⊢; omega) (by simp only [List.length_cons, hlen] at hRlocals ⊢; omega)
  obtain ⟨hwalk, hrun, hended, hWU, hsame⟩ := X₂.athrowLeaves hexec (g := { g with stack := .ref a :: rest, pc := g.pc + 3 }) hg hlocked hentered hout (a := a) (rest := rest) rfl hd9 hlocks
  have hlt : a < ((W.setVm vm₁).setVm vm₂).heap.size := (Array.getElem?_eq_some_iff.mp hcell).1
  have hU := heapAt_setCell_self (s := (W.setVm vm₁).setVm vm₂) (plainBareV T.toThrowableT (freshCell P1.m.cls kX) a u0 sen msg) hlt
  refine ⟨_, st1 _ (fun acts => ?_), hrun, hended, hWU, hsame.weaken (fun y hy hlt' => ?_) (Nat.le_refl _) (Nat.le_refl _), _, hU, hfound, rfl⟩
  · rw [doInvoke_state]
    exact st2 _ hwalk
  · rcases List.mem_append.mp hy with h1 | h1
    · exact h1
    · exfalso
      have hb : y.base = a := by
        simp only [List.mem_cons, List.not_mem_nil, or_false] at h1
        rcases h1 with rfl | rfl | rfl | rfl | rfl <;> rfl
      rw [hb] at hlt'
      exact Nat.not_lt.mpr hnew hlt'
end XN
end
section
/-! ===== BEGIN words of one list among another's, by their places ===== -/
theorem goodIn_r {big : List Cond} (ws : List Cond) (ps : List Nat) (hp : ws = ps.filterMap (fun i => big[i]?)) (h : ws.all goodWord = true) : GoodIn big ws := by
  intro w hw
  have h1 := List.all_eq_true.mp h w hw
  rw [hp] at hw
  obtain ⟨i, -, hi⟩ := List.mem_filterMap.mp hw
  have hm : w ∈ big := by first | exact List.mem_of_getElem? hi | exact List.getElem?_mem hi
  exact ⟨hm, good_of_word h1⟩
theorem goodIn_app {big a b : List Cond} (ha : GoodIn big a) (hb : GoodIn big b) : GoodIn big (a ++ b) := fun w h => (List.mem_append.mp h).elim (ha w) (hb w)
theorem goodIn_ca {big a b : List Cond} {c : Cond} (ha : GoodIn big (c :: a)) (hb : GoodIn big b) : GoodIn big (c :: (a ++ b)) := fun w h => (List.mem_cons.mp h).elim (fun e => ha w (List.mem_cons.mpr (Or.inl e))) (fun h => (List.mem_append.mp h).elim (fun h => ha w (List.mem_cons.mpr (Or.inr h))) (hb w))
theorem goodIn_sub {big ws : List Cond} (hm : ∀ w ∈ ws, w ∈ big) (h : ws.all goodWord = true) : GoodIn big ws := fun w hw => ⟨hm w hw, good_of_word (List.all_eq_true.mp h w hw)⟩
/-! ===== END ===== -/

/-! ===== BEGIN exceptions that leave a method, and their catching by the caller (launches without stack traces) ===== -/
section VXA
/-! The laws vx_back, vx_callV, vx_callS, vx_callSW, vx_throw0, vx_throwS follow proofs of the library, with one case more: JvmDerived/Free/Laws.lean (Back.of_free), Shelf42/LK1.lean (callV, callS), Shelf/KitTraced.lean (throwNew0V, throwNewS). -/

/-- where a method has thrown q: the class by its name, the cell, what was written, the world -/
def vx_T (XC : String → State → State → Prop) (st : State) (q : Addr) (t : State) (mc ms : Nat) (free : Addr → Prop) : Prop :=
  ∃ (E : String) (ce : Cell) (L : List Loc), XC E st t ∧ t.heap[q]? = some ce ∧ ce.vm = .none ∧ st.vm.findClass E = some ce.cls ∧ st.WarmedH t.vm ∧ st.sameButNew ({ t with vm := st.vm } : State) L mc ms ∧ ∀ z ∈ L, free z.base
def vx_Q (Qc : Array Value → State → Outcome → State → Prop) (XC : String → State → State → Prop) (mc ms : Nat) (free : Addr → Prop) : Array Value → State → Outcome → State → Prop := fun a st o t =>
  (Qc a st o t ∧ ∃ L, FrameEnd st o t L mc ms ∧ ∀ q ∈ L, free q.base) ∨ ∃ q, o = .threw q ∧ vx_T XC st q t mc ms free
/-- a callee that returns or throws -/
def vx_Met (l : Launch) (y : MethodName) (ws : List Cond) (rm : Room) (Pc : Array Value → State → Prop) (Qc : Array Value → State → Outcome → State → Prop) (XC : String → State → State → Prop) (mc ms : Nat) (free : Addr → Prop) : Prop :=
  MetFree l y (headSpec ws rm) Pc (fun _ _ _ _ _ => True) (vx_Q Qc XC mc ms free)
def vx_Post (XC : String → State → State → Prop) (mc ms : Nat) (free : Addr → Prop) : Pt → Array Value → Addr → Pt → Prop := fun A a q B =>
  ∃ (g : JFrame) (mk : MethodId) (t : State) (L : List Loc) (E : String) (ce : Cell), B.U.heap = t.heap ∧ B.U.vm = t.vm ∧ XC E (A.U.calling g mk a) t ∧ t.heap[q]? = some ce ∧ ce.vm = .none ∧ A.U.vm.findClass E = some ce.cls ∧ B.locs = A.locs ++ L ∧ (∀ z ∈ L, free z.base) ∧ B.cells = A.cells + mc ∧ B.slots = A.slots + ms
def vx_Back (l : Launch) (R : Room) (p : Program) (e : Env) (below : List Frame) (s : State) (sargs : Array Value) (y : MethodName) (len W9 : Nat)
    (Pre : Pt → Array Value → Prop) (Post : Pt → Array Value → Option Value → Pt → Prop) (PostX : Pt → Array Value → Addr → Pt → Prop) : Prop :=
  ∀ (m : MethodId) (meth : Method) (c : Code) (A : Pt) (g : JFrame) (ig : Instr) (mk : MethodId) (a : Array Value),
    Stand p l e R s m sargs below meth c A.U A.locs A.cells A.slots → g.method = m → g.locals.size = c.maxLocals → decode c.code g.pc = .ok (ig, len) →
    2 * g.monitorRoom + (g.stack.map fun v => v.category).sum ≤ W9 → A.U.methodNamed? y = some mk → Pre A a →
    (∃ (v : Option Value) (B : Pt), Stand p l e R s m sargs below meth c B.U B.locs B.cells B.slots ∧ Post A a v B ∧
      Steps p.tables e below (doInvoke e (A.U.setTop g) [] mk a).1 (B.U.setTop { g with pc := g.pc + len, stack := v.toList ++ g.stack })) ∨
    (∃ (q : Addr) (B : Pt), Stand p l e R s m sargs below meth c B.U B.locs B.cells B.slots ∧ PostX A a q B ∧
      Steps p.tables e below (doInvoke e (A.U.setTop g) [] mk a).1 ((B.U.setTop g).pushFrame (.throwing q)))
section Payer
variable {l : Launch} {R : Room} {p : Program} {e : Env} {below : List Frame} {s : State} {sargs : Array Value} {y : MethodName} {len W9 : Nat}
theorem vx_back {ws : List Cond} {rm : Room} {Pc : Array Value → State → Prop} {Qc : Array Value → State → Outcome → State → Prop} {XC : String → State → State → Prop} {mc ms : Nat} {free : Addr → Prop} {bytes : ByteArray} {maxL : Nat} {ret : Option FieldType}
    (hM : vx_Met l y ws rm Pc Qc XC mc ms free) (hblind : FrameBlind Pc) (hrc : rm.cells = mc) (hrs : rm.slots = ms)
    (hframes : rm.frames + 1 ≤ R.frames) (hlocals : W9 + (maxL + 11) + rm.locals ≤ R.locals)
    (hws : ∀ w ∈ ws, ∀ a' U, s.WarmedH U.vm → w.before a' U = true) (hcode : Cond.code y bytes maxL ret ∈ ws) (hinit : ∀ a' U, s.WarmedH U.vm → (Cond.initialized y.cls).before a' U = true) :
    vx_Back l R p e below s sargs y len W9 (PreOf R mc ms Pc) (PostOf Qc mc ms free) (vx_Post XC mc ms free) := by
  intro m meth c A g ig mk a X hg hsize hdg hW hn hp
  have h1 : (headSpec ws rm).pre.before a A.U = true := atoms_intro fun w hw => hws w hw _ _ X.warmed
  have h2 : (Cond.code y bytes maxL ret).before a A.U = true := hws _ hcode _ _ X.warmed
  have h3 : (Cond.initialized y.cls).before a A.U = true := hinit _ _ X.warmed
  have h4 : A.cells + (headSpec ws rm).room.cells ≤ R.cells := by rw [show (headSpec ws rm).room.cells = mc from hrc]; exact hp.1
  have h5 : A.slots + (headSpec ws rm).room.slots ≤ R.slots := by rw [show (headSpec ws rm).room.slots = ms from hrs]; exact hp.2.1
  have hPc : Pc a (A.U.calling g mk a) := hblind _ _ _ _ hp.2.2
  obtain ⟨U, Ls, c0, s0⟩ := A
  dsimp only [Pt.U, Pt.locs, Pt.cells, Pt.slots] at h1 h2 h3 h4 h5 X hn hPc ⊢
  obtain ⟨methY, cY, hmY, hcY, -, hlY, -, -, -, -⟩ := Cond.code_spec hn h2
  obtain ⟨kY, hkY, -⟩ := className_of_methodNamed hn
  have hinitY : kY.init = .initialized := Cond.initialized_spec (findClass_of_methodNamed hn) hkY h3
  have h : At U g.method c below := by rw [hg]; exact X.here
  have hlocals9 : W9 + (maxL + 11) + (headSpec ws rm).room.locals ≤ R.locals := hlocals
  have happ : (headSpec ws rm).appliesLoose y e.platform (U.calling g mk a) = true :=
    Spec.appliesLoose_calling (g := g) h hdg hn hkY hinitY
      (X.room_calling (g := g) (R' := (headSpec ws rm).room) hsize hmY hcY hframes (by rw [hlY]; omega) h4 h5) h1
  obtain ⟨mid, hmid⟩ := h.above
  have hfr : (U.setTop g).frames = (.java g :: mid) ++ below := by rw [State.frames_setTop' g h.top, hmid]; rfl
  obtain ⟨o, s₂, hsteps, -, hend, hq⟩ := Steps.callFree hM p X.admits X.cas X.clock (acts := []) hfr happ hPc trivial
  have hq' : vx_Q Qc XC mc ms free a (U.calling g mk a) o s₂ := hq
  rw [State.frames_setTop' g h.top] at hend
  obtain ⟨g₀, hg0⟩ := Option.isSome_iff_exists.mp h.top
  obtain ⟨r, hr⟩ := State.topJava?_eq_some.mp hg0
  have hr' : (({ U with heap := s₂.heap, slotsUsed := s₂.slotsUsed } : State).setVm s₂.vm).frames = .java g₀ :: r := hr
  rcases hq' with ⟨hqc, L, hfe, hL⟩ | ⟨q, rfl, E, ce, L, hx, hce, hcv, hcl, hW₂, hsm, hL⟩
  · obtain ⟨⟨v, rfl⟩, hW₂, e2, q2, q3, q4, q5, q6⟩ := id hfe
    have e3 : s₂ = ({ (U.calling g mk a).setFrames s₂.frames with heap := s₂.heap, slotsUsed := s₂.slotsUsed } : State).setVm s₂.vm := by
      have : s₂ = ({ s₂ with vm := (U.calling g mk a).vm } : State).setVm s₂.vm := rfl
      rw [e2] at this
      exact this
    obtain ⟨c₂, i₂, len₂, hc₂, hd₂, hf₂⟩ := hend
    have hW' : U.WarmedH s₂.vm := hW₂
    have hcc : c₂ = c := by
      have h1 : s₂.code? g.method = U.code? g.method := by
        rw [State.code?_eq, State.code?_eq, hW'.alike.method?]
      exact Option.some.inj (hc₂.symm.trans (h1.trans h.code))
    subst hcc
    have hlen : len₂ = len := by rw [hdg] at hd₂; cases hd₂; rfl
    subst hlen
    have hs₂ : s₂ = (({ U with heap := s₂.heap, slotsUsed := s₂.slotsUsed } : State).setVm s₂.vm).setTop { g with pc := g.pc + len₂, stack := v.toList ++ g.stack } := by
      refine e3.trans ?_
      rw [hf₂, State.calling_eq h.top, State.setFrames_setFrames, State.setTop_of_frames _ hr', hr]
      rfl
    have hsame : U.sameButNew ({ U with heap := s₂.heap, slotsUsed := s₂.slotsUsed } : State) L mc ms := by
      refine ⟨?_, q2, q3, q4, q5, q6⟩
      obtain ⟨t, ht, -⟩ := State.frames_cons hr
      show ({ U with heap := s₂.heap, slotsUsed := s₂.slotsUsed } : State) = { U.setFrames U.frames with heap := s₂.heap, slotsUsed := s₂.slotsUsed }
      rw [State.setFrames_self ht]
    subst hg
    refine Or.inl ⟨v, ⟨(({ U with heap := s₂.heap, slotsUsed := s₂.slotsUsed } : State).setVm s₂.vm), Ls ++ L, c0 + mc, s0 + ms⟩,
      ⟨X.admits, X.cas, X.clock, X.frames, X.room, X.hears, X.method, X.code, (X.here.setHeapUsed s₂.heap s₂.slotsUsed).setVm hW'.alike, X.tail, State.WarmedH.trans X.warmed hW', X.limits, X.bytes, X.same.trans (hsame.setVm s.vm)⟩,
      ⟨g, mk, s₂, L, rfl, rfl, hqc, rfl, hL, rfl, rfl⟩, ?_⟩
    show Steps p.tables e below _ ((({ U with heap := s₂.heap, slotsUsed := s₂.slotsUsed } : State).setVm s₂.vm).setTop { g with pc := g.pc + len₂, stack := v.toList ++ g.stack })
    rw [← hs₂]
    exact hsteps
  · obtain ⟨e2, q2, q3, q4, q5, q6⟩ := id hsm
    have e3 : s₂ = ({ (U.calling g mk a).setFrames s₂.frames with heap := s₂.heap, slotsUsed := s₂.slotsUsed } : State).setVm s₂.vm := by
      have : s₂ = ({ s₂ with vm := (U.calling g mk a).vm } : State).setVm s₂.vm := rfl
      rw [e2] at this
      exact this
    have hf₂ : s₂.frames = .throwing q :: .java g :: U.frames.tail := hend
    have hW' : U.WarmedH s₂.vm := hW₂
    have hs₂ : s₂ = ((({ U with heap := s₂.heap, slotsUsed := s₂.slotsUsed } : State).setVm s₂.vm).setTop g).pushFrame (.throwing q) := by
      refine e3.trans ?_
      rw [hf₂, State.calling_eq h.top, State.setFrames_setFrames, State.pushFrame, State.frames_setTop _ hr', State.setTop_of_frames _ hr', State.setFrames_setFrames, hr]
      rfl
    have hsame : U.sameButNew ({ U with heap := s₂.heap, slotsUsed := s₂.slotsUsed } : State) L mc ms := by
      refine ⟨?_, q2, q3, q4, q5, q6⟩
      obtain ⟨t, ht, -⟩ := State.frames_cons hr
      show ({ U with heap := s₂.heap, slotsUsed := s₂.slotsUsed } : State) = { U.setFrames U.frames with heap := s₂.heap, slotsUsed := s₂.slotsUsed }
      rw [State.setFrames_self ht]
    subst hg
    refine Or.inr ⟨q, ⟨(({ U with heap := s₂.heap, slotsUsed := s₂.slotsUsed } : State).setVm s₂.vm), Ls ++ L, c0 + mc, s0 + ms⟩,
      ⟨X.admits, X.cas, X.clock, X.frames, X.room, X.hears, X.method, X.code, (X.here.setHeapUsed s₂.heap s₂.slotsUsed).setVm hW'.alike, X.tail, State.WarmedH.trans X.warmed hW', X.limits, X.bytes, X.same.trans (hsame.setVm s.vm)⟩,
      ⟨g, mk, s₂, L, E, ce, rfl, rfl, hx, hce, hcv, hcl, rfl, hL, rfl, rfl⟩, ?_⟩
    show Steps p.tables e below _ (((({ U with heap := s₂.heap, slotsUsed := s₂.slotsUsed } : State).setVm s₂.vm).setTop g).pushFrame (.throwing q))
    rw [← hs₂]
    exact hsteps
end Payer
section Calls
variable {p : Program} {l : Launch} {e : Env} {R : Room} {s : State} {m : MethodId} {args : Array Value} {below : List Frame} {meth : Method} {c : Code} {T : State} {locs : List Loc} {cells slots : Nat}
theorem vx_callV (X : Stand p l e R s m args below meth c T locs cells slots) (hexec : p.tables.exec = Jvm.exec) {own C : String} {index : Nat} {y : MethodName} {bytes : ByteArray} {maxL : Nat} {ret : Option FieldType}
    (hown : s.vm.findClass own = some m.cls) (hlink : (Cond.methodLink own index y).before args s = true) (hinst : (Cond.instanceMethod y).before args s = true) (hsel : (Cond.selects C y y).before args s = true)
    (hcode : (Cond.code y bytes maxL ret).before args s = true) (hy : y.cls ≠ "java/lang/invoke/MethodHandle" ∧ y.cls ≠ "java/lang/invoke/VarHandle")
    {W9 : Nat} {Pre : Pt → Array Value → Prop} {Post : Pt → Array Value → Option Value → Pt → Prop} {PostX : Pt → Array Value → Addr → Pt → Prop} (hK : vx_Back l R p e below s args y 3 W9 Pre Post PostX)
    {b : Addr} {cellB : Cell} (hcell : T.heap[b]? = some cellB) (hobj : cellB.vm.isStatics = false) (hcls : s.vm.findClass C = some cellB.cls)
    {g : JFrame} (hg : g.method = m) (hsize : g.locals.size = c.maxLocals) {argsL rest : List Value} (hlen : ∀ sig, parseMethodDescriptor y.desc = some sig → argsL.length = sig.parameters.length)
    (hstack : g.stack = argsL.reverse ++ .ref b :: rest) (hW : 2 * g.monitorRoom + (rest.map fun v => v.category).sum ≤ W9) (hdg : decode c.code g.pc = .ok (.invokevirtual index, 3))
    (hpre : ∀ vm₁, s.WarmedH vm₁ → Pre ⟨T.setVm vm₁, locs, cells, slots⟩ (Value.ref b :: argsL).toArray) :
    (∃ (v : Option Value) (vm₁ : Vm) (B : Pt), s.WarmedH vm₁ ∧ Stand p l e R s m args below meth c B.U B.locs B.cells B.slots ∧ Post ⟨T.setVm vm₁, locs, cells, slots⟩ (Value.ref b :: argsL).toArray v B ∧
      ∀ target, Steps p.tables e below (B.U.setTop { g with pc := g.pc + 3, stack := v.toList ++ rest }) target → Steps p.tables e below (T.setTop g) target) ∨
    (∃ (q : Addr) (vm₁ : Vm) (B : Pt), s.WarmedH vm₁ ∧ Stand p l e R s m args below meth c B.U B.locs B.cells B.slots ∧ PostX ⟨T.setVm vm₁, locs, cells, slots⟩ (Value.ref b :: argsL).toArray q B ∧
      Steps p.tables e below (T.setTop g) ((B.U.setTop { g with stack := rest }).pushFrame (.throwing q))) := by
  obtain ⟨mk, methM, hnamed, hmethM, hstM, habM⟩ := Cond.instanceMethod_spec hinst
  obtain ⟨methM', cM, hmethM', -, -, -, -, -, -, hsigM⟩ := Cond.code_spec hnamed hcode
  cases hmethM.symm.trans hmethM'
  obtain ⟨c2, r2, m2, q1, q2, q3, q4, kP, hkP, hkPi⟩ := Cond.selects_spec hsel
  cases hcls.symm.trans q1
  cases (State.methodFound?_of_named hnamed hy).symm.trans q2
  cases hnamed.symm.trans q3
  have hselP : selectMethod e.platform s.vm cellB.cls mk = .method mk := by rw [Launch.admits_selectMethod X.admits]; exact q4
  obtain ⟨vm₁, X₁, hstep₁⟩ := X.invokevirtual hexec hown hlink hnamed hmethM hstM hkP hkPi hy (a := b) (cell := cellB) hcell
    (fun z h => by rw [h] at hobj; cases hobj) hselP hmethM habM hkP hkPi (g := g) hg (argsL := argsL) (rest := rest) (hlen _ hsigM) hstack hdg
  rcases hK m meth c ⟨T.setVm vm₁, locs, cells, slots⟩ { g with stack := rest } (.invokevirtual index) mk (Value.ref b :: argsL).toArray X₁ hg hsize hdg hW (X₁.named hnamed) (hpre vm₁ X₁.warmed) with ⟨v, B, X', hpost, hsteps⟩ | ⟨q, B, X', hpost, hsteps⟩
  · exact Or.inl ⟨v, vm₁, B, X₁.warmed, X', hpost, fun target h => hstep₁ _ fun acts => by rw [doInvoke_state]; exact hsteps.trans h⟩
  · exact Or.inr ⟨q, vm₁, B, X₁.warmed, X', hpost, hstep₁ _ fun acts => by rw [doInvoke_state]; exact hsteps⟩
theorem vx_callS (X : Stand p l e R s m args below meth c T locs cells slots) (hexec : p.tables.exec = Jvm.exec) {own : String} {index : Nat} {y : MethodName} {bytes : ByteArray} {maxL : Nat} {ret : Option FieldType}
    (hown : s.vm.findClass own = some m.cls) (hlink : (Cond.methodLink own index y).before args s = true) (hstat : (Cond.static y).before args s = true) (hinit : (Cond.initialized y.cls).before args s = true)
    (hcode : (Cond.code y bytes maxL ret).before args s = true) (hy : y.cls ≠ "java/lang/invoke/MethodHandle" ∧ y.cls ≠ "java/lang/invoke/VarHandle")
    {W9 : Nat} {Pre : Pt → Array Value → Prop} {Post : Pt → Array Value → Option Value → Pt → Prop} {PostX : Pt → Array Value → Addr → Pt → Prop} (hK : vx_Back l R p e below s args y 3 W9 Pre Post PostX)
    {g : JFrame} (hg : g.method = m) (hsize : g.locals.size = c.maxLocals) {argsL rest : List Value} (hlen : ∀ sig, parseMethodDescriptor y.desc = some sig → argsL.length = sig.parameters.length)
    (hstack : g.stack = argsL.reverse ++ rest) (hW : 2 * g.monitorRoom + (rest.map fun v => v.category).sum ≤ W9) (hdg : decode c.code g.pc = .ok (.invokestatic index, 3))
    (hpre : ∀ vm₁, s.WarmedH vm₁ → Pre ⟨T.setVm vm₁, locs, cells, slots⟩ argsL.toArray) :
    (∃ (v : Option Value) (vm₁ : Vm) (B : Pt), s.WarmedH vm₁ ∧ Stand p l e R s m args below meth c B.U B.locs B.cells B.slots ∧ Post ⟨T.setVm vm₁, locs, cells, slots⟩ argsL.toArray v B ∧
      ∀ target, Steps p.tables e below (B.U.setTop { g with pc := g.pc + 3, stack := v.toList ++ rest }) target → Steps p.tables e below (T.setTop g) target) ∨
    (∃ (q : Addr) (vm₁ : Vm) (B : Pt), s.WarmedH vm₁ ∧ Stand p l e R s m args below meth c B.U B.locs B.cells B.slots ∧ PostX ⟨T.setVm vm₁, locs, cells, slots⟩ argsL.toArray q B ∧
      Steps p.tables e below (T.setTop g) ((B.U.setTop { g with stack := rest }).pushFrame (.throwing q))) := by
  obtain ⟨mk, hnamed⟩ := Cond.code_named hcode
  obtain ⟨methM, cM, hmethM, -, -, -, -, -, -, hsigM⟩ := Cond.code_spec hnamed hcode
  have hstatic : methM.isStatic = true := Cond.static_spec hnamed hmethM hstat
  obtain ⟨kP, hkP, -⟩ := className_of_methodNamed hnamed
  have hinitP : kP.init = .initialized := Cond.initialized_spec (findClass_of_methodNamed hnamed) hkP hinit
  obtain ⟨vm₁, X₁, hstep₁⟩ := X.invokestatic hexec hown hlink hnamed hmethM hstatic hkP hinitP hy (g := g) hg (argsL := argsL) (rest := rest) (hlen _ hsigM) hstack hdg
  rcases hK m meth c ⟨T.setVm vm₁, locs, cells, slots⟩ { g with stack := rest } (.invokestatic index) mk argsL.toArray X₁ hg hsize hdg hW (X₁.named hnamed) (hpre vm₁ X₁.warmed) with ⟨v, B, X', hpost, hsteps⟩ | ⟨q, B, X', hpost, hsteps⟩
  · exact Or.inl ⟨v, vm₁, B, X₁.warmed, X', hpost, fun target h => hstep₁ _ fun acts => by rw [doInvoke_state]; exact hsteps.trans h⟩
  · exact Or.inr ⟨q, vm₁, B, X₁.warmed, X', hpost, hstep₁ _ fun acts => by rw [doInvoke_state]; exact hsteps⟩
end Calls
theorem vx_cls {s : State} {T : State} {vm₁ : Vm} {E : String} {k : ClassId} (hW : s.WarmedH vm₁) (h : (T.setVm vm₁).vm.findClass E = some k) : s.vm.findClass E = some k := by
  have h1 : vm₁.findClass E = some k := h
  rw [hW.alike.findClass] at h1
  exact h1
/-- the method's frame g, with q thrown over it -/
def vx_W (p : Program) (l : Launch) (e : Env) (R : Room) (s : State) (m : MethodId) (args : Array Value) (below : List Frame) (meth : Method) (c : Code) (H : Heap) (locs : List Loc) (cells slots : Nat) (Q : State → Prop) (g : JFrame) (q : Addr) : Prop :=
  ∀ T : State, T.heap = H → Stand p l e R s m args below meth c T locs cells slots → ∃ t, Steps p.tables e below ((T.setTop g).pushFrame (.throwing q)) t ∧ Q t
def vx_Run (p : Program) (l : Launch) (e : Env) (R : Room) (s : State) (m : MethodId) (args : Array Value) (below : List Frame) (meth : Method) (c : Code) (H : Heap) (locs : List Loc) (cells slots mc ms : Nat) (g : JFrame) (rest : List Value) (Qa : State → Outcome → State → Prop) (XC : String → State → State → Prop) (free : Addr → Prop) : Prop :=
  ∀ T : State, T.heap = H → Stand p l e R s m args below meth c T locs cells slots →
    (∃ (v : Option Value) (st₀ t T' : State) (L : List Loc), st₀.heap = H ∧ Stand p l e R s m args below meth c T' (locs ++ L) (cells + mc) (slots + ms) ∧ (∀ q ∈ L, free q.base) ∧ T'.heap = t.heap ∧ T'.vm = t.vm ∧ Qa st₀ (.returned v) t ∧
      Goes p e below T g T' { g with pc := g.pc + 3, stack := v.toList ++ rest }) ∨
    (∃ (q : Addr) (st₀ t T' : State) (L : List Loc) (E : String) (ce : Cell), st₀.heap = H ∧ Stand p l e R s m args below meth c T' (locs ++ L) (cells + mc) (slots + ms) ∧ (∀ z ∈ L, free z.base) ∧ T'.heap = t.heap ∧ T'.vm = t.vm ∧ XC E st₀ t ∧ t.heap[q]? = some ce ∧ ce.vm = .none ∧ s.vm.findClass E = some ce.cls ∧
      Steps p.tables e below (T.setTop g) ((T'.setTop { g with stack := rest }).pushFrame (.throwing q)))
def vx_X {S : Type} (px : S → Prop) (B : String → S → State → Prop) (A : Nat → Prop) : String → State → State → Prop := fun E st t => ∃ u : S, px u ∧ B E u t ∧ va_F A st t
section Runs
variable {p : Program} {l : Launch} {e : Env} {R : Room} {s : State} {m : MethodId} {args : Array Value} {below : List Frame} {meth : Method} {c : Code} {H : Heap} {locs : List Loc} {cells slots : Nat}
variable {y : MethodName} {bytes cc : ByteArray} {maxL nL mc ms n index : Nat} {ret : Option FieldType} {ws : List Cond} {rm : Room} {Pc : Array Value → State → Prop} {Qc : Array Value → State → Outcome → State → Prop} {XC : String → State → State → Prop} {free : Addr → Prop} {Ts : List Cond} {own C : String} {b : Addr} {As rest : List Value} {g : JFrame}
theorem vx_callBack (cb : CallB R s args own index y bytes maxL ret ws rm mc ms n) (hM : vx_Met l y ws rm Pc Qc XC mc ms free) (hbl : FrameBlind Pc) : vx_Back l R p e below s args y 3 8 (PreOf R mc ms Pc) (PostOf Qc mc ms free) (vx_Post XC mc ms free) := by
  obtain ⟨hrc, hrs, hfr, hlo, hws, hcw, -, hini, -⟩ := cb
  exact vx_back (bytes := bytes) (maxL := maxL) (ret := ret) hM hbl hrc hrs hfr hlo hws hcw (fun a' U hW => word_at hW (Or.inl (by first | rfl | simp [Cond.onTables, Cond.keeps, Cond.steady])) hini)
theorem vx_runV (S : CallFix p m c cc nL s args Ts own) (hM : vx_Met l y ws rm Pc Qc XC mc ms free) (cw : CallW R s args own C index y bytes maxL ret ws rm mc ms n) (hp : PreV s H C b Pc As)
    (hg : g.method = m) (hn : As.length = n) (hsize : g.locals.size = nL) (hstack : g.stack = As.reverse ++ .ref b :: rest) (hW : 2 * g.monitorRoom + (rest.map fun v => v.category).sum ≤ 8) (hdg : decode cc g.pc = .ok (.invokevirtual index, 3)) (hf : cells + mc ≤ R.cells ∧ slots + ms ≤ R.slots) :
    vx_Run p l e R s m args below meth c H locs cells slots mc ms g rest (Qc (Value.ref b :: As).toArray) XC free := by
  have hK : vx_Back l R p e below s args y 3 8 (PreOf R mc ms Pc) (PostOf Qc mc ms free) (vx_Post XC mc ms free) := vx_callBack cw.1 hM hp.1
  obtain ⟨⟨-, -, -, -, -, -, hcode, -, hy, hlen, hl⟩, hin, hse⟩ := cw
  obtain ⟨hx, hb, hml, ho, -⟩ := S
  obtain ⟨-, ⟨cellB, hcB, hoB, hclB⟩, hPc⟩ := hp
  intro T hT X
  rcases vx_callV X hx (C := C) (bytes := bytes) (maxL := maxL) (ret := ret) ho hl hin hse hcode hy hK (by rw [hT]; exact hcB) hoB hclB hg (hsize.trans hml.symm) (argsL := As) (rest := rest) (fun sig h => hn.trans (hlen sig h)) hstack hW (by rw [hb]; exact hdg)
    (fun vm₁ hW₁ => ⟨hf.1, hf.2, hPc (T.setVm vm₁) hT hW₁⟩) with ⟨v, vm₁, ⟨U', l2, c2, s2⟩, hW₁, X', ⟨g', mk, t, L, e1, e2, hq, h1, hL, h2, h3⟩, st⟩ | ⟨q, vm₁, ⟨U', l2, c2, s2⟩, hW₁, X', ⟨g', mk, t, L, E, ce, e1, e2, hq, hce, hcv, hcl, h1, hL, h2, h3⟩, st⟩
  · dsimp only [Pt.U, Pt.locs, Pt.cells, Pt.slots] at X' e1 e2 h1 h2 h3 st
    subst h1; subst h2; subst h3
    exact Or.inl ⟨v, (T.setVm vm₁).calling g' mk (Value.ref b :: As).toArray, t, U', L, hT, X', hL, e1, e2, hq, st⟩
  · dsimp only [Pt.U, Pt.locs, Pt.cells, Pt.slots] at X' e1 e2 h1 h2 h3 st hcl
    subst h1; subst h2; subst h3
    exact Or.inr ⟨q, (T.setVm vm₁).calling g' mk (Value.ref b :: As).toArray, t, U', L, E, ce, hT, X', hL, e1, e2, hq, hce, hcv, vx_cls hW₁ hcl, st⟩
theorem vx_runS (S : CallFix p m c cc nL s args Ts own) (hM : vx_Met l y ws rm Pc Qc XC mc ms free) (cw : CallB R s args own index y bytes maxL ret ws rm mc ms n ∧ (Cond.static y).before args s = true) (hp : PreS s H Pc As)
    (hg : g.method = m) (hn : As.length = n) (hsize : g.locals.size = nL) (hstack : g.stack = As.reverse ++ rest) (hW : 2 * g.monitorRoom + (rest.map fun v => v.category).sum ≤ 8) (hdg : decode cc g.pc = .ok (.invokestatic index, 3)) (hf : cells + mc ≤ R.cells ∧ slots + ms ≤ R.slots) :
    vx_Run p l e R s m args below meth c H locs cells slots mc ms g rest (Qc As.toArray) XC free := by
  have hK : vx_Back l R p e below s args y 3 8 (PreOf R mc ms Pc) (PostOf Qc mc ms free) (vx_Post XC mc ms free) := vx_callBack cw.1 hM hp.1
  obtain ⟨⟨-, -, -, -, -, -, hcode, hini, hy, hlen, hl⟩, hstt⟩ := cw
  obtain ⟨hx, hb, hml, ho, -⟩ := S
  intro T hT X
  rcases vx_callS X hx (bytes := bytes) (maxL := maxL) (ret := ret) ho hl hstt hini hcode hy hK hg (hsize.trans hml.symm) (argsL := As) (rest := rest) (fun sig h => hn.trans (hlen sig h)) hstack hW (by rw [hb]; exact hdg)
    (fun vm₁ hW₁ => ⟨hf.1, hf.2, hp.2 (T.setVm vm₁) hT hW₁⟩) with ⟨v, vm₁, ⟨U', l2, c2, s2⟩, hW₁, X', ⟨g', mk, t, L, e1, e2, hq, h1, hL, h2, h3⟩, st⟩ | ⟨q, vm₁, ⟨U', l2, c2, s2⟩, hW₁, X', ⟨g', mk, t, L, E, ce, e1, e2, hq, hce, hcv, hcl, h1, hL, h2, h3⟩, st⟩
  · dsimp only [Pt.U, Pt.locs, Pt.cells, Pt.slots] at X' e1 e2 h1 h2 h3 st
    subst h1; subst h2; subst h3
    exact Or.inl ⟨v, (T.setVm vm₁).calling g' mk As.toArray, t, U', L, hT, X', hL, e1, e2, hq, st⟩
  · dsimp only [Pt.U, Pt.locs, Pt.cells, Pt.slots] at X' e1 e2 h1 h2 h3 st hcl
    subst h1; subst h2; subst h3
    exact Or.inr ⟨q, (T.setVm vm₁).calling g' mk As.toArray, t, U', L, E, ce, hT, X', hL, e1, e2, hq, hce, hcv, vx_cls hW₁ hcl, st⟩
end Runs
section Rows
variable {p : Program} {l : Launch} {e : Env} {R : Room} {s : State} {m : MethodId} {args : Array Value} {below : List Frame} {meth : Method} {c : Code} {H : Heap} {locs : List Loc} {cells slots : Nat} {Q : State → Prop}
variable {mc ms : Nat} {free : Addr → Prop} {A0 A1 : Nat → Prop} {H0 : Heap} {a : Array Value} {pc : Nat} {ls : Array Slot} {st0 rest : List Value}
theorem vx_keep {st₀ t T' : State} {L : List Loc} (h0 : st₀.heap = H) (e1 : T'.heap = t.heap) (hS : va_S A0 H0 H locs) (hA : ∀ q, q < H.size → A1 q → A0 q) (hf : ∀ q, free q → A0 q) (hL : ∀ q ∈ L, free q.base) (hF : va_F A1 st₀ t) :
    H.size ≤ T'.heap.size ∧ (∀ q : Nat, q < H.size → ¬ A1 q → T'.heap[q]? = H[q]?) ∧ va_S A0 H0 T'.heap (locs ++ L) := by
  obtain ⟨hz, hk⟩ := hF
  rw [h0] at hz hk
  exact ⟨by rw [e1]; exact hz, fun q h1 h2 => by rw [e1]; exact hk q h1 h2,
    ⟨Nat.le_trans hS.1 (by rw [e1]; exact hz), fun q h1 h2 => by rw [e1, hk q (Nat.lt_of_lt_of_le h1 hS.1) (fun z => h2 (hA q (Nat.lt_of_lt_of_le h1 hS.1) z))]; exact hS.2.1 q h1 h2, fun q hq => by
      rcases List.mem_append.mp hq with h | h
      · exact hS.2.2 q h
      · exact hf _ (hL q h)⟩⟩
theorem vx_calli {S SX : Type} {post : Int32 → S → Prop} {px : SX → Prop} {B : S → State → Prop} {BX : String → SX → State → Prop} {AX : Nat → Prop} (hr : vx_Run p l e R s m args below meth c H locs cells slots mc ms (F0 m pc ls st0) rest (va_Qi post B A1 a) (vx_X px BX AX) free) (hS : va_S A0 H0 H locs) (hA : ∀ q, q < H.size → A1 q → A0 q) (hf : ∀ q, free q → A0 q) (hAX : ∀ q, q < H.size → AX q → A0 q)
    (kx : ∀ (E : String) (ce : Cell) (q9 : Addr) (u : SX) (t : State) (H1 : Heap) (locs1 : List Loc), t.heap = H1 → s.vm.Alike t.vm → px u → BX E u t → H.size ≤ H1.size → (∀ q : Nat, q < H.size → ¬ AX q → H1[q]? = H[q]?) → va_S A0 H0 H1 locs1 → H1[q9]? = some ce → ce.vm = .none → s.vm.findClass E = some ce.cls → vx_W p l e R s m args below meth c H1 locs1 (cells + mc) (slots + ms) Q (F0 m pc ls rest) q9)
    (kk : ∀ (r : Int32) (u : S) (t : State) (H1 : Heap) (locs1 : List Loc), t.heap = H1 → s.vm.Alike t.vm → post r u → B u t → H.size ≤ H1.size → (∀ q : Nat, q < H.size → ¬ A1 q → H1[q]? = H[q]?) → va_S A0 H0 H1 locs1 → W p l e R s m args below meth c H1 locs1 (cells + mc) (slots + ms) Q (F0 m (pc + 3) ls (.int r :: rest))) : W p l e R s m args below meth c H locs cells slots Q (F0 m pc ls st0) := by
  intro T hT X
  rcases hr T hT X with ⟨v, st₀, t, T', L, h0, X', hL, e1, e2, ⟨⟨r, u, hv, hp, hb⟩, hF⟩, st⟩ | ⟨q, st₀, t, T', L, E, ce, h0, X', hL, e1, e2, ⟨u, hp, hb, hF⟩, hce, hcv, hcl, st⟩
  · cases hv
    obtain ⟨k1, k2, k3⟩ := vx_keep h0 e1 hS hA hf hL hF
    obtain ⟨t2, a1, b1⟩ := kk r u t T'.heap (locs ++ L) e1.symm (by rw [← e2]; exact X'.warmed.alike) hp hb k1 k2 k3 T' rfl X'
    exact ⟨t2, st t2 a1, b1⟩
  · obtain ⟨k1, k2, k3⟩ := vx_keep h0 e1 hS hAX hf hL hF
    obtain ⟨t2, a1, b1⟩ := kx E ce q u t T'.heap (locs ++ L) e1.symm (by rw [← e2]; exact X'.warmed.alike) hp hb k1 k2 k3 (by rw [e1]; exact hce) hcv hcl T' rfl X'
    exact ⟨t2, st.trans a1, b1⟩
theorem vx_calll {S SX : Type} {post : Int64 → S → Prop} {px : SX → Prop} {B : S → State → Prop} {BX : String → SX → State → Prop} {AX : Nat → Prop} (hr : vx_Run p l e R s m args below meth c H locs cells slots mc ms (F0 m pc ls st0) rest (va_Ql post B A1 a) (vx_X px BX AX) free) (hS : va_S A0 H0 H locs) (hA : ∀ q, q < H.size → A1 q → A0 q) (hf : ∀ q, free q → A0 q) (hAX : ∀ q, q < H.size → AX q → A0 q)
    (kx : ∀ (E : String) (ce : Cell) (q9 : Addr) (u : SX) (t : State) (H1 : Heap) (locs1 : List Loc), t.heap = H1 → s.vm.Alike t.vm → px u → BX E u t → H.size ≤ H1.size → (∀ q : Nat, q < H.size → ¬ AX q → H1[q]? = H[q]?) → va_S A0 H0 H1 locs1 → H1[q9]? = some ce → ce.vm = .none → s.vm.findClass E = some ce.cls → vx_W p l e R s m args below meth c H1 locs1 (cells + mc) (slots + ms) Q (F0 m pc ls rest) q9)
    (kk : ∀ (r : Int64) (u : S) (t : State) (H1 : Heap) (locs1 : List Loc), t.heap = H1 → s.vm.Alike t.vm → post r u → B u t → H.size ≤ H1.size → (∀ q : Nat, q < H.size → ¬ A1 q → H1[q]? = H[q]?) → va_S A0 H0 H1 locs1 → W p l e R s m args below meth c H1 locs1 (cells + mc) (slots + ms) Q (F0 m (pc + 3) ls (.long r :: rest))) : W p l e R s m args below meth c H locs cells slots Q (F0 m pc ls st0) := by
  intro T hT X
  rcases hr T hT X with ⟨v, st₀, t, T', L, h0, X', hL, e1, e2, ⟨⟨r, u, hv, hp, hb⟩, hF⟩, st⟩ | ⟨q, st₀, t, T', L, E, ce, h0, X', hL, e1, e2, ⟨u, hp, hb, hF⟩, hce, hcv, hcl, st⟩
  · cases hv
    obtain ⟨k1, k2, k3⟩ := vx_keep h0 e1 hS hA hf hL hF
    obtain ⟨t2, a1, b1⟩ := kk r u t T'.heap (locs ++ L) e1.symm (by rw [← e2]; exact X'.warmed.alike) hp hb k1 k2 k3 T' rfl X'
    exact ⟨t2, st t2 a1, b1⟩
  · obtain ⟨k1, k2, k3⟩ := vx_keep h0 e1 hS hAX hf hL hF
    obtain ⟨t2, a1, b1⟩ := kx E ce q u t T'.heap (locs ++ L) e1.symm (by rw [← e2]; exact X'.warmed.alike) hp hb k1 k2 k3 (by rw [e1]; exact hce) hcv hcl T' rfl X'
    exact ⟨t2, st.trans a1, b1⟩
theorem vx_callf {S SX : Type} {post : UInt32 → S → Prop} {px : SX → Prop} {B : S → State → Prop} {BX : String → SX → State → Prop} {AX : Nat → Prop} (hr : vx_Run p l e R s m args below meth c H locs cells slots mc ms (F0 m pc ls st0) rest (va_Qf post B A1 a) (vx_X px BX AX) free) (hS : va_S A0 H0 H locs) (hA : ∀ q, q < H.size → A1 q → A0 q) (hf : ∀ q, free q → A0 q) (hAX : ∀ q, q < H.size → AX q → A0 q)
    (kx : ∀ (E : String) (ce : Cell) (q9 : Addr) (u : SX) (t : State) (H1 : Heap) (locs1 : List Loc), t.heap = H1 → s.vm.Alike t.vm → px u → BX E u t → H.size ≤ H1.size → (∀ q : Nat, q < H.size → ¬ AX q → H1[q]? = H[q]?) → va_S A0 H0 H1 locs1 → H1[q9]? = some ce → ce.vm = .none → s.vm.findClass E = some ce.cls → vx_W p l e R s m args below meth c H1 locs1 (cells + mc) (slots + ms) Q (F0 m pc ls rest) q9)
    (kk : ∀ (r : UInt32) (u : S) (t : State) (H1 : Heap) (locs1 : List Loc), t.heap = H1 → s.vm.Alike t.vm → post r u → B u t → H.size ≤ H1.size → (∀ q : Nat, q < H.size → ¬ A1 q → H1[q]? = H[q]?) → va_S A0 H0 H1 locs1 → W p l e R s m args below meth c H1 locs1 (cells + mc) (slots + ms) Q (F0 m (pc + 3) ls (.float r :: rest))) : W p l e R s m args below meth c H locs cells slots Q (F0 m pc ls st0) := by
  intro T hT X
  rcases hr T hT X with ⟨v, st₀, t, T', L, h0, X', hL, e1, e2, ⟨⟨r, u, hv, hp, hb⟩, hF⟩, st⟩ | ⟨q, st₀, t, T', L, E, ce, h0, X', hL, e1, e2, ⟨u, hp, hb, hF⟩, hce, hcv, hcl, st⟩
  · cases hv
    obtain ⟨k1, k2, k3⟩ := vx_keep h0 e1 hS hA hf hL hF
    obtain ⟨t2, a1, b1⟩ := kk r u t T'.heap (locs ++ L) e1.symm (by rw [← e2]; exact X'.warmed.alike) hp hb k1 k2 k3 T' rfl X'
    exact ⟨t2, st t2 a1, b1⟩
  · obtain ⟨k1, k2, k3⟩ := vx_keep h0 e1 hS hAX hf hL hF
    obtain ⟨t2, a1, b1⟩ := kx E ce q u t T'.heap (locs ++ L) e1.symm (by rw [← e2]; exact X'.warmed.alike) hp hb k1 k2 k3 (by rw [e1]; exact hce) hcv hcl T' rfl X'
    exact ⟨t2, st.trans a1, b1⟩
theorem vx_calld {S SX : Type} {post : UInt64 → S → Prop} {px : SX → Prop} {B : S → State → Prop} {BX : String → SX → State → Prop} {AX : Nat → Prop} (hr : vx_Run p l e R s m args below meth c H locs cells slots mc ms (F0 m pc ls st0) rest (va_Qd post B A1 a) (vx_X px BX AX) free) (hS : va_S A0 H0 H locs) (hA : ∀ q, q < H.size → A1 q → A0 q) (hf : ∀ q, free q → A0 q) (hAX : ∀ q, q < H.size → AX q → A0 q)
    (kx : ∀ (E : String) (ce : Cell) (q9 : Addr) (u : SX) (t : State) (H1 : Heap) (locs1 : List Loc), t.heap = H1 → s.vm.Alike t.vm → px u → BX E u t → H.size ≤ H1.size → (∀ q : Nat, q < H.size → ¬ AX q → H1[q]? = H[q]?) → va_S A0 H0 H1 locs1 → H1[q9]? = some ce → ce.vm = .none → s.vm.findClass E = some ce.cls → vx_W p l e R s m args below meth c H1 locs1 (cells + mc) (slots + ms) Q (F0 m pc ls rest) q9)
    (kk : ∀ (r : UInt64) (u : S) (t : State) (H1 : Heap) (locs1 : List Loc), t.heap = H1 → s.vm.Alike t.vm → post r u → B u t → H.size ≤ H1.size → (∀ q : Nat, q < H.size → ¬ A1 q → H1[q]? = H[q]?) → va_S A0 H0 H1 locs1 → W p l e R s m args below meth c H1 locs1 (cells + mc) (slots + ms) Q (F0 m (pc + 3) ls (.double r :: rest))) : W p l e R s m args below meth c H locs cells slots Q (F0 m pc ls st0) := by
  intro T hT X
  rcases hr T hT X with ⟨v, st₀, t, T', L, h0, X', hL, e1, e2, ⟨⟨r, u, hv, hp, hb⟩, hF⟩, st⟩ | ⟨q, st₀, t, T', L, E, ce, h0, X', hL, e1, e2, ⟨u, hp, hb, hF⟩, hce, hcv, hcl, st⟩
  · cases hv
    obtain ⟨k1, k2, k3⟩ := vx_keep h0 e1 hS hA hf hL hF
    obtain ⟨t2, a1, b1⟩ := kk r u t T'.heap (locs ++ L) e1.symm (by rw [← e2]; exact X'.warmed.alike) hp hb k1 k2 k3 T' rfl X'
    exact ⟨t2, st t2 a1, b1⟩
  · obtain ⟨k1, k2, k3⟩ := vx_keep h0 e1 hS hAX hf hL hF
    obtain ⟨t2, a1, b1⟩ := kx E ce q u t T'.heap (locs ++ L) e1.symm (by rw [← e2]; exact X'.warmed.alike) hp hb k1 k2 k3 (by rw [e1]; exact hce) hcv hcl T' rfl X'
    exact ⟨t2, st.trans a1, b1⟩
theorem vx_callv {S SX : Type} {post : S → Prop} {px : SX → Prop} {B : S → State → Prop} {BX : String → SX → State → Prop} {AX : Nat → Prop} (hr : vx_Run p l e R s m args below meth c H locs cells slots mc ms (F0 m pc ls st0) rest (va_Qv post B A1 a) (vx_X px BX AX) free) (hS : va_S A0 H0 H locs) (hA : ∀ q, q < H.size → A1 q → A0 q) (hf : ∀ q, free q → A0 q) (hAX : ∀ q, q < H.size → AX q → A0 q)
    (kx : ∀ (E : String) (ce : Cell) (q9 : Addr) (u : SX) (t : State) (H1 : Heap) (locs1 : List Loc), t.heap = H1 → s.vm.Alike t.vm → px u → BX E u t → H.size ≤ H1.size → (∀ q : Nat, q < H.size → ¬ AX q → H1[q]? = H[q]?) → va_S A0 H0 H1 locs1 → H1[q9]? = some ce → ce.vm = .none → s.vm.findClass E = some ce.cls → vx_W p l e R s m args below meth c H1 locs1 (cells + mc) (slots + ms) Q (F0 m pc ls rest) q9)
    (kk : ∀ (u : S) (t : State) (H1 : Heap) (locs1 : List Loc), t.heap = H1 → s.vm.Alike t.vm → post u → B u t → H.size ≤ H1.size → (∀ q : Nat, q < H.size → ¬ A1 q → H1[q]? = H[q]?) → va_S A0 H0 H1 locs1 → W p l e R s m args below meth c H1 locs1 (cells + mc) (slots + ms) Q (F0 m (pc + 3) ls (rest))) : W p l e R s m args below meth c H locs cells slots Q (F0 m pc ls st0) := by
  intro T hT X
  rcases hr T hT X with ⟨v, st₀, t, T', L, h0, X', hL, e1, e2, ⟨⟨u, hv, hp, hb⟩, hF⟩, st⟩ | ⟨q, st₀, t, T', L, E, ce, h0, X', hL, e1, e2, ⟨u, hp, hb, hF⟩, hce, hcv, hcl, st⟩
  · cases hv
    obtain ⟨k1, k2, k3⟩ := vx_keep h0 e1 hS hA hf hL hF
    obtain ⟨t2, a1, b1⟩ := kk u t T'.heap (locs ++ L) e1.symm (by rw [← e2]; exact X'.warmed.alike) hp hb k1 k2 k3 T' rfl X'
    exact ⟨t2, st t2 a1, b1⟩
  · obtain ⟨k1, k2, k3⟩ := vx_keep h0 e1 hS hAX hf hL hF
    obtain ⟨t2, a1, b1⟩ := kx E ce q u t T'.heap (locs ++ L) e1.symm (by rw [← e2]; exact X'.warmed.alike) hp hb k1 k2 k3 (by rw [e1]; exact hce) hcv hcl T' rfl X'
    exact ⟨t2, st.trans a1, b1⟩
/-- caught by the row x of this method's table; the rows ahead don't take it -/
theorem vx_catch {own name : String} {E : String} {ce : Cell} {q : Addr} (hown : s.vm.findClass own = some m.cls) (pre : List ExceptionTableEntry) (x : ExceptionTableEntry) (suf : List ExceptionTableEntry) (hsplit : c.exceptionTable.toList = pre ++ x :: suf)
    (hpass : ∀ z ∈ pre, covers z pc = false ∨ (z.catchType ≠ 0 ∧ ∃ nm : String, (Cond.classLink own z.catchType nm).before args s = true ∧ va_Nc E nm s)) (hx : covers x pc = true) (h0 : x.catchType ≠ 0)
    (hlink : (Cond.classLink own x.catchType name).before args s = true) (hcast : (Cond.castable E name).before args s = true) (hcell : H[q]? = some ce) (hv : ce.vm = .none) (hcl : s.vm.findClass E = some ce.cls)
    (kk : W p l e R s m args below meth c H locs cells slots Q (F0 m x.handlerPc ls [.ref q])) : vx_W p l e R s m args below meth c H locs cells slots Q (F0 m pc ls rest) q := by
  intro T hT X
  have hpl : e.platform.magicAccessors = ({} : Platform).magicAccessors := by rw [X.admits.platform]
  obtain ⟨c3, c4, hc3, hc4, hasg⟩ := Cond.castable_spec hcast
  cases Option.some.inj (hc3.symm.trans hcl)
  obtain ⟨c5, hc5, hcl5⟩ := Cond.classLink_spec hown hlink e.platform hpl
  cases Option.some.inj (hc4.symm.trans hc5)
  obtain ⟨vm', X', st⟩ := xc_through X q (g := F0 m pc ls rest) rfl (Steps.refl _) (by rw [hT]; exact hcell) (by rw [hv]; rfl) (by obtain ⟨k9, h9, -⟩ := Vm.findClass_spec hcl; exact ⟨k9, h9⟩) pre x suf hsplit
    (fun z hz => by
      rcases hpass z hz with h | ⟨hz0, nm, hl1, hn1⟩
      · exact Or.inl h
      · obtain ⟨c6, hc6, hcl6⟩ := Cond.classLink_spec hown hl1 e.platform hpl
        obtain ⟨a8, b8, h1, h2, h3⟩ := hn1
        cases Option.some.inj (h1.symm.trans hcl)
        cases Option.some.inj (h2.symm.trans hc6)
        exact Or.inr ⟨hz0, _, hcl6, h3⟩) hx h0 hcl5 hasg
  obtain ⟨t, a1, b1⟩ := kk (T.setVm vm') hT X'
  exact ⟨t, st.trans a1, b1⟩
end Rows
section Ends
variable {p : Program} {l : Launch} {e : Env} {R : Room} {s : State} {m : MethodId} {args : Array Value} {below : List Frame} {meth : Method} {c : Code} {H : Heap} {locs : List Loc} {cells slots : Nat} {Q : State → Prop}
variable {mc ms : Nat} {free : Addr → Prop} {A0 A1 : Nat → Prop} {H0 : Heap} {a : Array Value} {ls : Array Slot} {st0 rest : List Value}
variable {Qc : Array Value → State → Outcome → State → Prop} {XC : String → State → State → Prop}
/-- what a body that may throw owes at its end -/
def vx_MQ (below : List Frame) (Qc : Array Value → State → Outcome → State → Prop) (XC : String → State → State → Prop) (a : Array Value) (s : State) (mc ms : Nat) (free : Addr → Prop) : State → Prop := fun t =>
  ∃ o, t.status = .running ∧ Ended t below o ∧ vx_Q Qc XC mc ms free a s o t
theorem vx_ret {g : JFrame} {mc ms : Nat} (k : W p l e R s m args below meth c H locs cells slots (MQ below Qc args s mc ms free) g) : W p l e R s m args below meth c H locs cells slots (vx_MQ below Qc XC args s mc ms free) g := by
  intro T hT X
  obtain ⟨t, a1, o, b1, b2, b3, b4⟩ := k T hT X
  exact ⟨t, a1, o, b1, b2, Or.inl ⟨b3, b4⟩⟩
/-- not caught here: it goes on to the caller -/
theorem vx_widen {g : JFrame} {q : Addr} {k n : Nat} (h1 : cells ≤ k) (h2 : slots ≤ n) (kk : vx_W p l e R s m args below meth c H locs k n Q g q) : vx_W p l e R s m args below meth c H locs cells slots Q g q := fun T hT X => kk T hT (stand_widen X h1 h2)
theorem vx_out {pc : Nat} {E : String} {ce : Cell} {q : Addr} {mc ms : Nat} (hout : ∀ x ∈ c.exceptionTable.toList, covers x pc = false) (hlocks : meth.locks = false) (hcell : H[q]? = some ce) (hv : ce.vm = .none) (hcl : s.vm.findClass E = some ce.cls)
    (hx : ∀ t : State, t.heap = H → s.vm.Alike t.vm → XC E s t) (hf : ∀ z ∈ locs, free z.base) (hc : cells ≤ mc) (hs : slots ≤ ms) :
    vx_W p l e R s m args below meth c H locs cells slots (vx_MQ below Qc XC args s mc ms free) (F0 m pc ls rest) q := by
  intro T hT X
  obtain ⟨st1, hrun, hend, hW, hsm⟩ := X.leaveThrown q (g := F0 m pc ls rest) rfl rfl rfl hout hlocks
  have hcell9 : (T.setFrames (.throwing q :: below)).heap[q]? = some ce := by
    show T.heap[q]? = some ce
    rw [hT]; exact hcell
  exact ⟨_, st1, .threw q, hrun, hend, Or.inr ⟨q, rfl, E, ce, locs, hx _ hT hW.alike, hcell9, hv, hcl, hW, hsm.mono hc hs, hf⟩⟩
theorem vx_frame {U : State} {k n : Nat} (h : s.sameButNew ({ U with vm := s.vm } : State) locs k n) : s.heap.size ≤ U.heap.size ∧ ∀ q : Nat, q < s.heap.size → (∀ z ∈ locs, z.base ≠ q) → U.heap[q]? = s.heap[q]? := by
  obtain ⟨-, h2, -, -, -, h6⟩ := h
  refine ⟨h2, fun q hq hz => ?_⟩
  obtain ⟨c9, e1, e2, e3, e4⟩ := h6 q _ (Array.getElem?_eq_getElem hq)
  have hs : c9.slots = (s.heap[q]).slots := Array.ext_getElem? fun i => e4 i fun hm => hz _ hm rfl
  have h9 : c9 = s.heap[q] := by
    rw [hs] at e2
    exact e2
  have e5 : U.heap[q]? = some c9 := e1
  rw [e5, h9, Array.getElem?_eq_getElem hq]
/-- the words of a throw but the four that speak of the heap -/
def vx_no (w : Cond) : Bool := decide (w ≠ .isRef (.static Bundle.tN "UNASSIGNED_STACK" Bundle.steD)) && decide (w ≠ .isRef (.static Bundle.tN "SUPPRESSED_SENTINEL" Bundle.listD)) && decide (w ≠ .laysStatic Bundle.tN "UNASSIGNED_STACK" Bundle.steD) && decide (w ≠ .laysStatic Bundle.tN "SUPPRESSED_SENTINEL" Bundle.listD)
def vx_at0 (own : String) (ic : Nat) (X : String) (names : List String) : List Cond := (Bundle.ownAtoms0 own ic X names).filter vx_no
def vx_atS (own : String) (ic : Nat) (X : String) (names : List String) : List Cond := (Bundle.ownAtoms own ic X names).filter vx_no
def xn_atS (own : String) (ic : Nat) (X : String) (names : List String) : List Cond := (xn_own own ic X names).filter vx_no
/-- a word that the tables alone decide, or a good one -/
def vx_ot (w : Cond) : Bool := w.onTables || goodWord w
theorem vx_ot_at {args a' : Array Value} {s U : State} {w : Cond} (hW : s.WarmedH U.vm) (hvm : s.vm = U.vm) (hg : vx_ot w = true) (h : w.before args s = true) : w.before a' U = true := by
  simp only [vx_ot, Bool.or_eq_true] at hg
  rcases hg with hg | hg
  · exact va_tabs hg hvm h
  · exact word_at hW (good_of_word hg) h
/-- a list's words: the good ones out of the method's own list, the others by premises of their own -/
theorem vx_hat {args : Array Value} {s : State} {L B : List Cond} (h1 : ∀ w ∈ L.filter goodWord, w.before args s = true) (h2 : ∀ w ∈ L.filter (fun w => !goodWord w), w ∈ B) (h3 : ∀ w ∈ B, w.before args s = true) : ∀ w ∈ L, w.before args s = true := by
  intro w hw
  by_cases g : goodWord w = true
  · exact h1 w (List.mem_filter.mpr ⟨hw, g⟩)
  · refine h3 w (h2 w (List.mem_filter.mpr ⟨hw, ?_⟩))
    show (!goodWord w) = true
    cases hgw : goodWord w
    · rfl
    · exact absurd hgw g
theorem vx_c {args : Array Value} {s : State} {w : Cond} {B : List Cond} (h : w.before args s = true) (t : ∀ w ∈ B, w.before args s = true) : ∀ w' ∈ w :: B, w'.before args s = true := fun w' h' => (List.mem_cons.mp h').elim (fun e => by rw [e]; exact h) (t w')
theorem vx_n {args : Array Value} {s : State} : ∀ w ∈ ([] : List Cond), w.before args s = true := fun _ h => nomatch h
theorem vx_own {args : Array Value} {s : State} {L : List Cond} (h1 : ∀ w ∈ L.filter vx_no, w.before args s = true)
    (hU : (Cond.isRef (.static Bundle.tN "UNASSIGNED_STACK" Bundle.steD)).before args s = true) (hN : (Cond.isRef (.static Bundle.tN "SUPPRESSED_SENTINEL" Bundle.listD)).before args s = true)
    (lU : (Cond.laysStatic Bundle.tN "UNASSIGNED_STACK" Bundle.steD).before args s = true) (lN : (Cond.laysStatic Bundle.tN "SUPPRESSED_SENTINEL" Bundle.listD).before args s = true) : ∀ w ∈ L, w.before args s = true := by
  intro w hw
  by_cases e1 : w = .isRef (.static Bundle.tN "UNASSIGNED_STACK" Bundle.steD)
  · rw [e1]; exact hU
  · by_cases e2 : w = .isRef (.static Bundle.tN "SUPPRESSED_SENTINEL" Bundle.listD)
    · rw [e2]; exact hN
    · by_cases e3 : w = .laysStatic Bundle.tN "UNASSIGNED_STACK" Bundle.steD
      · rw [e3]; exact lU
      · by_cases e4 : w = .laysStatic Bundle.tN "SUPPRESSED_SENTINEL" Bundle.listD
        · rw [e4]; exact lN
        · exact h1 w (List.mem_filter.mpr ⟨hw, by unfold vx_no; rw [decide_eq_true e1, decide_eq_true e2, decide_eq_true e3, decide_eq_true e4]; rfl⟩)
/-- where a static field lies, its class's statics cell in H -/
def vx_L (C n d : String) (A : Nat → Prop) (U : State) (H : Heap) : Prop := ∃ (c : ClassId) (k : Class) (i : Nat) (f : Field) (a : Nat) (cell : Cell), U.vm.findClass C = some c ∧ U.fieldFound? C n d = some (c, k, i, f) ∧ f.isStatic = true ∧ k.statics = some a ∧ H[a]? = some cell ∧ cell.vm.isStatics = true ∧ cell.cls = c ∧ f.slot < cell.slots.size ∧ k.staticTypes[f.slot]? = some f.type ∧ ¬ A a
theorem vx_L.moved {C n d : String} {A : Nat → Prop} {u U : State} {H : Heap} (hvm : u.vm.Alike U.vm) (h : vx_L C n d A u H) : vx_L C n d A U H := by
  obtain ⟨c, k, i, f, a, cell, h1, h2, h3, h4, h5, h6, h7, h8, h9, h10⟩ := h
  obtain ⟨k', hi', he⟩ := State.fieldFound?_setVm hvm h2
  exact ⟨c, k', i, f, a, cell, by rw [hvm.findClass]; exact h1, hi', h3, by rw [he]; exact h4, h5, h6, h7, h8, by rw [he]; exact h9, h10⟩
theorem vx_L.kept {C n d : String} {A : Nat → Prop} {U : State} {H H1 : Heap} (h : vx_L C n d A U H) (hq : ∀ a : Nat, a < H.size → ¬ A a → H1[a]? = H[a]?) : vx_L C n d A U H1 := by
  obtain ⟨c, k, i, f, a, cell, h1, h2, h3, h4, h5, h6, h7, h8, h9, h10⟩ := h
  exact ⟨c, k, i, f, a, cell, h1, h2, h3, h4, by rw [hq a (Array.getElem?_eq_some_iff.mp h5).1 h10]; exact h5, h6, h7, h8, h9, h10⟩
theorem vx_L.narrow {C n d : String} {A B : Nat → Prop} {U : State} {H : Heap} (h : vx_L C n d A U H) (hAB : ∀ q, B q → A q) : vx_L C n d B U H := by
  obtain ⟨c, k, i, f, a, cell, h1, h2, h3, h4, h5, h6, h7, h8, h9, h10⟩ := h
  exact ⟨c, k, i, f, a, cell, h1, h2, h3, h4, h5, h6, h7, h8, h9, fun z => h10 (hAB _ z)⟩
theorem vx_L.word {C n d : String} {A : Nat → Prop} {s : State} {args : Array Value} (h : vx_L C n d A s s.heap) : (Cond.laysStatic C n d).before args s = true := by
  obtain ⟨c, k, i, f, a, cell, h1, h2, h3, h4, h5, h6, h7, h8, h9, -⟩ := h
  show (Cond.laysStatic C n d).holds args s none s [] = true
  exact Cond.laysStatic_of h1 h2 h3 h4 h5 h6 h7 h8 h9
/-- .. and what it holds: null or some reference -/
def vx_Zq (C n d : String) (A : Nat → Prop) (U : State) (H : Heap) : Prop := va_Zq C n d A U H ∧ vx_L C n d A U H
theorem vx_Zq.moved {C n d : String} {A : Nat → Prop} {u U : State} {H : Heap} (hvm : u.vm.Alike U.vm) (h : vx_Zq C n d A u H) : vx_Zq C n d A U H := ⟨va_Zq.moved hvm h.1, vx_L.moved hvm h.2⟩
theorem vx_Zq.kept {C n d : String} {A : Nat → Prop} {U : State} {H H1 : Heap} (h : vx_Zq C n d A U H) (hq : ∀ a : Nat, a < H.size → ¬ A a → H1[a]? = H[a]?) : vx_Zq C n d A U H1 := ⟨va_Zq.kept h.1 hq, vx_L.kept h.2 hq⟩
theorem vx_Zq.narrow {C n d : String} {A B : Nat → Prop} {U : State} {H : Heap} (h : vx_Zq C n d A U H) (hAB : ∀ q, B q → A q) : vx_Zq C n d B U H := ⟨va_Zq.narrow h.1 hAB, vx_L.narrow h.2 hAB⟩
theorem vx_Zqof {args : Array Value} {s : State} {C n d : String} {A : Nat → Prop} (hl : (Cond.laysStatic C n d).before args s = true) (hini : (Cond.initialized C).before args s = true) (h : (Cond.isRef (.static C n d)).before args s = true) (hA : ∀ a : Nat, a < s.heap.size → ¬ A a) : vx_Zq C n d A s s.heap := by
  refine ⟨va_Zqof hl hini h hA, ?_⟩
  obtain ⟨c, k, i, f, a, cell, h1, h2, h3, h4, h5, h6, h7, h8, h9⟩ := Cond.laysStatic_spec hl
  exact ⟨c, k, i, f, a, cell, h1, h2, h3, h4, h5, h6, h7, h8, h9, hA a (Array.getElem?_eq_some_iff.mp h5).1⟩
theorem vx_isRef {C n d : String} {v : Value} {A : Nat → Prop} {s : State} {args : Array Value} (h : va_Z C n d v A s s.heap) (hv : v.isRef = true) : (Cond.isRef (.static C n d)).before args s = true := by
  obtain ⟨cf, kf, fi, f, a, cell, h1, h2, h3, h4, h5, h6, h7, -⟩ := h
  have he : (Term.static C n d).eval args s none [] s = some v := by
    simp [Term.eval, State.fieldNamed?, h1, h2, h4, h5, h6, h7]
  simp only [Cond.before, Cond.holds, Cond.value, he]
  cases v <;> simp_all [Value.isRef]
theorem vx_isRefq {C n d : String} {A : Nat → Prop} {s : State} {args : Array Value} (h : va_Zq C n d A s s.heap) : (Cond.isRef (.static C n d)).before args s = true := by
  rcases h with h | ⟨t, h⟩
  · exact vx_isRef h rfl
  · exact vx_isRef h rfl
/-- the same frame, seen from here: as if the method were called anew in this heap -/
theorem vx_rebase {T : State} (X : Stand p l e R s m args below meth c T locs cells slots) {R' : Room} (hf : R'.frames ≤ R.frames) (hl : R'.locals ≤ R.locals) (hc : cells + R'.cells ≤ R.cells) (hs : slots + R'.slots ≤ R.slots) :
    Stand p l e R' ((T.setVm s.vm).setFrames (.invoking m args :: below)) m args below meth c T [] 0 0 := by
  have htop : (T.setVm s.vm).topJava?.isSome := X.here.top
  have hF : ((T.setVm s.vm).setFrames (.invoking m args :: below)).frames = .invoking m args :: below := State.frames_setFrames _ (State.cur_lt_of_top htop)
  obtain ⟨g₀, hg0⟩ := Option.isSome_iff_exists.mp htop
  obtain ⟨r, hr⟩ := State.topJava?_eq_some.mp hg0
  have hl9 : e.platform.stackLimits (T.setVm s.vm).me = e.platform.stackLimits s.me := X.limits
  have hb9 : (T.setVm s.vm).me.stackBytes = s.me.stackBytes := X.bytes
  refine ⟨X.admits, X.cas, X.clock, hF, ?_, X.hears, X.method, X.code, X.here, X.tail, X.warmed, ?_, ?_, ?_⟩
  · have h := X.room
    have hU : ((T.setVm s.vm).setFrames (.invoking m args :: below)).localsInUse = s.localsInUse := by
      rw [State.localsInUse_invoking hF (meth := meth) (c := c) X.method X.code, State.localsInUse_invoking X.frames X.method X.code]
    simp only [State.hasRoom, Bool.and_eq_true, decide_eq_true_eq] at h ⊢
    obtain ⟨⟨⟨⟨h1, h2, h3, h4, h5, h6⟩, h7⟩, h8⟩, h9⟩ := h
    rw [X.frames, List.length_cons] at h2 h3
    have q1 := X.heapSize
    have q2 := X.used
    simp only [hF, hU, List.length_cons, State.stackLimits_setFrames, State.stackBytes_setFrames, hl9, hb9]
    refine ⟨⟨⟨⟨by omega, by omega, by omega, by omega, by omega, h6⟩, ?_⟩, ?_⟩, X.book⟩
    · show T.heap.size + R'.cells ≤ e.platform.maxCells
      omega
    · show T.slotsUsed + R'.slots ≤ e.platform.maxSlots
      omega
  · rw [State.stackLimits_setFrames]; rfl
  · rw [State.stackBytes_setFrames]; rfl
  · refine ⟨?_, Nat.le_refl _, Nat.le_refl _, ?_, ?_, fun a c9 h9 => ⟨c9, h9, rfl, rfl, fun _ _ => rfl⟩⟩
    · obtain ⟨t, ht, -⟩ := State.frames_cons hr
      show T.setVm s.vm = { ((T.setVm s.vm).setFrames (.invoking m args :: below)).setFrames (T.setVm s.vm).frames with heap := T.heap, slotsUsed := T.slotsUsed }
      rw [State.setFrames_setFrames, State.setFrames_self ht]
      rfl
    · show T.slotsUsed = T.slotsUsed + ((T.heap.toList.drop T.heap.size).map (·.slots.size)).sum
      rw [List.drop_eq_nil_of_le (Nat.le_of_eq Array.length_toList)]
      rfl
    · show ((T.heap.toList.drop T.heap.size).map (·.slots.size)).sum ≤ 0
      rw [List.drop_eq_nil_of_le (Nat.le_of_eq Array.length_toList)]
      exact Nat.le_refl _
/-- 'throw new E()': new; dup; invokespecial; athrow -/
theorem vx_throw0 {cc : ByteArray} {pc : Nat} (hexec : p.tables.exec = Jvm.exec) (hb : c.code = cc) (hl : l.stackTraces = false) {own cls : String} {names : List String} {ik ic mc ms : Nat} {A : Nat → Prop}
    (hown : s.vm.findClass own = some m.cls) (hcls : Bundle.fit cls = true) (hnames : ∀ n ∈ names, Bundle.fit n = true)
    (hk : (Cond.classLink own ik cls).before args s = true) (hini : (Cond.initialized cls).before args s = true) (hat : ∀ w ∈ vx_at0 own ic cls names, w.before args s = true)
    (hgood : ∀ w ∈ Cond.classLink own ik cls :: Cond.initialized cls :: vx_at0 own ic cls names, vx_ot w = true)
    (hU : vx_Zq Bundle.tN "UNASSIGNED_STACK" Bundle.steD A s s.heap) (hN : vx_Zq Bundle.tN "SUPPRESSED_SENTINEL" Bundle.listD A s s.heap) (hS : va_S A s.heap H locs) (hsize : ls.size = c.maxLocals)
    (d0 : decode cc pc = .ok (.new ik, 3)) (d3 : decode cc (pc + 3) = .ok (.dup, 1)) (d4 : decode cc (pc + 4) = .ok (.invokespecial ic, 3)) (d7 : decode cc (pc + 7) = .ok (.athrow, 1))
    (hout : ∀ x ∈ c.exceptionTable.toList, covers x (pc + 7) = false)
    (hRframes : names.length + 3 < R.frames) (hRlocals : (rest.map fun v => v.category).sum + (13 * (names.length + 1) + 42) ≤ R.locals) (hRcells : cells + 1 ≤ R.cells) (hRslots : slots + 6 ≤ R.slots) (hlocks : meth.locks = false)
    (hx : ∀ t : State, s.vm.Alike t.vm → H.size ≤ t.heap.size → (∀ q : Nat, q < H.size → t.heap[q]? = H[q]?) → XC cls s t)
    (hf : ∀ z ∈ locs, free z.base) (hc : cells + 1 ≤ mc) (hs : slots + 6 ≤ ms) :
    W p l e R s m args below meth c H locs cells slots (vx_MQ below Qc XC args s mc ms free) (F0 m pc ls rest) := by
  intro T hT X
  have htr : e.platform.stackTraces = false := (show e.platform.stackTraces = l.stackTraces by rw [X.admits.platform]).trans hl
  have Y := vx_rebase X (R' := { frames := R.frames, locals := R.locals, cells := 1, slots := 6 }) (Nat.le_refl _) (Nat.le_refl _) hRcells hRslots
  obtain ⟨s', hA⟩ : ∃ z, z = (T.setVm s.vm).setFrames (.invoking m args :: below) := ⟨_, rfl⟩
  rw [← hA] at Y
  have hvm : s'.vm = s.vm := by rw [hA]; rfl
  have hhp : s'.heap = H := by rw [hA]; exact hT
  have hW0 : s.WarmedH s'.vm := by rw [hvm]; exact State.WarmedH.refl s
  have hat' : ∀ w ∈ vx_at0 own ic cls names, w.before args s' = true := fun w hw => vx_ot_at hW0 hvm.symm (hgood w (List.mem_cons_of_mem _ (List.mem_cons_of_mem _ hw))) (hat w hw)
  have hk' : (Cond.classLink own ik cls).before args s' = true := vx_ot_at hW0 hvm.symm (hgood _ List.mem_cons_self) hk
  have hini' : (Cond.initialized cls).before args s' = true := vx_ot_at hW0 hvm.symm (hgood _ (List.mem_cons_of_mem _ List.mem_cons_self)) hini
  have hU' : vx_Zq Bundle.tN "UNASSIGNED_STACK" Bundle.steD A s' s'.heap := by rw [hhp]; exact vx_Zq.moved hW0.alike (hU.kept hS.2.1)
  have hN' : vx_Zq Bundle.tN "SUPPRESSED_SENTINEL" Bundle.listD A s' s'.heap := by rw [hhp]; exact vx_Zq.moved hW0.alike (hN.kept hS.2.1)
  have h : ∀ w ∈ Bundle.ownAtoms0 own ic cls names, w.before args s' = true := vx_own hat' (vx_isRefq hU'.1) (vx_isRefq hN'.1) hU'.2.word hN'.2.word
  have hown' : s'.vm.findClass own = some m.cls := by rw [hvm]; exact hown
  have hins : (Cond.instantiable cls 6).before args s' = true := h _ (by simp [Bundle.ownAtoms0])
  obtain ⟨vm₁, cX, kX, hfX, hkX, -, -, X₁, st1⟩ := Y.newCold hexec (own := own) (C := cls) (index := ik) (n := 6) hown' hk' hins hini'
    (g := F0 m pc ls rest) rfl (by rw [hb]; exact d0) (Nat.le_refl _) (Nat.le_refl _)
  generalize hT1 : (T.setVm vm₁).pushCell { cls := cX, slots := kX.instanceTypes.map defaultValue, vm := .none } = T1 at X₁ st1
  have hcat : (Value.ref T.heap.size).category = 1 := rfl
  have hcellA : T1.heap[T.heap.size]? = some (freshCell cX kX) := by rw [← hT1]; exact State.heap_pushCell_size _ _
  have d3' : decode c.code (pc + 3) = .ok (.dup, 1) := by rw [hb]; exact d3
  obtain ⟨U, hsteps, hrun, hend, hW, hsame, ce, hce, hO⟩ := X₁.ctorThrow0 hexec htr (own := own) (cls := cls) (names := names) (ic := ic) hown' hcls hnames h (fun x hx => nomatch hx) hfX hkX hcellA (by rw [hhp, hT]; exact Nat.le_refl _)
    (g := { method := m, pc := pc + 4, locals := ls, stack := .ref T.heap.size :: .ref T.heap.size :: rest, locked := none }) rfl hsize rfl rfl (rest := rest) rfl
    (by rw [hb]; exact d4) (by rw [hb]; exact d7) hout hRframes (by simp only [List.map_cons, List.sum_cons, hcat]; omega) hlocks
  obtain ⟨f1, f2⟩ := vx_frame hsame
  rw [hhp] at f1 f2
  have hWs : s.WarmedH U.vm := State.WarmedH.trans hW0 hW
  have hcl : s.vm.findClass cls = some ce.cls := by
    have h9 := hO.cls
    rw [hvm] at h9
    exact h9
  have hall : s.sameButNew ({ U with vm := s.vm } : State) locs mc ms := by
    subst hA
    obtain ⟨e1, e2⟩ := hsame
    rw [State.setFrames_setFrames] at e1
    have h2 : (T.setVm s.vm).sameButNew ({ U with vm := s.vm } : State) [] (0 + 1) (0 + 6) := ⟨e1, e2⟩
    have h3 := X.same.trans h2
    rw [List.append_nil] at h3
    exact h3.mono hc hs
  refine ⟨U, ?_, .threw T.heap.size, hrun, hend, Or.inr ⟨T.heap.size, rfl, cls, ce, locs, hx U hWs.alike f1 (fun q hq => f2 q hq (fun z hz => nomatch hz)), hce, hO.vm, hcl, hWs, hall, hf⟩⟩
  refine st1 _ ?_
  show Steps p.tables e below (T1.setTop { method := m, pc := pc + 3, locals := ls, stack := .ref T.heap.size :: rest, locked := none }) _
  jvm_step X₁.here [X₁.here.top, hexec, d3', Value.category]
  exact hsteps
/-- 'throw new E("text")': new; dup; ldc; invokespecial; athrow -/
theorem vx_throwS {cc : ByteArray} {pc : Nat} (hexec : p.tables.exec = Jvm.exec) (hb : c.code = cc) (hl : l.stackTraces = false) {own cls text : String} {names : List String} {ik is ic mc ms sa : Nat} {A : Nat → Prop}
    (hown : s.vm.findClass own = some m.cls) (hcls : Bundle.fit cls = true) (hnames : ∀ n ∈ names, Bundle.fit n = true)
    (hk : (Cond.classLink own ik cls).before args s = true) (hini : (Cond.initialized cls).before args s = true) (hstr : vk_R own is text sa s) (hat : ∀ w ∈ vx_atS own ic cls names, w.before args s = true)
    (hgood : ∀ w ∈ Cond.classLink own ik cls :: Cond.initialized cls :: vx_atS own ic cls names, vx_ot w = true)
    (hU : vx_Zq Bundle.tN "UNASSIGNED_STACK" Bundle.steD A s s.heap) (hN : vx_Zq Bundle.tN "SUPPRESSED_SENTINEL" Bundle.listD A s s.heap) (hS : va_S A s.heap H locs) (hsize : ls.size = c.maxLocals)
    (d0 : decode cc pc = .ok (.new ik, 3)) (d3 : decode cc (pc + 3) = .ok (.dup, 1)) (d4 : decode cc (pc + 4) = .ok (.ldc is, 2)) (d6 : decode cc (pc + 6) = .ok (.invokespecial ic, 3)) (d9 : decode cc (pc + 9) = .ok (.athrow, 1))
    (hout : ∀ x ∈ c.exceptionTable.toList, covers x (pc + 9) = false)
    (hRframes : names.length + 3 < R.frames) (hRlocals : (rest.map fun v => v.category).sum + (13 * (names.length + 1) + 43) ≤ R.locals) (hRcells : cells + 1 ≤ R.cells) (hRslots : slots + 6 ≤ R.slots) (hlocks : meth.locks = false)
    (hx : ∀ t : State, s.vm.Alike t.vm → H.size ≤ t.heap.size → (∀ q : Nat, q < H.size → t.heap[q]? = H[q]?) → XC cls s t)
    (hf : ∀ z ∈ locs, free z.base) (hc : cells + 1 ≤ mc) (hs : slots + 6 ≤ ms) :
    W p l e R s m args below meth c H locs cells slots (vx_MQ below Qc XC args s mc ms free) (F0 m pc ls rest) := by
  intro T hT X
  have htr : e.platform.stackTraces = false := (show e.platform.stackTraces = l.stackTraces by rw [X.admits.platform]).trans hl
  have Y := vx_rebase X (R' := { frames := R.frames, locals := R.locals, cells := 1, slots := 6 }) (Nat.le_refl _) (Nat.le_refl _) hRcells hRslots
  obtain ⟨s', hA⟩ : ∃ z, z = (T.setVm s.vm).setFrames (.invoking m args :: below) := ⟨_, rfl⟩
  rw [← hA] at Y
  have hvm : s'.vm = s.vm := by rw [hA]; rfl
  have hhp : s'.heap = H := by rw [hA]; exact hT
  have hW0 : s.WarmedH s'.vm := by rw [hvm]; exact State.WarmedH.refl s
  have hat' : ∀ w ∈ vx_atS own ic cls names, w.before args s' = true := fun w hw => vx_ot_at hW0 hvm.symm (hgood w (List.mem_cons_of_mem _ (List.mem_cons_of_mem _ hw))) (hat w hw)
  have hk' : (Cond.classLink own ik cls).before args s' = true := vx_ot_at hW0 hvm.symm (hgood _ List.mem_cons_self) hk
  have hini' : (Cond.initialized cls).before args s' = true := vx_ot_at hW0 hvm.symm (hgood _ (List.mem_cons_of_mem _ List.mem_cons_self)) hini
  have hU' : vx_Zq Bundle.tN "UNASSIGNED_STACK" Bundle.steD A s' s'.heap := by rw [hhp]; exact vx_Zq.moved hW0.alike (hU.kept hS.2.1)
  have hN' : vx_Zq Bundle.tN "SUPPRESSED_SENTINEL" Bundle.listD A s' s'.heap := by rw [hhp]; exact vx_Zq.moved hW0.alike (hN.kept hS.2.1)
  have h : ∀ w ∈ Bundle.ownAtoms own ic cls names, w.before args s' = true := vx_own hat' (vx_isRefq hU'.1) (vx_isRefq hN'.1) hU'.2.word hN'.2.word
  have hown' : s'.vm.findClass own = some m.cls := by rw [hvm]; exact hown
  have hins : (Cond.instantiable cls 6).before args s' = true := h _ (by simp [Bundle.ownAtoms])
  obtain ⟨vm₁, cX, kX, hfX, hkX, -, -, X₁, st1⟩ := Y.newCold hexec (own := own) (C := cls) (index := ik) (n := 6) hown' hk' hins hini'
    (g := F0 m pc ls rest) rfl (by rw [hb]; exact d0) (Nat.le_refl _) (Nat.le_refl _)
  generalize hT1 : (T.setVm vm₁).pushCell { cls := cX, slots := kX.instanceTypes.map defaultValue, vm := .none } = T1 at X₁ st1
  have hcat : (Value.ref T.heap.size).category = 1 := rfl
  have hcellA : T1.heap[T.heap.size]? = some (freshCell cX kX) := by rw [← hT1]; exact State.heap_pushCell_size _ _
  have d3' : decode c.code (pc + 3) = .ok (.dup, 1) := by rw [hb]; exact d3
  have d4' : decode c.code (pc + 4) = .ok (.ldc is, 2) := by rw [hb]; exact d4
  have hstr' : vk_R own is text sa s' := vk_R.warm hW0 hstr
  obtain ⟨U, hsteps, hrun, hend, hW, hsame, ce, hce, hO⟩ := X₁.ctorThrowS hexec htr (own := own) (cls := cls) (names := names) (ic := ic) hown' hcls hnames h (fun x hx => nomatch hx) hfX hkX hcellA (by rw [hhp, hT]; exact Nat.le_refl _) (msg := .ref sa) rfl
    (g := { method := m, pc := pc + 6, locals := ls, stack := .ref sa :: .ref T.heap.size :: .ref T.heap.size :: rest, locked := none }) rfl hsize rfl rfl (rest := rest) rfl
    (by rw [hb]; exact d6) (by rw [hb]; exact d9) hout hRframes (by simp only [List.map_cons, List.sum_cons, hcat]; omega) hlocks
  obtain ⟨f1, f2⟩ := vx_frame hsame
  rw [hhp] at f1 f2
  have hWs : s.WarmedH U.vm := State.WarmedH.trans hW0 hW
  have hcl : s.vm.findClass cls = some ce.cls := by
    have h9 := hO.cls
    rw [hvm] at h9
    exact h9
  have hall : s.sameButNew ({ U with vm := s.vm } : State) locs mc ms := by
    subst hA
    obtain ⟨e1, e2⟩ := hsame
    rw [State.setFrames_setFrames] at e1
    have h2 : (T.setVm s.vm).sameButNew ({ U with vm := s.vm } : State) [] (0 + 1) (0 + 6) := ⟨e1, e2⟩
    have h3 := X.same.trans h2
    rw [List.append_nil] at h3
    exact h3.mono hc hs
  refine ⟨U, ?_, .threw T.heap.size, hrun, hend, Or.inr ⟨T.heap.size, rfl, cls, ce, locs, hx U hWs.alike f1 (fun q hq => f2 q hq (fun z hz => nomatch hz)), hce, hO.vm, hcl, hWs, hall, hf⟩⟩
  refine st1 _ ?_
  show Steps p.tables e below (T1.setTop { method := m, pc := pc + 3, locals := ls, stack := .ref T.heap.size :: rest, locked := none }) _
  jvm_step X₁.here [X₁.here.top, hexec, d3', Value.category]
  exact X₁.ldcString hexec (own := own) (text := text) (index := is) (a := sa) hown' hstr'.1 hstr'.2
    (g := { method := m, pc := pc + 4, locals := ls, stack := .ref T.heap.size :: .ref T.heap.size :: rest, locked := none }) rfl d4' _ hsteps
theorem xn_throwS {cc : ByteArray} {pc : Nat} (hexec : p.tables.exec = Jvm.exec) (hb : c.code = cc) (hl : l.stackTraces = false) {own cls text : String} {up : String} {r : List String} {ik is ic mc ms sa : Nat} {A : Nat → Prop}
    (hown : s.vm.findClass own = some m.cls) (hcls : Bundle.fit cls = true) (hnames : ∀ n ∈ (up :: r), Bundle.fit n = true)
    (hk : (Cond.classLink own ik cls).before args s = true) (hini : (Cond.initialized cls).before args s = true) (hstr : vk_R own is text sa s) (hat : ∀ w ∈ xn_atS own ic cls (up :: r), w.before args s = true)
    (hgood : ∀ w ∈ Cond.classLink own ik cls :: Cond.initialized cls :: xn_atS own ic cls (up :: r), vx_ot w = true)
    (hU : vx_Zq Bundle.tN "UNASSIGNED_STACK" Bundle.steD A s s.heap) (hN : vx_Zq Bundle.tN "SUPPRESSED_SENTINEL" Bundle.listD A s s.heap) (hS : va_S A s.heap H locs) (hsize : ls.size = c.maxLocals)
    (d0 : decode cc pc = .ok (.new ik, 3)) (d3 : decode cc (pc + 3) = .ok (.dup, 1)) (d4 : decode cc (pc + 4) = .ok (.ldc is, 2)) (d6 : decode cc (pc + 6) = .ok (.invokespecial ic, 3)) (d9 : decode cc (pc + 9) = .ok (.athrow, 1))
    (hout : ∀ x ∈ c.exceptionTable.toList, covers x (pc + 9) = false)
    (hRframes : (up :: r).length + 3 < R.frames) (hRlocals : (rest.map fun v => v.category).sum + (13 * ((up :: r).length + 1) + 43) ≤ R.locals) (hRcells : cells + 1 ≤ R.cells) (hRslots : slots + 6 ≤ R.slots) (hlocks : meth.locks = false)
    (hx : ∀ t : State, s.vm.Alike t.vm → H.size ≤ t.heap.size → (∀ q : Nat, q < H.size → t.heap[q]? = H[q]?) → XC cls s t)
    (hf : ∀ z ∈ locs, free z.base) (hc : cells + 1 ≤ mc) (hs : slots + 6 ≤ ms) :
    W p l e R s m args below meth c H locs cells slots (vx_MQ below Qc XC args s mc ms free) (F0 m pc ls rest) := by
  intro T hT X
  have htr : e.platform.stackTraces = false := (show e.platform.stackTraces = l.stackTraces by rw [X.admits.platform]).trans hl
  have Y := vx_rebase X (R' := { frames := R.frames, locals := R.locals, cells := 1, slots := 6 }) (Nat.le_refl _) (Nat.le_refl _) hRcells hRslots
  obtain ⟨s', hA⟩ : ∃ z, z = (T.setVm s.vm).setFrames (.invoking m args :: below) := ⟨_, rfl⟩
  rw [← hA] at Y
  have hvm : s'.vm = s.vm := by rw [hA]; rfl
  have hhp : s'.heap = H := by rw [hA]; exact hT
  have hW0 : s.WarmedH s'.vm := by rw [hvm]; exact State.WarmedH.refl s
  have hat' : ∀ w ∈ xn_atS own ic cls (up :: r), w.before args s' = true := fun w hw => vx_ot_at hW0 hvm.symm (hgood w (List.mem_cons_of_mem _ (List.mem_cons_of_mem _ hw))) (hat w hw)
  have hk' : (Cond.classLink own ik cls).before args s' = true := vx_ot_at hW0 hvm.symm (hgood _ List.mem_cons_self) hk
  have hini' : (Cond.initialized cls).before args s' = true := vx_ot_at hW0 hvm.symm (hgood _ (List.mem_cons_of_mem _ List.mem_cons_self)) hini
  have hU' : vx_Zq Bundle.tN "UNASSIGNED_STACK" Bundle.steD A s' s'.heap := by rw [hhp]; exact vx_Zq.moved hW0.alike (hU.kept hS.2.1)
  have hN' : vx_Zq Bundle.tN "SUPPRESSED_SENTINEL" Bundle.listD A s' s'.heap := by rw [hhp]; exact vx_Zq.moved hW0.alike (hN.kept hS.2.1)
  have h : ∀ w ∈ xn_own own ic cls (up :: r), w.before args s' = true := vx_own hat' (vx_isRefq hU'.1) (vx_isRefq hN'.1) hU'.2.word hN'.2.word
  have hown' : s'.vm.findClass own = some m.cls := by rw [hvm]; exact hown
  have hins : (Cond.instantiable cls 6).before args s' = true := h _ (by simp [xn_own])
  obtain ⟨vm₁, cX, kX, hfX, hkX, -, -, X₁, st1⟩ := Y.newCold hexec (own := own) (C := cls) (index := ik) (n := 6) hown' hk' hins hini'
    (g := F0 m pc ls rest) rfl (by rw [hb]; exact d0) (Nat.le_refl _) (Nat.le_refl _)
  generalize hT1 : (T.setVm vm₁).pushCell { cls := cX, slots := kX.instanceTypes.map defaultValue, vm := .none } = T1 at X₁ st1
  have hcat : (Value.ref T.heap.size).category = 1 := rfl
  have hcellA : T1.heap[T.heap.size]? = some (freshCell cX kX) := by rw [← hT1]; exact State.heap_pushCell_size _ _
  have d3' : decode c.code (pc + 3) = .ok (.dup, 1) := by rw [hb]; exact d3
  have d4' : decode c.code (pc + 4) = .ok (.ldc is, 2) := by rw [hb]; exact d4
  have hstr' : vk_R own is text sa s' := vk_R.warm hW0 hstr
  obtain ⟨U, hsteps, hrun, hend, hW, hsame, ce, hce, hO⟩ := xn_ctor X₁ hexec htr (own := own) (cls := cls) (up := up) (r := r) (ic := ic) hown' hcls hnames h (fun x hx => nomatch hx) hfX hkX hcellA (by rw [hhp, hT]; exact Nat.le_refl _) (msg := .ref sa) rfl
    (g := { method := m, pc := pc + 6, locals := ls, stack := .ref sa :: .ref T.heap.size :: .ref T.heap.size :: rest, locked := none }) rfl hsize rfl rfl (rest := rest) rfl
    (by rw [hb]; exact d6) (by rw [hb]; exact d9) hout hRframes (by simp only [List.map_cons, List.sum_cons, hcat]; omega) hlocks
  obtain ⟨f1, f2⟩ := vx_frame hsame
  rw [hhp] at f1 f2
  have hWs : s.WarmedH U.vm := State.WarmedH.trans hW0 hW
  have hcl : s.vm.findClass cls = some ce.cls := by
    have h9 := hO.1
    rw [hvm] at h9
    exact h9
  have hall : s.sameButNew ({ U with vm := s.vm } : State) locs mc ms := by
    subst hA
    obtain ⟨e1, e2⟩ := hsame
    rw [State.setFrames_setFrames] at e1
    have h2 : (T.setVm s.vm).sameButNew ({ U with vm := s.vm } : State) [] (0 + 1) (0 + 6) := ⟨e1, e2⟩
    have h3 := X.same.trans h2
    rw [List.append_nil] at h3
    exact h3.mono hc hs
  refine ⟨U, ?_, .threw T.heap.size, hrun, hend, Or.inr ⟨T.heap.size, rfl, cls, ce, locs, hx U hWs.alike f1 (fun q hq => f2 q hq (fun z hz => nomatch hz)), hce, hO.2, hcl, hWs, hall, hf⟩⟩
  refine st1 _ ?_
  show Steps p.tables e below (T1.setTop { method := m, pc := pc + 3, locals := ls, stack := .ref T.heap.size :: rest, locked := none }) _
  jvm_step X₁.here [X₁.here.top, hexec, d3', Value.category]
  exact X₁.ldcString hexec (own := own) (text := text) (index := is) (a := sa) hown' hstr'.1 hstr'.2
    (g := { method := m, pc := pc + 4, locals := ls, stack := .ref T.heap.size :: .ref T.heap.size :: rest, locked := none }) rfl d4' _ hsteps
/-- 'throw new E("text")', the text by a wide index -/
theorem vx_throwSW {cc : ByteArray} {pc : Nat} (hexec : p.tables.exec = Jvm.exec) (hb : c.code = cc) (hl : l.stackTraces = false) {own cls text : String} {names : List String} {ik is ic mc ms sa : Nat} {A : Nat → Prop}
    (hown : s.vm.findClass own = some m.cls) (hcls : Bundle.fit cls = true) (hnames : ∀ n ∈ names, Bundle.fit n = true)
    (hk : (Cond.classLink own ik cls).before args s = true) (hini : (Cond.initialized cls).before args s = true) (hstr : vk_R own is text sa s) (hat : ∀ w ∈ vx_atS own ic cls names, w.before args s = true)
    (hgood : ∀ w ∈ Cond.classLink own ik cls :: Cond.initialized cls :: vx_atS own ic cls names, vx_ot w = true)
    (hU : vx_Zq Bundle.tN "UNASSIGNED_STACK" Bundle.steD A s s.heap) (hN : vx_Zq Bundle.tN "SUPPRESSED_SENTINEL" Bundle.listD A s s.heap) (hS : va_S A s.heap H locs) (hsize : ls.size = c.maxLocals)
    (d0 : decode cc pc = .ok (.new ik, 3)) (d3 : decode cc (pc + 3) = .ok (.dup, 1)) (d4 : decode cc (pc + 4) = .ok (.ldc_w is, 3)) (d7 : decode cc (pc + 7) = .ok (.invokespecial ic, 3)) (d10 : decode cc (pc + 10) = .ok (.athrow, 1))
    (hout : ∀ x ∈ c.exceptionTable.toList, covers x (pc + 10) = false)
    (hRframes : names.length + 3 < R.frames) (hRlocals : (rest.map fun v => v.category).sum + (13 * (names.length + 1) + 43) ≤ R.locals) (hRcells : cells + 1 ≤ R.cells) (hRslots : slots + 6 ≤ R.slots) (hlocks : meth.locks = false)
    (hx : ∀ t : State, s.vm.Alike t.vm → H.size ≤ t.heap.size → (∀ q : Nat, q < H.size → t.heap[q]? = H[q]?) → XC cls s t)
    (hf : ∀ z ∈ locs, free z.base) (hc : cells + 1 ≤ mc) (hs : slots + 6 ≤ ms) :
    W p l e R s m args below meth c H locs cells slots (vx_MQ below Qc XC args s mc ms free) (F0 m pc ls rest) := by
  intro T hT X
  have htr : e.platform.stackTraces = false := (show e.platform.stackTraces = l.stackTraces by rw [X.admits.platform]).trans hl
  have Y := vx_rebase X (R' := { frames := R.frames, locals := R.locals, cells := 1, slots := 6 }) (Nat.le_refl _) (Nat.le_refl _) hRcells hRslots
  obtain ⟨s', hA⟩ : ∃ z, z = (T.setVm s.vm).setFrames (.invoking m args :: below) := ⟨_, rfl⟩
  rw [← hA] at Y
  have hvm : s'.vm = s.vm := by rw [hA]; rfl
  have hhp : s'.heap = H := by rw [hA]; exact hT
  have hW0 : s.WarmedH s'.vm := by rw [hvm]; exact State.WarmedH.refl s
  have hat' : ∀ w ∈ vx_atS own ic cls names, w.before args s' = true := fun w hw => vx_ot_at hW0 hvm.symm (hgood w (List.mem_cons_of_mem _ (List.mem_cons_of_mem _ hw))) (hat w hw)
  have hk' : (Cond.classLink own ik cls).before args s' = true := vx_ot_at hW0 hvm.symm (hgood _ List.mem_cons_self) hk
  have hini' : (Cond.initialized cls).before args s' = true := vx_ot_at hW0 hvm.symm (hgood _ (List.mem_cons_of_mem _ List.mem_cons_self)) hini
  have hU' : vx_Zq Bundle.tN "UNASSIGNED_STACK" Bundle.steD A s' s'.heap := by rw [hhp]; exact vx_Zq.moved hW0.alike (hU.kept hS.2.1)
  have hN' : vx_Zq Bundle.tN "SUPPRESSED_SENTINEL" Bundle.listD A s' s'.heap := by rw [hhp]; exact vx_Zq.moved hW0.alike (hN.kept hS.2.1)
  have h : ∀ w ∈ Bundle.ownAtoms own ic cls names, w.before args s' = true := vx_own hat' (vx_isRefq hU'.1) (vx_isRefq hN'.1) hU'.2.word hN'.2.word
  have hown' : s'.vm.findClass own = some m.cls := by rw [hvm]; exact hown
  have hins : (Cond.instantiable cls 6).before args s' = true := h _ (by simp [Bundle.ownAtoms])
  obtain ⟨vm₁, cX, kX, hfX, hkX, -, -, X₁, st1⟩ := Y.newCold hexec (own := own) (C := cls) (index := ik) (n := 6) hown' hk' hins hini'
    (g := F0 m pc ls rest) rfl (by rw [hb]; exact d0) (Nat.le_refl _) (Nat.le_refl _)
  generalize hT1 : (T.setVm vm₁).pushCell { cls := cX, slots := kX.instanceTypes.map defaultValue, vm := .none } = T1 at X₁ st1
  have hcat : (Value.ref T.heap.size).category = 1 := rfl
  have hcellA : T1.heap[T.heap.size]? = some (freshCell cX kX) := by rw [← hT1]; exact State.heap_pushCell_size _ _
  have d3' : decode c.code (pc + 3) = .ok (.dup, 1) := by rw [hb]; exact d3
  have d4' : decode c.code (pc + 4) = .ok (.ldc_w is, 3) := by rw [hb]; exact d4
  have hstr' : vk_R own is text sa s' := vk_R.warm hW0 hstr
  obtain ⟨U, hsteps, hrun, hend, hW, hsame, ce, hce, hO⟩ := X₁.ctorThrowS hexec htr (own := own) (cls := cls) (names := names) (ic := ic) hown' hcls hnames h (fun x hx => nomatch hx) hfX hkX hcellA (by rw [hhp, hT]; exact Nat.le_refl _) (msg := .ref sa) rfl
    (g := { method := m, pc := pc + 7, locals := ls, stack := .ref sa :: .ref T.heap.size :: .ref T.heap.size :: rest, locked := none }) rfl hsize rfl rfl (rest := rest) rfl
    (by rw [hb]; exact d7) (by rw [hb]; exact d10) hout hRframes (by simp only [List.map_cons, List.sum_cons, hcat]; omega) hlocks
  obtain ⟨f1, f2⟩ := vx_frame hsame
  rw [hhp] at f1 f2
  have hWs : s.WarmedH U.vm := State.WarmedH.trans hW0 hW
  have hcl : s.vm.findClass cls = some ce.cls := by
    have h9 := hO.cls
    rw [hvm] at h9
    exact h9
  have hall : s.sameButNew ({ U with vm := s.vm } : State) locs mc ms := by
    subst hA
    obtain ⟨e1, e2⟩ := hsame
    rw [State.setFrames_setFrames] at e1
    have h2 : (T.setVm s.vm).sameButNew ({ U with vm := s.vm } : State) [] (0 + 1) (0 + 6) := ⟨e1, e2⟩
    have h3 := X.same.trans h2
    rw [List.append_nil] at h3
    exact h3.mono hc hs
  refine ⟨U, ?_, .threw T.heap.size, hrun, hend, Or.inr ⟨T.heap.size, rfl, cls, ce, locs, hx U hWs.alike f1 (fun q hq => f2 q hq (fun z hz => nomatch hz)), hce, hO.vm, hcl, hWs, hall, hf⟩⟩
  refine st1 _ ?_
  show Steps p.tables e below (T1.setTop { method := m, pc := pc + 3, locals := ls, stack := .ref T.heap.size :: rest, locked := none }) _
  jvm_step X₁.here [X₁.here.top, hexec, d3', Value.category]
  exact X₁.ldcStringW hexec (own := own) (text := text) (index := is) (a := sa) hown' hstr'.1 hstr'.2
    (g := { method := m, pc := pc + 4, locals := ls, stack := .ref T.heap.size :: .ref T.heap.size :: rest, locked := none }) rfl d4' _ hsteps
theorem xn_throwSW {cc : ByteArray} {pc : Nat} (hexec : p.tables.exec = Jvm.exec) (hb : c.code = cc) (hl : l.stackTraces = false) {own cls text : String} {up : String} {r : List String} {ik is ic mc ms sa : Nat} {A : Nat → Prop}
    (hown : s.vm.findClass own = some m.cls) (hcls : Bundle.fit cls = true) (hnames : ∀ n ∈ (up :: r), Bundle.fit n = true)
    (hk : (Cond.classLink own ik cls).before args s = true) (hini : (Cond.initialized cls).before args s = true) (hstr : vk_R own is text sa s) (hat : ∀ w ∈ xn_atS own ic cls (up :: r), w.before args s = true)
    (hgood : ∀ w ∈ Cond.classLink own ik cls :: Cond.initialized cls :: xn_atS own ic cls (up :: r), vx_ot w = true)
    (hU : vx_Zq Bundle.tN "UNASSIGNED_STACK" Bundle.steD A s s.heap) (hN : vx_Zq Bundle.tN "SUPPRESSED_SENTINEL" Bundle.listD A s s.heap) (hS : va_S A s.heap H locs) (hsize : ls.size = c.maxLocals)
    (d0 : decode cc pc = .ok (.new ik, 3)) (d3 : decode cc (pc + 3) = .ok (.dup, 1)) (d4 : decode cc (pc + 4) = .ok (.ldc_w is, 3)) (d7 : decode cc (pc + 7) = .ok (.invokespecial ic, 3)) (d10 : decode cc (pc + 10) = .ok (.athrow, 1))
    (hout : ∀ x ∈ c.exceptionTable.toList, covers x (pc + 10) = false)
    (hRframes : (up :: r).length + 3 < R.frames) (hRlocals : (rest.map fun v => v.category).sum + (13 * ((up :: r).length + 1) + 43) ≤ R.locals) (hRcells : cells + 1 ≤ R.cells) (hRslots : slots + 6 ≤ R.slots) (hlocks : meth.locks = false)
    (hx : ∀ t : State, s.vm.Alike t.vm → H.size ≤ t.heap.size → (∀ q : Nat, q < H.size → t.heap[q]? = H[q]?) → XC cls s t)
    (hf : ∀ z ∈ locs, free z.base) (hc : cells + 1 ≤ mc) (hs : slots + 6 ≤ ms) :
    W p l e R s m args below meth c H locs cells slots (vx_MQ below Qc XC args s mc ms free) (F0 m pc ls rest) := by
  intro T hT X
  have htr : e.platform.stackTraces = false := (show e.platform.stackTraces = l.stackTraces by rw [X.admits.platform]).trans hl
  have Y := vx_rebase X (R' := { frames := R.frames, locals := R.locals, cells := 1, slots := 6 }) (Nat.le_refl _) (Nat.le_refl _) hRcells hRslots
  obtain ⟨s', hA⟩ : ∃ z, z = (T.setVm s.vm).setFrames (.invoking m args :: below) := ⟨_, rfl⟩
  rw [← hA] at Y
  have hvm : s'.vm = s.vm := by rw [hA]; rfl
  have hhp : s'.heap = H := by rw [hA]; exact hT
  have hW0 : s.WarmedH s'.vm := by rw [hvm]; exact State.WarmedH.refl s
  have hat' : ∀ w ∈ xn_atS own ic cls (up :: r), w.before args s' = true := fun w hw => vx_ot_at hW0 hvm.symm (hgood w (List.mem_cons_of_mem _ (List.mem_cons_of_mem _ hw))) (hat w hw)
  have hk' : (Cond.classLink own ik cls).before args s' = true := vx_ot_at hW0 hvm.symm (hgood _ List.mem_cons_self) hk
  have hini' : (Cond.initialized cls).before args s' = true := vx_ot_at hW0 hvm.symm (hgood _ (List.mem_cons_of_mem _ List.mem_cons_self)) hini
  have hU' : vx_Zq Bundle.tN "UNASSIGNED_STACK" Bundle.steD A s' s'.heap := by rw [hhp]; exact vx_Zq.moved hW0.alike (hU.kept hS.2.1)
  have hN' : vx_Zq Bundle.tN "SUPPRESSED_SENTINEL" Bundle.listD A s' s'.heap := by rw [hhp]; exact vx_Zq.moved hW0.alike (hN.kept hS.2.1)
  have h : ∀ w ∈ xn_own own ic cls (up :: r), w.before args s' = true := vx_own hat' (vx_isRefq hU'.1) (vx_isRefq hN'.1) hU'.2.word hN'.2.word
  have hown' : s'.vm.findClass own = some m.cls := by rw [hvm]; exact hown
  have hins : (Cond.instantiable cls 6).before args s' = true := h _ (by simp [xn_own])
  obtain ⟨vm₁, cX, kX, hfX, hkX, -, -, X₁, st1⟩ := Y.newCold hexec (own := own) (C := cls) (index := ik) (n := 6) hown' hk' hins hini'
    (g := F0 m pc ls rest) rfl (by rw [hb]; exact d0) (Nat.le_refl _) (Nat.le_refl _)
  generalize hT1 : (T.setVm vm₁).pushCell { cls := cX, slots := kX.instanceTypes.map defaultValue, vm := .none } = T1 at X₁ st1
  have hcat : (Value.ref T.heap.size).category = 1 := rfl
  have hcellA : T1.heap[T.heap.size]? = some (freshCell cX kX) := by rw [← hT1]; exact State.heap_pushCell_size _ _
  have d3' : decode c.code (pc + 3) = .ok (.dup, 1) := by rw [hb]; exact d3
  have d4' : decode c.code (pc + 4) = .ok (.ldc_w is, 3) := by rw [hb]; exact d4
  have hstr' : vk_R own is text sa s' := vk_R.warm hW0 hstr
  obtain ⟨U, hsteps, hrun, hend, hW, hsame, ce, hce, hO⟩ := xn_ctor X₁ hexec htr (own := own) (cls := cls) (up := up) (r := r) (ic := ic) hown' hcls hnames h (fun x hx => nomatch hx) hfX hkX hcellA (by rw [hhp, hT]; exact Nat.le_refl _) (msg := .ref sa) rfl
    (g := { method := m, pc := pc + 7, locals := ls, stack := .ref sa :: .ref T.heap.size :: .ref T.heap.size :: rest, locked := none }) rfl hsize rfl rfl (rest := rest) rfl
    (by rw [hb]; exact d7) (by rw [hb]; exact d10) hout hRframes (by simp only [List.map_cons, List.sum_cons, hcat]; omega) hlocks
  obtain ⟨f1, f2⟩ := vx_frame hsame
  rw [hhp] at f1 f2
  have hWs : s.WarmedH U.vm := State.WarmedH.trans hW0 hW
  have hcl : s.vm.findClass cls = some ce.cls := by
    have h9 := hO.1
    rw [hvm] at h9
    exact h9
  have hall : s.sameButNew ({ U with vm := s.vm } : State) locs mc ms := by
    subst hA
    obtain ⟨e1, e2⟩ := hsame
    rw [State.setFrames_setFrames] at e1
    have h2 : (T.setVm s.vm).sameButNew ({ U with vm := s.vm } : State) [] (0 + 1) (0 + 6) := ⟨e1, e2⟩
    have h3 := X.same.trans h2
    rw [List.append_nil] at h3
    exact h3.mono hc hs
  refine ⟨U, ?_, .threw T.heap.size, hrun, hend, Or.inr ⟨T.heap.size, rfl, cls, ce, locs, hx U hWs.alike f1 (fun q hq => f2 q hq (fun z hz => nomatch hz)), hce, hO.2, hcl, hWs, hall, hf⟩⟩
  refine st1 _ ?_
  show Steps p.tables e below (T1.setTop { method := m, pc := pc + 3, locals := ls, stack := .ref T.heap.size :: rest, locked := none }) _
  jvm_step X₁.here [X₁.here.top, hexec, d3', Value.category]
  exact X₁.ldcStringW hexec (own := own) (text := text) (index := is) (a := sa) hown' hstr'.1 hstr'.2
    (g := { method := m, pc := pc + 4, locals := ls, stack := .ref T.heap.size :: .ref T.heap.size :: rest, locked := none }) rfl d4' _ hsteps
end Ends
section Bodies
variable {l : Launch}
theorem vx_ofW {y : MethodName} {ws ws' : List Cond} {rm : Room} {Pc : Array Value → State → Prop} {Qc : Array Value → State → Outcome → State → Prop} {XC : String → State → State → Prop} {mc ms : Nat} {free : Addr → Prop} {cc : ByteArray} {maxL : Nat} {ret : Option FieldType}
    (hy : plainName y.cls = true) (hw : ws = Cond.code y cc maxL ret :: ws')
    (body : ∀ p e s m args below meth c s₁, BodyLoose p l y (headSpec ws rm) cc maxL ret e s m args below meth c s₁ → c.maxLocals = maxL → (∀ x ∈ c.exceptionTable.toList, False) → Pc args s →
      W p l e (headSpec ws rm).room s m args below meth c s.heap [] 0 0 (vx_MQ below Qc XC args s mc ms free) (entryFrame m args maxL)) : vx_Met l y ws rm Pc Qc XC mc ms free := by
  refine MetFree.of_bodyS (code := cc) (maxLocals := maxL) (ret := ret) hy ?_ ?_
  · intro args s m h hn
    obtain ⟨meth, c, h1, h2, h3, h4, h5, h6, -, -⟩ := Cond.code_spec hn (atoms_spec (ws := ws) h _ (by rw [hw]; exact List.mem_cons_self))
    exact ⟨meth, c, h1, h2, h3, h4, h5, h6⟩
  · intro p e s m args below meth c s₁ B hml hP _
    have hh0 : s₁.heap = s.heap := by rw [B.state]; rfl
    have ht : ∀ x ∈ c.exceptionTable.toList, False := by
      obtain ⟨meth9, c9, h1, h2, -, -, -, -, h7, -⟩ := Cond.code_spec B.named (atoms_spec (ws := ws) B.pre _ (by rw [hw]; exact List.mem_cons_self))
      cases Option.some.inj (h1.symm.trans B.method)
      cases Option.some.inj (h2.symm.trans (Stand.of_body B).code)
      intro x hx
      rw [Array.isEmpty_iff.mp h7] at hx
      cases hx
    obtain ⟨t, a1, o, b1, b2, b3⟩ := body p e s m args below meth c s₁ B hml ht hP s₁ hh0 (Stand.of_body B)
    exact ⟨t, o, a1, b1, b2, b3⟩
/-- the table of a body with handlers -/
theorem vx_table {p : Program} {x y : MethodName} {S : Spec} {cc bytes : ByteArray} {maxL maxL' : Nat} {ret ret' : Option FieldType} {e : Env} {s s₁ : State} {m : MethodId} {args : Array Value} {below : List Frame} {meth : Method} {c : Code} {hh : List (Nat × Nat × Nat × Nat)}
    (B : BodyLoose p l y S cc maxL ret e s m args below meth c s₁) (h : (Cond.codeWith y bytes maxL' ret' hh).before args s = true) : c.exceptionTable.toList = tableOf hh := by
  obtain ⟨m9, meth9, c9, hn9, h1, h2, -, -, h6, -⟩ := Cond.codeWith_spec h
  cases Option.some.inj (hn9.symm.trans B.named)
  cases Option.some.inj (h1.symm.trans B.method)
  cases Option.some.inj (h2.symm.trans (Stand.of_body B).code)
  rw [← h6, table_eq]
end Bodies
end VXA
/-! ===== END ===== -/
/-! ===== BEGIN a static call of a method with an exception table ===== -/
section VXS
variable {p : Program} {l : Launch} {e : Env} {R : Room} {s : State} {m : MethodId} {args : Array Value} {below : List Frame} {meth : Method} {c : Code} {T : State} {H : Heap} {locs : List Loc} {cells slots : Nat}
abbrev vx_CSW (R : Room) (s : State) (args : Array Value) (own : String) (index : Nat) (y : MethodName) (bytes : ByteArray) (maxL : Nat) (ret : Option FieldType) (hh : List (Nat × Nat × Nat × Nat)) (ws : List Cond) (rm : Room) (mc ms n : Nat) : Prop :=
  (rm.cells = mc ∧ rm.slots = ms ∧ rm.frames + 1 ≤ R.frames ∧ 8 + (maxL + 11) + rm.locals ≤ R.locals ∧ (∀ w ∈ ws, ∀ (a' : Array Value) (U : State), s.WarmedH U.vm → w.before a' U = true) ∧ Cond.codeWith y bytes maxL ret hh ∈ ws) ∧
  (Cond.codeWith y bytes maxL ret hh).before args s = true ∧ (Cond.initialized y.cls).before args s = true ∧ (y.cls ≠ "java/lang/invoke/MethodHandle" ∧ y.cls ≠ "java/lang/invoke/VarHandle") ∧
  (∀ sig, parseMethodDescriptor y.desc = some sig → n = sig.parameters.length) ∧ (Cond.methodLink own index y).before args s = true ∧ (Cond.static y).before args s = true
theorem vx_cwSW {own : String} {index maxL mc ms : Nat} {y : MethodName} {bytes : ByteArray} {ret : Option FieldType} {hh : List (Nat × Nat × Nat × Nat)} {Ts ws ws' : List Cond} {rm : Room} (n : Nat) (ht : ∀ w ∈ Ts, w.before args s = true) (hT : GoodIn Ts (va_wsS own index y ws)) (hw : ws = Cond.codeWith y bytes maxL ret hh :: ws') (hrc : rm.cells = mc) (hrs : rm.slots = ms)
    (hd : y.cls ≠ "java/lang/invoke/MethodHandle" ∧ y.cls ≠ "java/lang/invoke/VarHandle" ∧ (parseMethodDescriptor y.desc).map (fun d => d.parameters.length) = some n) (hR : rm.frames + 1 ≤ R.frames ∧ 8 + (maxL + 11) + rm.locals ≤ R.locals) :
    vx_CSW R s args own index y bytes maxL ret hh ws rm mc ms n := by
  have ok : ∀ w ∈ va_wsS own index y ws, w.before args s = true := fun w h => ht w (hT w h).1
  have hG : GoodIn Ts ws := fun w h => hT w (by unfold va_wsS; exact List.mem_append_right _ h)
  have hc : Cond.codeWith y bytes maxL ret hh ∈ ws := by rw [hw]; exact List.mem_cons_self
  refine ⟨⟨hrc, hrs, hR.1, hR.2, pay_in ht hG, hc⟩, ht _ (hG _ hc).1, ok _ (by simp [va_wsS]), ⟨hd.1, hd.2.1⟩, fun sig h => ?_, ok _ (by simp [va_wsS]), ok _ (by simp [va_wsS])⟩
  have h2 := hd.2.2
  rw [h] at h2
  exact (Option.some.inj h2).symm
theorem vx_callSW (X : Stand p l e R s m args below meth c T locs cells slots) (hexec : p.tables.exec = Jvm.exec) {own : String} {index : Nat} {y : MethodName} {bytes : ByteArray} {maxL : Nat} {ret : Option FieldType} {hh : List (Nat × Nat × Nat × Nat)}
    (hown : s.vm.findClass own = some m.cls) (hlink : (Cond.methodLink own index y).before args s = true) (hstat : (Cond.static y).before args s = true) (hinit : (Cond.initialized y.cls).before args s = true)
    (hcode : (Cond.codeWith y bytes maxL ret hh).before args s = true) (hy : y.cls ≠ "java/lang/invoke/MethodHandle" ∧ y.cls ≠ "java/lang/invoke/VarHandle")
    {W9 : Nat} {Pre : Pt → Array Value → Prop} {Post : Pt → Array Value → Option Value → Pt → Prop} (hK : Back l R p e below s args y 3 W9 Pre Post)
    {g : JFrame} (hg : g.method = m) (hsize : g.locals.size = c.maxLocals) {argsL rest : List Value} (hlen : ∀ sig, parseMethodDescriptor y.desc = some sig → argsL.length = sig.parameters.length)
    (hstack : g.stack = argsL.reverse ++ rest) (hW : 2 * g.monitorRoom + (rest.map fun v => v.category).sum ≤ W9) (hdg : decode c.code g.pc = .ok (.invokestatic index, 3))
    (hpre : ∀ vm₁, s.WarmedH vm₁ → Pre ⟨T.setVm vm₁, locs, cells, slots⟩ argsL.toArray) :
    ∃ (v : Option Value) (vm₁ : Vm) (B : Pt), s.WarmedH vm₁ ∧ Stand p l e R s m args below meth c B.U B.locs B.cells B.slots ∧ Post ⟨T.setVm vm₁, locs, cells, slots⟩ argsL.toArray v B ∧
      ∀ target, Steps p.tables e below (B.U.setTop { g with pc := g.pc + 3, stack := v.toList ++ rest }) target → Steps p.tables e below (T.setTop g) target := by
  obtain ⟨mk, methM, cM, hnamed, hmethM, -, -, -, -, -, -, hsigM⟩ := Cond.codeWith_spec hcode
  have hstatic : methM.isStatic = true := Cond.static_spec hnamed hmethM hstat
  obtain ⟨kP, hkP, -⟩ := className_of_methodNamed hnamed
  have hinitP : kP.init = .initialized := Cond.initialized_spec (findClass_of_methodNamed hnamed) hkP hinit
  obtain ⟨vm₁, X₁, hstep₁⟩ := X.invokestatic hexec hown hlink hnamed hmethM hstatic hkP hinitP hy (g := g) hg (argsL := argsL) (rest := rest) (hlen _ hsigM) hstack hdg
  obtain ⟨v, B, X', hpost, hsteps⟩ := hK m meth c ⟨T.setVm vm₁, locs, cells, slots⟩ { g with stack := rest } (.invokestatic index) mk argsL.toArray X₁ hg hsize hdg hW (X₁.named hnamed) (hpre vm₁ X₁.warmed)
  exact ⟨v, vm₁, B, X₁.warmed, X', hpost, fun target h => hstep₁ _ fun acts => by rw [doInvoke_state]; exact hsteps.trans h⟩
theorem vx_runSW {y : MethodName} {bytes cc : ByteArray} {maxL nL mc ms n index : Nat} {ret : Option FieldType} {hh : List (Nat × Nat × Nat × Nat)} {ws : List Cond} {rm : Room} {Pc : Array Value → State → Prop} {Qc : Array Value → State → Outcome → State → Prop} {free : Addr → Prop} {Ts : List Cond} {own : String} {As rest : List Value} {g : JFrame}
    (S : CallFix p m c cc nL s args Ts own) (hM : Met l y ws rm Pc Qc mc ms free) (cw : vx_CSW R s args own index y bytes maxL ret hh ws rm mc ms n) (hp : PreS s H Pc As)
    (hg : g.method = m) (hn : As.length = n) (hsize : g.locals.size = nL) (hstack : g.stack = As.reverse ++ rest) (hW : 2 * g.monitorRoom + (rest.map fun v => v.category).sum ≤ 8) (hdg : decode cc g.pc = .ok (.invokestatic index, 3)) (hf : cells + mc ≤ R.cells ∧ slots + ms ≤ R.slots) :
    va_Run p l e R s m args below meth c H locs cells slots mc ms g rest (Qc As.toArray) (free) := by
  obtain ⟨⟨hrc, hrs, hfr, hlo, hws, hcw⟩, hcode, hini, hy, hlen, hl, hstt⟩ := cw
  have hK : Back l R p e below s args y 3 8 (PreOf R mc ms Pc) (PostOf Qc mc ms free) := va_backW (hh := hh) (bytes := bytes) (maxL := maxL) (ret := ret) hM hp.1 hrc hrs hfr hlo hws hcw (fun a' U hW => word_at hW (Or.inl (by first | rfl | simp [Cond.onTables, Cond.keeps, Cond.steady])) hini)
  obtain ⟨hx, hb, hml, ho, -⟩ := S
  intro T hT X
  obtain ⟨v, vm₁, ⟨U', l2, c2, s2⟩, hW₁, X', ⟨g', mk, t, L, e1, e2, hq, h1, hL, h2, h3⟩, st⟩ := vx_callSW X hx (hh := hh) (bytes := bytes) (maxL := maxL) (ret := ret) ho hl hstt hini hcode hy hK hg (hsize.trans hml.symm) (argsL := As) (rest := rest) (fun sig h => hn.trans (hlen sig h)) hstack hW (by rw [hb]; exact hdg)
    (fun vm₁ hW₁ => ⟨hf.1, hf.2, hp.2 (T.setVm vm₁) hT hW₁⟩)
  dsimp only [Pt.U, Pt.locs, Pt.cells, Pt.slots] at X' e1 e2 h1 h2 h3 st
  subst h1; subst h2; subst h3
  exact ⟨v, (T.setVm vm₁).calling g' mk As.toArray, t, U', L, hT, X', hL, e1, e2, hq, st⟩
/-- a thing of a world lies in the heap -/
theorem vx_lt {D : va_G} {cl : List vw_C} {ws : va_W} {H1 : Heap} (h : va_P D cl ws H1) {k : Nat} {q : Nat × va_E} (hk : ws[k]? = some q) : q.1 < H1.size := (h k q hk).lt
end VXS
/-! ===== END ===== -/
/-! ===== BEGIN methods with a table of their own: called by a name, returning or throwing ===== -/
section VXH
/-! vx_backW, vx_callVX, vx_callSX, vx_callVW, vx_runVW, vx_runVX, vx_runSX, vx_ofWH follow the same proofs as their sisters above (Free/Laws.lean, Shelf42/LK1.lean); vx_outP calls Shelf42/NT130.lean (outThrough). -/
section
variable {l : Launch} {R : Room} {p : Program} {e : Env} {below : List Frame} {s : State} {sargs : Array Value} {y : MethodName} {len W9 : Nat}
theorem vx_backW {ws : List Cond} {rm : Room} {Pc : Array Value → State → Prop} {Qc : Array Value → State → Outcome → State → Prop} {XC : String → State → State → Prop} {mc ms : Nat} {free : Addr → Prop} {bytes : ByteArray} {maxL : Nat} {ret : Option FieldType} {hh : List (Nat × Nat × Nat × Nat)}
    (hM : vx_Met l y ws rm Pc Qc XC mc ms free) (hblind : FrameBlind Pc) (hrc : rm.cells = mc) (hrs : rm.slots = ms)
    (hframes : rm.frames + 1 ≤ R.frames) (hlocals : W9 + (maxL + 11) + rm.locals ≤ R.locals)
    (hws : ∀ w ∈ ws, ∀ a' U, s.WarmedH U.vm → w.before a' U = true) (hcode : Cond.codeWith y bytes maxL ret hh ∈ ws) (hinit : ∀ a' U, s.WarmedH U.vm → (Cond.initialized y.cls).before a' U = true) :
    vx_Back l R p e below s sargs y len W9 (PreOf R mc ms Pc) (PostOf Qc mc ms free) (vx_Post XC mc ms free) := by
  intro m meth c A g ig mk a X hg hsize hdg hW hn hp
  have h1 : (headSpec ws rm).pre.before a A.U = true := atoms_intro fun w hw => hws w hw _ _ X.warmed
  have h2 : (Cond.codeWith y bytes maxL ret hh).before a A.U = true := hws _ hcode _ _ X.warmed
  have h3 : (Cond.initialized y.cls).before a A.U = true := hinit _ _ X.warmed
  have h4 : A.cells + (headSpec ws rm).room.cells ≤ R.cells := by rw [show (headSpec ws rm).room.cells = mc from hrc]; exact hp.1
  have h5 : A.slots + (headSpec ws rm).room.slots ≤ R.slots := by rw [show (headSpec ws rm).room.slots = ms from hrs]; exact hp.2.1
  have hPc : Pc a (A.U.calling g mk a) := hblind _ _ _ _ hp.2.2
  obtain ⟨U, Ls, c0, s0⟩ := A
  dsimp only [Pt.U, Pt.locs, Pt.cells, Pt.slots] at h1 h2 h3 h4 h5 X hn hPc ⊢
  obtain ⟨m9, methY, cY, hn9, hmY, hcY, -, hlY, -⟩ := Cond.codeWith_spec h2
  cases Option.some.inj (hn9.symm.trans hn)
  obtain ⟨kY, hkY, -⟩ := className_of_methodNamed hn
  have hinitY : kY.init = .initialized := Cond.initialized_spec (findClass_of_methodNamed hn) hkY h3
  have h : At U g.method c below := by rw [hg]; exact X.here
  have hlocals9 : W9 + (maxL + 11) + (headSpec ws rm).room.locals ≤ R.locals := hlocals
  have happ : (headSpec ws rm).appliesLoose y e.platform (U.calling g mk a) = true :=
    Spec.appliesLoose_calling (g := g) h hdg hn hkY hinitY
      (X.room_calling (g := g) (R' := (headSpec ws rm).room) hsize hmY hcY hframes (by rw [hlY]; omega) h4 h5) h1
  obtain ⟨mid, hmid⟩ := h.above
  have hfr : (U.setTop g).frames = (.java g :: mid) ++ below := by rw [State.frames_setTop' g h.top, hmid]; rfl
  obtain ⟨o, s₂, hsteps, -, hend, hq⟩ := Steps.callFree hM p X.admits X.cas X.clock (acts := []) hfr happ hPc trivial
  have hq' : vx_Q Qc XC mc ms free a (U.calling g mk a) o s₂ := hq
  rw [State.frames_setTop' g h.top] at hend
  obtain ⟨g₀, hg0⟩ := Option.isSome_iff_exists.mp h.top
  obtain ⟨r, hr⟩ := State.topJava?_eq_some.mp hg0
  have hr' : (({ U with heap := s₂.heap, slotsUsed := s₂.slotsUsed } : State).setVm s₂.vm).frames = .java g₀ :: r := hr
  rcases hq' with ⟨hqc, L, hfe, hL⟩ | ⟨q, rfl, E, ce, L, hx, hce, hcv, hcl, hW₂, hsm, hL⟩
  · obtain ⟨⟨v, rfl⟩, hW₂, e2, q2, q3, q4, q5, q6⟩ := id hfe
    have e3 : s₂ = ({ (U.calling g mk a).setFrames s₂.frames with heap := s₂.heap, slotsUsed := s₂.slotsUsed } : State).setVm s₂.vm := by
      have : s₂ = ({ s₂ with vm := (U.calling g mk a).vm } : State).setVm s₂.vm := rfl
      rw [e2] at this
      exact this
    obtain ⟨c₂, i₂, len₂, hc₂, hd₂, hf₂⟩ := hend
    have hW' : U.WarmedH s₂.vm := hW₂
    have hcc : c₂ = c := by
      have h1 : s₂.code? g.method = U.code? g.method := by
        rw [State.code?_eq, State.code?_eq, hW'.alike.method?]
      exact Option.some.inj (hc₂.symm.trans (h1.trans h.code))
    subst hcc
    have hlen : len₂ = len := by rw [hdg] at hd₂; cases hd₂; rfl
    subst hlen
    have hs₂ : s₂ = (({ U with heap := s₂.heap, slotsUsed := s₂.slotsUsed } : State).setVm s₂.vm).setTop { g with pc := g.pc + len₂, stack := v.toList ++ g.stack } := by
      refine e3.trans ?_
      rw [hf₂, State.calling_eq h.top, State.setFrames_setFrames, State.setTop_of_frames _ hr', hr]
      rfl
    have hsame : U.sameButNew ({ U with heap := s₂.heap, slotsUsed := s₂.slotsUsed } : State) L mc ms := by
      refine ⟨?_, q2, q3, q4, q5, q6⟩
      obtain ⟨t, ht, -⟩ := State.frames_cons hr
      show ({ U with heap := s₂.heap, slotsUsed := s₂.slotsUsed } : State) = { U.setFrames U.frames with heap := s₂.heap, slotsUsed := s₂.slotsUsed }
      rw [State.setFrames_self ht]
    subst hg
    refine Or.inl ⟨v, ⟨(({ U with heap := s₂.heap, slotsUsed := s₂.slotsUsed } : State).setVm s₂.vm), Ls ++ L, c0 + mc, s0 + ms⟩,
      ⟨X.admits, X.cas, X.clock, X.frames, X.room, X.hears, X.method, X.code, (X.here.setHeapUsed s₂.heap s₂.slotsUsed).setVm hW'.alike, X.tail, State.WarmedH.trans X.warmed hW', X.limits, X.bytes, X.same.trans (hsame.setVm s.vm)⟩,
      ⟨g, mk, s₂, L, rfl, rfl, hqc, rfl, hL, rfl, rfl⟩, ?_⟩
    show Steps p.tables e below _ ((({ U with heap := s₂.heap, slotsUsed := s₂.slotsUsed } : State).setVm s₂.vm).setTop { g with pc := g.pc + len₂, stack := v.toList ++ g.stack })
    rw [← hs₂]
    exact hsteps
  · obtain ⟨e2, q2, q3, q4, q5, q6⟩ := id hsm
    have e3 : s₂ = ({ (U.calling g mk a).setFrames s₂.frames with heap := s₂.heap, slotsUsed := s₂.slotsUsed } : State).setVm s₂.vm := by
      have : s₂ = ({ s₂ with vm := (U.calling g mk a).vm } : State).setVm s₂.vm := rfl
      rw [e2] at this
      exact this
    have hf₂ : s₂.frames = .throwing q :: .java g :: U.frames.tail := hend
    have hW' : U.WarmedH s₂.vm := hW₂
    have hs₂ : s₂ = ((({ U with heap := s₂.heap, slotsUsed := s₂.slotsUsed } : State).setVm s₂.vm).setTop g).pushFrame (.throwing q) := by
      refine e3.trans ?_
      rw [hf₂, State.calling_eq h.top, State.setFrames_setFrames, State.pushFrame, State.frames_setTop _ hr', State.setTop_of_frames _ hr', State.setFrames_setFrames, hr]
      rfl
    have hsame : U.sameButNew ({ U with heap := s₂.heap, slotsUsed := s₂.slotsUsed } : State) L mc ms := by
      refine ⟨?_, q2, q3, q4, q5, q6⟩
      obtain ⟨t, ht, -⟩ := State.frames_cons hr
      show ({ U with heap := s₂.heap, slotsUsed := s₂.slotsUsed } : State) = { U.setFrames U.frames with heap := s₂.heap, slotsUsed := s₂.slotsUsed }
      rw [State.setFrames_self ht]
    subst hg
    refine Or.inr ⟨q, ⟨(({ U with heap := s₂.heap, slotsUsed := s₂.slotsUsed } : State).setVm s₂.vm), Ls ++ L, c0 + mc, s0 + ms⟩,
      ⟨X.admits, X.cas, X.clock, X.frames, X.room, X.hears, X.method, X.code, (X.here.setHeapUsed s₂.heap s₂.slotsUsed).setVm hW'.alike, X.tail, State.WarmedH.trans X.warmed hW', X.limits, X.bytes, X.same.trans (hsame.setVm s.vm)⟩,
      ⟨g, mk, s₂, L, E, ce, rfl, rfl, hx, hce, hcv, hcl, rfl, hL, rfl, rfl⟩, ?_⟩
    show Steps p.tables e below _ (((({ U with heap := s₂.heap, slotsUsed := s₂.slotsUsed } : State).setVm s₂.vm).setTop g).pushFrame (.throwing q))
    rw [← hs₂]
    exact hsteps
end
variable {p : Program} {l : Launch} {e : Env} {R : Room} {s : State} {m : MethodId} {args : Array Value} {below : List Frame} {meth : Method} {c : Code} {T : State} {H : Heap} {locs : List Loc} {cells slots : Nat}
theorem vx_callVX (X : Stand p l e R s m args below meth c T locs cells slots) (hexec : p.tables.exec = Jvm.exec) {own C : String} {index : Nat} {y : MethodName} {bytes : ByteArray} {maxL : Nat} {ret : Option FieldType} {hh : List (Nat × Nat × Nat × Nat)}
    (hown : s.vm.findClass own = some m.cls) (hlink : (Cond.methodLink own index y).before args s = true) (hinst : (Cond.instanceMethod y).before args s = true) (hsel : (Cond.selects C y y).before args s = true)
    (hcode : (Cond.codeWith y bytes maxL ret hh).before args s = true) (hy : y.cls ≠ "java/lang/invoke/MethodHandle" ∧ y.cls ≠ "java/lang/invoke/VarHandle")
    {W9 : Nat} {Pre : Pt → Array Value → Prop} {Post : Pt → Array Value → Option Value → Pt → Prop} {PostX : Pt → Array Value → Addr → Pt → Prop} (hK : vx_Back l R p e below s args y 3 W9 Pre Post PostX)
    {b : Addr} {cellB : Cell} (hcell : T.heap[b]? = some cellB) (hobj : cellB.vm.isStatics = false) (hcls : s.vm.findClass C = some cellB.cls)
    {g : JFrame} (hg : g.method = m) (hsize : g.locals.size = c.maxLocals) {argsL rest : List Value} (hlen : ∀ sig, parseMethodDescriptor y.desc = some sig → argsL.length = sig.parameters.length)
    (hstack : g.stack = argsL.reverse ++ .ref b :: rest) (hW : 2 * g.monitorRoom + (rest.map fun v => v.category).sum ≤ W9) (hdg : decode c.code g.pc = .ok (.invokevirtual index, 3))
    (hpre : ∀ vm₁, s.WarmedH vm₁ → Pre ⟨T.setVm vm₁, locs, cells, slots⟩ (Value.ref b :: argsL).toArray) :
    (∃ (v : Option Value) (vm₁ : Vm) (B : Pt), s.WarmedH vm₁ ∧ Stand p l e R s m args below meth c B.U B.locs B.cells B.slots ∧ Post ⟨T.setVm vm₁, locs, cells, slots⟩ (Value.ref b :: argsL).toArray v B ∧
      ∀ target, Steps p.tables e below (B.U.setTop { g with pc := g.pc + 3, stack := v.toList ++ rest }) target → Steps p.tables e below (T.setTop g) target) ∨
    (∃ (q : Addr) (vm₁ : Vm) (B : Pt), s.WarmedH vm₁ ∧ Stand p l e R s m args below meth c B.U B.locs B.cells B.slots ∧ PostX ⟨T.setVm vm₁, locs, cells, slots⟩ (Value.ref b :: argsL).toArray q B ∧
      Steps p.tables e below (T.setTop g) ((B.U.setTop { g with stack := rest }).pushFrame (.throwing q))) := by
  obtain ⟨mk, methM, hnamed, hmethM, hstM, habM⟩ := Cond.instanceMethod_spec hinst
  obtain ⟨m8, methM', cM, hn8, hmethM', -, -, -, -, -, -, hsigM⟩ := Cond.codeWith_spec hcode
  cases Option.some.inj (hn8.symm.trans hnamed)
  cases hmethM.symm.trans hmethM'
  obtain ⟨c2, r2, m2, q1, q2, q3, q4, kP, hkP, hkPi⟩ := Cond.selects_spec hsel
  cases hcls.symm.trans q1
  cases (State.methodFound?_of_named hnamed hy).symm.trans q2
  cases hnamed.symm.trans q3
  have hselP : selectMethod e.platform s.vm cellB.cls mk = .method mk := by rw [Launch.admits_selectMethod X.admits]; exact q4
  obtain ⟨vm₁, X₁, hstep₁⟩ := X.invokevirtual hexec hown hlink hnamed hmethM hstM hkP hkPi hy (a := b) (cell := cellB) hcell
    (fun z h => by rw [h] at hobj; cases hobj) hselP hmethM habM hkP hkPi (g := g) hg (argsL := argsL) (rest := rest) (hlen _ hsigM) hstack hdg
  rcases hK m meth c ⟨T.setVm vm₁, locs, cells, slots⟩ { g with stack := rest } (.invokevirtual index) mk (Value.ref b :: argsL).toArray X₁ hg hsize hdg hW (X₁.named hnamed) (hpre vm₁ X₁.warmed) with ⟨v, B, X', hpost, hsteps⟩ | ⟨q, B, X', hpost, hsteps⟩
  · exact Or.inl ⟨v, vm₁, B, X₁.warmed, X', hpost, fun target h => hstep₁ _ fun acts => by rw [doInvoke_state]; exact hsteps.trans h⟩
  · exact Or.inr ⟨q, vm₁, B, X₁.warmed, X', hpost, hstep₁ _ fun acts => by rw [doInvoke_state]; exact hsteps⟩
theorem vx_callSX (X : Stand p l e R s m args below meth c T locs cells slots) (hexec : p.tables.exec = Jvm.exec) {own : String} {index : Nat} {y : MethodName} {bytes : ByteArray} {maxL : Nat} {ret : Option FieldType} {hh : List (Nat × Nat × Nat × Nat)}
    (hown : s.vm.findClass own = some m.cls) (hlink : (Cond.methodLink own index y).before args s = true) (hstat : (Cond.static y).before args s = true) (hinit : (Cond.initialized y.cls).before args s = true)
    (hcode : (Cond.codeWith y bytes maxL ret hh).before args s = true) (hy : y.cls ≠ "java/lang/invoke/MethodHandle" ∧ y.cls ≠ "java/lang/invoke/VarHandle")
    {W9 : Nat} {Pre : Pt → Array Value → Prop} {Post : Pt → Array Value → Option Value → Pt → Prop} {PostX : Pt → Array Value → Addr → Pt → Prop} (hK : vx_Back l R p e below s args y 3 W9 Pre Post PostX)
    {g : JFrame} (hg : g.method = m) (hsize : g.locals.size = c.maxLocals) {argsL rest : List Value} (hlen : ∀ sig, parseMethodDescriptor y.desc = some sig → argsL.length = sig.parameters.length)
    (hstack : g.stack = argsL.reverse ++ rest) (hW : 2 * g.monitorRoom + (rest.map fun v => v.category).sum ≤ W9) (hdg : decode c.code g.pc = .ok (.invokestatic index, 3))
    (hpre : ∀ vm₁, s.WarmedH vm₁ → Pre ⟨T.setVm vm₁, locs, cells, slots⟩ argsL.toArray) :
    (∃ (v : Option Value) (vm₁ : Vm) (B : Pt), s.WarmedH vm₁ ∧ Stand p l e R s m args below meth c B.U B.locs B.cells B.slots ∧ Post ⟨T.setVm vm₁, locs, cells, slots⟩ argsL.toArray v B ∧
      ∀ target, Steps p.tables e below (B.U.setTop { g with pc := g.pc + 3, stack := v.toList ++ rest }) target → Steps p.tables e below (T.setTop g) target) ∨
    (∃ (q : Addr) (vm₁ : Vm) (B : Pt), s.WarmedH vm₁ ∧ Stand p l e R s m args below meth c B.U B.locs B.cells B.slots ∧ PostX ⟨T.setVm vm₁, locs, cells, slots⟩ argsL.toArray q B ∧
      Steps p.tables e below (T.setTop g) ((B.U.setTop { g with stack := rest }).pushFrame (.throwing q))) := by
  obtain ⟨mk, methM, cM, hnamed, hmethM, -, -, -, -, -, -, hsigM⟩ := Cond.codeWith_spec hcode
  have hstatic : methM.isStatic = true := Cond.static_spec hnamed hmethM hstat
  obtain ⟨kP, hkP, -⟩ := className_of_methodNamed hnamed
  have hinitP : kP.init = .initialized := Cond.initialized_spec (findClass_of_methodNamed hnamed) hkP hinit
  obtain ⟨vm₁, X₁, hstep₁⟩ := X.invokestatic hexec hown hlink hnamed hmethM hstatic hkP hinitP hy (g := g) hg (argsL := argsL) (rest := rest) (hlen _ hsigM) hstack hdg
  rcases hK m meth c ⟨T.setVm vm₁, locs, cells, slots⟩ { g with stack := rest } (.invokestatic index) mk argsL.toArray X₁ hg hsize hdg hW (X₁.named hnamed) (hpre vm₁ X₁.warmed) with ⟨v, B, X', hpost, hsteps⟩ | ⟨q, B, X', hpost, hsteps⟩
  · exact Or.inl ⟨v, vm₁, B, X₁.warmed, X', hpost, fun target h => hstep₁ _ fun acts => by rw [doInvoke_state]; exact hsteps.trans h⟩
  · exact Or.inr ⟨q, vm₁, B, X₁.warmed, X', hpost, hstep₁ _ fun acts => by rw [doInvoke_state]; exact hsteps⟩
theorem vx_callVW (X : Stand p l e R s m args below meth c T locs cells slots) (hexec : p.tables.exec = Jvm.exec) {own C : String} {index : Nat} {y : MethodName} {bytes : ByteArray} {maxL : Nat} {ret : Option FieldType} {hh : List (Nat × Nat × Nat × Nat)}
    (hown : s.vm.findClass own = some m.cls) (hlink : (Cond.methodLink own index y).before args s = true) (hinst : (Cond.instanceMethod y).before args s = true) (hsel : (Cond.selects C y y).before args s = true)
    (hcode : (Cond.codeWith y bytes maxL ret hh).before args s = true) (hy : y.cls ≠ "java/lang/invoke/MethodHandle" ∧ y.cls ≠ "java/lang/invoke/VarHandle")
    {W9 : Nat} {Pre : Pt → Array Value → Prop} {Post : Pt → Array Value → Option Value → Pt → Prop} (hK : Back l R p e below s args y 3 W9 Pre Post)
    {b : Addr} {cellB : Cell} (hcell : T.heap[b]? = some cellB) (hobj : cellB.vm.isStatics = false) (hcls : s.vm.findClass C = some cellB.cls)
    {g : JFrame} (hg : g.method = m) (hsize : g.locals.size = c.maxLocals) {argsL rest : List Value} (hlen : ∀ sig, parseMethodDescriptor y.desc = some sig → argsL.length = sig.parameters.length)
    (hstack : g.stack = argsL.reverse ++ .ref b :: rest) (hW : 2 * g.monitorRoom + (rest.map fun v => v.category).sum ≤ W9) (hdg : decode c.code g.pc = .ok (.invokevirtual index, 3))
    (hpre : ∀ vm₁, s.WarmedH vm₁ → Pre ⟨T.setVm vm₁, locs, cells, slots⟩ (Value.ref b :: argsL).toArray) :
    ∃ (v : Option Value) (vm₁ : Vm) (B : Pt), s.WarmedH vm₁ ∧ Stand p l e R s m args below meth c B.U B.locs B.cells B.slots ∧ Post ⟨T.setVm vm₁, locs, cells, slots⟩ (Value.ref b :: argsL).toArray v B ∧
      ∀ target, Steps p.tables e below (B.U.setTop { g with pc := g.pc + 3, stack := v.toList ++ rest }) target → Steps p.tables e below (T.setTop g) target := by
  obtain ⟨mk, methM, hnamed, hmethM, hstM, habM⟩ := Cond.instanceMethod_spec hinst
  obtain ⟨m8, methM', cM, hn8, hmethM', -, -, -, -, -, -, hsigM⟩ := Cond.codeWith_spec hcode
  cases Option.some.inj (hn8.symm.trans hnamed)
  cases hmethM.symm.trans hmethM'
  obtain ⟨c2, r2, m2, q1, q2, q3, q4, kP, hkP, hkPi⟩ := Cond.selects_spec hsel
  cases hcls.symm.trans q1
  cases (State.methodFound?_of_named hnamed hy).symm.trans q2
  cases hnamed.symm.trans q3
  have hselP : selectMethod e.platform s.vm cellB.cls mk = .method mk := by rw [Launch.admits_selectMethod X.admits]; exact q4
  obtain ⟨vm₁, X₁, hstep₁⟩ := X.invokevirtual hexec hown hlink hnamed hmethM hstM hkP hkPi hy (a := b) (cell := cellB) hcell
    (fun z h => by rw [h] at hobj; cases hobj) hselP hmethM habM hkP hkPi (g := g) hg (argsL := argsL) (rest := rest) (hlen _ hsigM) hstack hdg
  obtain ⟨v, B, X', hpost, hsteps⟩ := hK m meth c ⟨T.setVm vm₁, locs, cells, slots⟩ { g with stack := rest } (.invokevirtual index) mk (Value.ref b :: argsL).toArray X₁ hg hsize hdg hW (X₁.named hnamed) (hpre vm₁ X₁.warmed)
  exact ⟨v, vm₁, B, X₁.warmed, X', hpost, fun target h => hstep₁ _ fun acts => by rw [doInvoke_state]; exact hsteps.trans h⟩
abbrev vx_CVW (R : Room) (s : State) (args : Array Value) (own C : String) (index : Nat) (y : MethodName) (bytes : ByteArray) (maxL : Nat) (ret : Option FieldType) (hh : List (Nat × Nat × Nat × Nat)) (ws : List Cond) (rm : Room) (mc ms n : Nat) : Prop :=
  (rm.cells = mc ∧ rm.slots = ms ∧ rm.frames + 1 ≤ R.frames ∧ 8 + (maxL + 11) + rm.locals ≤ R.locals ∧ (∀ w ∈ ws, ∀ (a' : Array Value) (U : State), s.WarmedH U.vm → w.before a' U = true) ∧ Cond.codeWith y bytes maxL ret hh ∈ ws) ∧
  (Cond.codeWith y bytes maxL ret hh).before args s = true ∧ (Cond.initialized y.cls).before args s = true ∧ (y.cls ≠ "java/lang/invoke/MethodHandle" ∧ y.cls ≠ "java/lang/invoke/VarHandle") ∧
  (∀ sig, parseMethodDescriptor y.desc = some sig → n = sig.parameters.length) ∧ (Cond.methodLink own index y).before args s = true ∧ (Cond.instanceMethod y).before args s = true ∧ (Cond.selects C y y).before args s = true
theorem vx_cwVW {own C : String} {index maxL mc ms : Nat} {y : MethodName} {bytes : ByteArray} {ret : Option FieldType} {hh : List (Nat × Nat × Nat × Nat)} {Ts ws ws' : List Cond} {rm : Room} (n : Nat) (ht : ∀ w ∈ Ts, w.before args s = true) (hT : GoodIn Ts (wsV own index C y ws)) (hw : ws = Cond.codeWith y bytes maxL ret hh :: ws') (hrc : rm.cells = mc) (hrs : rm.slots = ms)
    (hd : y.cls = C ∧ y.cls ≠ "java/lang/invoke/MethodHandle" ∧ y.cls ≠ "java/lang/invoke/VarHandle" ∧ (parseMethodDescriptor y.desc).map (fun d => d.parameters.length) = some n) (hR : rm.frames + 1 ≤ R.frames ∧ 8 + (maxL + 11) + rm.locals ≤ R.locals) :
    vx_CVW R s args own C index y bytes maxL ret hh ws rm mc ms n := by
  obtain ⟨hC, hd⟩ := hd
  subst hC
  have ok : ∀ w ∈ wsV own index y.cls y ws, w.before args s = true := fun w h => ht w (hT w h).1
  have hG : GoodIn Ts ws := fun w h => hT w (by unfold wsV; exact List.mem_append_right _ h)
  have hc : Cond.codeWith y bytes maxL ret hh ∈ ws := by rw [hw]; exact List.mem_cons_self
  refine ⟨⟨hrc, hrs, hR.1, hR.2, pay_in ht hG, hc⟩, ht _ (hG _ hc).1, ok _ (by simp [wsV]), ⟨hd.1, hd.2.1⟩, fun sig h => ?_, ok _ (by simp [wsV]), ok _ (by simp [wsV]), ok _ (by simp [wsV])⟩
  have h2 := hd.2.2
  rw [h] at h2
  exact (Option.some.inj h2).symm
theorem vx_runVW {y : MethodName} {bytes cc : ByteArray} {maxL nL mc ms n index : Nat} {ret : Option FieldType} {hh : List (Nat × Nat × Nat × Nat)} {ws : List Cond} {rm : Room} {Pc : Array Value → State → Prop} {Qc : Array Value → State → Outcome → State → Prop} {free : Addr → Prop} {Ts : List Cond} {own C : String} {b : Addr} {As rest : List Value} {g : JFrame}
    (S : CallFix p m c cc nL s args Ts own) (hM : Met l y ws rm Pc Qc mc ms free) (cw : vx_CVW R s args own C index y bytes maxL ret hh ws rm mc ms n) (hp : PreV s H C b Pc As)
    (hg : g.method = m) (hn : As.length = n) (hsize : g.locals.size = nL) (hstack : g.stack = As.reverse ++ .ref b :: rest) (hW : 2 * g.monitorRoom + (rest.map fun v => v.category).sum ≤ 8) (hdg : decode cc g.pc = .ok (.invokevirtual index, 3)) (hf : cells + mc ≤ R.cells ∧ slots + ms ≤ R.slots) :
    va_Run p l e R s m args below meth c H locs cells slots mc ms g rest (Qc (Value.ref b :: As).toArray) free := by
  obtain ⟨⟨hrc, hrs, hfr, hlo, hws, hcw⟩, hcode, hini, hy, hlen, hl, hin, hse⟩ := cw
  have hK : Back l R p e below s args y 3 8 (PreOf R mc ms Pc) (PostOf Qc mc ms free) := va_backW (hh := hh) (bytes := bytes) (maxL := maxL) (ret := ret) hM hp.1 hrc hrs hfr hlo hws hcw (fun a' U hW => word_at hW (Or.inl (by first | rfl | simp [Cond.onTables, Cond.keeps, Cond.steady])) hini)
  obtain ⟨hx, hb, hml, ho, -⟩ := S
  obtain ⟨-, ⟨cellB, hcB, hoB, hclB⟩, hPc⟩ := hp
  intro T hT X
  obtain ⟨v, vm₁, ⟨U', l2, c2, s2⟩, hW₁, X', ⟨g', mk, t, L, e1, e2, hq, h1, hL, h2, h3⟩, st⟩ := vx_callVW X hx (C := C) (hh := hh) (bytes := bytes) (maxL := maxL) (ret := ret) ho hl hin hse hcode hy hK (by rw [hT]; exact hcB) hoB hclB hg (hsize.trans hml.symm) (argsL := As) (rest := rest) (fun sig h => hn.trans (hlen sig h)) hstack hW (by rw [hb]; exact hdg)
    (fun vm₁ hW₁ => ⟨hf.1, hf.2, hPc (T.setVm vm₁) hT hW₁⟩)
  dsimp only [Pt.U, Pt.locs, Pt.cells, Pt.slots] at X' e1 e2 h1 h2 h3 st
  subst h1; subst h2; subst h3
  exact ⟨v, (T.setVm vm₁).calling g' mk (Value.ref b :: As).toArray, t, U', L, hT, X', hL, e1, e2, hq, st⟩
section
variable {y : MethodName} {bytes cc : ByteArray} {maxL nL mc ms n index : Nat} {ret : Option FieldType} {ws : List Cond} {rm : Room} {Pc : Array Value → State → Prop} {Qc : Array Value → State → Outcome → State → Prop} {XC : String → State → State → Prop} {free : Addr → Prop} {Ts : List Cond} {own C : String} {b : Addr} {As rest : List Value} {g : JFrame}
theorem vx_runVX {hh : List (Nat × Nat × Nat × Nat)} (S : CallFix p m c cc nL s args Ts own) (hM : vx_Met l y ws rm Pc Qc XC mc ms free) (cw : vx_CVW R s args own C index y bytes maxL ret hh ws rm mc ms n) (hp : PreV s H C b Pc As)
    (hg : g.method = m) (hn : As.length = n) (hsize : g.locals.size = nL) (hstack : g.stack = As.reverse ++ .ref b :: rest) (hW : 2 * g.monitorRoom + (rest.map fun v => v.category).sum ≤ 8) (hdg : decode cc g.pc = .ok (.invokevirtual index, 3)) (hf : cells + mc ≤ R.cells ∧ slots + ms ≤ R.slots) :
    vx_Run p l e R s m args below meth c H locs cells slots mc ms g rest (Qc (Value.ref b :: As).toArray) XC free := by
  obtain ⟨⟨hrc, hrs, hfr, hlo, hws, hcw⟩, hcode, hini, hy, hlen, hl, hin, hse⟩ := cw
  have hK : vx_Back l R p e below s args y 3 8 (PreOf R mc ms Pc) (PostOf Qc mc ms free) (vx_Post XC mc ms free) := vx_backW (hh := hh) (bytes := bytes) (maxL := maxL) (ret := ret) hM hp.1 hrc hrs hfr hlo hws hcw (fun a' U hW => word_at hW (Or.inl (by first | rfl | simp [Cond.onTables, Cond.keeps, Cond.steady])) hini)
  obtain ⟨hx, hb, hml, ho, -⟩ := S
  obtain ⟨-, ⟨cellB, hcB, hoB, hclB⟩, hPc⟩ := hp
  intro T hT X
  rcases vx_callVX X hx (C := C) (hh := hh) (bytes := bytes) (maxL := maxL) (ret := ret) ho hl hin hse hcode hy hK (by rw [hT]; exact hcB) hoB hclB hg (hsize.trans hml.symm) (argsL := As) (rest := rest) (fun sig h => hn.trans (hlen sig h)) hstack hW (by rw [hb]; exact hdg)
    (fun vm₁ hW₁ => ⟨hf.1, hf.2, hPc (T.setVm vm₁) hT hW₁⟩) with ⟨v, vm₁, ⟨U', l2, c2, s2⟩, hW₁, X', ⟨g', mk, t, L, e1, e2, hq, h1, hL, h2, h3⟩, st⟩ | ⟨q, vm₁, ⟨U', l2, c2, s2⟩, hW₁, X', ⟨g', mk, t, L, E, ce, e1, e2, hq, hce, hcv, hcl, h1, hL, h2, h3⟩, st⟩
  · dsimp only [Pt.U, Pt.locs, Pt.cells, Pt.slots] at X' e1 e2 h1 h2 h3 st
    subst h1; subst h2; subst h3
    exact Or.inl ⟨v, (T.setVm vm₁).calling g' mk (Value.ref b :: As).toArray, t, U', L, hT, X', hL, e1, e2, hq, st⟩
  · dsimp only [Pt.U, Pt.locs, Pt.cells, Pt.slots] at X' e1 e2 h1 h2 h3 st hcl
    subst h1; subst h2; subst h3
    exact Or.inr ⟨q, (T.setVm vm₁).calling g' mk (Value.ref b :: As).toArray, t, U', L, E, ce, hT, X', hL, e1, e2, hq, hce, hcv, vx_cls hW₁ hcl, st⟩
theorem vx_runSX {hh : List (Nat × Nat × Nat × Nat)} (S : CallFix p m c cc nL s args Ts own) (hM : vx_Met l y ws rm Pc Qc XC mc ms free) (cw : vx_CSW R s args own index y bytes maxL ret hh ws rm mc ms n) (hp : PreS s H Pc As)
    (hg : g.method = m) (hn : As.length = n) (hsize : g.locals.size = nL) (hstack : g.stack = As.reverse ++ rest) (hW : 2 * g.monitorRoom + (rest.map fun v => v.category).sum ≤ 8) (hdg : decode cc g.pc = .ok (.invokestatic index, 3)) (hf : cells + mc ≤ R.cells ∧ slots + ms ≤ R.slots) :
    vx_Run p l e R s m args below meth c H locs cells slots mc ms g rest (Qc As.toArray) XC free := by
  obtain ⟨⟨hrc, hrs, hfr, hlo, hws, hcw⟩, hcode, hini, hy, hlen, hl, hstt⟩ := cw
  have hK : vx_Back l R p e below s args y 3 8 (PreOf R mc ms Pc) (PostOf Qc mc ms free) (vx_Post XC mc ms free) := vx_backW (hh := hh) (bytes := bytes) (maxL := maxL) (ret := ret) hM hp.1 hrc hrs hfr hlo hws hcw (fun a' U hW => word_at hW (Or.inl (by first | rfl | simp [Cond.onTables, Cond.keeps, Cond.steady])) hini)
  obtain ⟨hx, hb, hml, ho, -⟩ := S
  intro T hT X
  rcases vx_callSX X hx (hh := hh) (bytes := bytes) (maxL := maxL) (ret := ret) ho hl hstt hini hcode hy hK hg (hsize.trans hml.symm) (argsL := As) (rest := rest) (fun sig h => hn.trans (hlen sig h)) hstack hW (by rw [hb]; exact hdg)
    (fun vm₁ hW₁ => ⟨hf.1, hf.2, hp.2 (T.setVm vm₁) hT hW₁⟩) with ⟨v, vm₁, ⟨U', l2, c2, s2⟩, hW₁, X', ⟨g', mk, t, L, e1, e2, hq, h1, hL, h2, h3⟩, st⟩ | ⟨q, vm₁, ⟨U', l2, c2, s2⟩, hW₁, X', ⟨g', mk, t, L, E, ce, e1, e2, hq, hce, hcv, hcl, h1, hL, h2, h3⟩, st⟩
  · dsimp only [Pt.U, Pt.locs, Pt.cells, Pt.slots] at X' e1 e2 h1 h2 h3 st
    subst h1; subst h2; subst h3
    exact Or.inl ⟨v, (T.setVm vm₁).calling g' mk As.toArray, t, U', L, hT, X', hL, e1, e2, hq, st⟩
  · dsimp only [Pt.U, Pt.locs, Pt.cells, Pt.slots] at X' e1 e2 h1 h2 h3 st hcl
    subst h1; subst h2; subst h3
    exact Or.inr ⟨q, (T.setVm vm₁).calling g' mk As.toArray, t, U', L, E, ce, hT, X', hL, e1, e2, hq, hce, hcv, vx_cls hW₁ hcl, st⟩
end
end VXH
theorem vx_ofWH {l : Launch} {y : MethodName} {ws ws' : List Cond} {rm : Room} {Pc : Array Value → State → Prop} {Qc : Array Value → State → Outcome → State → Prop} {XC : String → State → State → Prop} {mc ms : Nat} {free : Addr → Prop} {cc : ByteArray} {maxL : Nat} {ret : Option FieldType} {hh : List (Nat × Nat × Nat × Nat)}
    (hy : plainName y.cls = true) (hw : ws = Cond.codeWith y cc maxL ret hh :: ws')
    (body : ∀ p e s m args below meth c s₁, BodyLoose p l y (headSpec ws rm) cc maxL ret e s m args below meth c s₁ → c.maxLocals = maxL → Pc args s →
      W p l e (headSpec ws rm).room s m args below meth c s.heap [] 0 0 (vx_MQ below Qc XC args s mc ms free) (entryFrame m args maxL)) : vx_Met l y ws rm Pc Qc XC mc ms free := by
  refine MetFree.of_bodyS (code := cc) (maxLocals := maxL) (ret := ret) hy ?_ ?_
  · intro args s m h hn
    obtain ⟨m9, meth, c, hn9, h1, h2, h3, h4, -, h5, h6, -⟩ := Cond.codeWith_spec (atoms_spec (ws := ws) h _ (by rw [hw]; exact List.mem_cons_self))
    cases hn.symm.trans hn9
    exact ⟨meth, c, h1, h2, h3, h4, h5, h6⟩
  · intro p e s m args below meth c s₁ B hml hP _
    have hh0 : s₁.heap = s.heap := by rw [B.state]; rfl
    obtain ⟨t, a1, o, b1, b2, b3⟩ := body p e s m args below meth c s₁ B hml hP s₁ hh0 (Stand.of_body B)
    exact ⟨t, o, a1, b1, b2, b3⟩
/-! ===== END ===== -/

/-! ===== BEGIN printed: names, fields, word lists, decode rows ===== -/
def RX0 : String := "HiddenFacts$Action"
def TX0 : u_T := fun k => match k with
  | 0 => ("HiddenFacts$Action", "there", "Z", false)
  | 1 => ("HiddenFacts$Action", "condition", "I", false)
  | 2 => ("HiddenFacts$Action", "senses", "I", false)
  | 3 => ("HiddenFacts$Action", "effects", "I", false)
  | _ => ("HiddenFacts$Action", "next", "[I", true)
def tyX0 : Nat → FieldType := fun k => match k with
  | 0 => .boolean
  | 1 => .int
  | 2 => .int
  | 3 => .int
  | _ => .array .int
abbrev wsX00 : List Cond := u_ws RX0 TX0 5
theorem nmX0 : ∀ a, a < 5 → ∀ b, b < 5 → a ≠ b → (TX0 a).2.1 ≠ (TX0 b).2.1 := by decide +kernel
theorem tyX0_ok : ∀ k, k < 5 → parseFieldDescriptor (TX0 k).2.2.1 = some (tyX0 k) := by decide +kernel
abbrev cX0_init : ByteArray := prog_2_method_1_code
def yX0_init : MethodName := ⟨RX0, "<init>", "()V"⟩
abbrev cX0_begin : ByteArray := prog_2_method_2_code
def yX0_begin : MethodName := ⟨RX0, "begin", "(II)V"⟩
abbrev cX0_addEffect : ByteArray := prog_2_method_3_code
def yX0_addEffect : MethodName := ⟨RX0, "addEffect", "(IZI)V"⟩
abbrev cX0_usable : ByteArray := prog_2_method_4_code
def yX0_usable : MethodName := ⟨RX0, "usable", "(I)Z"⟩
abbrev cX0_after : ByteArray := prog_2_method_5_code
def yX0_after : MethodName := ⟨RX0, "after", "(I)I"⟩
abbrev cX0_part : ByteArray := prog_2_method_6_code
def yX0_part : MethodName := ⟨RX0, "part", "(II)I"⟩
abbrev cX0_sensed : ByteArray := prog_2_method_7_code
def yX0_sensed : MethodName := ⟨RX0, "sensed", "(I)I"⟩
def RX1 : String := "HiddenFacts$Sight"
def TX1 : u_T := fun k => match k with
  | 0 => ("HiddenFacts$Sight", "come", "[I", true)
  | 1 => ("HiddenFacts$Sight", "apart", "[I", true)
  | _ => ("HiddenFacts$Sight", "belief", "I", false)
def tyX1 : Nat → FieldType := fun k => match k with
  | 0 => .array .int
  | 1 => .array .int
  | _ => .int
abbrev wsX10 : List Cond := u_ws RX1 TX1 3
theorem nmX1 : ∀ a, a < 3 → ∀ b, b < 3 → a ≠ b → (TX1 a).2.1 ≠ (TX1 b).2.1 := by decide +kernel
theorem tyX1_ok : ∀ k, k < 3 → parseFieldDescriptor (TX1 k).2.2.1 = some (tyX1 k) := by decide +kernel
abbrev cX1_init : ByteArray := prog_3_method_1_code
def yX1_init : MethodName := ⟨RX1, "<init>", "()V"⟩
abbrev cX1_open : ByteArray := prog_3_method_2_code
def yX1_open : MethodName := ⟨RX1, "open", "(I)V"⟩
abbrev cX1_step : ByteArray := prog_3_method_3_code
def yX1_step : MethodName := ⟨RX1, "step", "(LHiddenFacts$Action;I)V"⟩
abbrev cX1_firstAlike : ByteArray := prog_3_method_4_code
def yX1_firstAlike : MethodName := ⟨RX1, "firstAlike", "()I"⟩
def RX2 : String := "HiddenFacts$Tree"
def TX2 : u_T := fun k => match k with
  | 0 => ("HiddenFacts$Tree", "cells", "[I", true)
  | _ => ("HiddenFacts$Tree", "count", "I", false)
def tyX2 : Nat → FieldType := fun k => match k with
  | 0 => .array .int
  | _ => .int
abbrev wsX20 : List Cond := u_ws RX2 TX2 2
theorem nmX2 : ∀ a, a < 2 → ∀ b, b < 2 → a ≠ b → (TX2 a).2.1 ≠ (TX2 b).2.1 := by decide +kernel
theorem tyX2_ok : ∀ k, k < 2 → parseFieldDescriptor (TX2 k).2.2.1 = some (tyX2 k) := by decide +kernel
abbrev cX2_init : ByteArray := prog_4_method_1_code
def yX2_init : MethodName := ⟨RX2, "<init>", "()V"⟩
abbrev cX2_empty : ByteArray := prog_4_method_2_code
def yX2_empty : MethodName := ⟨RX2, "empty", "()V"⟩
abbrev cX2_cell : ByteArray := prog_4_method_3_code
def yX2_cell : MethodName := ⟨RX2, "cell", "(II)I"⟩
abbrev cX2_setAction : ByteArray := prog_4_method_4_code
def yX2_setAction : MethodName := ⟨RX2, "setAction", "(II)V"⟩
abbrev cX2_open : ByteArray := prog_4_method_5_code
def yX2_open : MethodName := ⟨RX2, "open", "()I"⟩
abbrev cX2_close : ByteArray := prog_4_method_6_code
def yX2_close : MethodName := ⟨RX2, "close", "(IIII)I"⟩
def RX3 : String := "HiddenFacts"
def TX3 : u_T := fun k => match k with
  | 0 => ("HiddenFacts", "actions", "[LHiddenFacts$Action;", true)
  | 1 => ("HiddenFacts", "tree", "LHiddenFacts$Tree;", true)
  | 2 => ("HiddenFacts", "sight", "LHiddenFacts$Sight;", true)
  | 3 => ("HiddenFacts", "trace", "[I", true)
  | 4 => ("HiddenFacts", "clauses", "I", false)
  | 5 => ("HiddenFacts", "startBelief", "I", false)
  | 6 => ("HiddenFacts", "goalStates", "I", false)
  | 7 => ("HiddenFacts", "hidden", "I", false)
  | _ => ("HiddenFacts", "made", "I", false)
def tyX3 : Nat → FieldType := fun k => match k with
  | 0 => .array (.object "HiddenFacts$Action")
  | 1 => .object "HiddenFacts$Tree"
  | 2 => .object "HiddenFacts$Sight"
  | 3 => .array .int
  | 4 => .int
  | 5 => .int
  | 6 => .int
  | 7 => .int
  | _ => .int
abbrev wsX30 : List Cond := u_ws RX3 TX3 9
theorem nmX3 : ∀ a, a < 9 → ∀ b, b < 9 → a ≠ b → (TX3 a).2.1 ≠ (TX3 b).2.1 := by decide +kernel
theorem tyX3_ok : ∀ k, k < 9 → parseFieldDescriptor (TX3 k).2.2.1 = some (tyX3 k) := by decide +kernel
abbrev cX3_init : ByteArray := prog_1_method_1_code
def yX3_init : MethodName := ⟨RX3, "<init>", "()V"⟩
abbrev cX3_clear : ByteArray := prog_1_method_2_code
def yX3_clear : MethodName := ⟨RX3, "clear", "()I"⟩
abbrev cX3_action : ByteArray := prog_1_method_3_code
def yX3_action : MethodName := ⟨RX3, "action", "(IIII)Z"⟩
abbrev cX3_effect : ByteArray := prog_1_method_4_code
def yX3_effect : MethodName := ⟨RX3, "effect", "(IIZII)I"⟩
abbrev cX3_clause : ByteArray := prog_1_method_5_code
def yX3_clause : MethodName := ⟨RX3, "clause", "(II)I"⟩
abbrev cX3_goal : ByteArray := prog_1_method_6_code
def yX3_goal : MethodName := ⟨RX3, "goal", "(II)I"⟩
abbrev cX3_start : ByteArray := prog_1_method_7_code
def yX3_start : MethodName := ⟨RX3, "start", "()I"⟩
abbrev cX3_behind : ByteArray := prog_1_method_8_code
def yX3_behind : MethodName := ⟨RX3, "behind", "(II)I"⟩
abbrev cX3_least : ByteArray := prog_1_method_9_code
def yX3_least : MethodName := ⟨RX3, "least", "(II)I"⟩
abbrev cX3_plan : ByteArray := prog_1_method_10_code
def yX3_plan : MethodName := ⟨RX3, "plan", "(I)I"⟩
abbrev cX3_nodes : ByteArray := prog_1_method_11_code
def yX3_nodes : MethodName := ⟨RX3, "nodes", "()I"⟩
abbrev cX3_node : ByteArray := prog_1_method_12_code
def yX3_node : MethodName := ⟨RX3, "node", "(II)I"⟩
abbrev cX3_edit : ByteArray := prog_1_method_13_code
def yX3_edit : MethodName := ⟨RX3, "edit", "(II)I"⟩
abbrev cX3_right : ByteArray := prog_1_method_14_code
def yX3_right : MethodName := ⟨RX3, "right", "()Z"⟩
abbrev cX3_hide : ByteArray := prog_1_method_15_code
def yX3_hide : MethodName := ⟨RX3, "hide", "(I)Z"⟩
abbrev cX3_execute : ByteArray := prog_1_method_16_code
def yX3_execute : MethodName := ⟨RX3, "execute", "()Z"⟩
abbrev cX3_made : ByteArray := prog_1_method_17_code
def yX3_made : MethodName := ⟨RX3, "made", "()I"⟩
abbrev cX3_trace : ByteArray := prog_1_method_18_code
def yX3_trace : MethodName := ⟨RX3, "trace", "(I)I"⟩
abbrev cX3_twins : ByteArray := prog_1_method_19_code
def yX3_twins : MethodName := ⟨RX3, "twins", "()I"⟩
abbrev cX3_forgetAll : ByteArray := prog_1_method_20_code
def yX3_forgetAll : MethodName := ⟨RX3, "forgetAll", "()V"⟩
abbrev cX3_needNumber : ByteArray := prog_1_method_21_code
def yX3_needNumber : MethodName := ⟨RX3, "needNumber", "(I)V"⟩
abbrev cX3_needThere : ByteArray := prog_1_method_22_code
def yX3_needThere : MethodName := ⟨RX3, "needThere", "(I)V"⟩
abbrev cX3_needBits : ByteArray := prog_1_method_23_code
def yX3_needBits : MethodName := ⟨RX3, "needBits", "(II)V"⟩
abbrev cX3_needDepth : ByteArray := prog_1_method_24_code
def yX3_needDepth : MethodName := ⟨RX3, "needDepth", "(I)V"⟩
abbrev cX3_needSolved : ByteArray := prog_1_method_25_code
def yX3_needSolved : MethodName := ⟨RX3, "needSolved", "(I)I"⟩
abbrev cX3_needNode : ByteArray := prog_1_method_26_code
def yX3_needNode : MethodName := ⟨RX3, "needNode", "(I)V"⟩
abbrev cX3_needPlan : ByteArray := prog_1_method_27_code
def yX3_needPlan : MethodName := ⟨RX3, "needPlan", "()V"⟩
abbrev cX3_isIn : ByteArray := prog_1_method_28_code
def yX3_isIn : MethodName := ⟨RX3, "isIn", "(II)Z"⟩
abbrev cX3_demanded : ByteArray := prog_1_method_29_code
def yX3_demanded : MethodName := ⟨RX3, "demanded", "(II)I"⟩
abbrev cX3_allowed : ByteArray := prog_1_method_30_code
def yX3_allowed : MethodName := ⟨RX3, "allowed", "(II)I"⟩
abbrev cX3_fewest : ByteArray := prog_1_method_31_code
def yX3_fewest : MethodName := ⟨RX3, "fewest", "(II)I"⟩
abbrev cX3_solved : ByteArray := prog_1_method_32_code
def yX3_solved : MethodName := ⟨RX3, "solved", "(II)Z"⟩
abbrev cX3_reached : ByteArray := prog_1_method_33_code
def yX3_reached : MethodName := ⟨RX3, "reached", "(I)Z"⟩
abbrev cX3_leastAction : ByteArray := prog_1_method_34_code
def yX3_leastAction : MethodName := ⟨RX3, "leastAction", "(II)I"⟩
abbrev cX3_solves : ByteArray := prog_1_method_35_code
def yX3_solves : MethodName := ⟨RX3, "solves", "(LHiddenFacts$Action;II)Z"⟩
abbrev cX3_grow : ByteArray := prog_1_method_36_code
def yX3_grow : MethodName := ⟨RX3, "grow", "(II)I"⟩
abbrev cX3_growPart : ByteArray := prog_1_method_37_code
def yX3_growPart : MethodName := ⟨RX3, "growPart", "(II)I"⟩
abbrev cX3_fits : ByteArray := prog_1_method_38_code
def yX3_fits : MethodName := ⟨RX3, "fits", "(III)Z"⟩
abbrev cX3_carryOut : ByteArray := prog_1_method_39_code
def yX3_carryOut : MethodName := ⟨RX3, "carryOut", "()Z"⟩
abbrev cX3_look : ByteArray := prog_1_method_40_code
def yX3_look : MethodName := ⟨RX3, "look", "(II)V"⟩
def RX4 : String := "HiddenFactsModel"
def TX4 : u_T := fun k => match k with
  | 0 => ("HiddenFactsModel", "thrown", "I", false)
  | 1 => ("HiddenFactsModel", "there", "[Z", true)
  | 2 => ("HiddenFactsModel", "mask", "[I", true)
  | 3 => ("HiddenFactsModel", "value", "[I", true)
  | 4 => ("HiddenFactsModel", "senses", "[I", true)
  | 5 => ("HiddenFactsModel", "effects", "[I", true)
  | 6 => ("HiddenFactsModel", "facts", "[I", true)
  | 7 => ("HiddenFactsModel", "makes", "[Z", true)
  | 8 => ("HiddenFactsModel", "masks", "[I", true)
  | 9 => ("HiddenFactsModel", "values", "[I", true)
  | 10 => ("HiddenFactsModel", "clauses", "I", false)
  | 11 => ("HiddenFactsModel", "trues", "[I", true)
  | 12 => ("HiddenFactsModel", "falses", "[I", true)
  | 13 => ("HiddenFactsModel", "goalMask", "I", false)
  | 14 => ("HiddenFactsModel", "goalValue", "I", false)
  | 15 => ("HiddenFactsModel", "nodes", "I", false)
  | 16 => ("HiddenFactsModel", "nodeAction", "[I", true)
  | 17 => ("HiddenFactsModel", "nodeFirst", "[I", true)
  | 18 => ("HiddenFactsModel", "nodeSecond", "[I", true)
  | 19 => ("HiddenFactsModel", "asked", "[I", true)
  | 20 => ("HiddenFactsModel", "tried", "[I", true)
  | 21 => ("HiddenFactsModel", "side", "[I", true)
  | 22 => ("HiddenFactsModel", "belief", "[I", true)
  | 23 => ("HiddenFactsModel", "does", "[I", true)
  | 24 => ("HiddenFactsModel", "same", "[I", true)
  | 25 => ("HiddenFactsModel", "numbered", "[I", true)
  | 26 => ("HiddenFactsModel", "walk", "[I", true)
  | 27 => ("HiddenFactsModel", "walkBelief", "[I", true)
  | 28 => ("HiddenFactsModel", "hidden", "I", false)
  | 29 => ("HiddenFactsModel", "made", "I", false)
  | 30 => ("HiddenFactsModel", "trace", "[I", true)
  | 31 => ("HiddenFactsModel", "at", "[I", true)
  | _ => ("HiddenFactsModel", "apart", "[I", true)
def tyX4 : Nat → FieldType := fun k => match k with
  | 0 => .int
  | 1 => .array .boolean
  | 2 => .array .int
  | 3 => .array .int
  | 4 => .array .int
  | 5 => .array .int
  | 6 => .array .int
  | 7 => .array .boolean
  | 8 => .array .int
  | 9 => .array .int
  | 10 => .int
  | 11 => .array .int
  | 12 => .array .int
  | 13 => .int
  | 14 => .int
  | 15 => .int
  | 16 => .array .int
  | 17 => .array .int
  | 18 => .array .int
  | 19 => .array .int
  | 20 => .array .int
  | 21 => .array .int
  | 22 => .array .int
  | 23 => .array .int
  | 24 => .array .int
  | 25 => .array .int
  | 26 => .array .int
  | 27 => .array .int
  | 28 => .int
  | 29 => .int
  | 30 => .array .int
  | 31 => .array .int
  | _ => .array .int
abbrev wsX40 : List Cond := u_ws RX4 TX4 33
theorem nmX4 : ∀ a, a < 33 → ∀ b, b < 33 → a ≠ b → (TX4 a).2.1 ≠ (TX4 b).2.1 := by decide +kernel
theorem tyX4_ok : ∀ k, k < 33 → parseFieldDescriptor (TX4 k).2.2.1 = some (tyX4 k) := by decide +kernel
abbrev cX4_init : ByteArray := prog_6_method_1_code
def yX4_init : MethodName := ⟨RX4, "<init>", "()V"⟩
abbrev cX4_thrown : ByteArray := prog_6_method_2_code
def yX4_thrown : MethodName := ⟨RX4, "thrown", "()I"⟩
abbrev cX4_fail : ByteArray := prog_6_method_3_code
def yX4_fail : MethodName := ⟨RX4, "fail", "(I)I"⟩
abbrev cX4_within : ByteArray := prog_6_method_4_code
def yX4_within : MethodName := ⟨RX4, "within", "(III)Z"⟩
abbrev cX4_demand : ByteArray := prog_6_method_5_code
def yX4_demand : MethodName := ⟨RX4, "demand", "(II)Z"⟩
abbrev cX4_holds : ByteArray := prog_6_method_6_code
def yX4_holds : MethodName := ⟨RX4, "holds", "(III)Z"⟩
abbrev cX4_clear : ByteArray := prog_6_method_7_code
def yX4_clear : MethodName := ⟨RX4, "clear", "()I"⟩
abbrev cX4_action : ByteArray := prog_6_method_8_code
def yX4_action : MethodName := ⟨RX4, "action", "(IIII)Z"⟩
abbrev cX4_effect : ByteArray := prog_6_method_9_code
def yX4_effect : MethodName := ⟨RX4, "effect", "(IIZII)I"⟩
abbrev cX4_clause : ByteArray := prog_6_method_10_code
def yX4_clause : MethodName := ⟨RX4, "clause", "(II)I"⟩
abbrev cX4_goal : ByteArray := prog_6_method_11_code
def yX4_goal : MethodName := ⟨RX4, "goal", "(II)I"⟩
abbrev cX4_startBelief : ByteArray := prog_6_method_12_code
def yX4_startBelief : MethodName := ⟨RX4, "startBelief", "()I"⟩
abbrev cX4_start : ByteArray := prog_6_method_13_code
def yX4_start : MethodName := ⟨RX4, "start", "()I"⟩
abbrev cX4_usable : ByteArray := prog_6_method_14_code
def yX4_usable : MethodName := ⟨RX4, "usable", "(II)Z"⟩
abbrev cX4_next : ByteArray := prog_6_method_15_code
def yX4_next : MethodName := ⟨RX4, "next", "(II)I"⟩
abbrev cX4_after : ByteArray := prog_6_method_16_code
def yX4_after : MethodName := ⟨RX4, "after", "(II)I"⟩
abbrev cX4_part : ByteArray := prog_6_method_17_code
def yX4_part : MethodName := ⟨RX4, "part", "(III)I"⟩
abbrev cX4_behind : ByteArray := prog_6_method_18_code
def yX4_behind : MethodName := ⟨RX4, "behind", "(II)I"⟩
abbrev cX4_reached : ByteArray := prog_6_method_19_code
def yX4_reached : MethodName := ⟨RX4, "reached", "(I)Z"⟩
abbrev cX4_solved : ByteArray := prog_6_method_20_code
def yX4_solved : MethodName := ⟨RX4, "solved", "(II)Z"⟩
abbrev cX4_leastFor : ByteArray := prog_6_method_21_code
def yX4_leastFor : MethodName := ⟨RX4, "leastFor", "(II)I"⟩
abbrev cX4_least : ByteArray := prog_6_method_22_code
def yX4_least : MethodName := ⟨RX4, "least", "(II)I"⟩
abbrev cX4_partSolved : ByteArray := prog_6_method_23_code
def yX4_partSolved : MethodName := ⟨RX4, "partSolved", "(IIII)Z"⟩
abbrev cX4_choose : ByteArray := prog_6_method_24_code
def yX4_choose : MethodName := ⟨RX4, "choose", "(II)V"⟩
abbrev cX4_depthOf : ByteArray := prog_6_method_25_code
def yX4_depthOf : MethodName := ⟨RX4, "depthOf", "(I)I"⟩
abbrev cX4_equal : ByteArray := prog_6_method_26_code
def yX4_equal : MethodName := ⟨RX4, "equal", "(II)Z"⟩
abbrev cX4_classOf : ByteArray := prog_6_method_27_code
def yX4_classOf : MethodName := ⟨RX4, "classOf", "(I)I"⟩
abbrev cX4_build : ByteArray := prog_6_method_28_code
def yX4_build : MethodName := ⟨RX4, "build", "(II)V"⟩
abbrev cX4_number : ByteArray := prog_6_method_29_code
def yX4_number : MethodName := ⟨RX4, "number", "()V"⟩
abbrev cX4_plan : ByteArray := prog_6_method_30_code
def yX4_plan : MethodName := ⟨RX4, "plan", "(I)I"⟩
abbrev cX4_nodes : ByteArray := prog_6_method_31_code
def yX4_nodes : MethodName := ⟨RX4, "nodes", "()I"⟩
abbrev cX4_node : ByteArray := prog_6_method_32_code
def yX4_node : MethodName := ⟨RX4, "node", "(II)I"⟩
abbrev cX4_edit : ByteArray := prog_6_method_33_code
def yX4_edit : MethodName := ⟨RX4, "edit", "(II)I"⟩
abbrev cX4_right : ByteArray := prog_6_method_34_code
def yX4_right : MethodName := ⟨RX4, "right", "()Z"⟩
abbrev cX4_hide : ByteArray := prog_6_method_35_code
def yX4_hide : MethodName := ⟨RX4, "hide", "(I)Z"⟩
abbrev cX4_execute : ByteArray := prog_6_method_36_code
def yX4_execute : MethodName := ⟨RX4, "execute", "()Z"⟩
abbrev cX4_made : ByteArray := prog_6_method_37_code
def yX4_made : MethodName := ⟨RX4, "made", "()I"⟩
abbrev cX4_trace : ByteArray := prog_6_method_38_code
def yX4_trace : MethodName := ⟨RX4, "trace", "(I)I"⟩
abbrev cX4_make : ByteArray := prog_6_method_39_code
def yX4_make : MethodName := ⟨RX4, "make", "(II)V"⟩
abbrev cX4_beliefAt : ByteArray := prog_6_method_40_code
def yX4_beliefAt : MethodName := ⟨RX4, "beliefAt", "(II)I"⟩
abbrev cX4_twins : ByteArray := prog_6_method_41_code
def yX4_twins : MethodName := ⟨RX4, "twins", "()I"⟩
def RJ6 : String := "java/lang/Integer"
def TJ6 : u_T := fun k => match k with
  | _ => ("", "", "", false)
def tyJ6 : Nat → FieldType := fun k => match k with
  | _ => .int
abbrev wsJ60 : List Cond := u_ws RJ6 TJ6 0
theorem nmJ6 : ∀ a, a < 0 → ∀ b, b < 0 → a ≠ b → (TJ6 a).2.1 ≠ (TJ6 b).2.1 := by decide +kernel
theorem tyJ6_ok : ∀ k, k < 0 → parseFieldDescriptor (TJ6 k).2.2.1 = some (tyJ6 k) := by decide +kernel
abbrev cJ6_bitCount_0f7a4 : ByteArray := prog_11_method_49_code
def yJ6_bitCount_0f7a4 : MethodName := ⟨RJ6, "bitCount", "(I)I"⟩
def RJ0 : String := "java/lang/String"
def TJ0 : u_T := fun k => match k with
  | _ => ("", "", "", false)
def tyJ0 : Nat → FieldType := fun k => match k with
  | _ => .int
abbrev wsJ00 : List Cond := u_ws RJ0 TJ0 0
theorem nmJ0 : ∀ a, a < 0 → ∀ b, b < 0 → a ≠ b → (TJ0 a).2.1 ≠ (TJ0 b).2.1 := by decide +kernel
theorem tyJ0_ok : ∀ k, k < 0 → parseFieldDescriptor (TJ0 k).2.2.1 = some (tyJ0 k) := by decide +kernel
def RL : String := "HiddenFactsLaw"
abbrev cL_action : ByteArray := method_3_code
def yL_action : MethodName := ⟨RL, "action", "(LHiddenFacts;IIII[J)I"⟩
abbrev cL_effect : ByteArray := method_4_code
def yL_effect : MethodName := ⟨RL, "effect", "(LHiddenFacts;IIZII[J)I"⟩
abbrev cL_clause : ByteArray := method_5_code
def yL_clause : MethodName := ⟨RL, "clause", "(LHiddenFacts;II[J)I"⟩
abbrev cL_goal : ByteArray := method_6_code
def yL_goal : MethodName := ⟨RL, "goal", "(LHiddenFacts;II[J)I"⟩
abbrev cL_behind : ByteArray := method_7_code
def yL_behind : MethodName := ⟨RL, "behind", "(LHiddenFacts;II[J)I"⟩
abbrev cL_least : ByteArray := method_8_code
def yL_least : MethodName := ⟨RL, "least", "(LHiddenFacts;II[J)I"⟩
abbrev cL_plan : ByteArray := method_9_code
def yL_plan : MethodName := ⟨RL, "plan", "(LHiddenFacts;I[J)I"⟩
abbrev cL_node : ByteArray := method_10_code
def yL_node : MethodName := ⟨RL, "node", "(LHiddenFacts;II[J)I"⟩
abbrev cL_edit : ByteArray := method_11_code
def yL_edit : MethodName := ⟨RL, "edit", "(LHiddenFacts;II[J)I"⟩
abbrev cL_right : ByteArray := method_12_code
def yL_right : MethodName := ⟨RL, "right", "(LHiddenFacts;[J)I"⟩
abbrev cL_hide : ByteArray := method_13_code
def yL_hide : MethodName := ⟨RL, "hide", "(LHiddenFacts;I[J)I"⟩
abbrev cL_execute : ByteArray := method_14_code
def yL_execute : MethodName := ⟨RL, "execute", "(LHiddenFacts;[J)I"⟩
abbrev cL_trace : ByteArray := method_15_code
def yL_trace : MethodName := ⟨RL, "trace", "(LHiddenFacts;I[J)I"⟩
abbrev cL_twins : ByteArray := method_16_code
def yL_twins : MethodName := ⟨RL, "twins", "(LHiddenFacts;[J)I"⟩
abbrev cL_law : ByteArray := code
def yL_law : MethodName := ⟨RL, "law", "([I)Z"⟩
def wsX0_init : List Cond := .code yX0_init cX0_init 1 none :: ([.methodLink RX0 3 objectInit, .instanceMethod objectInit, .code objectInit ⟨#[0xb1]⟩ 1 none, .arrayClass .int, .fieldLink RX0 9 "HiddenFacts$Action" "next" "[I"] ++ wsX00)
def wsX0_begin : List Cond := .code yX0_begin cX0_begin 4 none :: ([.fieldLink RX0 15 "HiddenFacts$Action" "there" "Z", .fieldLink RX0 19 "HiddenFacts$Action" "condition" "I", .fieldLink RX0 23 "HiddenFacts$Action" "senses" "I", .fieldLink RX0 26 "HiddenFacts$Action" "effects" "I", .fieldLink RX0 9 "HiddenFacts$Action" "next" "[I"] ++ wsX00)
def wsX3_isIn : List Cond := .code yX3_isIn cX3_isIn 2 (some .boolean) :: ([])
def wsX0_addEffect : List Cond := .code yX0_addEffect cX0_addEffect 5 none :: ([.fieldLink RX0 9 "HiddenFacts$Action" "next" "[I", .fieldLink RX0 26 "HiddenFacts$Action" "effects" "I", .static yX3_isIn, .initialized RX3, .code yX3_isIn cX3_isIn 2 (some .boolean)] ++ wsX00)
def wsX0_usable : List Cond := .code yX0_usable cX0_usable 2 (some .boolean) :: ([.fieldLink RX0 15 "HiddenFacts$Action" "there" "Z", .fieldLink RX0 19 "HiddenFacts$Action" "condition" "I"] ++ wsX00)
def wsX0_after : List Cond := .code yX0_after cX0_after 4 (some .int) :: ([.fieldLink RX0 9 "HiddenFacts$Action" "next" "[I", .static yX3_isIn, .initialized RX3, .code yX3_isIn cX3_isIn 2 (some .boolean)] ++ wsX00)
def wsX0_part : List Cond := .code yX0_part cX0_part 3 (some .int) :: ([.fieldLink RX0 23 "HiddenFacts$Action" "senses" "I"] ++ wsX00)
def wsX0_sensed : List Cond := .code yX0_sensed cX0_sensed 2 (some .int) :: ([.fieldLink RX0 23 "HiddenFacts$Action" "senses" "I", .static yX3_isIn, .initialized RX3, .code yX3_isIn cX3_isIn 2 (some .boolean)] ++ wsX00)
def wsX1_init : List Cond := .code yX1_init cX1_init 1 none :: ([.methodLink RX1 3 objectInit, .instanceMethod objectInit, .code objectInit ⟨#[0xb1]⟩ 1 none, .arrayClass .int, .fieldLink RX1 9 "HiddenFacts$Sight" "come" "[I", .fieldLink RX1 15 "HiddenFacts$Sight" "apart" "[I"] ++ wsX10)
def wsX1_open : List Cond := .code yX1_open cX1_open 3 none :: ([.fieldLink RX1 18 "HiddenFacts$Sight" "belief" "I", .fieldLink RX1 9 "HiddenFacts$Sight" "come" "[I", .fieldLink RX1 15 "HiddenFacts$Sight" "apart" "[I"] ++ wsX10)
def wsX1_step : List Cond := .code yX1_step cX1_step 7 none :: ([.fieldLink RX1 9 "HiddenFacts$Sight" "come" "[I", .fieldLink RX1 15 "HiddenFacts$Sight" "apart" "[I", .methodLink RX1 27 yX0_sensed, .instanceMethod yX0_sensed, .selects RX0 yX0_sensed yX0_sensed, .initialized RX0, .code yX0_sensed cX0_sensed 2 (some .int), .fieldLink RX0 23 "HiddenFacts$Action" "senses" "I", .static yX3_isIn, .initialized RX3, .code yX3_isIn cX3_isIn 2 (some .boolean)] ++ wsX00 ++ wsX10)
def wsX1_firstAlike : List Cond := .code yX1_firstAlike cX1_firstAlike 3 (some .int) :: ([.fieldLink RX1 18 "HiddenFacts$Sight" "belief" "I", .fieldLink RX1 15 "HiddenFacts$Sight" "apart" "[I", .static yX3_isIn, .initialized RX3, .code yX3_isIn cX3_isIn 2 (some .boolean)] ++ wsX10)
def wsX2_init : List Cond := .code yX2_init cX2_init 1 none :: ([.methodLink RX2 1 objectInit, .instanceMethod objectInit, .code objectInit ⟨#[0xb1]⟩ 1 none, .arrayClass .int, .fieldLink RX2 9 "HiddenFacts$Tree" "cells" "[I"] ++ wsX20)
def wsX2_empty : List Cond := .code yX2_empty cX2_empty 1 none :: ([.fieldLink RX2 13 "HiddenFacts$Tree" "count" "I"] ++ wsX20)
def wsX2_cell : List Cond := .code yX2_cell cX2_cell 3 (some .int) :: ([.fieldLink RX2 9 "HiddenFacts$Tree" "cells" "[I"] ++ wsX20)
def wsX2_setAction : List Cond := .code yX2_setAction cX2_setAction 3 none :: ([.fieldLink RX2 9 "HiddenFacts$Tree" "cells" "[I"] ++ wsX20)
def wsX2_open : List Cond := .code yX2_open cX2_open 1 (some .int) :: ([.fieldLink RX2 13 "HiddenFacts$Tree" "count" "I", .methodLink RX2 17 yX2_setAction, .instanceMethod yX2_setAction, .selects RX2 yX2_setAction yX2_setAction, .initialized RX2, .code yX2_setAction cX2_setAction 3 none, .fieldLink RX2 9 "HiddenFacts$Tree" "cells" "[I"] ++ wsX20)
def wsX2_close : List Cond := .code yX2_close cX2_close 6 (some .int) :: ([.fieldLink RX2 13 "HiddenFacts$Tree" "count" "I", .fieldLink RX2 9 "HiddenFacts$Tree" "cells" "[I", .methodLink RX2 21 yX2_cell, .instanceMethod yX2_cell, .selects RX2 yX2_cell yX2_cell, .initialized RX2, .code yX2_cell cX2_cell 3 (some .int), .methodLink RX2 17 yX2_setAction, .instanceMethod yX2_setAction, .selects RX2 yX2_setAction yX2_setAction, .code yX2_setAction cX2_setAction 3 none] ++ wsX20)
def wsX3_forgetAll : List Cond := .code yX3_forgetAll cX3_forgetAll 2 none :: ([.fieldLink RX3 11 "HiddenFacts" "actions" "[LHiddenFacts$Action;", .fieldLink RX3 18 "HiddenFacts" "tree" "LHiddenFacts$Tree;", .fieldLink RX3 84 "HiddenFacts" "clauses" "I", .constant RX3 104 (65535), .fieldLink RX3 89 "HiddenFacts" "startBelief" "I", .fieldLink RX3 95 "HiddenFacts" "goalStates" "I", .fieldLink RX3 166 "HiddenFacts" "hidden" "I", .fieldLink RX3 179 "HiddenFacts" "made" "I", .methodLink RX3 132 yX2_empty, .instanceMethod yX2_empty, .selects RX2 yX2_empty yX2_empty, .initialized RX2, .code yX2_empty cX2_empty 1 none, .fieldLink RX2 13 "HiddenFacts$Tree" "count" "I"] ++ wsX30 ++ wsX00 ++ wsX20)
def wsX3_init_r1 : List Cond := [Cond.methodLink RX3 1 objectInit, Cond.instanceMethod objectInit, Cond.code objectInit ⟨#[0xb1]⟩ 1 none, Cond.classLink RX3 9 RX0, Cond.fieldLink RX3 11 "HiddenFacts" "actions" "[LHiddenFacts$Action;", Cond.classLink RX3 15 RX2, Cond.instantiable RX2 2, Cond.initialized RX2, Cond.fieldLink RX3 18 "HiddenFacts" "tree" "LHiddenFacts$Tree;", Cond.classLink RX3 22 RX1, Cond.instantiable RX1 3, Cond.initialized RX1, Cond.fieldLink RX3 25 "HiddenFacts" "sight" "LHiddenFacts$Sight;", Cond.arrayClass .int, Cond.fieldLink RX3 29 "HiddenFacts" "trace" "[I", Cond.instantiable RX0 5, Cond.initialized RX0, Cond.instanceMethod yX2_init, Cond.code yX2_init cX2_init 1 none, Cond.methodLink RX2 1 objectInit, Cond.fieldLink RX2 9 "HiddenFacts$Tree" "cells" "[I", Cond.instanceMethod yX1_init, Cond.code yX1_init cX1_init 1 none, Cond.methodLink RX1 3 objectInit]
def wsX3_init_r2 : List Cond := [Cond.fieldLink RX1 9 "HiddenFacts$Sight" "come" "[I", Cond.fieldLink RX1 15 "HiddenFacts$Sight" "apart" "[I", Cond.instanceMethod yX0_init, Cond.code yX0_init cX0_init 1 none, Cond.methodLink RX0 3 objectInit, Cond.fieldLink RX0 9 "HiddenFacts$Action" "next" "[I", Cond.methodLink RX3 34 yX3_forgetAll, Cond.instanceMethod yX3_forgetAll, Cond.selects RX3 yX3_forgetAll yX3_forgetAll, Cond.initialized RX3, Cond.code yX3_forgetAll cX3_forgetAll 2 none, Cond.fieldLink RX3 84 "HiddenFacts" "clauses" "I", Cond.constant RX3 104 (65535), Cond.fieldLink RX3 89 "HiddenFacts" "startBelief" "I", Cond.fieldLink RX3 95 "HiddenFacts" "goalStates" "I", Cond.fieldLink RX3 166 "HiddenFacts" "hidden" "I", Cond.fieldLink RX3 179 "HiddenFacts" "made" "I", Cond.methodLink RX3 132 yX2_empty, Cond.instanceMethod yX2_empty, Cond.selects RX2 yX2_empty yX2_empty, Cond.code yX2_empty cX2_empty 1 none, Cond.fieldLink RX2 13 "HiddenFacts$Tree" "count" "I"]
def wsX3_init : List Cond := .code yX3_init cX3_init 2 none :: ((wsX3_init_r1 ++ wsX3_init_r2) ++ wsX30 ++ wsX20 ++ wsX10 ++ wsX00)
def wsX3_clear : List Cond := .code yX3_clear cX3_clear 3 (some .int) :: ([.fieldLink RX3 11 "HiddenFacts" "actions" "[LHiddenFacts$Action;", .methodLink RX3 34 yX3_forgetAll, .instanceMethod yX3_forgetAll, .selects RX3 yX3_forgetAll yX3_forgetAll, .initialized RX3, .code yX3_forgetAll cX3_forgetAll 2 none, .fieldLink RX3 18 "HiddenFacts" "tree" "LHiddenFacts$Tree;", .fieldLink RX3 84 "HiddenFacts" "clauses" "I", .constant RX3 104 (65535), .fieldLink RX3 89 "HiddenFacts" "startBelief" "I", .fieldLink RX3 95 "HiddenFacts" "goalStates" "I", .fieldLink RX3 166 "HiddenFacts" "hidden" "I", .fieldLink RX3 179 "HiddenFacts" "made" "I", .methodLink RX3 132 yX2_empty, .instanceMethod yX2_empty, .selects RX2 yX2_empty yX2_empty, .initialized RX2, .code yX2_empty cX2_empty 1 none, .fieldLink RX2 13 "HiddenFacts$Tree" "count" "I"] ++ wsX30 ++ wsX00 ++ wsX20)
def wsX3_needNumber : List Cond := .code yX3_needNumber cX3_needNumber 1 none :: ([.classLink RX3 144 "java/lang/IndexOutOfBoundsException", .initialized "java/lang/IndexOutOfBoundsException"] ++ (vx_atS RX3 148 "java/lang/IndexOutOfBoundsException" ["java/lang/RuntimeException", "java/lang/Exception"]).filter goodWord)
def wsX3_needBits : List Cond := .code yX3_needBits cX3_needBits 2 none :: ([.classLink RX3 49 "java/lang/IllegalArgumentException", .initialized "java/lang/IllegalArgumentException"] ++ (vx_atS RX3 53 "java/lang/IllegalArgumentException" ["java/lang/RuntimeException", "java/lang/Exception"]).filter goodWord)
def wsX3_demanded : List Cond := .code yX3_demanded cX3_demanded 4 (some .int) :: ([])
def wsX3_action_r1 : List Cond := [Cond.classLink RX3 49 "java/lang/IllegalArgumentException", Cond.initialized "java/lang/IllegalArgumentException", Cond.fieldLink RX3 11 "HiddenFacts" "actions" "[LHiddenFacts$Action;", Cond.fieldLink RX3 60 "HiddenFacts" "TRUE_IN" "[I", Cond.methodLink RX3 41 yX3_needNumber, Cond.static yX3_needNumber, Cond.initialized RX3, Cond.code yX3_needNumber cX3_needNumber 1 none, Cond.classLink RX3 144 "java/lang/IndexOutOfBoundsException", Cond.initialized "java/lang/IndexOutOfBoundsException", Cond.methodLink RX3 45 yX3_needBits, Cond.static yX3_needBits, Cond.code yX3_needBits cX3_needBits 2 none, Cond.methodLink RX3 56 yX3_demanded, Cond.static yX3_demanded, Cond.code yX3_demanded cX3_demanded 4 (some .int), Cond.methodLink RX3 63 yX0_begin, Cond.instanceMethod yX0_begin, Cond.selects RX0 yX0_begin yX0_begin, Cond.initialized RX0, Cond.code yX0_begin cX0_begin 4 none, Cond.fieldLink RX0 15 "HiddenFacts$Action" "there" "Z", Cond.fieldLink RX0 19 "HiddenFacts$Action" "condition" "I", Cond.fieldLink RX0 23 "HiddenFacts$Action" "senses" "I"]
def wsX3_action_r2 : List Cond := [Cond.fieldLink RX0 26 "HiddenFacts$Action" "effects" "I", Cond.fieldLink RX0 9 "HiddenFacts$Action" "next" "[I"]
def wsX3_action : List Cond := .code yX3_action cX3_action 6 (some .boolean) :: ((wsX3_action_r1 ++ wsX3_action_r2) ++ wsX30 ++ wsX00 ++ (vx_atS RX3 53 "java/lang/IllegalArgumentException" ["java/lang/RuntimeException", "java/lang/Exception"]).filter goodWord ++ (vx_atS RX3 148 "java/lang/IndexOutOfBoundsException" ["java/lang/RuntimeException", "java/lang/Exception"]).filter goodWord)
def wsX3_needThere : List Cond := .code yX3_needThere cX3_needThere 2 none :: ([.classLink RX3 194 "java/util/NoSuchElementException", .initialized "java/util/NoSuchElementException", .fieldLink RX3 11 "HiddenFacts" "actions" "[LHiddenFacts$Action;"] ++ wsX30 ++ wsX00 ++ (xn_atS RX3 198 "java/util/NoSuchElementException" ["java/lang/RuntimeException", "java/lang/Exception"]).filter goodWord)
def wsX3_effect_r1 : List Cond := [Cond.classLink RX3 49 "java/lang/IllegalArgumentException", Cond.initialized "java/lang/IllegalArgumentException", Cond.classLink RX3 75 "java/lang/IllegalStateException", Cond.initialized "java/lang/IllegalStateException", Cond.fieldLink RX3 11 "HiddenFacts" "actions" "[LHiddenFacts$Action;", Cond.methodLink RX3 41 yX3_needNumber, Cond.static yX3_needNumber, Cond.initialized RX3, Cond.code yX3_needNumber cX3_needNumber 1 none, Cond.classLink RX3 144 "java/lang/IndexOutOfBoundsException", Cond.initialized "java/lang/IndexOutOfBoundsException", Cond.methodLink RX3 66 yX3_needThere, Cond.instanceMethod yX3_needThere, Cond.selects RX3 yX3_needThere yX3_needThere, Cond.code yX3_needThere cX3_needThere 2 none, Cond.classLink RX3 194 "java/util/NoSuchElementException", Cond.initialized "java/util/NoSuchElementException", Cond.methodLink RX3 45 yX3_needBits, Cond.static yX3_needBits, Cond.code yX3_needBits cX3_needBits 2 none, Cond.methodLink RX3 56 yX3_demanded, Cond.static yX3_demanded, Cond.code yX3_demanded cX3_demanded 4 (some .int), Cond.methodLink RX3 80 yX0_addEffect]
def wsX3_effect_r2 : List Cond := [Cond.instanceMethod yX0_addEffect, Cond.selects RX0 yX0_addEffect yX0_addEffect, Cond.initialized RX0, Cond.code yX0_addEffect cX0_addEffect 5 none, Cond.fieldLink RX0 9 "HiddenFacts$Action" "next" "[I", Cond.fieldLink RX0 26 "HiddenFacts$Action" "effects" "I", Cond.static yX3_isIn, Cond.code yX3_isIn cX3_isIn 2 (some .boolean)]
def wsX3_effect : List Cond := .code yX3_effect cX3_effect 6 (some .int) :: ((wsX3_effect_r1 ++ wsX3_effect_r2) ++ wsX30 ++ wsX00 ++ (vx_atS RX3 53 "java/lang/IllegalArgumentException" ["java/lang/RuntimeException", "java/lang/Exception"]).filter goodWord ++ (vx_atS RX3 79 "java/lang/IllegalStateException" ["java/lang/RuntimeException", "java/lang/Exception"]).filter goodWord ++ (vx_atS RX3 148 "java/lang/IndexOutOfBoundsException" ["java/lang/RuntimeException", "java/lang/Exception"]).filter goodWord ++ (xn_atS RX3 198 "java/util/NoSuchElementException" ["java/lang/RuntimeException", "java/lang/Exception"]).filter goodWord)
def wsX3_allowed : List Cond := .code yX3_allowed cX3_allowed 4 (some .int) :: ([])
def wsX3_clause : List Cond := .code yX3_clause cX3_clause 3 (some .int) :: ([.classLink RX3 75 "java/lang/IllegalStateException", .initialized "java/lang/IllegalStateException", .fieldLink RX3 84 "HiddenFacts" "clauses" "I", .fieldLink RX3 89 "HiddenFacts" "startBelief" "I", .methodLink RX3 45 yX3_needBits, .static yX3_needBits, .initialized RX3, .code yX3_needBits cX3_needBits 2 none, .classLink RX3 49 "java/lang/IllegalArgumentException", .initialized "java/lang/IllegalArgumentException", .methodLink RX3 92 yX3_allowed, .static yX3_allowed, .code yX3_allowed cX3_allowed 4 (some .int)] ++ wsX30 ++ (vx_atS RX3 79 "java/lang/IllegalStateException" ["java/lang/RuntimeException", "java/lang/Exception"]).filter goodWord ++ (vx_atS RX3 53 "java/lang/IllegalArgumentException" ["java/lang/RuntimeException", "java/lang/Exception"]).filter goodWord)
def wsJ6_bitCount_0f7a4 : List Cond := .code yJ6_bitCount_0f7a4 cJ6_bitCount_0f7a4 1 (some .int) :: ([.constant RJ6 265 (1431655765), .constant RJ6 266 (858993459), .constant RJ6 267 (252645135)])
def wsX3_goal : List Cond := .code yX3_goal cX3_goal 3 (some .int) :: ([.fieldLink RX3 95 "HiddenFacts" "goalStates" "I", .methodLink RX3 45 yX3_needBits, .static yX3_needBits, .initialized RX3, .code yX3_needBits cX3_needBits 2 none, .classLink RX3 49 "java/lang/IllegalArgumentException", .initialized "java/lang/IllegalArgumentException", .methodLink RX3 56 yX3_demanded, .static yX3_demanded, .code yX3_demanded cX3_demanded 4 (some .int), .methodLink RX3 98 yJ6_bitCount_0f7a4, .static yJ6_bitCount_0f7a4, .initialized RJ6, .code yJ6_bitCount_0f7a4 cJ6_bitCount_0f7a4 1 (some .int), .constant RJ6 265 (1431655765), .constant RJ6 266 (858993459), .constant RJ6 267 (252645135)] ++ wsX30 ++ (vx_atS RX3 53 "java/lang/IllegalArgumentException" ["java/lang/RuntimeException", "java/lang/Exception"]).filter goodWord)
def wsX3_start : List Cond := .code yX3_start cX3_start 1 (some .int) :: ([.fieldLink RX3 89 "HiddenFacts" "startBelief" "I"] ++ wsX30)
def wsX3_behind_r1 : List Cond := [Cond.classLink RX3 49 "java/lang/IllegalArgumentException", Cond.initialized "java/lang/IllegalArgumentException", Cond.classLink RX3 111 "java/lang/UnsupportedOperationException", Cond.initialized "java/lang/UnsupportedOperationException", Cond.constant RX3 104 (65535), Cond.fieldLink RX3 11 "HiddenFacts" "actions" "[LHiddenFacts$Action;", Cond.methodLink RX3 41 yX3_needNumber, Cond.static yX3_needNumber, Cond.initialized RX3, Cond.code yX3_needNumber cX3_needNumber 1 none, Cond.classLink RX3 144 "java/lang/IndexOutOfBoundsException", Cond.initialized "java/lang/IndexOutOfBoundsException", Cond.methodLink RX3 66 yX3_needThere, Cond.instanceMethod yX3_needThere, Cond.selects RX3 yX3_needThere yX3_needThere, Cond.code yX3_needThere cX3_needThere 2 none, Cond.classLink RX3 194 "java/util/NoSuchElementException", Cond.initialized "java/util/NoSuchElementException", Cond.methodLink RX3 107 yX0_usable, Cond.instanceMethod yX0_usable, Cond.selects RX0 yX0_usable yX0_usable, Cond.initialized RX0, Cond.code yX0_usable cX0_usable 2 (some .boolean), Cond.fieldLink RX0 15 "HiddenFacts$Action" "there" "Z"]
def wsX3_behind_r2 : List Cond := [Cond.fieldLink RX0 19 "HiddenFacts$Action" "condition" "I", Cond.methodLink RX3 116 yX0_after, Cond.instanceMethod yX0_after, Cond.selects RX0 yX0_after yX0_after, Cond.code yX0_after cX0_after 4 (some .int), Cond.fieldLink RX0 9 "HiddenFacts$Action" "next" "[I", Cond.static yX3_isIn, Cond.code yX3_isIn cX3_isIn 2 (some .boolean)]
def wsX3_behind : List Cond := .code yX3_behind cX3_behind 3 (some .int) :: ((wsX3_behind_r1 ++ wsX3_behind_r2) ++ wsX30 ++ wsX00 ++ (vx_atS RX3 53 "java/lang/IllegalArgumentException" ["java/lang/RuntimeException", "java/lang/Exception"]).filter goodWord ++ (vx_atS RX3 115 "java/lang/UnsupportedOperationException" ["java/lang/RuntimeException", "java/lang/Exception"]).filter goodWord ++ (vx_atS RX3 148 "java/lang/IndexOutOfBoundsException" ["java/lang/RuntimeException", "java/lang/Exception"]).filter goodWord ++ (xn_atS RX3 198 "java/util/NoSuchElementException" ["java/lang/RuntimeException", "java/lang/Exception"]).filter goodWord)
def wsX3_needDepth : List Cond := .code yX3_needDepth cX3_needDepth 1 none :: ([.classLink RX3 49 "java/lang/IllegalArgumentException", .initialized "java/lang/IllegalArgumentException"] ++ (vx_atS RX3 53 "java/lang/IllegalArgumentException" ["java/lang/RuntimeException", "java/lang/Exception"]).filter goodWord)
def wsX3_reached : List Cond := .code yX3_reached cX3_reached 2 (some .boolean) :: ([.fieldLink RX3 95 "HiddenFacts" "goalStates" "I"] ++ wsX30)
def wsX3_leastAction_r1 : List Cond := [Cond.fieldLink RX3 11 "HiddenFacts" "actions" "[LHiddenFacts$Action;", Cond.methodLink RX3 107 yX0_usable, Cond.instanceMethod yX0_usable, Cond.selects RX0 yX0_usable yX0_usable, Cond.initialized RX0, Cond.code yX0_usable cX0_usable 2 (some .boolean), Cond.fieldLink RX0 15 "HiddenFacts$Action" "there" "Z", Cond.fieldLink RX0 19 "HiddenFacts$Action" "condition" "I", Cond.methodLink RX3 222 yX3_solves, Cond.instanceMethod yX3_solves, Cond.selects RX3 yX3_solves yX3_solves, Cond.initialized RX3, Cond.code yX3_solved cX3_solved 3 (some .boolean), Cond.methodLink RX3 216 yX3_reached, Cond.instanceMethod yX3_reached, Cond.selects RX3 yX3_reached yX3_reached, Cond.code yX3_reached cX3_reached 2 (some .boolean), Cond.fieldLink RX3 95 "HiddenFacts" "goalStates" "I", Cond.methodLink RX3 219 yX3_leastAction, Cond.instanceMethod yX3_leastAction, Cond.selects RX3 yX3_leastAction yX3_leastAction, Cond.code yX3_solves cX3_solves 5 (some .boolean), Cond.methodLink RX3 116 yX0_after, Cond.instanceMethod yX0_after]
def wsX3_leastAction_r2 : List Cond := [Cond.selects RX0 yX0_after yX0_after, Cond.code yX0_after cX0_after 4 (some .int), Cond.fieldLink RX0 9 "HiddenFacts$Action" "next" "[I", Cond.static yX3_isIn, Cond.code yX3_isIn cX3_isIn 2 (some .boolean), Cond.methodLink RX3 226 yX0_part, Cond.instanceMethod yX0_part, Cond.selects RX0 yX0_part yX0_part, Cond.code yX0_part cX0_part 3 (some .int), Cond.fieldLink RX0 23 "HiddenFacts$Action" "senses" "I", Cond.methodLink RX3 213 yX3_solved, Cond.instanceMethod yX3_solved, Cond.selects RX3 yX3_solved yX3_solved]
def wsX3_leastAction : List Cond := .code yX3_leastAction cX3_leastAction 4 (some .int) :: ((wsX3_leastAction_r1 ++ wsX3_leastAction_r2) ++ wsX30 ++ wsX00)
def wsX3_solved_r1 : List Cond := [Cond.methodLink RX3 216 yX3_reached, Cond.instanceMethod yX3_reached, Cond.selects RX3 yX3_reached yX3_reached, Cond.initialized RX3, Cond.code yX3_reached cX3_reached 2 (some .boolean), Cond.fieldLink RX3 95 "HiddenFacts" "goalStates" "I", Cond.methodLink RX3 219 yX3_leastAction, Cond.instanceMethod yX3_leastAction, Cond.selects RX3 yX3_leastAction yX3_leastAction, Cond.code yX3_leastAction cX3_leastAction 4 (some .int), Cond.fieldLink RX3 11 "HiddenFacts" "actions" "[LHiddenFacts$Action;", Cond.methodLink RX3 107 yX0_usable, Cond.instanceMethod yX0_usable, Cond.selects RX0 yX0_usable yX0_usable, Cond.initialized RX0, Cond.code yX0_usable cX0_usable 2 (some .boolean), Cond.fieldLink RX0 15 "HiddenFacts$Action" "there" "Z", Cond.fieldLink RX0 19 "HiddenFacts$Action" "condition" "I", Cond.methodLink RX3 222 yX3_solves, Cond.instanceMethod yX3_solves, Cond.selects RX3 yX3_solves yX3_solves, Cond.code yX3_solves cX3_solves 5 (some .boolean), Cond.methodLink RX3 116 yX0_after, Cond.instanceMethod yX0_after]
def wsX3_solved_r2 : List Cond := [Cond.selects RX0 yX0_after yX0_after, Cond.code yX0_after cX0_after 4 (some .int), Cond.fieldLink RX0 9 "HiddenFacts$Action" "next" "[I", Cond.static yX3_isIn, Cond.code yX3_isIn cX3_isIn 2 (some .boolean), Cond.methodLink RX3 226 yX0_part, Cond.instanceMethod yX0_part, Cond.selects RX0 yX0_part yX0_part, Cond.code yX0_part cX0_part 3 (some .int), Cond.fieldLink RX0 23 "HiddenFacts$Action" "senses" "I", Cond.methodLink RX3 213 yX3_solved, Cond.instanceMethod yX3_solved, Cond.selects RX3 yX3_solved yX3_solved]
def wsX3_solved : List Cond := .code yX3_solved cX3_solved 3 (some .boolean) :: ((wsX3_solved_r1 ++ wsX3_solved_r2) ++ wsX30 ++ wsX00)
def wsX3_solves_r1 : List Cond := [Cond.methodLink RX3 116 yX0_after, Cond.instanceMethod yX0_after, Cond.selects RX0 yX0_after yX0_after, Cond.initialized RX0, Cond.code yX0_after cX0_after 4 (some .int), Cond.fieldLink RX0 9 "HiddenFacts$Action" "next" "[I", Cond.static yX3_isIn, Cond.initialized RX3, Cond.code yX3_isIn cX3_isIn 2 (some .boolean), Cond.methodLink RX3 226 yX0_part, Cond.instanceMethod yX0_part, Cond.selects RX0 yX0_part yX0_part, Cond.code yX0_part cX0_part 3 (some .int), Cond.fieldLink RX0 23 "HiddenFacts$Action" "senses" "I", Cond.methodLink RX3 213 yX3_solved, Cond.instanceMethod yX3_solved, Cond.selects RX3 yX3_solved yX3_solved, Cond.code yX3_leastAction cX3_leastAction 4 (some .int), Cond.fieldLink RX3 11 "HiddenFacts" "actions" "[LHiddenFacts$Action;", Cond.methodLink RX3 107 yX0_usable, Cond.instanceMethod yX0_usable, Cond.selects RX0 yX0_usable yX0_usable, Cond.code yX0_usable cX0_usable 2 (some .boolean), Cond.fieldLink RX0 15 "HiddenFacts$Action" "there" "Z"]
def wsX3_solves_r2 : List Cond := [Cond.fieldLink RX0 19 "HiddenFacts$Action" "condition" "I", Cond.methodLink RX3 222 yX3_solves, Cond.instanceMethod yX3_solves, Cond.selects RX3 yX3_solves yX3_solves, Cond.code yX3_solved cX3_solved 3 (some .boolean), Cond.methodLink RX3 216 yX3_reached, Cond.instanceMethod yX3_reached, Cond.selects RX3 yX3_reached yX3_reached, Cond.code yX3_reached cX3_reached 2 (some .boolean), Cond.fieldLink RX3 95 "HiddenFacts" "goalStates" "I", Cond.methodLink RX3 219 yX3_leastAction, Cond.instanceMethod yX3_leastAction, Cond.selects RX3 yX3_leastAction yX3_leastAction]
def wsX3_solves : List Cond := .code yX3_solves cX3_solves 5 (some .boolean) :: ((wsX3_solves_r1 ++ wsX3_solves_r2) ++ wsX30 ++ wsX00)
def wsX3_fewest_r1 : List Cond := [Cond.methodLink RX3 213 yX3_solved, Cond.instanceMethod yX3_solved, Cond.selects RX3 yX3_solved yX3_solved, Cond.initialized RX3, Cond.code yX3_solved cX3_solved 3 (some .boolean), Cond.methodLink RX3 216 yX3_reached, Cond.instanceMethod yX3_reached, Cond.selects RX3 yX3_reached yX3_reached, Cond.code yX3_reached cX3_reached 2 (some .boolean), Cond.fieldLink RX3 95 "HiddenFacts" "goalStates" "I", Cond.methodLink RX3 219 yX3_leastAction, Cond.instanceMethod yX3_leastAction, Cond.selects RX3 yX3_leastAction yX3_leastAction, Cond.code yX3_leastAction cX3_leastAction 4 (some .int), Cond.fieldLink RX3 11 "HiddenFacts" "actions" "[LHiddenFacts$Action;", Cond.methodLink RX3 107 yX0_usable, Cond.instanceMethod yX0_usable, Cond.selects RX0 yX0_usable yX0_usable, Cond.initialized RX0, Cond.code yX0_usable cX0_usable 2 (some .boolean), Cond.fieldLink RX0 15 "HiddenFacts$Action" "there" "Z", Cond.fieldLink RX0 19 "HiddenFacts$Action" "condition" "I", Cond.methodLink RX3 222 yX3_solves, Cond.instanceMethod yX3_solves]
def wsX3_fewest_r2 : List Cond := [Cond.selects RX3 yX3_solves yX3_solves, Cond.code yX3_solves cX3_solves 5 (some .boolean), Cond.methodLink RX3 116 yX0_after, Cond.instanceMethod yX0_after, Cond.selects RX0 yX0_after yX0_after, Cond.code yX0_after cX0_after 4 (some .int), Cond.fieldLink RX0 9 "HiddenFacts$Action" "next" "[I", Cond.static yX3_isIn, Cond.code yX3_isIn cX3_isIn 2 (some .boolean), Cond.methodLink RX3 226 yX0_part, Cond.instanceMethod yX0_part, Cond.selects RX0 yX0_part yX0_part, Cond.code yX0_part cX0_part 3 (some .int), Cond.fieldLink RX0 23 "HiddenFacts$Action" "senses" "I"]
def wsX3_fewest : List Cond := .code yX3_fewest cX3_fewest 4 (some .int) :: ((wsX3_fewest_r1 ++ wsX3_fewest_r2) ++ wsX30 ++ wsX00)
def wsX3_needSolved : List Cond := .code yX3_needSolved cX3_needSolved 1 (some .int) :: ([.classLink RX3 194 "java/util/NoSuchElementException", .initialized "java/util/NoSuchElementException"] ++ (xn_atS RX3 198 "java/util/NoSuchElementException" ["java/lang/RuntimeException", "java/lang/Exception"]).filter goodWord)
def wsX3_least_r1 : List Cond := [Cond.classLink RX3 49 "java/lang/IllegalArgumentException", Cond.initialized "java/lang/IllegalArgumentException", Cond.constant RX3 104 (65535), Cond.methodLink RX3 121 yX3_needDepth, Cond.static yX3_needDepth, Cond.initialized RX3, Cond.code yX3_needDepth cX3_needDepth 1 none, Cond.methodLink RX3 124 yX3_fewest, Cond.instanceMethod yX3_fewest, Cond.selects RX3 yX3_fewest yX3_fewest, Cond.code yX3_fewest cX3_fewest 4 (some .int), Cond.methodLink RX3 213 yX3_solved, Cond.instanceMethod yX3_solved, Cond.selects RX3 yX3_solved yX3_solved, Cond.code yX3_solved cX3_solved 3 (some .boolean), Cond.methodLink RX3 216 yX3_reached, Cond.instanceMethod yX3_reached, Cond.selects RX3 yX3_reached yX3_reached, Cond.code yX3_reached cX3_reached 2 (some .boolean), Cond.fieldLink RX3 95 "HiddenFacts" "goalStates" "I", Cond.methodLink RX3 219 yX3_leastAction, Cond.instanceMethod yX3_leastAction, Cond.selects RX3 yX3_leastAction yX3_leastAction, Cond.code yX3_leastAction cX3_leastAction 4 (some .int)]
def wsX3_least_r2 : List Cond := [Cond.fieldLink RX3 11 "HiddenFacts" "actions" "[LHiddenFacts$Action;", Cond.methodLink RX3 107 yX0_usable, Cond.instanceMethod yX0_usable, Cond.selects RX0 yX0_usable yX0_usable, Cond.initialized RX0, Cond.code yX0_usable cX0_usable 2 (some .boolean), Cond.fieldLink RX0 15 "HiddenFacts$Action" "there" "Z", Cond.fieldLink RX0 19 "HiddenFacts$Action" "condition" "I", Cond.methodLink RX3 222 yX3_solves, Cond.instanceMethod yX3_solves, Cond.selects RX3 yX3_solves yX3_solves, Cond.code yX3_solves cX3_solves 5 (some .boolean), Cond.methodLink RX3 116 yX0_after, Cond.instanceMethod yX0_after, Cond.selects RX0 yX0_after yX0_after, Cond.code yX0_after cX0_after 4 (some .int), Cond.fieldLink RX0 9 "HiddenFacts$Action" "next" "[I", Cond.static yX3_isIn, Cond.code yX3_isIn cX3_isIn 2 (some .boolean), Cond.methodLink RX3 226 yX0_part, Cond.instanceMethod yX0_part, Cond.selects RX0 yX0_part yX0_part, Cond.code yX0_part cX0_part 3 (some .int), Cond.fieldLink RX0 23 "HiddenFacts$Action" "senses" "I"]
def wsX3_least_r3 : List Cond := [Cond.methodLink RX3 127 yX3_needSolved, Cond.static yX3_needSolved, Cond.code yX3_needSolved cX3_needSolved 1 (some .int), Cond.classLink RX3 194 "java/util/NoSuchElementException", Cond.initialized "java/util/NoSuchElementException"]
def wsX3_least : List Cond := .code yX3_least cX3_least 3 (some .int) :: ((wsX3_least_r1 ++ (wsX3_least_r2 ++ wsX3_least_r3)) ++ wsX30 ++ wsX00 ++ (vx_atS RX3 53 "java/lang/IllegalArgumentException" ["java/lang/RuntimeException", "java/lang/Exception"]).filter goodWord ++ (xn_atS RX3 198 "java/util/NoSuchElementException" ["java/lang/RuntimeException", "java/lang/Exception"]).filter goodWord)
def wsX3_grow_r1 : List Cond := [Cond.fieldLink RX3 18 "HiddenFacts" "tree" "LHiddenFacts$Tree;", Cond.fieldLink RX3 11 "HiddenFacts" "actions" "[LHiddenFacts$Action;", Cond.methodLink RX3 229 yX2_open, Cond.instanceMethod yX2_open, Cond.selects RX2 yX2_open yX2_open, Cond.initialized RX2, Cond.code yX2_open cX2_open 1 (some .int), Cond.fieldLink RX2 13 "HiddenFacts$Tree" "count" "I", Cond.methodLink RX2 17 yX2_setAction, Cond.instanceMethod yX2_setAction, Cond.selects RX2 yX2_setAction yX2_setAction, Cond.code yX2_setAction cX2_setAction 3 none, Cond.fieldLink RX2 9 "HiddenFacts$Tree" "cells" "[I", Cond.methodLink RX3 216 yX3_reached, Cond.instanceMethod yX3_reached, Cond.selects RX3 yX3_reached yX3_reached, Cond.initialized RX3, Cond.code yX3_reached cX3_reached 2 (some .boolean), Cond.fieldLink RX3 95 "HiddenFacts" "goalStates" "I", Cond.methodLink RX3 219 yX3_leastAction, Cond.instanceMethod yX3_leastAction, Cond.selects RX3 yX3_leastAction yX3_leastAction, Cond.code yX3_leastAction cX3_leastAction 4 (some .int), Cond.methodLink RX3 107 yX0_usable]
def wsX3_grow_r2 : List Cond := [Cond.instanceMethod yX0_usable, Cond.selects RX0 yX0_usable yX0_usable, Cond.initialized RX0, Cond.code yX0_usable cX0_usable 2 (some .boolean), Cond.fieldLink RX0 15 "HiddenFacts$Action" "there" "Z", Cond.fieldLink RX0 19 "HiddenFacts$Action" "condition" "I", Cond.methodLink RX3 222 yX3_solves, Cond.instanceMethod yX3_solves, Cond.selects RX3 yX3_solves yX3_solves, Cond.code yX3_solved cX3_solved 3 (some .boolean), Cond.code yX3_solves cX3_solves 5 (some .boolean), Cond.methodLink RX3 116 yX0_after, Cond.instanceMethod yX0_after, Cond.selects RX0 yX0_after yX0_after, Cond.code yX0_after cX0_after 4 (some .int), Cond.fieldLink RX0 9 "HiddenFacts$Action" "next" "[I", Cond.static yX3_isIn, Cond.code yX3_isIn cX3_isIn 2 (some .boolean), Cond.methodLink RX3 226 yX0_part, Cond.instanceMethod yX0_part, Cond.selects RX0 yX0_part yX0_part, Cond.code yX0_part cX0_part 3 (some .int), Cond.fieldLink RX0 23 "HiddenFacts$Action" "senses" "I", Cond.methodLink RX3 213 yX3_solved]
def wsX3_grow_r3 : List Cond := [Cond.instanceMethod yX3_solved, Cond.selects RX3 yX3_solved yX3_solved, Cond.methodLink RX3 231 yX2_close, Cond.instanceMethod yX2_close, Cond.selects RX2 yX2_close yX2_close, Cond.code yX2_close cX2_close 6 (some .int), Cond.methodLink RX2 21 yX2_cell, Cond.instanceMethod yX2_cell, Cond.selects RX2 yX2_cell yX2_cell, Cond.code yX2_cell cX2_cell 3 (some .int), Cond.methodLink RX3 235 yX3_growPart, Cond.instanceMethod yX3_growPart, Cond.selects RX3 yX3_growPart yX3_growPart, Cond.code yX3_growPart cX3_growPart 3 (some .int), Cond.methodLink RX3 135 yX3_grow, Cond.instanceMethod yX3_grow, Cond.selects RX3 yX3_grow yX3_grow]
def wsX3_grow : List Cond := .code yX3_grow cX3_grow 8 (some .int) :: ((wsX3_grow_r1 ++ (wsX3_grow_r2 ++ wsX3_grow_r3)) ++ wsX30 ++ wsX20 ++ wsX00)
def wsX3_growPart_r1 : List Cond := [Cond.methodLink RX3 135 yX3_grow, Cond.instanceMethod yX3_grow, Cond.selects RX3 yX3_grow yX3_grow, Cond.initialized RX3, Cond.code yX3_grow cX3_grow 8 (some .int), Cond.fieldLink RX3 18 "HiddenFacts" "tree" "LHiddenFacts$Tree;", Cond.fieldLink RX3 11 "HiddenFacts" "actions" "[LHiddenFacts$Action;", Cond.methodLink RX3 229 yX2_open, Cond.instanceMethod yX2_open, Cond.selects RX2 yX2_open yX2_open, Cond.initialized RX2, Cond.code yX2_open cX2_open 1 (some .int), Cond.fieldLink RX2 13 "HiddenFacts$Tree" "count" "I", Cond.methodLink RX2 17 yX2_setAction, Cond.instanceMethod yX2_setAction, Cond.selects RX2 yX2_setAction yX2_setAction, Cond.code yX2_setAction cX2_setAction 3 none, Cond.fieldLink RX2 9 "HiddenFacts$Tree" "cells" "[I", Cond.methodLink RX3 216 yX3_reached, Cond.instanceMethod yX3_reached, Cond.selects RX3 yX3_reached yX3_reached, Cond.code yX3_reached cX3_reached 2 (some .boolean), Cond.fieldLink RX3 95 "HiddenFacts" "goalStates" "I", Cond.methodLink RX3 219 yX3_leastAction]
def wsX3_growPart_r2 : List Cond := [Cond.instanceMethod yX3_leastAction, Cond.selects RX3 yX3_leastAction yX3_leastAction, Cond.code yX3_leastAction cX3_leastAction 4 (some .int), Cond.methodLink RX3 107 yX0_usable, Cond.instanceMethod yX0_usable, Cond.selects RX0 yX0_usable yX0_usable, Cond.initialized RX0, Cond.code yX0_usable cX0_usable 2 (some .boolean), Cond.fieldLink RX0 15 "HiddenFacts$Action" "there" "Z", Cond.fieldLink RX0 19 "HiddenFacts$Action" "condition" "I", Cond.methodLink RX3 222 yX3_solves, Cond.instanceMethod yX3_solves, Cond.selects RX3 yX3_solves yX3_solves, Cond.code yX3_solved cX3_solved 3 (some .boolean), Cond.code yX3_solves cX3_solves 5 (some .boolean), Cond.methodLink RX3 116 yX0_after, Cond.instanceMethod yX0_after, Cond.selects RX0 yX0_after yX0_after, Cond.code yX0_after cX0_after 4 (some .int), Cond.fieldLink RX0 9 "HiddenFacts$Action" "next" "[I", Cond.static yX3_isIn, Cond.code yX3_isIn cX3_isIn 2 (some .boolean), Cond.methodLink RX3 226 yX0_part, Cond.instanceMethod yX0_part]
def wsX3_growPart_r3 : List Cond := [Cond.selects RX0 yX0_part yX0_part, Cond.code yX0_part cX0_part 3 (some .int), Cond.fieldLink RX0 23 "HiddenFacts$Action" "senses" "I", Cond.methodLink RX3 213 yX3_solved, Cond.instanceMethod yX3_solved, Cond.selects RX3 yX3_solved yX3_solved, Cond.methodLink RX3 231 yX2_close, Cond.instanceMethod yX2_close, Cond.selects RX2 yX2_close yX2_close, Cond.code yX2_close cX2_close 6 (some .int), Cond.methodLink RX2 21 yX2_cell, Cond.instanceMethod yX2_cell, Cond.selects RX2 yX2_cell yX2_cell, Cond.code yX2_cell cX2_cell 3 (some .int), Cond.methodLink RX3 235 yX3_growPart, Cond.instanceMethod yX3_growPart, Cond.selects RX3 yX3_growPart yX3_growPart]
def wsX3_growPart : List Cond := .code yX3_growPart cX3_growPart 3 (some .int) :: ((wsX3_growPart_r1 ++ (wsX3_growPart_r2 ++ wsX3_growPart_r3)) ++ wsX30 ++ wsX20 ++ wsX00)
def wsX3_plan_r1 : List Cond := [Cond.classLink RX3 75 "java/lang/IllegalStateException", Cond.initialized "java/lang/IllegalStateException", Cond.fieldLink RX3 89 "HiddenFacts" "startBelief" "I", Cond.fieldLink RX3 18 "HiddenFacts" "tree" "LHiddenFacts$Tree;", Cond.methodLink RX3 121 yX3_needDepth, Cond.static yX3_needDepth, Cond.initialized RX3, Cond.code yX3_needDepth cX3_needDepth 1 none, Cond.classLink RX3 49 "java/lang/IllegalArgumentException", Cond.initialized "java/lang/IllegalArgumentException", Cond.methodLink RX3 124 yX3_fewest, Cond.instanceMethod yX3_fewest, Cond.selects RX3 yX3_fewest yX3_fewest, Cond.code yX3_fewest cX3_fewest 4 (some .int), Cond.methodLink RX3 213 yX3_solved, Cond.instanceMethod yX3_solved, Cond.selects RX3 yX3_solved yX3_solved, Cond.code yX3_solved cX3_solved 3 (some .boolean), Cond.methodLink RX3 216 yX3_reached, Cond.instanceMethod yX3_reached, Cond.selects RX3 yX3_reached yX3_reached, Cond.code yX3_reached cX3_reached 2 (some .boolean), Cond.fieldLink RX3 95 "HiddenFacts" "goalStates" "I", Cond.methodLink RX3 219 yX3_leastAction]
def wsX3_plan_r2 : List Cond := [Cond.instanceMethod yX3_leastAction, Cond.selects RX3 yX3_leastAction yX3_leastAction, Cond.code yX3_leastAction cX3_leastAction 4 (some .int), Cond.fieldLink RX3 11 "HiddenFacts" "actions" "[LHiddenFacts$Action;", Cond.methodLink RX3 107 yX0_usable, Cond.instanceMethod yX0_usable, Cond.selects RX0 yX0_usable yX0_usable, Cond.initialized RX0, Cond.code yX0_usable cX0_usable 2 (some .boolean), Cond.fieldLink RX0 15 "HiddenFacts$Action" "there" "Z", Cond.fieldLink RX0 19 "HiddenFacts$Action" "condition" "I", Cond.methodLink RX3 222 yX3_solves, Cond.instanceMethod yX3_solves, Cond.selects RX3 yX3_solves yX3_solves, Cond.code yX3_solves cX3_solves 5 (some .boolean), Cond.methodLink RX3 116 yX0_after, Cond.instanceMethod yX0_after, Cond.selects RX0 yX0_after yX0_after, Cond.code yX0_after cX0_after 4 (some .int), Cond.fieldLink RX0 9 "HiddenFacts$Action" "next" "[I", Cond.static yX3_isIn, Cond.code yX3_isIn cX3_isIn 2 (some .boolean), Cond.methodLink RX3 226 yX0_part, Cond.instanceMethod yX0_part]
def wsX3_plan_r3 : List Cond := [Cond.selects RX0 yX0_part yX0_part, Cond.code yX0_part cX0_part 3 (some .int), Cond.fieldLink RX0 23 "HiddenFacts$Action" "senses" "I", Cond.methodLink RX3 127 yX3_needSolved, Cond.static yX3_needSolved, Cond.code yX3_needSolved cX3_needSolved 1 (some .int), Cond.classLink RX3 194 "java/util/NoSuchElementException", Cond.initialized "java/util/NoSuchElementException", Cond.methodLink RX3 132 yX2_empty, Cond.instanceMethod yX2_empty, Cond.selects RX2 yX2_empty yX2_empty, Cond.initialized RX2, Cond.code yX2_empty cX2_empty 1 none, Cond.fieldLink RX2 13 "HiddenFacts$Tree" "count" "I", Cond.methodLink RX3 135 yX3_grow, Cond.instanceMethod yX3_grow, Cond.selects RX3 yX3_grow yX3_grow, Cond.code yX3_grow cX3_grow 8 (some .int), Cond.methodLink RX3 229 yX2_open, Cond.instanceMethod yX2_open, Cond.selects RX2 yX2_open yX2_open, Cond.code yX2_open cX2_open 1 (some .int), Cond.methodLink RX2 17 yX2_setAction, Cond.instanceMethod yX2_setAction]
def wsX3_plan_r4 : List Cond := [Cond.selects RX2 yX2_setAction yX2_setAction, Cond.code yX2_setAction cX2_setAction 3 none, Cond.fieldLink RX2 9 "HiddenFacts$Tree" "cells" "[I", Cond.methodLink RX3 231 yX2_close, Cond.instanceMethod yX2_close, Cond.selects RX2 yX2_close yX2_close, Cond.code yX2_close cX2_close 6 (some .int), Cond.methodLink RX2 21 yX2_cell, Cond.instanceMethod yX2_cell, Cond.selects RX2 yX2_cell yX2_cell, Cond.code yX2_cell cX2_cell 3 (some .int), Cond.methodLink RX3 235 yX3_growPart, Cond.instanceMethod yX3_growPart, Cond.selects RX3 yX3_growPart yX3_growPart, Cond.code yX3_growPart cX3_growPart 3 (some .int)]
def wsX3_plan : List Cond := .code yX3_plan cX3_plan 3 (some .int) :: ((wsX3_plan_r1 ++ (wsX3_plan_r2 ++ (wsX3_plan_r3 ++ wsX3_plan_r4))) ++ wsX30 ++ wsX00 ++ wsX20 ++ (vx_atS RX3 79 "java/lang/IllegalStateException" ["java/lang/RuntimeException", "java/lang/Exception"]).filter goodWord ++ (vx_atS RX3 53 "java/lang/IllegalArgumentException" ["java/lang/RuntimeException", "java/lang/Exception"]).filter goodWord ++ (xn_atS RX3 198 "java/util/NoSuchElementException" ["java/lang/RuntimeException", "java/lang/Exception"]).filter goodWord)
def wsX3_nodes : List Cond := .code yX3_nodes cX3_nodes 1 (some .int) :: ([.fieldLink RX3 18 "HiddenFacts" "tree" "LHiddenFacts$Tree;"] ++ wsX30 ++ wsX20)
def wsX3_needNode : List Cond := .code yX3_needNode cX3_needNode 2 none :: ([.classLink RX3 144 "java/lang/IndexOutOfBoundsException", .initialized "java/lang/IndexOutOfBoundsException", .fieldLink RX3 18 "HiddenFacts" "tree" "LHiddenFacts$Tree;"] ++ wsX30 ++ wsX20 ++ (vx_atS RX3 148 "java/lang/IndexOutOfBoundsException" ["java/lang/RuntimeException", "java/lang/Exception"]).filter goodWord)
def wsX3_node : List Cond := .code yX3_node cX3_node 3 (some .int) :: ([.classLink RX3 144 "java/lang/IndexOutOfBoundsException", .initialized "java/lang/IndexOutOfBoundsException", .fieldLink RX3 18 "HiddenFacts" "tree" "LHiddenFacts$Tree;", .methodLink RX3 141 yX3_needNode, .instanceMethod yX3_needNode, .selects RX3 yX3_needNode yX3_needNode, .initialized RX3, .code yX3_needNode cX3_needNode 2 none, .methodLink RX3 149 yX2_cell, .instanceMethod yX2_cell, .selects RX2 yX2_cell yX2_cell, .initialized RX2, .code yX2_cell cX2_cell 3 (some .int), .fieldLink RX2 9 "HiddenFacts$Tree" "cells" "[I"] ++ wsX30 ++ wsX20 ++ (vx_atS RX3 148 "java/lang/IndexOutOfBoundsException" ["java/lang/RuntimeException", "java/lang/Exception"]).filter goodWord)
def wsX3_edit_r1 : List Cond := [Cond.classLink RX3 111 "java/lang/UnsupportedOperationException", Cond.initialized "java/lang/UnsupportedOperationException", Cond.fieldLink RX3 18 "HiddenFacts" "tree" "LHiddenFacts$Tree;", Cond.methodLink RX3 141 yX3_needNode, Cond.instanceMethod yX3_needNode, Cond.selects RX3 yX3_needNode yX3_needNode, Cond.initialized RX3, Cond.code yX3_needNode cX3_needNode 2 none, Cond.classLink RX3 144 "java/lang/IndexOutOfBoundsException", Cond.initialized "java/lang/IndexOutOfBoundsException", Cond.methodLink RX3 41 yX3_needNumber, Cond.static yX3_needNumber, Cond.code yX3_needNumber cX3_needNumber 1 none, Cond.methodLink RX3 66 yX3_needThere, Cond.instanceMethod yX3_needThere, Cond.selects RX3 yX3_needThere yX3_needThere, Cond.code yX3_needThere cX3_needThere 2 none, Cond.classLink RX3 194 "java/util/NoSuchElementException", Cond.initialized "java/util/NoSuchElementException", Cond.fieldLink RX3 11 "HiddenFacts" "actions" "[LHiddenFacts$Action;", Cond.methodLink RX3 149 yX2_cell, Cond.instanceMethod yX2_cell, Cond.selects RX2 yX2_cell yX2_cell, Cond.initialized RX2]
def wsX3_edit_r2 : List Cond := [Cond.code yX2_cell cX2_cell 3 (some .int), Cond.fieldLink RX2 9 "HiddenFacts$Tree" "cells" "[I", Cond.methodLink RX3 154 yX2_setAction, Cond.instanceMethod yX2_setAction, Cond.selects RX2 yX2_setAction yX2_setAction, Cond.code yX2_setAction cX2_setAction 3 none]
def wsX3_edit : List Cond := .code yX3_edit cX3_edit 4 (some .int) :: ((wsX3_edit_r1 ++ wsX3_edit_r2) ++ wsX30 ++ wsX20 ++ wsX00 ++ (vx_atS RX3 115 "java/lang/UnsupportedOperationException" ["java/lang/RuntimeException", "java/lang/Exception"]).filter goodWord ++ (vx_atS RX3 148 "java/lang/IndexOutOfBoundsException" ["java/lang/RuntimeException", "java/lang/Exception"]).filter goodWord ++ (xn_atS RX3 198 "java/util/NoSuchElementException" ["java/lang/RuntimeException", "java/lang/Exception"]).filter goodWord)
def wsX3_needPlan : List Cond := .code yX3_needPlan cX3_needPlan 1 none :: ([.classLink RX3 75 "java/lang/IllegalStateException", .initialized "java/lang/IllegalStateException", .fieldLink RX3 18 "HiddenFacts" "tree" "LHiddenFacts$Tree;"] ++ wsX30 ++ wsX20 ++ (vx_atS RX3 79 "java/lang/IllegalStateException" ["java/lang/RuntimeException", "java/lang/Exception"]).filter goodWord)
def wsX3_fits_r1 : List Cond := [Cond.fieldLink RX3 18 "HiddenFacts" "tree" "LHiddenFacts$Tree;", Cond.fieldLink RX3 11 "HiddenFacts" "actions" "[LHiddenFacts$Action;", Cond.methodLink RX3 149 yX2_cell, Cond.instanceMethod yX2_cell, Cond.selects RX2 yX2_cell yX2_cell, Cond.initialized RX2, Cond.code yX2_cell cX2_cell 3 (some .int), Cond.fieldLink RX2 9 "HiddenFacts$Tree" "cells" "[I", Cond.methodLink RX3 216 yX3_reached, Cond.instanceMethod yX3_reached, Cond.selects RX3 yX3_reached yX3_reached, Cond.initialized RX3, Cond.code yX3_reached cX3_reached 2 (some .boolean), Cond.fieldLink RX3 95 "HiddenFacts" "goalStates" "I", Cond.methodLink RX3 107 yX0_usable, Cond.instanceMethod yX0_usable, Cond.selects RX0 yX0_usable yX0_usable, Cond.initialized RX0, Cond.code yX0_usable cX0_usable 2 (some .boolean), Cond.fieldLink RX0 15 "HiddenFacts$Action" "there" "Z", Cond.fieldLink RX0 19 "HiddenFacts$Action" "condition" "I", Cond.methodLink RX3 116 yX0_after, Cond.instanceMethod yX0_after, Cond.selects RX0 yX0_after yX0_after]
def wsX3_fits_r2 : List Cond := [Cond.code yX0_after cX0_after 4 (some .int), Cond.fieldLink RX0 9 "HiddenFacts$Action" "next" "[I", Cond.static yX3_isIn, Cond.code yX3_isIn cX3_isIn 2 (some .boolean), Cond.methodLink RX3 226 yX0_part, Cond.instanceMethod yX0_part, Cond.selects RX0 yX0_part yX0_part, Cond.code yX0_part cX0_part 3 (some .int), Cond.fieldLink RX0 23 "HiddenFacts$Action" "senses" "I", Cond.methodLink RX3 160 yX3_fits, Cond.instanceMethod yX3_fits, Cond.selects RX3 yX3_fits yX3_fits]
def wsX3_fits : List Cond := .code yX3_fits cX3_fits 6 (some .boolean) :: ((wsX3_fits_r1 ++ wsX3_fits_r2) ++ wsX30 ++ wsX20 ++ wsX00)
def wsX3_right_r1 : List Cond := [Cond.fieldLink RX3 89 "HiddenFacts" "startBelief" "I", Cond.methodLink RX3 157 yX3_needPlan, Cond.instanceMethod yX3_needPlan, Cond.selects RX3 yX3_needPlan yX3_needPlan, Cond.initialized RX3, Cond.code yX3_needPlan cX3_needPlan 1 none, Cond.classLink RX3 75 "java/lang/IllegalStateException", Cond.initialized "java/lang/IllegalStateException", Cond.fieldLink RX3 18 "HiddenFacts" "tree" "LHiddenFacts$Tree;", Cond.methodLink RX3 160 yX3_fits, Cond.instanceMethod yX3_fits, Cond.selects RX3 yX3_fits yX3_fits, Cond.code yX3_fits cX3_fits 6 (some .boolean), Cond.fieldLink RX3 11 "HiddenFacts" "actions" "[LHiddenFacts$Action;", Cond.methodLink RX3 149 yX2_cell, Cond.instanceMethod yX2_cell, Cond.selects RX2 yX2_cell yX2_cell, Cond.initialized RX2, Cond.code yX2_cell cX2_cell 3 (some .int), Cond.fieldLink RX2 9 "HiddenFacts$Tree" "cells" "[I", Cond.methodLink RX3 216 yX3_reached, Cond.instanceMethod yX3_reached, Cond.selects RX3 yX3_reached yX3_reached, Cond.code yX3_reached cX3_reached 2 (some .boolean)]
def wsX3_right_r2 : List Cond := [Cond.fieldLink RX3 95 "HiddenFacts" "goalStates" "I", Cond.methodLink RX3 107 yX0_usable, Cond.instanceMethod yX0_usable, Cond.selects RX0 yX0_usable yX0_usable, Cond.initialized RX0, Cond.code yX0_usable cX0_usable 2 (some .boolean), Cond.fieldLink RX0 15 "HiddenFacts$Action" "there" "Z", Cond.fieldLink RX0 19 "HiddenFacts$Action" "condition" "I", Cond.methodLink RX3 116 yX0_after, Cond.instanceMethod yX0_after, Cond.selects RX0 yX0_after yX0_after, Cond.code yX0_after cX0_after 4 (some .int), Cond.fieldLink RX0 9 "HiddenFacts$Action" "next" "[I", Cond.static yX3_isIn, Cond.code yX3_isIn cX3_isIn 2 (some .boolean), Cond.methodLink RX3 226 yX0_part, Cond.instanceMethod yX0_part, Cond.selects RX0 yX0_part yX0_part, Cond.code yX0_part cX0_part 3 (some .int), Cond.fieldLink RX0 23 "HiddenFacts$Action" "senses" "I"]
def wsX3_right : List Cond := .code yX3_right cX3_right 1 (some .boolean) :: ((wsX3_right_r1 ++ wsX3_right_r2) ++ wsX30 ++ wsX20 ++ wsX00 ++ (vx_atS RX3 79 "java/lang/IllegalStateException" ["java/lang/RuntimeException", "java/lang/Exception"]).filter goodWord)
def wsX3_hide : List Cond := .code yX3_hide cX3_hide 2 (some .boolean) :: ([.classLink RX3 49 "java/lang/IllegalArgumentException", .initialized "java/lang/IllegalArgumentException", .fieldLink RX3 166 "HiddenFacts" "hidden" "I", .fieldLink RX3 89 "HiddenFacts" "startBelief" "I", .methodLink RX3 169 yX3_isIn, .static yX3_isIn, .initialized RX3, .code yX3_isIn cX3_isIn 2 (some .boolean)] ++ wsX30 ++ (vx_atS RX3 53 "java/lang/IllegalArgumentException" ["java/lang/RuntimeException", "java/lang/Exception"]).filter goodWord)
def wsX3_carryOut_r1 : List Cond := [Cond.fieldLink RX3 166 "HiddenFacts" "hidden" "I", Cond.fieldLink RX3 179 "HiddenFacts" "made" "I", Cond.fieldLink RX3 18 "HiddenFacts" "tree" "LHiddenFacts$Tree;", Cond.fieldLink RX3 11 "HiddenFacts" "actions" "[LHiddenFacts$Action;", Cond.fieldLink RX3 29 "HiddenFacts" "trace" "[I", Cond.fieldLink RX3 95 "HiddenFacts" "goalStates" "I", Cond.methodLink RX3 149 yX2_cell, Cond.instanceMethod yX2_cell, Cond.selects RX2 yX2_cell yX2_cell, Cond.initialized RX2, Cond.code yX2_cell cX2_cell 3 (some .int), Cond.fieldLink RX2 9 "HiddenFacts$Tree" "cells" "[I", Cond.methodLink RX3 107 yX0_usable, Cond.instanceMethod yX0_usable, Cond.selects RX0 yX0_usable yX0_usable, Cond.initialized RX0, Cond.code yX0_usable cX0_usable 2 (some .boolean), Cond.fieldLink RX0 15 "HiddenFacts$Action" "there" "Z", Cond.fieldLink RX0 19 "HiddenFacts$Action" "condition" "I", Cond.methodLink RX3 241 yX0_sensed, Cond.instanceMethod yX0_sensed, Cond.selects RX0 yX0_sensed yX0_sensed, Cond.code yX0_sensed cX0_sensed 2 (some .int), Cond.fieldLink RX0 23 "HiddenFacts$Action" "senses" "I"]
def wsX3_carryOut_r2 : List Cond := [Cond.static yX3_isIn, Cond.initialized RX3, Cond.code yX3_isIn cX3_isIn 2 (some .boolean), Cond.methodLink RX3 169 yX3_isIn]
def wsX3_carryOut : List Cond := .code yX3_carryOut cX3_carryOut 4 (some .boolean) :: ((wsX3_carryOut_r1 ++ wsX3_carryOut_r2) ++ wsX30 ++ wsX00 ++ wsX20)
def wsX3_execute_r1 : List Cond := [Cond.classLink RX3 75 "java/lang/IllegalStateException", Cond.initialized "java/lang/IllegalStateException", Cond.fieldLink RX3 166 "HiddenFacts" "hidden" "I", Cond.methodLink RX3 157 yX3_needPlan, Cond.instanceMethod yX3_needPlan, Cond.selects RX3 yX3_needPlan yX3_needPlan, Cond.initialized RX3, Cond.code yX3_needPlan cX3_needPlan 1 none, Cond.fieldLink RX3 18 "HiddenFacts" "tree" "LHiddenFacts$Tree;", Cond.methodLink RX3 175 yX3_carryOut, Cond.instanceMethod yX3_carryOut, Cond.selects RX3 yX3_carryOut yX3_carryOut, Cond.code yX3_carryOut cX3_carryOut 4 (some .boolean), Cond.fieldLink RX3 179 "HiddenFacts" "made" "I", Cond.fieldLink RX3 11 "HiddenFacts" "actions" "[LHiddenFacts$Action;", Cond.fieldLink RX3 29 "HiddenFacts" "trace" "[I", Cond.fieldLink RX3 95 "HiddenFacts" "goalStates" "I", Cond.methodLink RX3 149 yX2_cell, Cond.instanceMethod yX2_cell, Cond.selects RX2 yX2_cell yX2_cell, Cond.initialized RX2, Cond.code yX2_cell cX2_cell 3 (some .int), Cond.fieldLink RX2 9 "HiddenFacts$Tree" "cells" "[I", Cond.methodLink RX3 107 yX0_usable]
def wsX3_execute_r2 : List Cond := [Cond.instanceMethod yX0_usable, Cond.selects RX0 yX0_usable yX0_usable, Cond.initialized RX0, Cond.code yX0_usable cX0_usable 2 (some .boolean), Cond.fieldLink RX0 15 "HiddenFacts$Action" "there" "Z", Cond.fieldLink RX0 19 "HiddenFacts$Action" "condition" "I", Cond.methodLink RX3 241 yX0_sensed, Cond.instanceMethod yX0_sensed, Cond.selects RX0 yX0_sensed yX0_sensed, Cond.code yX0_sensed cX0_sensed 2 (some .int), Cond.fieldLink RX0 23 "HiddenFacts$Action" "senses" "I", Cond.static yX3_isIn, Cond.code yX3_isIn cX3_isIn 2 (some .boolean), Cond.methodLink RX3 169 yX3_isIn]
def wsX3_execute : List Cond := .code yX3_execute cX3_execute 1 (some .boolean) :: ((wsX3_execute_r1 ++ wsX3_execute_r2) ++ wsX30 ++ wsX20 ++ wsX00 ++ (vx_atS RX3 79 "java/lang/IllegalStateException" ["java/lang/RuntimeException", "java/lang/Exception"]).filter goodWord)
def wsX3_made : List Cond := .code yX3_made cX3_made 1 (some .int) :: ([.fieldLink RX3 179 "HiddenFacts" "made" "I"] ++ wsX30)
def wsX3_trace : List Cond := .code yX3_trace cX3_trace 2 (some .int) :: ([.classLink RX3 144 "java/lang/IndexOutOfBoundsException", .initialized "java/lang/IndexOutOfBoundsException", .fieldLink RX3 179 "HiddenFacts" "made" "I", .fieldLink RX3 29 "HiddenFacts" "trace" "[I"] ++ wsX30 ++ (vx_atS RX3 148 "java/lang/IndexOutOfBoundsException" ["java/lang/RuntimeException", "java/lang/Exception"]).filter goodWord)
def wsX3_look_r1 : List Cond := [Cond.fieldLink RX3 11 "HiddenFacts" "actions" "[LHiddenFacts$Action;", Cond.fieldLink RX3 25 "HiddenFacts" "sight" "LHiddenFacts$Sight;", Cond.methodLink RX3 107 yX0_usable, Cond.instanceMethod yX0_usable, Cond.selects RX0 yX0_usable yX0_usable, Cond.initialized RX0, Cond.code yX0_usable cX0_usable 2 (some .boolean), Cond.fieldLink RX0 15 "HiddenFacts$Action" "there" "Z", Cond.fieldLink RX0 19 "HiddenFacts$Action" "condition" "I", Cond.methodLink RX3 244 yX1_step, Cond.instanceMethod yX1_step, Cond.selects RX1 yX1_step yX1_step, Cond.initialized RX1, Cond.code yX1_step cX1_step 7 none, Cond.fieldLink RX1 9 "HiddenFacts$Sight" "come" "[I", Cond.fieldLink RX1 15 "HiddenFacts$Sight" "apart" "[I", Cond.methodLink RX1 27 yX0_sensed, Cond.instanceMethod yX0_sensed, Cond.selects RX0 yX0_sensed yX0_sensed, Cond.code yX0_sensed cX0_sensed 2 (some .int), Cond.fieldLink RX0 23 "HiddenFacts$Action" "senses" "I", Cond.static yX3_isIn, Cond.initialized RX3, Cond.code yX3_isIn cX3_isIn 2 (some .boolean)]
def wsX3_look_r2 : List Cond := [Cond.methodLink RX3 116 yX0_after, Cond.instanceMethod yX0_after, Cond.selects RX0 yX0_after yX0_after, Cond.code yX0_after cX0_after 4 (some .int), Cond.fieldLink RX0 9 "HiddenFacts$Action" "next" "[I", Cond.methodLink RX3 187 yX3_look, Cond.instanceMethod yX3_look, Cond.selects RX3 yX3_look yX3_look]
def wsX3_look : List Cond := .code yX3_look cX3_look 4 none :: ((wsX3_look_r1 ++ wsX3_look_r2) ++ wsX30 ++ wsX00 ++ wsX10)
def wsX3_twins_r1 : List Cond := [Cond.classLink RX3 194 "java/util/NoSuchElementException", Cond.initialized "java/util/NoSuchElementException", Cond.fieldLink RX3 25 "HiddenFacts" "sight" "LHiddenFacts$Sight;", Cond.fieldLink RX3 89 "HiddenFacts" "startBelief" "I", Cond.methodLink RX3 184 yX1_open, Cond.instanceMethod yX1_open, Cond.selects RX1 yX1_open yX1_open, Cond.initialized RX1, Cond.code yX1_open cX1_open 3 none, Cond.fieldLink RX1 18 "HiddenFacts$Sight" "belief" "I", Cond.fieldLink RX1 9 "HiddenFacts$Sight" "come" "[I", Cond.fieldLink RX1 15 "HiddenFacts$Sight" "apart" "[I", Cond.methodLink RX3 187 yX3_look, Cond.instanceMethod yX3_look, Cond.selects RX3 yX3_look yX3_look, Cond.initialized RX3, Cond.code yX3_look cX3_look 4 none, Cond.fieldLink RX3 11 "HiddenFacts" "actions" "[LHiddenFacts$Action;", Cond.methodLink RX3 107 yX0_usable, Cond.instanceMethod yX0_usable, Cond.selects RX0 yX0_usable yX0_usable, Cond.initialized RX0, Cond.code yX0_usable cX0_usable 2 (some .boolean), Cond.fieldLink RX0 15 "HiddenFacts$Action" "there" "Z"]
def wsX3_twins_r2 : List Cond := [Cond.fieldLink RX0 19 "HiddenFacts$Action" "condition" "I", Cond.methodLink RX3 244 yX1_step, Cond.instanceMethod yX1_step, Cond.selects RX1 yX1_step yX1_step, Cond.code yX1_step cX1_step 7 none, Cond.methodLink RX1 27 yX0_sensed, Cond.instanceMethod yX0_sensed, Cond.selects RX0 yX0_sensed yX0_sensed, Cond.code yX0_sensed cX0_sensed 2 (some .int), Cond.fieldLink RX0 23 "HiddenFacts$Action" "senses" "I", Cond.static yX3_isIn, Cond.code yX3_isIn cX3_isIn 2 (some .boolean), Cond.methodLink RX3 116 yX0_after, Cond.instanceMethod yX0_after, Cond.selects RX0 yX0_after yX0_after, Cond.code yX0_after cX0_after 4 (some .int), Cond.fieldLink RX0 9 "HiddenFacts$Action" "next" "[I", Cond.methodLink RX3 190 yX1_firstAlike, Cond.instanceMethod yX1_firstAlike, Cond.selects RX1 yX1_firstAlike yX1_firstAlike, Cond.code yX1_firstAlike cX1_firstAlike 3 (some .int)]
def wsX3_twins : List Cond := .code yX3_twins cX3_twins 2 (some .int) :: ((wsX3_twins_r1 ++ wsX3_twins_r2) ++ wsX30 ++ wsX10 ++ wsX00 ++ (xn_atS RX3 198 "java/util/NoSuchElementException" ["java/lang/RuntimeException", "java/lang/Exception"]).filter goodWord)
def wsX4_init_r1 : List Cond := [Cond.methodLink RX4 1 objectInit, Cond.instanceMethod objectInit, Cond.code objectInit ⟨#[0xb1]⟩ 1 none, Cond.arrayClass .boolean, Cond.fieldLink RX4 7 "HiddenFactsModel" "there" "[Z", Cond.arrayClass .int, Cond.fieldLink RX4 13 "HiddenFactsModel" "mask" "[I", Cond.fieldLink RX4 17 "HiddenFactsModel" "value" "[I", Cond.fieldLink RX4 20 "HiddenFactsModel" "senses" "[I", Cond.fieldLink RX4 23 "HiddenFactsModel" "effects" "[I", Cond.fieldLink RX4 26 "HiddenFactsModel" "facts" "[I", Cond.fieldLink RX4 29 "HiddenFactsModel" "makes" "[Z", Cond.fieldLink RX4 32 "HiddenFactsModel" "masks" "[I", Cond.fieldLink RX4 35 "HiddenFactsModel" "values" "[I", Cond.fieldLink RX4 38 "HiddenFactsModel" "trues" "[I", Cond.fieldLink RX4 41 "HiddenFactsModel" "falses" "[I", Cond.fieldLink RX4 44 "HiddenFactsModel" "nodeAction" "[I", Cond.fieldLink RX4 47 "HiddenFactsModel" "nodeFirst" "[I", Cond.fieldLink RX4 50 "HiddenFactsModel" "nodeSecond" "[I", Cond.fieldLink RX4 53 "HiddenFactsModel" "asked" "[I", Cond.fieldLink RX4 56 "HiddenFactsModel" "tried" "[I", Cond.fieldLink RX4 59 "HiddenFactsModel" "side" "[I", Cond.fieldLink RX4 62 "HiddenFactsModel" "belief" "[I", Cond.fieldLink RX4 65 "HiddenFactsModel" "does" "[I"]
def wsX4_init_r2 : List Cond := [Cond.fieldLink RX4 68 "HiddenFactsModel" "same" "[I", Cond.fieldLink RX4 71 "HiddenFactsModel" "numbered" "[I", Cond.fieldLink RX4 74 "HiddenFactsModel" "walk" "[I", Cond.fieldLink RX4 77 "HiddenFactsModel" "walkBelief" "[I", Cond.fieldLink RX4 80 "HiddenFactsModel" "hidden" "I", Cond.fieldLink RX4 84 "HiddenFactsModel" "trace" "[I", Cond.fieldLink RX4 87 "HiddenFactsModel" "at" "[I", Cond.fieldLink RX4 90 "HiddenFactsModel" "apart" "[I"]
def wsX4_init : List Cond := .code yX4_init cX4_init 1 none :: ((wsX4_init_r1 ++ wsX4_init_r2) ++ wsX40)
def wsX4_thrown : List Cond := .code yX4_thrown cX4_thrown 1 (some .int) :: ([.fieldLink RX4 93 "HiddenFactsModel" "thrown" "I"] ++ wsX40)
def wsX4_fail : List Cond := .code yX4_fail cX4_fail 2 (some .int) :: ([.fieldLink RX4 93 "HiddenFactsModel" "thrown" "I"] ++ wsX40)
def wsX4_within : List Cond := .code yX4_within cX4_within 3 (some .boolean) :: ([])
def wsX4_demand : List Cond := .code yX4_demand cX4_demand 2 (some .boolean) :: ([.methodLink RX4 96 yX4_within, .static yX4_within, .initialized RX4, .code yX4_within cX4_within 3 (some .boolean)])
def wsX4_holds : List Cond := .code yX4_holds cX4_holds 3 (some .boolean) :: ([])
def wsX4_clear : List Cond := .code yX4_clear cX4_clear 3 (some .int) :: ([.fieldLink RX4 93 "HiddenFactsModel" "thrown" "I", .fieldLink RX4 7 "HiddenFactsModel" "there" "[Z", .fieldLink RX4 100 "HiddenFactsModel" "clauses" "I", .fieldLink RX4 103 "HiddenFactsModel" "goalMask" "I", .fieldLink RX4 106 "HiddenFactsModel" "goalValue" "I", .fieldLink RX4 109 "HiddenFactsModel" "nodes" "I", .fieldLink RX4 80 "HiddenFactsModel" "hidden" "I", .fieldLink RX4 112 "HiddenFactsModel" "made" "I"] ++ wsX40)
def wsX4_action : List Cond := .code yX4_action cX4_action 6 (some .boolean) :: ([.fieldLink RX4 93 "HiddenFactsModel" "thrown" "I", .fieldLink RX4 7 "HiddenFactsModel" "there" "[Z", .fieldLink RX4 13 "HiddenFactsModel" "mask" "[I", .fieldLink RX4 17 "HiddenFactsModel" "value" "[I", .fieldLink RX4 20 "HiddenFactsModel" "senses" "[I", .fieldLink RX4 23 "HiddenFactsModel" "effects" "[I", .methodLink RX4 96 yX4_within, .static yX4_within, .initialized RX4, .code yX4_within cX4_within 3 (some .boolean), .methodLink RX4 115 yX4_fail, .instanceMethod yX4_fail, .selects RX4 yX4_fail yX4_fail, .code yX4_fail cX4_fail 2 (some .int), .methodLink RX4 119 yX4_demand, .static yX4_demand, .code yX4_demand cX4_demand 2 (some .boolean)] ++ wsX40)
def wsX4_effect : List Cond := .code yX4_effect cX4_effect 7 (some .int) :: ([.fieldLink RX4 93 "HiddenFactsModel" "thrown" "I", .fieldLink RX4 7 "HiddenFactsModel" "there" "[Z", .fieldLink RX4 23 "HiddenFactsModel" "effects" "[I", .fieldLink RX4 26 "HiddenFactsModel" "facts" "[I", .fieldLink RX4 29 "HiddenFactsModel" "makes" "[Z", .fieldLink RX4 32 "HiddenFactsModel" "masks" "[I", .fieldLink RX4 35 "HiddenFactsModel" "values" "[I", .methodLink RX4 96 yX4_within, .static yX4_within, .initialized RX4, .code yX4_within cX4_within 3 (some .boolean), .methodLink RX4 115 yX4_fail, .instanceMethod yX4_fail, .selects RX4 yX4_fail yX4_fail, .code yX4_fail cX4_fail 2 (some .int), .methodLink RX4 119 yX4_demand, .static yX4_demand, .code yX4_demand cX4_demand 2 (some .boolean)] ++ wsX40)
def wsX4_clause : List Cond := .code yX4_clause cX4_clause 3 (some .int) :: ([.fieldLink RX4 93 "HiddenFactsModel" "thrown" "I", .fieldLink RX4 100 "HiddenFactsModel" "clauses" "I", .fieldLink RX4 38 "HiddenFactsModel" "trues" "[I", .fieldLink RX4 41 "HiddenFactsModel" "falses" "[I", .methodLink RX4 119 yX4_demand, .static yX4_demand, .initialized RX4, .code yX4_demand cX4_demand 2 (some .boolean), .methodLink RX4 96 yX4_within, .static yX4_within, .code yX4_within cX4_within 3 (some .boolean), .methodLink RX4 115 yX4_fail, .instanceMethod yX4_fail, .selects RX4 yX4_fail yX4_fail, .code yX4_fail cX4_fail 2 (some .int)] ++ wsX40)
def wsX4_goal : List Cond := .code yX4_goal cX4_goal 5 (some .int) :: ([.fieldLink RX4 93 "HiddenFactsModel" "thrown" "I", .fieldLink RX4 103 "HiddenFactsModel" "goalMask" "I", .fieldLink RX4 106 "HiddenFactsModel" "goalValue" "I", .methodLink RX4 119 yX4_demand, .static yX4_demand, .initialized RX4, .code yX4_demand cX4_demand 2 (some .boolean), .methodLink RX4 96 yX4_within, .static yX4_within, .code yX4_within cX4_within 3 (some .boolean), .methodLink RX4 115 yX4_fail, .instanceMethod yX4_fail, .selects RX4 yX4_fail yX4_fail, .code yX4_fail cX4_fail 2 (some .int), .methodLink RX4 123 yX4_holds, .static yX4_holds, .code yX4_holds cX4_holds 3 (some .boolean)] ++ wsX40)
def wsX4_startBelief : List Cond := .code yX4_startBelief cX4_startBelief 5 (some .int) :: ([.fieldLink RX4 100 "HiddenFactsModel" "clauses" "I", .fieldLink RX4 38 "HiddenFactsModel" "trues" "[I", .fieldLink RX4 41 "HiddenFactsModel" "falses" "[I"] ++ wsX40)
def wsX4_start : List Cond := .code yX4_start cX4_start 1 (some .int) :: ([.fieldLink RX4 93 "HiddenFactsModel" "thrown" "I", .methodLink RX4 126 yX4_startBelief, .instanceMethod yX4_startBelief, .selects RX4 yX4_startBelief yX4_startBelief, .initialized RX4, .code yX4_startBelief cX4_startBelief 5 (some .int), .fieldLink RX4 100 "HiddenFactsModel" "clauses" "I", .fieldLink RX4 38 "HiddenFactsModel" "trues" "[I", .fieldLink RX4 41 "HiddenFactsModel" "falses" "[I"] ++ wsX40)
def wsX4_usable : List Cond := .code yX4_usable cX4_usable 5 (some .boolean) :: ([.fieldLink RX4 7 "HiddenFactsModel" "there" "[Z", .fieldLink RX4 13 "HiddenFactsModel" "mask" "[I", .fieldLink RX4 17 "HiddenFactsModel" "value" "[I", .methodLink RX4 123 yX4_holds, .static yX4_holds, .initialized RX4, .code yX4_holds cX4_holds 3 (some .boolean)] ++ wsX40)
def wsX4_next : List Cond := .code yX4_next cX4_next 5 (some .int) :: ([.fieldLink RX4 23 "HiddenFactsModel" "effects" "[I", .fieldLink RX4 32 "HiddenFactsModel" "masks" "[I", .fieldLink RX4 35 "HiddenFactsModel" "values" "[I", .fieldLink RX4 29 "HiddenFactsModel" "makes" "[Z", .fieldLink RX4 26 "HiddenFactsModel" "facts" "[I", .methodLink RX4 123 yX4_holds, .static yX4_holds, .initialized RX4, .code yX4_holds cX4_holds 3 (some .boolean)] ++ wsX40)
def wsX4_after : List Cond := .code yX4_after cX4_after 5 (some .int) :: ([.methodLink RX4 130 yX4_next, .instanceMethod yX4_next, .selects RX4 yX4_next yX4_next, .initialized RX4, .code yX4_next cX4_next 5 (some .int), .fieldLink RX4 23 "HiddenFactsModel" "effects" "[I", .fieldLink RX4 32 "HiddenFactsModel" "masks" "[I", .fieldLink RX4 35 "HiddenFactsModel" "values" "[I", .fieldLink RX4 29 "HiddenFactsModel" "makes" "[Z", .fieldLink RX4 26 "HiddenFactsModel" "facts" "[I", .methodLink RX4 123 yX4_holds, .static yX4_holds, .code yX4_holds cX4_holds 3 (some .boolean)] ++ wsX40)
def wsX4_part : List Cond := .code yX4_part cX4_part 7 (some .int) :: ([.fieldLink RX4 20 "HiddenFactsModel" "senses" "[I", .methodLink RX4 134 yX4_after, .instanceMethod yX4_after, .selects RX4 yX4_after yX4_after, .initialized RX4, .code yX4_after cX4_after 5 (some .int), .methodLink RX4 130 yX4_next, .instanceMethod yX4_next, .selects RX4 yX4_next yX4_next, .code yX4_next cX4_next 5 (some .int), .fieldLink RX4 23 "HiddenFactsModel" "effects" "[I", .fieldLink RX4 32 "HiddenFactsModel" "masks" "[I", .fieldLink RX4 35 "HiddenFactsModel" "values" "[I", .fieldLink RX4 29 "HiddenFactsModel" "makes" "[Z", .fieldLink RX4 26 "HiddenFactsModel" "facts" "[I", .methodLink RX4 123 yX4_holds, .static yX4_holds, .code yX4_holds cX4_holds 3 (some .boolean)] ++ wsX40)
def wsX4_behind_r1 : List Cond := [Cond.fieldLink RX4 93 "HiddenFactsModel" "thrown" "I", Cond.fieldLink RX4 7 "HiddenFactsModel" "there" "[Z", Cond.constant RX4 137 (65535), Cond.methodLink RX4 96 yX4_within, Cond.static yX4_within, Cond.initialized RX4, Cond.code yX4_within cX4_within 3 (some .boolean), Cond.methodLink RX4 115 yX4_fail, Cond.instanceMethod yX4_fail, Cond.selects RX4 yX4_fail yX4_fail, Cond.code yX4_fail cX4_fail 2 (some .int), Cond.methodLink RX4 138 yX4_usable, Cond.instanceMethod yX4_usable, Cond.selects RX4 yX4_usable yX4_usable, Cond.code yX4_usable cX4_usable 5 (some .boolean), Cond.fieldLink RX4 13 "HiddenFactsModel" "mask" "[I", Cond.fieldLink RX4 17 "HiddenFactsModel" "value" "[I", Cond.methodLink RX4 123 yX4_holds, Cond.static yX4_holds, Cond.code yX4_holds cX4_holds 3 (some .boolean), Cond.methodLink RX4 134 yX4_after, Cond.instanceMethod yX4_after, Cond.selects RX4 yX4_after yX4_after, Cond.code yX4_after cX4_after 5 (some .int)]
def wsX4_behind_r2 : List Cond := [Cond.methodLink RX4 130 yX4_next, Cond.instanceMethod yX4_next, Cond.selects RX4 yX4_next yX4_next, Cond.code yX4_next cX4_next 5 (some .int), Cond.fieldLink RX4 23 "HiddenFactsModel" "effects" "[I", Cond.fieldLink RX4 32 "HiddenFactsModel" "masks" "[I", Cond.fieldLink RX4 35 "HiddenFactsModel" "values" "[I", Cond.fieldLink RX4 29 "HiddenFactsModel" "makes" "[Z", Cond.fieldLink RX4 26 "HiddenFactsModel" "facts" "[I"]
def wsX4_behind : List Cond := .code yX4_behind cX4_behind 3 (some .int) :: ((wsX4_behind_r1 ++ wsX4_behind_r2) ++ wsX40)
def wsX4_reached : List Cond := .code yX4_reached cX4_reached 4 (some .boolean) :: ([.fieldLink RX4 103 "HiddenFactsModel" "goalMask" "I", .fieldLink RX4 106 "HiddenFactsModel" "goalValue" "I", .methodLink RX4 123 yX4_holds, .static yX4_holds, .initialized RX4, .code yX4_holds cX4_holds 3 (some .boolean)] ++ wsX40)
def wsX4_solved_r1 : List Cond := [Cond.fieldLink RX4 53 "HiddenFactsModel" "asked" "[I", Cond.fieldLink RX4 56 "HiddenFactsModel" "tried" "[I", Cond.fieldLink RX4 59 "HiddenFactsModel" "side" "[I", Cond.methodLink RX4 141 yX4_reached, Cond.instanceMethod yX4_reached, Cond.selects RX4 yX4_reached yX4_reached, Cond.initialized RX4, Cond.code yX4_reached cX4_reached 4 (some .boolean), Cond.fieldLink RX4 103 "HiddenFactsModel" "goalMask" "I", Cond.fieldLink RX4 106 "HiddenFactsModel" "goalValue" "I", Cond.methodLink RX4 123 yX4_holds, Cond.static yX4_holds, Cond.code yX4_holds cX4_holds 3 (some .boolean), Cond.methodLink RX4 138 yX4_usable, Cond.instanceMethod yX4_usable, Cond.selects RX4 yX4_usable yX4_usable, Cond.code yX4_usable cX4_usable 5 (some .boolean), Cond.fieldLink RX4 7 "HiddenFactsModel" "there" "[Z", Cond.fieldLink RX4 13 "HiddenFactsModel" "mask" "[I", Cond.fieldLink RX4 17 "HiddenFactsModel" "value" "[I", Cond.methodLink RX4 145 yX4_part, Cond.instanceMethod yX4_part, Cond.selects RX4 yX4_part yX4_part, Cond.code yX4_part cX4_part 7 (some .int)]
def wsX4_solved_r2 : List Cond := [Cond.fieldLink RX4 20 "HiddenFactsModel" "senses" "[I", Cond.methodLink RX4 134 yX4_after, Cond.instanceMethod yX4_after, Cond.selects RX4 yX4_after yX4_after, Cond.code yX4_after cX4_after 5 (some .int), Cond.methodLink RX4 130 yX4_next, Cond.instanceMethod yX4_next, Cond.selects RX4 yX4_next yX4_next, Cond.code yX4_next cX4_next 5 (some .int), Cond.fieldLink RX4 23 "HiddenFactsModel" "effects" "[I", Cond.fieldLink RX4 32 "HiddenFactsModel" "masks" "[I", Cond.fieldLink RX4 35 "HiddenFactsModel" "values" "[I", Cond.fieldLink RX4 29 "HiddenFactsModel" "makes" "[Z", Cond.fieldLink RX4 26 "HiddenFactsModel" "facts" "[I"]
def wsX4_solved : List Cond := .code yX4_solved cX4_solved 5 (some .boolean) :: ((wsX4_solved_r1 ++ wsX4_solved_r2) ++ wsX40)
def wsX4_leastFor_r1 : List Cond := [Cond.methodLink RX4 149 yX4_solved, Cond.instanceMethod yX4_solved, Cond.selects RX4 yX4_solved yX4_solved, Cond.initialized RX4, Cond.code yX4_solved cX4_solved 5 (some .boolean), Cond.fieldLink RX4 53 "HiddenFactsModel" "asked" "[I", Cond.fieldLink RX4 56 "HiddenFactsModel" "tried" "[I", Cond.fieldLink RX4 59 "HiddenFactsModel" "side" "[I", Cond.methodLink RX4 141 yX4_reached, Cond.instanceMethod yX4_reached, Cond.selects RX4 yX4_reached yX4_reached, Cond.code yX4_reached cX4_reached 4 (some .boolean), Cond.fieldLink RX4 103 "HiddenFactsModel" "goalMask" "I", Cond.fieldLink RX4 106 "HiddenFactsModel" "goalValue" "I", Cond.methodLink RX4 123 yX4_holds, Cond.static yX4_holds, Cond.code yX4_holds cX4_holds 3 (some .boolean), Cond.methodLink RX4 138 yX4_usable, Cond.instanceMethod yX4_usable, Cond.selects RX4 yX4_usable yX4_usable, Cond.code yX4_usable cX4_usable 5 (some .boolean), Cond.fieldLink RX4 7 "HiddenFactsModel" "there" "[Z", Cond.fieldLink RX4 13 "HiddenFactsModel" "mask" "[I", Cond.fieldLink RX4 17 "HiddenFactsModel" "value" "[I"]
def wsX4_leastFor_r2 : List Cond := [Cond.methodLink RX4 145 yX4_part, Cond.instanceMethod yX4_part, Cond.selects RX4 yX4_part yX4_part, Cond.code yX4_part cX4_part 7 (some .int), Cond.fieldLink RX4 20 "HiddenFactsModel" "senses" "[I", Cond.methodLink RX4 134 yX4_after, Cond.instanceMethod yX4_after, Cond.selects RX4 yX4_after yX4_after, Cond.code yX4_after cX4_after 5 (some .int), Cond.methodLink RX4 130 yX4_next, Cond.instanceMethod yX4_next, Cond.selects RX4 yX4_next yX4_next, Cond.code yX4_next cX4_next 5 (some .int), Cond.fieldLink RX4 23 "HiddenFactsModel" "effects" "[I", Cond.fieldLink RX4 32 "HiddenFactsModel" "masks" "[I", Cond.fieldLink RX4 35 "HiddenFactsModel" "values" "[I", Cond.fieldLink RX4 29 "HiddenFactsModel" "makes" "[Z", Cond.fieldLink RX4 26 "HiddenFactsModel" "facts" "[I"]
def wsX4_leastFor : List Cond := .code yX4_leastFor cX4_leastFor 4 (some .int) :: ((wsX4_leastFor_r1 ++ wsX4_leastFor_r2) ++ wsX40)
def wsX4_least_r1 : List Cond := [Cond.fieldLink RX4 93 "HiddenFactsModel" "thrown" "I", Cond.constant RX4 137 (65535), Cond.methodLink RX4 96 yX4_within, Cond.static yX4_within, Cond.initialized RX4, Cond.code yX4_within cX4_within 3 (some .boolean), Cond.methodLink RX4 115 yX4_fail, Cond.instanceMethod yX4_fail, Cond.selects RX4 yX4_fail yX4_fail, Cond.code yX4_fail cX4_fail 2 (some .int), Cond.methodLink RX4 152 yX4_leastFor, Cond.instanceMethod yX4_leastFor, Cond.selects RX4 yX4_leastFor yX4_leastFor, Cond.code yX4_leastFor cX4_leastFor 4 (some .int), Cond.methodLink RX4 149 yX4_solved, Cond.instanceMethod yX4_solved, Cond.selects RX4 yX4_solved yX4_solved, Cond.code yX4_solved cX4_solved 5 (some .boolean), Cond.fieldLink RX4 53 "HiddenFactsModel" "asked" "[I", Cond.fieldLink RX4 56 "HiddenFactsModel" "tried" "[I", Cond.fieldLink RX4 59 "HiddenFactsModel" "side" "[I", Cond.methodLink RX4 141 yX4_reached, Cond.instanceMethod yX4_reached, Cond.selects RX4 yX4_reached yX4_reached]
def wsX4_least_r2 : List Cond := [Cond.code yX4_reached cX4_reached 4 (some .boolean), Cond.fieldLink RX4 103 "HiddenFactsModel" "goalMask" "I", Cond.fieldLink RX4 106 "HiddenFactsModel" "goalValue" "I", Cond.methodLink RX4 123 yX4_holds, Cond.static yX4_holds, Cond.code yX4_holds cX4_holds 3 (some .boolean), Cond.methodLink RX4 138 yX4_usable, Cond.instanceMethod yX4_usable, Cond.selects RX4 yX4_usable yX4_usable, Cond.code yX4_usable cX4_usable 5 (some .boolean), Cond.fieldLink RX4 7 "HiddenFactsModel" "there" "[Z", Cond.fieldLink RX4 13 "HiddenFactsModel" "mask" "[I", Cond.fieldLink RX4 17 "HiddenFactsModel" "value" "[I", Cond.methodLink RX4 145 yX4_part, Cond.instanceMethod yX4_part, Cond.selects RX4 yX4_part yX4_part, Cond.code yX4_part cX4_part 7 (some .int), Cond.fieldLink RX4 20 "HiddenFactsModel" "senses" "[I", Cond.methodLink RX4 134 yX4_after, Cond.instanceMethod yX4_after, Cond.selects RX4 yX4_after yX4_after, Cond.code yX4_after cX4_after 5 (some .int), Cond.methodLink RX4 130 yX4_next, Cond.instanceMethod yX4_next]
def wsX4_least_r3 : List Cond := [Cond.selects RX4 yX4_next yX4_next, Cond.code yX4_next cX4_next 5 (some .int), Cond.fieldLink RX4 23 "HiddenFactsModel" "effects" "[I", Cond.fieldLink RX4 32 "HiddenFactsModel" "masks" "[I", Cond.fieldLink RX4 35 "HiddenFactsModel" "values" "[I", Cond.fieldLink RX4 29 "HiddenFactsModel" "makes" "[Z", Cond.fieldLink RX4 26 "HiddenFactsModel" "facts" "[I"]
def wsX4_least : List Cond := .code yX4_least cX4_least 4 (some .int) :: ((wsX4_least_r1 ++ (wsX4_least_r2 ++ wsX4_least_r3)) ++ wsX40)
def wsX4_partSolved_r1 : List Cond := [Cond.methodLink RX4 145 yX4_part, Cond.instanceMethod yX4_part, Cond.selects RX4 yX4_part yX4_part, Cond.initialized RX4, Cond.code yX4_part cX4_part 7 (some .int), Cond.fieldLink RX4 20 "HiddenFactsModel" "senses" "[I", Cond.methodLink RX4 134 yX4_after, Cond.instanceMethod yX4_after, Cond.selects RX4 yX4_after yX4_after, Cond.code yX4_after cX4_after 5 (some .int), Cond.methodLink RX4 130 yX4_next, Cond.instanceMethod yX4_next, Cond.selects RX4 yX4_next yX4_next, Cond.code yX4_next cX4_next 5 (some .int), Cond.fieldLink RX4 23 "HiddenFactsModel" "effects" "[I", Cond.fieldLink RX4 32 "HiddenFactsModel" "masks" "[I", Cond.fieldLink RX4 35 "HiddenFactsModel" "values" "[I", Cond.fieldLink RX4 29 "HiddenFactsModel" "makes" "[Z", Cond.fieldLink RX4 26 "HiddenFactsModel" "facts" "[I", Cond.methodLink RX4 123 yX4_holds, Cond.static yX4_holds, Cond.code yX4_holds cX4_holds 3 (some .boolean), Cond.methodLink RX4 149 yX4_solved, Cond.instanceMethod yX4_solved]
def wsX4_partSolved_r2 : List Cond := [Cond.selects RX4 yX4_solved yX4_solved, Cond.code yX4_solved cX4_solved 5 (some .boolean), Cond.fieldLink RX4 53 "HiddenFactsModel" "asked" "[I", Cond.fieldLink RX4 56 "HiddenFactsModel" "tried" "[I", Cond.fieldLink RX4 59 "HiddenFactsModel" "side" "[I", Cond.methodLink RX4 141 yX4_reached, Cond.instanceMethod yX4_reached, Cond.selects RX4 yX4_reached yX4_reached, Cond.code yX4_reached cX4_reached 4 (some .boolean), Cond.fieldLink RX4 103 "HiddenFactsModel" "goalMask" "I", Cond.fieldLink RX4 106 "HiddenFactsModel" "goalValue" "I", Cond.methodLink RX4 138 yX4_usable, Cond.instanceMethod yX4_usable, Cond.selects RX4 yX4_usable yX4_usable, Cond.code yX4_usable cX4_usable 5 (some .boolean), Cond.fieldLink RX4 7 "HiddenFactsModel" "there" "[Z", Cond.fieldLink RX4 13 "HiddenFactsModel" "mask" "[I", Cond.fieldLink RX4 17 "HiddenFactsModel" "value" "[I"]
def wsX4_partSolved : List Cond := .code yX4_partSolved cX4_partSolved 6 (some .boolean) :: ((wsX4_partSolved_r1 ++ wsX4_partSolved_r2) ++ wsX40)
def wsX4_choose_r1 : List Cond := [Cond.fieldLink RX4 62 "HiddenFactsModel" "belief" "[I", Cond.fieldLink RX4 65 "HiddenFactsModel" "does" "[I", Cond.methodLink RX4 141 yX4_reached, Cond.instanceMethod yX4_reached, Cond.selects RX4 yX4_reached yX4_reached, Cond.initialized RX4, Cond.code yX4_reached cX4_reached 4 (some .boolean), Cond.fieldLink RX4 103 "HiddenFactsModel" "goalMask" "I", Cond.fieldLink RX4 106 "HiddenFactsModel" "goalValue" "I", Cond.methodLink RX4 123 yX4_holds, Cond.static yX4_holds, Cond.code yX4_holds cX4_holds 3 (some .boolean), Cond.methodLink RX4 138 yX4_usable, Cond.instanceMethod yX4_usable, Cond.selects RX4 yX4_usable yX4_usable, Cond.code yX4_usable cX4_usable 5 (some .boolean), Cond.fieldLink RX4 7 "HiddenFactsModel" "there" "[Z", Cond.fieldLink RX4 13 "HiddenFactsModel" "mask" "[I", Cond.fieldLink RX4 17 "HiddenFactsModel" "value" "[I", Cond.methodLink RX4 155 yX4_partSolved, Cond.instanceMethod yX4_partSolved, Cond.selects RX4 yX4_partSolved yX4_partSolved, Cond.code yX4_partSolved cX4_partSolved 6 (some .boolean), Cond.methodLink RX4 145 yX4_part]
def wsX4_choose_r2 : List Cond := [Cond.instanceMethod yX4_part, Cond.selects RX4 yX4_part yX4_part, Cond.code yX4_part cX4_part 7 (some .int), Cond.fieldLink RX4 20 "HiddenFactsModel" "senses" "[I", Cond.methodLink RX4 134 yX4_after, Cond.instanceMethod yX4_after, Cond.selects RX4 yX4_after yX4_after, Cond.code yX4_after cX4_after 5 (some .int), Cond.methodLink RX4 130 yX4_next, Cond.instanceMethod yX4_next, Cond.selects RX4 yX4_next yX4_next, Cond.code yX4_next cX4_next 5 (some .int), Cond.fieldLink RX4 23 "HiddenFactsModel" "effects" "[I", Cond.fieldLink RX4 32 "HiddenFactsModel" "masks" "[I", Cond.fieldLink RX4 35 "HiddenFactsModel" "values" "[I", Cond.fieldLink RX4 29 "HiddenFactsModel" "makes" "[Z", Cond.fieldLink RX4 26 "HiddenFactsModel" "facts" "[I", Cond.methodLink RX4 149 yX4_solved, Cond.instanceMethod yX4_solved, Cond.selects RX4 yX4_solved yX4_solved, Cond.code yX4_solved cX4_solved 5 (some .boolean), Cond.fieldLink RX4 53 "HiddenFactsModel" "asked" "[I", Cond.fieldLink RX4 56 "HiddenFactsModel" "tried" "[I", Cond.fieldLink RX4 59 "HiddenFactsModel" "side" "[I"]
def wsX4_choose : List Cond := .code yX4_choose cX4_choose 5 none :: ((wsX4_choose_r1 ++ wsX4_choose_r2) ++ wsX40)
def wsX4_depthOf : List Cond := .code yX4_depthOf cX4_depthOf 3 (some .int) :: ([])
def wsX4_classOf : List Cond := .code yX4_classOf cX4_classOf 2 (some .int) :: ([.fieldLink RX4 62 "HiddenFactsModel" "belief" "[I", .fieldLink RX4 68 "HiddenFactsModel" "same" "[I"] ++ wsX40)
def wsX4_equal : List Cond := .code yX4_equal cX4_equal 3 (some .boolean) :: ([.fieldLink RX4 62 "HiddenFactsModel" "belief" "[I", .fieldLink RX4 65 "HiddenFactsModel" "does" "[I", .methodLink RX4 159 yX4_classOf, .instanceMethod yX4_classOf, .selects RX4 yX4_classOf yX4_classOf, .initialized RX4, .code yX4_classOf cX4_classOf 2 (some .int), .fieldLink RX4 68 "HiddenFactsModel" "same" "[I"] ++ wsX40)
def wsX4_number : List Cond := .code yX4_number cX4_number 5 none :: ([.fieldLink RX4 109 "HiddenFactsModel" "nodes" "I", .fieldLink RX4 74 "HiddenFactsModel" "walk" "[I", .fieldLink RX4 68 "HiddenFactsModel" "same" "[I", .fieldLink RX4 62 "HiddenFactsModel" "belief" "[I", .fieldLink RX4 71 "HiddenFactsModel" "numbered" "[I", .fieldLink RX4 44 "HiddenFactsModel" "nodeAction" "[I", .fieldLink RX4 65 "HiddenFactsModel" "does" "[I", .fieldLink RX4 47 "HiddenFactsModel" "nodeFirst" "[I", .fieldLink RX4 50 "HiddenFactsModel" "nodeSecond" "[I"] ++ wsX40)
def wsX4_build_r1 : List Cond := [Cond.fieldLink RX4 62 "HiddenFactsModel" "belief" "[I", Cond.fieldLink RX4 71 "HiddenFactsModel" "numbered" "[I", Cond.fieldLink RX4 68 "HiddenFactsModel" "same" "[I", Cond.methodLink RX4 162 yX4_depthOf, Cond.static yX4_depthOf, Cond.initialized RX4, Cond.code yX4_depthOf cX4_depthOf 3 (some .int), Cond.methodLink RX4 165 yX4_choose, Cond.instanceMethod yX4_choose, Cond.selects RX4 yX4_choose yX4_choose, Cond.code yX4_choose cX4_choose 5 none, Cond.fieldLink RX4 65 "HiddenFactsModel" "does" "[I", Cond.methodLink RX4 141 yX4_reached, Cond.instanceMethod yX4_reached, Cond.selects RX4 yX4_reached yX4_reached, Cond.code yX4_reached cX4_reached 4 (some .boolean), Cond.fieldLink RX4 103 "HiddenFactsModel" "goalMask" "I", Cond.fieldLink RX4 106 "HiddenFactsModel" "goalValue" "I", Cond.methodLink RX4 123 yX4_holds, Cond.static yX4_holds, Cond.code yX4_holds cX4_holds 3 (some .boolean), Cond.methodLink RX4 138 yX4_usable, Cond.instanceMethod yX4_usable, Cond.selects RX4 yX4_usable yX4_usable]
def wsX4_build_r2 : List Cond := [Cond.code yX4_usable cX4_usable 5 (some .boolean), Cond.fieldLink RX4 7 "HiddenFactsModel" "there" "[Z", Cond.fieldLink RX4 13 "HiddenFactsModel" "mask" "[I", Cond.fieldLink RX4 17 "HiddenFactsModel" "value" "[I", Cond.methodLink RX4 155 yX4_partSolved, Cond.instanceMethod yX4_partSolved, Cond.selects RX4 yX4_partSolved yX4_partSolved, Cond.code yX4_partSolved cX4_partSolved 6 (some .boolean), Cond.methodLink RX4 145 yX4_part, Cond.instanceMethod yX4_part, Cond.selects RX4 yX4_part yX4_part, Cond.code yX4_part cX4_part 7 (some .int), Cond.fieldLink RX4 20 "HiddenFactsModel" "senses" "[I", Cond.methodLink RX4 134 yX4_after, Cond.instanceMethod yX4_after, Cond.selects RX4 yX4_after yX4_after, Cond.code yX4_after cX4_after 5 (some .int), Cond.methodLink RX4 130 yX4_next, Cond.instanceMethod yX4_next, Cond.selects RX4 yX4_next yX4_next, Cond.code yX4_next cX4_next 5 (some .int), Cond.fieldLink RX4 23 "HiddenFactsModel" "effects" "[I", Cond.fieldLink RX4 32 "HiddenFactsModel" "masks" "[I", Cond.fieldLink RX4 35 "HiddenFactsModel" "values" "[I"]
def wsX4_build_r3 : List Cond := [Cond.fieldLink RX4 29 "HiddenFactsModel" "makes" "[Z", Cond.fieldLink RX4 26 "HiddenFactsModel" "facts" "[I", Cond.methodLink RX4 149 yX4_solved, Cond.instanceMethod yX4_solved, Cond.selects RX4 yX4_solved yX4_solved, Cond.code yX4_solved cX4_solved 5 (some .boolean), Cond.fieldLink RX4 53 "HiddenFactsModel" "asked" "[I", Cond.fieldLink RX4 56 "HiddenFactsModel" "tried" "[I", Cond.fieldLink RX4 59 "HiddenFactsModel" "side" "[I", Cond.methodLink RX4 169 yX4_equal, Cond.instanceMethod yX4_equal, Cond.selects RX4 yX4_equal yX4_equal, Cond.code yX4_equal cX4_equal 3 (some .boolean), Cond.methodLink RX4 159 yX4_classOf, Cond.instanceMethod yX4_classOf, Cond.selects RX4 yX4_classOf yX4_classOf, Cond.code yX4_classOf cX4_classOf 2 (some .int), Cond.methodLink RX4 172 yX4_number, Cond.instanceMethod yX4_number, Cond.selects RX4 yX4_number yX4_number, Cond.code yX4_number cX4_number 5 none, Cond.fieldLink RX4 109 "HiddenFactsModel" "nodes" "I", Cond.fieldLink RX4 74 "HiddenFactsModel" "walk" "[I", Cond.fieldLink RX4 44 "HiddenFactsModel" "nodeAction" "[I"]
def wsX4_build_r4 : List Cond := [Cond.fieldLink RX4 47 "HiddenFactsModel" "nodeFirst" "[I", Cond.fieldLink RX4 50 "HiddenFactsModel" "nodeSecond" "[I"]
def wsX4_build : List Cond := .code yX4_build cX4_build 5 none :: ((wsX4_build_r1 ++ (wsX4_build_r2 ++ (wsX4_build_r3 ++ wsX4_build_r4))) ++ wsX40)
def wsX4_plan_r1 : List Cond := [Cond.fieldLink RX4 93 "HiddenFactsModel" "thrown" "I", Cond.methodLink RX4 96 yX4_within, Cond.static yX4_within, Cond.initialized RX4, Cond.code yX4_within cX4_within 3 (some .boolean), Cond.methodLink RX4 115 yX4_fail, Cond.instanceMethod yX4_fail, Cond.selects RX4 yX4_fail yX4_fail, Cond.code yX4_fail cX4_fail 2 (some .int), Cond.methodLink RX4 126 yX4_startBelief, Cond.instanceMethod yX4_startBelief, Cond.selects RX4 yX4_startBelief yX4_startBelief, Cond.code yX4_startBelief cX4_startBelief 5 (some .int), Cond.fieldLink RX4 100 "HiddenFactsModel" "clauses" "I", Cond.fieldLink RX4 38 "HiddenFactsModel" "trues" "[I", Cond.fieldLink RX4 41 "HiddenFactsModel" "falses" "[I", Cond.methodLink RX4 152 yX4_leastFor, Cond.instanceMethod yX4_leastFor, Cond.selects RX4 yX4_leastFor yX4_leastFor, Cond.code yX4_leastFor cX4_leastFor 4 (some .int), Cond.methodLink RX4 149 yX4_solved, Cond.instanceMethod yX4_solved, Cond.selects RX4 yX4_solved yX4_solved, Cond.code yX4_solved cX4_solved 5 (some .boolean)]
def wsX4_plan_r2 : List Cond := [Cond.fieldLink RX4 53 "HiddenFactsModel" "asked" "[I", Cond.fieldLink RX4 56 "HiddenFactsModel" "tried" "[I", Cond.fieldLink RX4 59 "HiddenFactsModel" "side" "[I", Cond.methodLink RX4 141 yX4_reached, Cond.instanceMethod yX4_reached, Cond.selects RX4 yX4_reached yX4_reached, Cond.code yX4_reached cX4_reached 4 (some .boolean), Cond.fieldLink RX4 103 "HiddenFactsModel" "goalMask" "I", Cond.fieldLink RX4 106 "HiddenFactsModel" "goalValue" "I", Cond.methodLink RX4 123 yX4_holds, Cond.static yX4_holds, Cond.code yX4_holds cX4_holds 3 (some .boolean), Cond.methodLink RX4 138 yX4_usable, Cond.instanceMethod yX4_usable, Cond.selects RX4 yX4_usable yX4_usable, Cond.code yX4_usable cX4_usable 5 (some .boolean), Cond.fieldLink RX4 7 "HiddenFactsModel" "there" "[Z", Cond.fieldLink RX4 13 "HiddenFactsModel" "mask" "[I", Cond.fieldLink RX4 17 "HiddenFactsModel" "value" "[I", Cond.methodLink RX4 145 yX4_part, Cond.instanceMethod yX4_part, Cond.selects RX4 yX4_part yX4_part, Cond.code yX4_part cX4_part 7 (some .int), Cond.fieldLink RX4 20 "HiddenFactsModel" "senses" "[I"]
def wsX4_plan_r3 : List Cond := [Cond.methodLink RX4 134 yX4_after, Cond.instanceMethod yX4_after, Cond.selects RX4 yX4_after yX4_after, Cond.code yX4_after cX4_after 5 (some .int), Cond.methodLink RX4 130 yX4_next, Cond.instanceMethod yX4_next, Cond.selects RX4 yX4_next yX4_next, Cond.code yX4_next cX4_next 5 (some .int), Cond.fieldLink RX4 23 "HiddenFactsModel" "effects" "[I", Cond.fieldLink RX4 32 "HiddenFactsModel" "masks" "[I", Cond.fieldLink RX4 35 "HiddenFactsModel" "values" "[I", Cond.fieldLink RX4 29 "HiddenFactsModel" "makes" "[Z", Cond.fieldLink RX4 26 "HiddenFactsModel" "facts" "[I", Cond.methodLink RX4 175 yX4_build, Cond.instanceMethod yX4_build, Cond.selects RX4 yX4_build yX4_build, Cond.code yX4_build cX4_build 5 none, Cond.fieldLink RX4 62 "HiddenFactsModel" "belief" "[I", Cond.fieldLink RX4 71 "HiddenFactsModel" "numbered" "[I", Cond.fieldLink RX4 68 "HiddenFactsModel" "same" "[I", Cond.methodLink RX4 162 yX4_depthOf, Cond.static yX4_depthOf, Cond.code yX4_depthOf cX4_depthOf 3 (some .int), Cond.methodLink RX4 165 yX4_choose]
def wsX4_plan_r4 : List Cond := [Cond.instanceMethod yX4_choose, Cond.selects RX4 yX4_choose yX4_choose, Cond.code yX4_choose cX4_choose 5 none, Cond.fieldLink RX4 65 "HiddenFactsModel" "does" "[I", Cond.methodLink RX4 155 yX4_partSolved, Cond.instanceMethod yX4_partSolved, Cond.selects RX4 yX4_partSolved yX4_partSolved, Cond.code yX4_partSolved cX4_partSolved 6 (some .boolean), Cond.methodLink RX4 169 yX4_equal, Cond.instanceMethod yX4_equal, Cond.selects RX4 yX4_equal yX4_equal, Cond.code yX4_equal cX4_equal 3 (some .boolean), Cond.methodLink RX4 159 yX4_classOf, Cond.instanceMethod yX4_classOf, Cond.selects RX4 yX4_classOf yX4_classOf, Cond.code yX4_classOf cX4_classOf 2 (some .int), Cond.methodLink RX4 172 yX4_number, Cond.instanceMethod yX4_number, Cond.selects RX4 yX4_number yX4_number, Cond.code yX4_number cX4_number 5 none, Cond.fieldLink RX4 109 "HiddenFactsModel" "nodes" "I", Cond.fieldLink RX4 74 "HiddenFactsModel" "walk" "[I", Cond.fieldLink RX4 44 "HiddenFactsModel" "nodeAction" "[I", Cond.fieldLink RX4 47 "HiddenFactsModel" "nodeFirst" "[I"]
def wsX4_plan_r5 : List Cond := [Cond.fieldLink RX4 50 "HiddenFactsModel" "nodeSecond" "[I"]
def wsX4_plan : List Cond := .code yX4_plan cX4_plan 4 (some .int) :: ((wsX4_plan_r1 ++ (wsX4_plan_r2 ++ (wsX4_plan_r3 ++ (wsX4_plan_r4 ++ wsX4_plan_r5)))) ++ wsX40)
def wsX4_nodes : List Cond := .code yX4_nodes cX4_nodes 1 (some .int) :: ([.fieldLink RX4 93 "HiddenFactsModel" "thrown" "I", .fieldLink RX4 109 "HiddenFactsModel" "nodes" "I"] ++ wsX40)
def wsX4_node : List Cond := .code yX4_node cX4_node 3 (some .int) :: ([.fieldLink RX4 93 "HiddenFactsModel" "thrown" "I", .fieldLink RX4 109 "HiddenFactsModel" "nodes" "I", .fieldLink RX4 44 "HiddenFactsModel" "nodeAction" "[I", .fieldLink RX4 47 "HiddenFactsModel" "nodeFirst" "[I", .fieldLink RX4 50 "HiddenFactsModel" "nodeSecond" "[I", .methodLink RX4 96 yX4_within, .static yX4_within, .initialized RX4, .code yX4_within cX4_within 3 (some .boolean), .methodLink RX4 115 yX4_fail, .instanceMethod yX4_fail, .selects RX4 yX4_fail yX4_fail, .code yX4_fail cX4_fail 2 (some .int)] ++ wsX40)
def wsX4_edit : List Cond := .code yX4_edit cX4_edit 4 (some .int) :: ([.fieldLink RX4 93 "HiddenFactsModel" "thrown" "I", .fieldLink RX4 109 "HiddenFactsModel" "nodes" "I", .fieldLink RX4 7 "HiddenFactsModel" "there" "[Z", .fieldLink RX4 44 "HiddenFactsModel" "nodeAction" "[I", .methodLink RX4 96 yX4_within, .static yX4_within, .initialized RX4, .code yX4_within cX4_within 3 (some .boolean), .methodLink RX4 115 yX4_fail, .instanceMethod yX4_fail, .selects RX4 yX4_fail yX4_fail, .code yX4_fail cX4_fail 2 (some .int)] ++ wsX40)
def wsX4_right_r1 : List Cond := [Cond.fieldLink RX4 93 "HiddenFactsModel" "thrown" "I", Cond.fieldLink RX4 109 "HiddenFactsModel" "nodes" "I", Cond.fieldLink RX4 74 "HiddenFactsModel" "walk" "[I", Cond.fieldLink RX4 77 "HiddenFactsModel" "walkBelief" "[I", Cond.fieldLink RX4 44 "HiddenFactsModel" "nodeAction" "[I", Cond.fieldLink RX4 47 "HiddenFactsModel" "nodeFirst" "[I", Cond.fieldLink RX4 50 "HiddenFactsModel" "nodeSecond" "[I", Cond.methodLink RX4 115 yX4_fail, Cond.instanceMethod yX4_fail, Cond.selects RX4 yX4_fail yX4_fail, Cond.initialized RX4, Cond.code yX4_fail cX4_fail 2 (some .int), Cond.methodLink RX4 126 yX4_startBelief, Cond.instanceMethod yX4_startBelief, Cond.selects RX4 yX4_startBelief yX4_startBelief, Cond.code yX4_startBelief cX4_startBelief 5 (some .int), Cond.fieldLink RX4 100 "HiddenFactsModel" "clauses" "I", Cond.fieldLink RX4 38 "HiddenFactsModel" "trues" "[I", Cond.fieldLink RX4 41 "HiddenFactsModel" "falses" "[I", Cond.methodLink RX4 141 yX4_reached, Cond.instanceMethod yX4_reached, Cond.selects RX4 yX4_reached yX4_reached, Cond.code yX4_reached cX4_reached 4 (some .boolean), Cond.fieldLink RX4 103 "HiddenFactsModel" "goalMask" "I"]
def wsX4_right_r2 : List Cond := [Cond.fieldLink RX4 106 "HiddenFactsModel" "goalValue" "I", Cond.methodLink RX4 123 yX4_holds, Cond.static yX4_holds, Cond.code yX4_holds cX4_holds 3 (some .boolean), Cond.methodLink RX4 138 yX4_usable, Cond.instanceMethod yX4_usable, Cond.selects RX4 yX4_usable yX4_usable, Cond.code yX4_usable cX4_usable 5 (some .boolean), Cond.fieldLink RX4 7 "HiddenFactsModel" "there" "[Z", Cond.fieldLink RX4 13 "HiddenFactsModel" "mask" "[I", Cond.fieldLink RX4 17 "HiddenFactsModel" "value" "[I", Cond.methodLink RX4 145 yX4_part, Cond.instanceMethod yX4_part, Cond.selects RX4 yX4_part yX4_part, Cond.code yX4_part cX4_part 7 (some .int), Cond.fieldLink RX4 20 "HiddenFactsModel" "senses" "[I", Cond.methodLink RX4 134 yX4_after, Cond.instanceMethod yX4_after, Cond.selects RX4 yX4_after yX4_after, Cond.code yX4_after cX4_after 5 (some .int), Cond.methodLink RX4 130 yX4_next, Cond.instanceMethod yX4_next, Cond.selects RX4 yX4_next yX4_next, Cond.code yX4_next cX4_next 5 (some .int)]
def wsX4_right_r3 : List Cond := [Cond.fieldLink RX4 23 "HiddenFactsModel" "effects" "[I", Cond.fieldLink RX4 32 "HiddenFactsModel" "masks" "[I", Cond.fieldLink RX4 35 "HiddenFactsModel" "values" "[I", Cond.fieldLink RX4 29 "HiddenFactsModel" "makes" "[Z", Cond.fieldLink RX4 26 "HiddenFactsModel" "facts" "[I"]
def wsX4_right : List Cond := .code yX4_right cX4_right 9 (some .boolean) :: ((wsX4_right_r1 ++ (wsX4_right_r2 ++ wsX4_right_r3)) ++ wsX40)
def wsX4_hide : List Cond := .code yX4_hide cX4_hide 2 (some .boolean) :: ([.fieldLink RX4 93 "HiddenFactsModel" "thrown" "I", .fieldLink RX4 80 "HiddenFactsModel" "hidden" "I", .methodLink RX4 96 yX4_within, .static yX4_within, .initialized RX4, .code yX4_within cX4_within 3 (some .boolean), .methodLink RX4 115 yX4_fail, .instanceMethod yX4_fail, .selects RX4 yX4_fail yX4_fail, .code yX4_fail cX4_fail 2 (some .int), .methodLink RX4 126 yX4_startBelief, .instanceMethod yX4_startBelief, .selects RX4 yX4_startBelief yX4_startBelief, .code yX4_startBelief cX4_startBelief 5 (some .int), .fieldLink RX4 100 "HiddenFactsModel" "clauses" "I", .fieldLink RX4 38 "HiddenFactsModel" "trues" "[I", .fieldLink RX4 41 "HiddenFactsModel" "falses" "[I"] ++ wsX40)
def wsX4_execute_r1 : List Cond := [Cond.fieldLink RX4 93 "HiddenFactsModel" "thrown" "I", Cond.fieldLink RX4 109 "HiddenFactsModel" "nodes" "I", Cond.fieldLink RX4 80 "HiddenFactsModel" "hidden" "I", Cond.fieldLink RX4 112 "HiddenFactsModel" "made" "I", Cond.fieldLink RX4 44 "HiddenFactsModel" "nodeAction" "[I", Cond.fieldLink RX4 7 "HiddenFactsModel" "there" "[Z", Cond.fieldLink RX4 13 "HiddenFactsModel" "mask" "[I", Cond.fieldLink RX4 17 "HiddenFactsModel" "value" "[I", Cond.fieldLink RX4 84 "HiddenFactsModel" "trace" "[I", Cond.fieldLink RX4 20 "HiddenFactsModel" "senses" "[I", Cond.fieldLink RX4 50 "HiddenFactsModel" "nodeSecond" "[I", Cond.fieldLink RX4 47 "HiddenFactsModel" "nodeFirst" "[I", Cond.fieldLink RX4 103 "HiddenFactsModel" "goalMask" "I", Cond.fieldLink RX4 106 "HiddenFactsModel" "goalValue" "I", Cond.methodLink RX4 115 yX4_fail, Cond.instanceMethod yX4_fail, Cond.selects RX4 yX4_fail yX4_fail, Cond.initialized RX4, Cond.code yX4_fail cX4_fail 2 (some .int), Cond.methodLink RX4 123 yX4_holds, Cond.static yX4_holds, Cond.code yX4_holds cX4_holds 3 (some .boolean), Cond.methodLink RX4 130 yX4_next, Cond.instanceMethod yX4_next]
def wsX4_execute_r2 : List Cond := [Cond.selects RX4 yX4_next yX4_next, Cond.code yX4_next cX4_next 5 (some .int), Cond.fieldLink RX4 23 "HiddenFactsModel" "effects" "[I", Cond.fieldLink RX4 32 "HiddenFactsModel" "masks" "[I", Cond.fieldLink RX4 35 "HiddenFactsModel" "values" "[I", Cond.fieldLink RX4 29 "HiddenFactsModel" "makes" "[Z", Cond.fieldLink RX4 26 "HiddenFactsModel" "facts" "[I"]
def wsX4_execute : List Cond := .code yX4_execute cX4_execute 5 (some .boolean) :: ((wsX4_execute_r1 ++ wsX4_execute_r2) ++ wsX40)
def wsX4_made : List Cond := .code yX4_made cX4_made 1 (some .int) :: ([.fieldLink RX4 93 "HiddenFactsModel" "thrown" "I", .fieldLink RX4 112 "HiddenFactsModel" "made" "I"] ++ wsX40)
def wsX4_trace : List Cond := .code yX4_trace cX4_trace 2 (some .int) :: ([.fieldLink RX4 93 "HiddenFactsModel" "thrown" "I", .fieldLink RX4 112 "HiddenFactsModel" "made" "I", .fieldLink RX4 84 "HiddenFactsModel" "trace" "[I", .methodLink RX4 96 yX4_within, .static yX4_within, .initialized RX4, .code yX4_within cX4_within 3 (some .boolean), .methodLink RX4 115 yX4_fail, .instanceMethod yX4_fail, .selects RX4 yX4_fail yX4_fail, .code yX4_fail cX4_fail 2 (some .int)] ++ wsX40)
def wsX4_make : List Cond := .code yX4_make cX4_make 7 none :: ([.fieldLink RX4 87 "HiddenFactsModel" "at" "[I", .fieldLink RX4 20 "HiddenFactsModel" "senses" "[I", .fieldLink RX4 90 "HiddenFactsModel" "apart" "[I", .methodLink RX4 130 yX4_next, .instanceMethod yX4_next, .selects RX4 yX4_next yX4_next, .initialized RX4, .code yX4_next cX4_next 5 (some .int), .fieldLink RX4 23 "HiddenFactsModel" "effects" "[I", .fieldLink RX4 32 "HiddenFactsModel" "masks" "[I", .fieldLink RX4 35 "HiddenFactsModel" "values" "[I", .fieldLink RX4 29 "HiddenFactsModel" "makes" "[Z", .fieldLink RX4 26 "HiddenFactsModel" "facts" "[I", .methodLink RX4 123 yX4_holds, .static yX4_holds, .code yX4_holds cX4_holds 3 (some .boolean)] ++ wsX40)
def wsX4_beliefAt : List Cond := .code yX4_beliefAt cX4_beliefAt 5 (some .int) :: ([.fieldLink RX4 87 "HiddenFactsModel" "at" "[I"] ++ wsX40)
def wsX4_twins_r1 : List Cond := [Cond.fieldLink RX4 93 "HiddenFactsModel" "thrown" "I", Cond.fieldLink RX4 90 "HiddenFactsModel" "apart" "[I", Cond.fieldLink RX4 87 "HiddenFactsModel" "at" "[I", Cond.methodLink RX4 126 yX4_startBelief, Cond.instanceMethod yX4_startBelief, Cond.selects RX4 yX4_startBelief yX4_startBelief, Cond.initialized RX4, Cond.code yX4_startBelief cX4_startBelief 5 (some .int), Cond.fieldLink RX4 100 "HiddenFactsModel" "clauses" "I", Cond.fieldLink RX4 38 "HiddenFactsModel" "trues" "[I", Cond.fieldLink RX4 41 "HiddenFactsModel" "falses" "[I", Cond.methodLink RX4 178 yX4_beliefAt, Cond.instanceMethod yX4_beliefAt, Cond.selects RX4 yX4_beliefAt yX4_beliefAt, Cond.code yX4_beliefAt cX4_beliefAt 5 (some .int), Cond.methodLink RX4 138 yX4_usable, Cond.instanceMethod yX4_usable, Cond.selects RX4 yX4_usable yX4_usable, Cond.code yX4_usable cX4_usable 5 (some .boolean), Cond.fieldLink RX4 7 "HiddenFactsModel" "there" "[Z", Cond.fieldLink RX4 13 "HiddenFactsModel" "mask" "[I", Cond.fieldLink RX4 17 "HiddenFactsModel" "value" "[I", Cond.methodLink RX4 123 yX4_holds, Cond.static yX4_holds]
def wsX4_twins_r2 : List Cond := [Cond.code yX4_holds cX4_holds 3 (some .boolean), Cond.methodLink RX4 181 yX4_make, Cond.instanceMethod yX4_make, Cond.selects RX4 yX4_make yX4_make, Cond.code yX4_make cX4_make 7 none, Cond.fieldLink RX4 20 "HiddenFactsModel" "senses" "[I", Cond.methodLink RX4 130 yX4_next, Cond.instanceMethod yX4_next, Cond.selects RX4 yX4_next yX4_next, Cond.code yX4_next cX4_next 5 (some .int), Cond.fieldLink RX4 23 "HiddenFactsModel" "effects" "[I", Cond.fieldLink RX4 32 "HiddenFactsModel" "masks" "[I", Cond.fieldLink RX4 35 "HiddenFactsModel" "values" "[I", Cond.fieldLink RX4 29 "HiddenFactsModel" "makes" "[Z", Cond.fieldLink RX4 26 "HiddenFactsModel" "facts" "[I", Cond.methodLink RX4 115 yX4_fail, Cond.instanceMethod yX4_fail, Cond.selects RX4 yX4_fail yX4_fail, Cond.code yX4_fail cX4_fail 2 (some .int)]
def wsX4_twins : List Cond := .code yX4_twins cX4_twins 6 (some .int) :: ((wsX4_twins_r1 ++ wsX4_twins_r2) ++ wsX40)
def wsL_action_r1 : List Cond := [Cond.classLink RL 13 "java/lang/IndexOutOfBoundsException", Cond.classLink RL 15 "java/lang/IllegalArgumentException", Cond.methodLink RL 7 yX3_action, Cond.instanceMethod yX3_action, Cond.selects RX3 yX3_action yX3_action, Cond.initialized RX3, Cond.code yX3_action cX3_action 6 (some .boolean), Cond.classLink RX3 49 "java/lang/IllegalArgumentException", Cond.initialized "java/lang/IllegalArgumentException", Cond.fieldLink RX3 11 "HiddenFacts" "actions" "[LHiddenFacts$Action;", Cond.fieldLink RX3 60 "HiddenFacts" "TRUE_IN" "[I", Cond.methodLink RX3 41 yX3_needNumber, Cond.static yX3_needNumber, Cond.code yX3_needNumber cX3_needNumber 1 none, Cond.classLink RX3 144 "java/lang/IndexOutOfBoundsException", Cond.initialized "java/lang/IndexOutOfBoundsException", Cond.methodLink RX3 45 yX3_needBits, Cond.static yX3_needBits, Cond.code yX3_needBits cX3_needBits 2 none, Cond.methodLink RX3 56 yX3_demanded, Cond.static yX3_demanded, Cond.code yX3_demanded cX3_demanded 4 (some .int), Cond.methodLink RX3 63 yX0_begin, Cond.instanceMethod yX0_begin]
def wsL_action_r2 : List Cond := [Cond.selects RX0 yX0_begin yX0_begin, Cond.initialized RX0, Cond.code yX0_begin cX0_begin 4 none, Cond.fieldLink RX0 15 "HiddenFacts$Action" "there" "Z", Cond.fieldLink RX0 19 "HiddenFacts$Action" "condition" "I", Cond.fieldLink RX0 23 "HiddenFacts$Action" "senses" "I", Cond.fieldLink RX0 26 "HiddenFacts$Action" "effects" "I", Cond.fieldLink RX0 9 "HiddenFacts$Action" "next" "[I"]
def wsL_action : List Cond := .codeWith yL_action cL_action 7 (some .int) [(0, 21, 24, 13), (0, 21, 28, 15)] :: ((wsL_action_r1 ++ wsL_action_r2) ++ wsX30 ++ wsX00 ++ (vx_atS RX3 53 "java/lang/IllegalArgumentException" ["java/lang/RuntimeException", "java/lang/Exception"]).filter goodWord ++ (vx_atS RX3 148 "java/lang/IndexOutOfBoundsException" ["java/lang/RuntimeException", "java/lang/Exception"]).filter goodWord)
def wsL_effect_r1 : List Cond := [Cond.classLink RL 13 "java/lang/IndexOutOfBoundsException", Cond.classLink RL 21 "java/util/NoSuchElementException", Cond.classLink RL 15 "java/lang/IllegalArgumentException", Cond.classLink RL 23 "java/lang/IllegalStateException", Cond.methodLink RL 17 yX3_effect, Cond.instanceMethod yX3_effect, Cond.selects RX3 yX3_effect yX3_effect, Cond.initialized RX3, Cond.code yX3_effect cX3_effect 6 (some .int), Cond.classLink RX3 49 "java/lang/IllegalArgumentException", Cond.initialized "java/lang/IllegalArgumentException", Cond.classLink RX3 75 "java/lang/IllegalStateException", Cond.initialized "java/lang/IllegalStateException", Cond.fieldLink RX3 11 "HiddenFacts" "actions" "[LHiddenFacts$Action;", Cond.methodLink RX3 41 yX3_needNumber, Cond.static yX3_needNumber, Cond.code yX3_needNumber cX3_needNumber 1 none, Cond.classLink RX3 144 "java/lang/IndexOutOfBoundsException", Cond.initialized "java/lang/IndexOutOfBoundsException", Cond.methodLink RX3 66 yX3_needThere, Cond.instanceMethod yX3_needThere, Cond.selects RX3 yX3_needThere yX3_needThere, Cond.code yX3_needThere cX3_needThere 2 none, Cond.classLink RX3 194 "java/util/NoSuchElementException"]
def wsL_effect_r2 : List Cond := [Cond.initialized "java/util/NoSuchElementException", Cond.methodLink RX3 45 yX3_needBits, Cond.static yX3_needBits, Cond.code yX3_needBits cX3_needBits 2 none, Cond.methodLink RX3 56 yX3_demanded, Cond.static yX3_demanded, Cond.code yX3_demanded cX3_demanded 4 (some .int), Cond.methodLink RX3 80 yX0_addEffect, Cond.instanceMethod yX0_addEffect, Cond.selects RX0 yX0_addEffect yX0_addEffect, Cond.initialized RX0, Cond.code yX0_addEffect cX0_addEffect 5 none, Cond.fieldLink RX0 9 "HiddenFacts$Action" "next" "[I", Cond.fieldLink RX0 26 "HiddenFacts$Action" "effects" "I", Cond.static yX3_isIn, Cond.code yX3_isIn cX3_isIn 2 (some .boolean)]
def wsL_effect : List Cond := .codeWith yL_effect cL_effect 8 (some .int) [(0, 16, 19, 13), (0, 16, 23, 21), (0, 16, 27, 15), (0, 16, 31, 23)] :: ((wsL_effect_r1 ++ wsL_effect_r2) ++ wsX30 ++ wsX00 ++ (vx_atS RX3 53 "java/lang/IllegalArgumentException" ["java/lang/RuntimeException", "java/lang/Exception"]).filter goodWord ++ (vx_atS RX3 79 "java/lang/IllegalStateException" ["java/lang/RuntimeException", "java/lang/Exception"]).filter goodWord ++ (vx_atS RX3 148 "java/lang/IndexOutOfBoundsException" ["java/lang/RuntimeException", "java/lang/Exception"]).filter goodWord ++ (xn_atS RX3 198 "java/util/NoSuchElementException" ["java/lang/RuntimeException", "java/lang/Exception"]).filter goodWord)
def wsL_clause : List Cond := .codeWith yL_clause cL_clause 5 (some .int) [(0, 10, 13, 15), (0, 10, 17, 23)] :: ([.classLink RL 15 "java/lang/IllegalArgumentException", .classLink RL 23 "java/lang/IllegalStateException", .methodLink RL 25 yX3_clause, .instanceMethod yX3_clause, .selects RX3 yX3_clause yX3_clause, .initialized RX3, .code yX3_clause cX3_clause 3 (some .int), .classLink RX3 75 "java/lang/IllegalStateException", .initialized "java/lang/IllegalStateException", .fieldLink RX3 84 "HiddenFacts" "clauses" "I", .fieldLink RX3 89 "HiddenFacts" "startBelief" "I", .methodLink RX3 45 yX3_needBits, .static yX3_needBits, .code yX3_needBits cX3_needBits 2 none, .classLink RX3 49 "java/lang/IllegalArgumentException", .initialized "java/lang/IllegalArgumentException", .methodLink RX3 92 yX3_allowed, .static yX3_allowed, .code yX3_allowed cX3_allowed 4 (some .int)] ++ wsX30 ++ (vx_atS RX3 79 "java/lang/IllegalStateException" ["java/lang/RuntimeException", "java/lang/Exception"]).filter goodWord ++ (vx_atS RX3 53 "java/lang/IllegalArgumentException" ["java/lang/RuntimeException", "java/lang/Exception"]).filter goodWord)
def wsL_goal : List Cond := .codeWith yL_goal cL_goal 5 (some .int) [(0, 10, 13, 15)] :: ([.classLink RL 15 "java/lang/IllegalArgumentException", .methodLink RL 29 yX3_goal, .instanceMethod yX3_goal, .selects RX3 yX3_goal yX3_goal, .initialized RX3, .code yX3_goal cX3_goal 3 (some .int), .fieldLink RX3 95 "HiddenFacts" "goalStates" "I", .methodLink RX3 45 yX3_needBits, .static yX3_needBits, .code yX3_needBits cX3_needBits 2 none, .classLink RX3 49 "java/lang/IllegalArgumentException", .initialized "java/lang/IllegalArgumentException", .methodLink RX3 56 yX3_demanded, .static yX3_demanded, .code yX3_demanded cX3_demanded 4 (some .int), .methodLink RX3 98 yJ6_bitCount_0f7a4, .static yJ6_bitCount_0f7a4, .initialized RJ6, .code yJ6_bitCount_0f7a4 cJ6_bitCount_0f7a4 1 (some .int), .constant RJ6 265 (1431655765), .constant RJ6 266 (858993459), .constant RJ6 267 (252645135)] ++ wsX30 ++ (vx_atS RX3 53 "java/lang/IllegalArgumentException" ["java/lang/RuntimeException", "java/lang/Exception"]).filter goodWord)
def wsL_behind_r1 : List Cond := [Cond.classLink RL 13 "java/lang/IndexOutOfBoundsException", Cond.classLink RL 21 "java/util/NoSuchElementException", Cond.classLink RL 15 "java/lang/IllegalArgumentException", Cond.classLink RL 35 "java/lang/UnsupportedOperationException", Cond.methodLink RL 32 yX3_behind, Cond.instanceMethod yX3_behind, Cond.selects RX3 yX3_behind yX3_behind, Cond.initialized RX3, Cond.code yX3_behind cX3_behind 3 (some .int), Cond.classLink RX3 49 "java/lang/IllegalArgumentException", Cond.initialized "java/lang/IllegalArgumentException", Cond.classLink RX3 111 "java/lang/UnsupportedOperationException", Cond.initialized "java/lang/UnsupportedOperationException", Cond.constant RX3 104 (65535), Cond.fieldLink RX3 11 "HiddenFacts" "actions" "[LHiddenFacts$Action;", Cond.methodLink RX3 41 yX3_needNumber, Cond.static yX3_needNumber, Cond.code yX3_needNumber cX3_needNumber 1 none, Cond.classLink RX3 144 "java/lang/IndexOutOfBoundsException", Cond.initialized "java/lang/IndexOutOfBoundsException", Cond.methodLink RX3 66 yX3_needThere, Cond.instanceMethod yX3_needThere, Cond.selects RX3 yX3_needThere yX3_needThere, Cond.code yX3_needThere cX3_needThere 2 none]
def wsL_behind_r2 : List Cond := [Cond.classLink RX3 194 "java/util/NoSuchElementException", Cond.initialized "java/util/NoSuchElementException", Cond.methodLink RX3 107 yX0_usable, Cond.instanceMethod yX0_usable, Cond.selects RX0 yX0_usable yX0_usable, Cond.initialized RX0, Cond.code yX0_usable cX0_usable 2 (some .boolean), Cond.fieldLink RX0 15 "HiddenFacts$Action" "there" "Z", Cond.fieldLink RX0 19 "HiddenFacts$Action" "condition" "I", Cond.methodLink RX3 116 yX0_after, Cond.instanceMethod yX0_after, Cond.selects RX0 yX0_after yX0_after, Cond.code yX0_after cX0_after 4 (some .int), Cond.fieldLink RX0 9 "HiddenFacts$Action" "next" "[I", Cond.static yX3_isIn, Cond.code yX3_isIn cX3_isIn 2 (some .boolean)]
def wsL_behind : List Cond := .codeWith yL_behind cL_behind 5 (some .int) [(0, 10, 13, 13), (0, 10, 17, 21), (0, 10, 21, 15), (0, 10, 25, 35)] :: ((wsL_behind_r1 ++ wsL_behind_r2) ++ wsX30 ++ wsX00 ++ (vx_atS RX3 53 "java/lang/IllegalArgumentException" ["java/lang/RuntimeException", "java/lang/Exception"]).filter goodWord ++ (vx_atS RX3 115 "java/lang/UnsupportedOperationException" ["java/lang/RuntimeException", "java/lang/Exception"]).filter goodWord ++ (vx_atS RX3 148 "java/lang/IndexOutOfBoundsException" ["java/lang/RuntimeException", "java/lang/Exception"]).filter goodWord ++ (xn_atS RX3 198 "java/util/NoSuchElementException" ["java/lang/RuntimeException", "java/lang/Exception"]).filter goodWord)
def wsL_least_r1 : List Cond := [Cond.classLink RL 15 "java/lang/IllegalArgumentException", Cond.classLink RL 21 "java/util/NoSuchElementException", Cond.methodLink RL 37 yX3_least, Cond.instanceMethod yX3_least, Cond.selects RX3 yX3_least yX3_least, Cond.initialized RX3, Cond.code yX3_least cX3_least 3 (some .int), Cond.classLink RX3 49 "java/lang/IllegalArgumentException", Cond.initialized "java/lang/IllegalArgumentException", Cond.constant RX3 104 (65535), Cond.methodLink RX3 121 yX3_needDepth, Cond.static yX3_needDepth, Cond.code yX3_needDepth cX3_needDepth 1 none, Cond.methodLink RX3 124 yX3_fewest, Cond.instanceMethod yX3_fewest, Cond.selects RX3 yX3_fewest yX3_fewest, Cond.code yX3_fewest cX3_fewest 4 (some .int), Cond.methodLink RX3 213 yX3_solved, Cond.instanceMethod yX3_solved, Cond.selects RX3 yX3_solved yX3_solved, Cond.code yX3_solved cX3_solved 3 (some .boolean), Cond.methodLink RX3 216 yX3_reached, Cond.instanceMethod yX3_reached, Cond.selects RX3 yX3_reached yX3_reached]
def wsL_least_r2 : List Cond := [Cond.code yX3_reached cX3_reached 2 (some .boolean), Cond.fieldLink RX3 95 "HiddenFacts" "goalStates" "I", Cond.methodLink RX3 219 yX3_leastAction, Cond.instanceMethod yX3_leastAction, Cond.selects RX3 yX3_leastAction yX3_leastAction, Cond.code yX3_leastAction cX3_leastAction 4 (some .int), Cond.fieldLink RX3 11 "HiddenFacts" "actions" "[LHiddenFacts$Action;", Cond.methodLink RX3 107 yX0_usable, Cond.instanceMethod yX0_usable, Cond.selects RX0 yX0_usable yX0_usable, Cond.initialized RX0, Cond.code yX0_usable cX0_usable 2 (some .boolean), Cond.fieldLink RX0 15 "HiddenFacts$Action" "there" "Z", Cond.fieldLink RX0 19 "HiddenFacts$Action" "condition" "I", Cond.methodLink RX3 222 yX3_solves, Cond.instanceMethod yX3_solves, Cond.selects RX3 yX3_solves yX3_solves, Cond.code yX3_solves cX3_solves 5 (some .boolean), Cond.methodLink RX3 116 yX0_after, Cond.instanceMethod yX0_after, Cond.selects RX0 yX0_after yX0_after, Cond.code yX0_after cX0_after 4 (some .int), Cond.fieldLink RX0 9 "HiddenFacts$Action" "next" "[I", Cond.static yX3_isIn]
def wsL_least_r3 : List Cond := [Cond.code yX3_isIn cX3_isIn 2 (some .boolean), Cond.methodLink RX3 226 yX0_part, Cond.instanceMethod yX0_part, Cond.selects RX0 yX0_part yX0_part, Cond.code yX0_part cX0_part 3 (some .int), Cond.fieldLink RX0 23 "HiddenFacts$Action" "senses" "I", Cond.methodLink RX3 127 yX3_needSolved, Cond.static yX3_needSolved, Cond.code yX3_needSolved cX3_needSolved 1 (some .int), Cond.classLink RX3 194 "java/util/NoSuchElementException", Cond.initialized "java/util/NoSuchElementException"]
def wsL_least : List Cond := .codeWith yL_least cL_least 5 (some .int) [(0, 10, 13, 15), (0, 10, 17, 21)] :: ((wsL_least_r1 ++ (wsL_least_r2 ++ wsL_least_r3)) ++ wsX30 ++ wsX00 ++ (vx_atS RX3 53 "java/lang/IllegalArgumentException" ["java/lang/RuntimeException", "java/lang/Exception"]).filter goodWord ++ (xn_atS RX3 198 "java/util/NoSuchElementException" ["java/lang/RuntimeException", "java/lang/Exception"]).filter goodWord)
def wsL_plan_r1 : List Cond := [Cond.classLink RL 15 "java/lang/IllegalArgumentException", Cond.classLink RL 23 "java/lang/IllegalStateException", Cond.classLink RL 21 "java/util/NoSuchElementException", Cond.methodLink RL 40 yX3_plan, Cond.instanceMethod yX3_plan, Cond.selects RX3 yX3_plan yX3_plan, Cond.initialized RX3, Cond.code yX3_plan cX3_plan 3 (some .int), Cond.classLink RX3 75 "java/lang/IllegalStateException", Cond.initialized "java/lang/IllegalStateException", Cond.fieldLink RX3 89 "HiddenFacts" "startBelief" "I", Cond.fieldLink RX3 18 "HiddenFacts" "tree" "LHiddenFacts$Tree;", Cond.methodLink RX3 121 yX3_needDepth, Cond.static yX3_needDepth, Cond.code yX3_needDepth cX3_needDepth 1 none, Cond.classLink RX3 49 "java/lang/IllegalArgumentException", Cond.initialized "java/lang/IllegalArgumentException", Cond.methodLink RX3 124 yX3_fewest, Cond.instanceMethod yX3_fewest, Cond.selects RX3 yX3_fewest yX3_fewest, Cond.code yX3_fewest cX3_fewest 4 (some .int), Cond.methodLink RX3 213 yX3_solved, Cond.instanceMethod yX3_solved, Cond.selects RX3 yX3_solved yX3_solved]
def wsL_plan_r2 : List Cond := [Cond.code yX3_solved cX3_solved 3 (some .boolean), Cond.methodLink RX3 216 yX3_reached, Cond.instanceMethod yX3_reached, Cond.selects RX3 yX3_reached yX3_reached, Cond.code yX3_reached cX3_reached 2 (some .boolean), Cond.fieldLink RX3 95 "HiddenFacts" "goalStates" "I", Cond.methodLink RX3 219 yX3_leastAction, Cond.instanceMethod yX3_leastAction, Cond.selects RX3 yX3_leastAction yX3_leastAction, Cond.code yX3_leastAction cX3_leastAction 4 (some .int), Cond.fieldLink RX3 11 "HiddenFacts" "actions" "[LHiddenFacts$Action;", Cond.methodLink RX3 107 yX0_usable, Cond.instanceMethod yX0_usable, Cond.selects RX0 yX0_usable yX0_usable, Cond.initialized RX0, Cond.code yX0_usable cX0_usable 2 (some .boolean), Cond.fieldLink RX0 15 "HiddenFacts$Action" "there" "Z", Cond.fieldLink RX0 19 "HiddenFacts$Action" "condition" "I", Cond.methodLink RX3 222 yX3_solves, Cond.instanceMethod yX3_solves, Cond.selects RX3 yX3_solves yX3_solves, Cond.code yX3_solves cX3_solves 5 (some .boolean), Cond.methodLink RX3 116 yX0_after, Cond.instanceMethod yX0_after]
def wsL_plan_r3 : List Cond := [Cond.selects RX0 yX0_after yX0_after, Cond.code yX0_after cX0_after 4 (some .int), Cond.fieldLink RX0 9 "HiddenFacts$Action" "next" "[I", Cond.static yX3_isIn, Cond.code yX3_isIn cX3_isIn 2 (some .boolean), Cond.methodLink RX3 226 yX0_part, Cond.instanceMethod yX0_part, Cond.selects RX0 yX0_part yX0_part, Cond.code yX0_part cX0_part 3 (some .int), Cond.fieldLink RX0 23 "HiddenFacts$Action" "senses" "I", Cond.methodLink RX3 127 yX3_needSolved, Cond.static yX3_needSolved, Cond.code yX3_needSolved cX3_needSolved 1 (some .int), Cond.classLink RX3 194 "java/util/NoSuchElementException", Cond.initialized "java/util/NoSuchElementException", Cond.methodLink RX3 132 yX2_empty, Cond.instanceMethod yX2_empty, Cond.selects RX2 yX2_empty yX2_empty, Cond.initialized RX2, Cond.code yX2_empty cX2_empty 1 none, Cond.fieldLink RX2 13 "HiddenFacts$Tree" "count" "I", Cond.methodLink RX3 135 yX3_grow, Cond.instanceMethod yX3_grow, Cond.selects RX3 yX3_grow yX3_grow]
def wsL_plan_r4 : List Cond := [Cond.code yX3_grow cX3_grow 8 (some .int), Cond.methodLink RX3 229 yX2_open, Cond.instanceMethod yX2_open, Cond.selects RX2 yX2_open yX2_open, Cond.code yX2_open cX2_open 1 (some .int), Cond.methodLink RX2 17 yX2_setAction, Cond.instanceMethod yX2_setAction, Cond.selects RX2 yX2_setAction yX2_setAction, Cond.code yX2_setAction cX2_setAction 3 none, Cond.fieldLink RX2 9 "HiddenFacts$Tree" "cells" "[I", Cond.methodLink RX3 231 yX2_close, Cond.instanceMethod yX2_close, Cond.selects RX2 yX2_close yX2_close, Cond.code yX2_close cX2_close 6 (some .int), Cond.methodLink RX2 21 yX2_cell, Cond.instanceMethod yX2_cell, Cond.selects RX2 yX2_cell yX2_cell, Cond.code yX2_cell cX2_cell 3 (some .int), Cond.methodLink RX3 235 yX3_growPart, Cond.instanceMethod yX3_growPart, Cond.selects RX3 yX3_growPart yX3_growPart, Cond.code yX3_growPart cX3_growPart 3 (some .int)]
def wsL_plan : List Cond := .codeWith yL_plan cL_plan 4 (some .int) [(0, 9, 12, 15), (0, 9, 15, 23), (0, 9, 18, 21)] :: ((wsL_plan_r1 ++ (wsL_plan_r2 ++ (wsL_plan_r3 ++ wsL_plan_r4))) ++ wsX30 ++ wsX00 ++ wsX20 ++ (vx_atS RX3 79 "java/lang/IllegalStateException" ["java/lang/RuntimeException", "java/lang/Exception"]).filter goodWord ++ (vx_atS RX3 53 "java/lang/IllegalArgumentException" ["java/lang/RuntimeException", "java/lang/Exception"]).filter goodWord ++ (xn_atS RX3 198 "java/util/NoSuchElementException" ["java/lang/RuntimeException", "java/lang/Exception"]).filter goodWord)
def wsL_node : List Cond := .codeWith yL_node cL_node 5 (some .int) [(0, 10, 13, 13)] :: ([.classLink RL 13 "java/lang/IndexOutOfBoundsException", .methodLink RL 44 yX3_node, .instanceMethod yX3_node, .selects RX3 yX3_node yX3_node, .initialized RX3, .code yX3_node cX3_node 3 (some .int), .classLink RX3 144 "java/lang/IndexOutOfBoundsException", .initialized "java/lang/IndexOutOfBoundsException", .fieldLink RX3 18 "HiddenFacts" "tree" "LHiddenFacts$Tree;", .methodLink RX3 141 yX3_needNode, .instanceMethod yX3_needNode, .selects RX3 yX3_needNode yX3_needNode, .code yX3_needNode cX3_needNode 2 none, .methodLink RX3 149 yX2_cell, .instanceMethod yX2_cell, .selects RX2 yX2_cell yX2_cell, .initialized RX2, .code yX2_cell cX2_cell 3 (some .int), .fieldLink RX2 9 "HiddenFacts$Tree" "cells" "[I"] ++ wsX30 ++ wsX20 ++ (vx_atS RX3 148 "java/lang/IndexOutOfBoundsException" ["java/lang/RuntimeException", "java/lang/Exception"]).filter goodWord)
def wsL_edit_r1 : List Cond := [Cond.classLink RL 13 "java/lang/IndexOutOfBoundsException", Cond.classLink RL 21 "java/util/NoSuchElementException", Cond.classLink RL 35 "java/lang/UnsupportedOperationException", Cond.methodLink RL 47 yX3_edit, Cond.instanceMethod yX3_edit, Cond.selects RX3 yX3_edit yX3_edit, Cond.initialized RX3, Cond.code yX3_edit cX3_edit 4 (some .int), Cond.classLink RX3 111 "java/lang/UnsupportedOperationException", Cond.initialized "java/lang/UnsupportedOperationException", Cond.fieldLink RX3 18 "HiddenFacts" "tree" "LHiddenFacts$Tree;", Cond.methodLink RX3 141 yX3_needNode, Cond.instanceMethod yX3_needNode, Cond.selects RX3 yX3_needNode yX3_needNode, Cond.code yX3_needNode cX3_needNode 2 none, Cond.classLink RX3 144 "java/lang/IndexOutOfBoundsException", Cond.initialized "java/lang/IndexOutOfBoundsException", Cond.methodLink RX3 41 yX3_needNumber, Cond.static yX3_needNumber, Cond.code yX3_needNumber cX3_needNumber 1 none, Cond.methodLink RX3 66 yX3_needThere, Cond.instanceMethod yX3_needThere, Cond.selects RX3 yX3_needThere yX3_needThere, Cond.code yX3_needThere cX3_needThere 2 none]
def wsL_edit_r2 : List Cond := [Cond.classLink RX3 194 "java/util/NoSuchElementException", Cond.initialized "java/util/NoSuchElementException", Cond.fieldLink RX3 11 "HiddenFacts" "actions" "[LHiddenFacts$Action;", Cond.methodLink RX3 149 yX2_cell, Cond.instanceMethod yX2_cell, Cond.selects RX2 yX2_cell yX2_cell, Cond.initialized RX2, Cond.code yX2_cell cX2_cell 3 (some .int), Cond.fieldLink RX2 9 "HiddenFacts$Tree" "cells" "[I", Cond.methodLink RX3 154 yX2_setAction, Cond.instanceMethod yX2_setAction, Cond.selects RX2 yX2_setAction yX2_setAction, Cond.code yX2_setAction cX2_setAction 3 none]
def wsL_edit : List Cond := .codeWith yL_edit cL_edit 5 (some .int) [(0, 10, 13, 13), (0, 10, 17, 21), (0, 10, 21, 35)] :: ((wsL_edit_r1 ++ wsL_edit_r2) ++ wsX30 ++ wsX20 ++ wsX00 ++ (vx_atS RX3 115 "java/lang/UnsupportedOperationException" ["java/lang/RuntimeException", "java/lang/Exception"]).filter goodWord ++ (vx_atS RX3 148 "java/lang/IndexOutOfBoundsException" ["java/lang/RuntimeException", "java/lang/Exception"]).filter goodWord ++ (xn_atS RX3 198 "java/util/NoSuchElementException" ["java/lang/RuntimeException", "java/lang/Exception"]).filter goodWord)
def wsL_right_r1 : List Cond := [Cond.classLink RL 23 "java/lang/IllegalStateException", Cond.methodLink RL 50 yX3_right, Cond.instanceMethod yX3_right, Cond.selects RX3 yX3_right yX3_right, Cond.initialized RX3, Cond.code yX3_right cX3_right 1 (some .boolean), Cond.fieldLink RX3 89 "HiddenFacts" "startBelief" "I", Cond.methodLink RX3 157 yX3_needPlan, Cond.instanceMethod yX3_needPlan, Cond.selects RX3 yX3_needPlan yX3_needPlan, Cond.code yX3_needPlan cX3_needPlan 1 none, Cond.classLink RX3 75 "java/lang/IllegalStateException", Cond.initialized "java/lang/IllegalStateException", Cond.fieldLink RX3 18 "HiddenFacts" "tree" "LHiddenFacts$Tree;", Cond.methodLink RX3 160 yX3_fits, Cond.instanceMethod yX3_fits, Cond.selects RX3 yX3_fits yX3_fits, Cond.code yX3_fits cX3_fits 6 (some .boolean), Cond.fieldLink RX3 11 "HiddenFacts" "actions" "[LHiddenFacts$Action;", Cond.methodLink RX3 149 yX2_cell, Cond.instanceMethod yX2_cell, Cond.selects RX2 yX2_cell yX2_cell, Cond.initialized RX2, Cond.code yX2_cell cX2_cell 3 (some .int)]
def wsL_right_r2 : List Cond := [Cond.fieldLink RX2 9 "HiddenFacts$Tree" "cells" "[I", Cond.methodLink RX3 216 yX3_reached, Cond.instanceMethod yX3_reached, Cond.selects RX3 yX3_reached yX3_reached, Cond.code yX3_reached cX3_reached 2 (some .boolean), Cond.fieldLink RX3 95 "HiddenFacts" "goalStates" "I", Cond.methodLink RX3 107 yX0_usable, Cond.instanceMethod yX0_usable, Cond.selects RX0 yX0_usable yX0_usable, Cond.initialized RX0, Cond.code yX0_usable cX0_usable 2 (some .boolean), Cond.fieldLink RX0 15 "HiddenFacts$Action" "there" "Z", Cond.fieldLink RX0 19 "HiddenFacts$Action" "condition" "I", Cond.methodLink RX3 116 yX0_after, Cond.instanceMethod yX0_after, Cond.selects RX0 yX0_after yX0_after, Cond.code yX0_after cX0_after 4 (some .int), Cond.fieldLink RX0 9 "HiddenFacts$Action" "next" "[I", Cond.static yX3_isIn, Cond.code yX3_isIn cX3_isIn 2 (some .boolean), Cond.methodLink RX3 226 yX0_part, Cond.instanceMethod yX0_part, Cond.selects RX0 yX0_part yX0_part, Cond.code yX0_part cX0_part 3 (some .int)]
def wsL_right_r3 : List Cond := [Cond.fieldLink RX0 23 "HiddenFacts$Action" "senses" "I"]
def wsL_right : List Cond := .codeWith yL_right cL_right 3 (some .int) [(0, 15, 18, 23)] :: ((wsL_right_r1 ++ (wsL_right_r2 ++ wsL_right_r3)) ++ wsX30 ++ wsX20 ++ wsX00 ++ (vx_atS RX3 79 "java/lang/IllegalStateException" ["java/lang/RuntimeException", "java/lang/Exception"]).filter goodWord)
def wsL_hide : List Cond := .codeWith yL_hide cL_hide 4 (some .int) [(0, 16, 19, 15)] :: ([.classLink RL 15 "java/lang/IllegalArgumentException", .methodLink RL 54 yX3_hide, .instanceMethod yX3_hide, .selects RX3 yX3_hide yX3_hide, .initialized RX3, .code yX3_hide cX3_hide 2 (some .boolean), .classLink RX3 49 "java/lang/IllegalArgumentException", .initialized "java/lang/IllegalArgumentException", .fieldLink RX3 166 "HiddenFacts" "hidden" "I", .fieldLink RX3 89 "HiddenFacts" "startBelief" "I", .methodLink RX3 169 yX3_isIn, .static yX3_isIn, .code yX3_isIn cX3_isIn 2 (some .boolean)] ++ wsX30 ++ (vx_atS RX3 53 "java/lang/IllegalArgumentException" ["java/lang/RuntimeException", "java/lang/Exception"]).filter goodWord)
def wsL_execute_r1 : List Cond := [Cond.classLink RL 23 "java/lang/IllegalStateException", Cond.methodLink RL 58 yX3_execute, Cond.instanceMethod yX3_execute, Cond.selects RX3 yX3_execute yX3_execute, Cond.initialized RX3, Cond.code yX3_execute cX3_execute 1 (some .boolean), Cond.classLink RX3 75 "java/lang/IllegalStateException", Cond.initialized "java/lang/IllegalStateException", Cond.fieldLink RX3 166 "HiddenFacts" "hidden" "I", Cond.methodLink RX3 157 yX3_needPlan, Cond.instanceMethod yX3_needPlan, Cond.selects RX3 yX3_needPlan yX3_needPlan, Cond.code yX3_needPlan cX3_needPlan 1 none, Cond.fieldLink RX3 18 "HiddenFacts" "tree" "LHiddenFacts$Tree;", Cond.methodLink RX3 175 yX3_carryOut, Cond.instanceMethod yX3_carryOut, Cond.selects RX3 yX3_carryOut yX3_carryOut, Cond.code yX3_carryOut cX3_carryOut 4 (some .boolean), Cond.fieldLink RX3 179 "HiddenFacts" "made" "I", Cond.fieldLink RX3 11 "HiddenFacts" "actions" "[LHiddenFacts$Action;", Cond.fieldLink RX3 29 "HiddenFacts" "trace" "[I", Cond.fieldLink RX3 95 "HiddenFacts" "goalStates" "I", Cond.methodLink RX3 149 yX2_cell, Cond.instanceMethod yX2_cell]
def wsL_execute_r2 : List Cond := [Cond.selects RX2 yX2_cell yX2_cell, Cond.initialized RX2, Cond.code yX2_cell cX2_cell 3 (some .int), Cond.fieldLink RX2 9 "HiddenFacts$Tree" "cells" "[I", Cond.methodLink RX3 107 yX0_usable, Cond.instanceMethod yX0_usable, Cond.selects RX0 yX0_usable yX0_usable, Cond.initialized RX0, Cond.code yX0_usable cX0_usable 2 (some .boolean), Cond.fieldLink RX0 15 "HiddenFacts$Action" "there" "Z", Cond.fieldLink RX0 19 "HiddenFacts$Action" "condition" "I", Cond.methodLink RX3 241 yX0_sensed, Cond.instanceMethod yX0_sensed, Cond.selects RX0 yX0_sensed yX0_sensed, Cond.code yX0_sensed cX0_sensed 2 (some .int), Cond.fieldLink RX0 23 "HiddenFacts$Action" "senses" "I", Cond.static yX3_isIn, Cond.code yX3_isIn cX3_isIn 2 (some .boolean), Cond.methodLink RX3 169 yX3_isIn]
def wsL_execute : List Cond := .codeWith yL_execute cL_execute 3 (some .int) [(0, 15, 18, 23)] :: ((wsL_execute_r1 ++ wsL_execute_r2) ++ wsX30 ++ wsX20 ++ wsX00 ++ (vx_atS RX3 79 "java/lang/IllegalStateException" ["java/lang/RuntimeException", "java/lang/Exception"]).filter goodWord)
def wsL_trace : List Cond := .codeWith yL_trace cL_trace 4 (some .int) [(0, 9, 12, 13)] :: ([.classLink RL 13 "java/lang/IndexOutOfBoundsException", .methodLink RL 61 yX3_trace, .instanceMethod yX3_trace, .selects RX3 yX3_trace yX3_trace, .initialized RX3, .code yX3_trace cX3_trace 2 (some .int), .classLink RX3 144 "java/lang/IndexOutOfBoundsException", .initialized "java/lang/IndexOutOfBoundsException", .fieldLink RX3 179 "HiddenFacts" "made" "I", .fieldLink RX3 29 "HiddenFacts" "trace" "[I"] ++ wsX30 ++ (vx_atS RX3 148 "java/lang/IndexOutOfBoundsException" ["java/lang/RuntimeException", "java/lang/Exception"]).filter goodWord)
def wsL_twins_r1 : List Cond := [Cond.classLink RL 21 "java/util/NoSuchElementException", Cond.methodLink RL 64 yX3_twins, Cond.instanceMethod yX3_twins, Cond.selects RX3 yX3_twins yX3_twins, Cond.initialized RX3, Cond.code yX3_twins cX3_twins 2 (some .int), Cond.classLink RX3 194 "java/util/NoSuchElementException", Cond.initialized "java/util/NoSuchElementException", Cond.fieldLink RX3 25 "HiddenFacts" "sight" "LHiddenFacts$Sight;", Cond.fieldLink RX3 89 "HiddenFacts" "startBelief" "I", Cond.methodLink RX3 184 yX1_open, Cond.instanceMethod yX1_open, Cond.selects RX1 yX1_open yX1_open, Cond.initialized RX1, Cond.code yX1_open cX1_open 3 none, Cond.fieldLink RX1 18 "HiddenFacts$Sight" "belief" "I", Cond.fieldLink RX1 9 "HiddenFacts$Sight" "come" "[I", Cond.fieldLink RX1 15 "HiddenFacts$Sight" "apart" "[I", Cond.methodLink RX3 187 yX3_look, Cond.instanceMethod yX3_look, Cond.selects RX3 yX3_look yX3_look, Cond.code yX3_look cX3_look 4 none, Cond.fieldLink RX3 11 "HiddenFacts" "actions" "[LHiddenFacts$Action;", Cond.methodLink RX3 107 yX0_usable]
def wsL_twins_r2 : List Cond := [Cond.instanceMethod yX0_usable, Cond.selects RX0 yX0_usable yX0_usable, Cond.initialized RX0, Cond.code yX0_usable cX0_usable 2 (some .boolean), Cond.fieldLink RX0 15 "HiddenFacts$Action" "there" "Z", Cond.fieldLink RX0 19 "HiddenFacts$Action" "condition" "I", Cond.methodLink RX3 244 yX1_step, Cond.instanceMethod yX1_step, Cond.selects RX1 yX1_step yX1_step, Cond.code yX1_step cX1_step 7 none, Cond.methodLink RX1 27 yX0_sensed, Cond.instanceMethod yX0_sensed, Cond.selects RX0 yX0_sensed yX0_sensed, Cond.code yX0_sensed cX0_sensed 2 (some .int), Cond.fieldLink RX0 23 "HiddenFacts$Action" "senses" "I", Cond.static yX3_isIn, Cond.code yX3_isIn cX3_isIn 2 (some .boolean), Cond.methodLink RX3 116 yX0_after, Cond.instanceMethod yX0_after, Cond.selects RX0 yX0_after yX0_after, Cond.code yX0_after cX0_after 4 (some .int), Cond.fieldLink RX0 9 "HiddenFacts$Action" "next" "[I", Cond.methodLink RX3 190 yX1_firstAlike, Cond.instanceMethod yX1_firstAlike]
def wsL_twins_r3 : List Cond := [Cond.selects RX1 yX1_firstAlike yX1_firstAlike, Cond.code yX1_firstAlike cX1_firstAlike 3 (some .int)]
def wsL_twins : List Cond := .codeWith yL_twins cL_twins 3 (some .int) [(0, 8, 11, 21)] :: ((wsL_twins_r1 ++ (wsL_twins_r2 ++ wsL_twins_r3)) ++ wsX30 ++ wsX10 ++ wsX00 ++ (xn_atS RX3 198 "java/util/NoSuchElementException" ["java/lang/RuntimeException", "java/lang/Exception"]).filter goodWord)
def wsL_law0_r1 : List Cond := [Cond.classLink RL 8 RX3, Cond.instantiable RX3 9, Cond.initialized RX3, Cond.classLink RL 69 RX4, Cond.instantiable RX4 33, Cond.initialized RX4, Cond.arrayClass .long, Cond.methodLink RL 68 yX3_init, Cond.instanceMethod yX3_init, Cond.code yX3_init cX3_init 2 none, Cond.methodLink RX3 1 objectInit, Cond.instanceMethod objectInit, Cond.code objectInit ⟨#[0xb1]⟩ 1 none, Cond.classLink RX3 9 RX0, Cond.fieldLink RX3 11 "HiddenFacts" "actions" "[LHiddenFacts$Action;", Cond.classLink RX3 15 RX2, Cond.instantiable RX2 2, Cond.initialized RX2, Cond.fieldLink RX3 18 "HiddenFacts" "tree" "LHiddenFacts$Tree;", Cond.classLink RX3 22 RX1, Cond.instantiable RX1 3, Cond.initialized RX1, Cond.fieldLink RX3 25 "HiddenFacts" "sight" "LHiddenFacts$Sight;", Cond.arrayClass .int]
def wsL_law0_r2 : List Cond := [Cond.fieldLink RX3 29 "HiddenFacts" "trace" "[I", Cond.instantiable RX0 5, Cond.initialized RX0, Cond.instanceMethod yX2_init, Cond.code yX2_init cX2_init 1 none, Cond.methodLink RX2 1 objectInit, Cond.fieldLink RX2 9 "HiddenFacts$Tree" "cells" "[I", Cond.instanceMethod yX1_init, Cond.code yX1_init cX1_init 1 none, Cond.methodLink RX1 3 objectInit, Cond.fieldLink RX1 9 "HiddenFacts$Sight" "come" "[I", Cond.fieldLink RX1 15 "HiddenFacts$Sight" "apart" "[I", Cond.instanceMethod yX0_init, Cond.code yX0_init cX0_init 1 none, Cond.methodLink RX0 3 objectInit, Cond.fieldLink RX0 9 "HiddenFacts$Action" "next" "[I", Cond.methodLink RX3 34 yX3_forgetAll, Cond.instanceMethod yX3_forgetAll, Cond.selects RX3 yX3_forgetAll yX3_forgetAll, Cond.code yX3_forgetAll cX3_forgetAll 2 none, Cond.fieldLink RX3 84 "HiddenFacts" "clauses" "I", Cond.constant RX3 104 (65535), Cond.fieldLink RX3 89 "HiddenFacts" "startBelief" "I", Cond.fieldLink RX3 95 "HiddenFacts" "goalStates" "I"]
def wsL_law0_r3 : List Cond := [Cond.fieldLink RX3 166 "HiddenFacts" "hidden" "I", Cond.fieldLink RX3 179 "HiddenFacts" "made" "I", Cond.methodLink RX3 132 yX2_empty, Cond.instanceMethod yX2_empty, Cond.selects RX2 yX2_empty yX2_empty, Cond.code yX2_empty cX2_empty 1 none, Cond.fieldLink RX2 13 "HiddenFacts$Tree" "count" "I", Cond.methodLink RL 71 yX4_init, Cond.instanceMethod yX4_init, Cond.code yX4_init cX4_init 1 none, Cond.methodLink RX4 1 objectInit, Cond.arrayClass .boolean, Cond.fieldLink RX4 7 "HiddenFactsModel" "there" "[Z", Cond.fieldLink RX4 13 "HiddenFactsModel" "mask" "[I", Cond.fieldLink RX4 17 "HiddenFactsModel" "value" "[I", Cond.fieldLink RX4 20 "HiddenFactsModel" "senses" "[I", Cond.fieldLink RX4 23 "HiddenFactsModel" "effects" "[I", Cond.fieldLink RX4 26 "HiddenFactsModel" "facts" "[I", Cond.fieldLink RX4 29 "HiddenFactsModel" "makes" "[Z", Cond.fieldLink RX4 32 "HiddenFactsModel" "masks" "[I", Cond.fieldLink RX4 35 "HiddenFactsModel" "values" "[I", Cond.fieldLink RX4 38 "HiddenFactsModel" "trues" "[I", Cond.fieldLink RX4 41 "HiddenFactsModel" "falses" "[I", Cond.fieldLink RX4 44 "HiddenFactsModel" "nodeAction" "[I"]
def wsL_law0_r4 : List Cond := [Cond.fieldLink RX4 47 "HiddenFactsModel" "nodeFirst" "[I", Cond.fieldLink RX4 50 "HiddenFactsModel" "nodeSecond" "[I", Cond.fieldLink RX4 53 "HiddenFactsModel" "asked" "[I", Cond.fieldLink RX4 56 "HiddenFactsModel" "tried" "[I", Cond.fieldLink RX4 59 "HiddenFactsModel" "side" "[I", Cond.fieldLink RX4 62 "HiddenFactsModel" "belief" "[I", Cond.fieldLink RX4 65 "HiddenFactsModel" "does" "[I", Cond.fieldLink RX4 68 "HiddenFactsModel" "same" "[I", Cond.fieldLink RX4 71 "HiddenFactsModel" "numbered" "[I", Cond.fieldLink RX4 74 "HiddenFactsModel" "walk" "[I", Cond.fieldLink RX4 77 "HiddenFactsModel" "walkBelief" "[I", Cond.fieldLink RX4 80 "HiddenFactsModel" "hidden" "I", Cond.fieldLink RX4 84 "HiddenFactsModel" "trace" "[I", Cond.fieldLink RX4 87 "HiddenFactsModel" "at" "[I", Cond.fieldLink RX4 90 "HiddenFactsModel" "apart" "[I", Cond.methodLink RL 72 yX3_clear, Cond.instanceMethod yX3_clear, Cond.selects RX3 yX3_clear yX3_clear, Cond.code yX3_clear cX3_clear 3 (some .int), Cond.methodLink RL 75 yX4_clear, Cond.instanceMethod yX4_clear, Cond.selects RX4 yX4_clear yX4_clear, Cond.code yX4_clear cX4_clear 3 (some .int), Cond.fieldLink RX4 93 "HiddenFactsModel" "thrown" "I"]
def wsL_law0_r5 : List Cond := [Cond.fieldLink RX4 100 "HiddenFactsModel" "clauses" "I", Cond.fieldLink RX4 103 "HiddenFactsModel" "goalMask" "I", Cond.fieldLink RX4 106 "HiddenFactsModel" "goalValue" "I", Cond.fieldLink RX4 109 "HiddenFactsModel" "nodes" "I", Cond.fieldLink RX4 112 "HiddenFactsModel" "made" "I", Cond.methodLink RL 76 yL_action, Cond.static yL_action, Cond.initialized RL, Cond.codeWith yL_action cL_action 7 (some .int) [(0, 21, 24, 13), (0, 21, 28, 15)], Cond.classLink RL 13 "java/lang/IndexOutOfBoundsException", Cond.classLink RL 15 "java/lang/IllegalArgumentException", Cond.methodLink RL 7 yX3_action, Cond.instanceMethod yX3_action, Cond.selects RX3 yX3_action yX3_action, Cond.code yX3_action cX3_action 6 (some .boolean), Cond.classLink RX3 49 "java/lang/IllegalArgumentException", Cond.initialized "java/lang/IllegalArgumentException", Cond.fieldLink RX3 60 "HiddenFacts" "TRUE_IN" "[I", Cond.methodLink RX3 41 yX3_needNumber, Cond.static yX3_needNumber, Cond.code yX3_needNumber cX3_needNumber 1 none, Cond.classLink RX3 144 "java/lang/IndexOutOfBoundsException", Cond.initialized "java/lang/IndexOutOfBoundsException", Cond.methodLink RX3 45 yX3_needBits]
def wsL_law0_r6 : List Cond := [Cond.static yX3_needBits, Cond.code yX3_needBits cX3_needBits 2 none, Cond.methodLink RX3 56 yX3_demanded, Cond.static yX3_demanded, Cond.code yX3_demanded cX3_demanded 4 (some .int), Cond.methodLink RX3 63 yX0_begin, Cond.instanceMethod yX0_begin, Cond.selects RX0 yX0_begin yX0_begin, Cond.code yX0_begin cX0_begin 4 none, Cond.fieldLink RX0 15 "HiddenFacts$Action" "there" "Z", Cond.fieldLink RX0 19 "HiddenFacts$Action" "condition" "I", Cond.fieldLink RX0 23 "HiddenFacts$Action" "senses" "I", Cond.fieldLink RX0 26 "HiddenFacts$Action" "effects" "I", Cond.methodLink RL 81 yX4_action, Cond.instanceMethod yX4_action, Cond.selects RX4 yX4_action yX4_action, Cond.code yX4_action cX4_action 6 (some .boolean), Cond.methodLink RX4 96 yX4_within, Cond.static yX4_within, Cond.code yX4_within cX4_within 3 (some .boolean), Cond.methodLink RX4 115 yX4_fail, Cond.instanceMethod yX4_fail, Cond.selects RX4 yX4_fail yX4_fail, Cond.code yX4_fail cX4_fail 2 (some .int)]
def wsL_law0_r7 : List Cond := [Cond.methodLink RX4 119 yX4_demand, Cond.static yX4_demand, Cond.code yX4_demand cX4_demand 2 (some .boolean), Cond.methodLink RL 82 yX4_thrown, Cond.instanceMethod yX4_thrown, Cond.selects RX4 yX4_thrown yX4_thrown, Cond.code yX4_thrown cX4_thrown 1 (some .int), Cond.methodLink RL 85 yL_effect, Cond.static yL_effect, Cond.codeWith yL_effect cL_effect 8 (some .int) [(0, 16, 19, 13), (0, 16, 23, 21), (0, 16, 27, 15), (0, 16, 31, 23)], Cond.classLink RL 21 "java/util/NoSuchElementException", Cond.classLink RL 23 "java/lang/IllegalStateException", Cond.methodLink RL 17 yX3_effect, Cond.instanceMethod yX3_effect, Cond.selects RX3 yX3_effect yX3_effect, Cond.code yX3_effect cX3_effect 6 (some .int), Cond.classLink RX3 75 "java/lang/IllegalStateException", Cond.initialized "java/lang/IllegalStateException", Cond.methodLink RX3 66 yX3_needThere, Cond.instanceMethod yX3_needThere, Cond.selects RX3 yX3_needThere yX3_needThere, Cond.code yX3_needThere cX3_needThere 2 none, Cond.classLink RX3 194 "java/util/NoSuchElementException", Cond.initialized "java/util/NoSuchElementException"]
def wsL_law0_r8 : List Cond := [Cond.methodLink RX3 80 yX0_addEffect, Cond.instanceMethod yX0_addEffect, Cond.selects RX0 yX0_addEffect yX0_addEffect, Cond.code yX0_addEffect cX0_addEffect 5 none, Cond.static yX3_isIn, Cond.code yX3_isIn cX3_isIn 2 (some .boolean), Cond.methodLink RL 88 yX4_effect, Cond.instanceMethod yX4_effect, Cond.selects RX4 yX4_effect yX4_effect, Cond.code yX4_effect cX4_effect 7 (some .int), Cond.methodLink RL 89 yL_clause, Cond.static yL_clause, Cond.codeWith yL_clause cL_clause 5 (some .int) [(0, 10, 13, 15), (0, 10, 17, 23)], Cond.methodLink RL 25 yX3_clause, Cond.instanceMethod yX3_clause, Cond.selects RX3 yX3_clause yX3_clause, Cond.code yX3_clause cX3_clause 3 (some .int), Cond.methodLink RX3 92 yX3_allowed, Cond.static yX3_allowed, Cond.code yX3_allowed cX3_allowed 4 (some .int), Cond.methodLink RL 92 yX4_clause, Cond.instanceMethod yX4_clause, Cond.selects RX4 yX4_clause yX4_clause, Cond.code yX4_clause cX4_clause 3 (some .int)]
def wsL_law0_r9 : List Cond := [Cond.methodLink RL 93 yL_goal, Cond.static yL_goal, Cond.codeWith yL_goal cL_goal 5 (some .int) [(0, 10, 13, 15)], Cond.methodLink RL 29 yX3_goal, Cond.instanceMethod yX3_goal, Cond.selects RX3 yX3_goal yX3_goal, Cond.code yX3_goal cX3_goal 3 (some .int), Cond.methodLink RX3 98 yJ6_bitCount_0f7a4, Cond.static yJ6_bitCount_0f7a4, Cond.initialized RJ6, Cond.code yJ6_bitCount_0f7a4 cJ6_bitCount_0f7a4 1 (some .int), Cond.constant RJ6 265 (1431655765), Cond.constant RJ6 266 (858993459), Cond.constant RJ6 267 (252645135), Cond.methodLink RL 95 yX4_goal, Cond.instanceMethod yX4_goal, Cond.selects RX4 yX4_goal yX4_goal, Cond.code yX4_goal cX4_goal 5 (some .int), Cond.methodLink RX4 123 yX4_holds, Cond.static yX4_holds, Cond.code yX4_holds cX4_holds 3 (some .boolean), Cond.methodLink RL 96 yX3_start, Cond.instanceMethod yX3_start, Cond.selects RX3 yX3_start yX3_start]
def wsL_law0_r10 : List Cond := [Cond.code yX3_start cX3_start 1 (some .int), Cond.methodLink RL 99 yX4_start, Cond.instanceMethod yX4_start, Cond.selects RX4 yX4_start yX4_start, Cond.code yX4_start cX4_start 1 (some .int), Cond.methodLink RX4 126 yX4_startBelief, Cond.instanceMethod yX4_startBelief, Cond.selects RX4 yX4_startBelief yX4_startBelief, Cond.code yX4_startBelief cX4_startBelief 5 (some .int), Cond.methodLink RL 100 yL_behind, Cond.static yL_behind, Cond.codeWith yL_behind cL_behind 5 (some .int) [(0, 10, 13, 13), (0, 10, 17, 21), (0, 10, 21, 15), (0, 10, 25, 35)], Cond.classLink RL 35 "java/lang/UnsupportedOperationException", Cond.methodLink RL 32 yX3_behind, Cond.instanceMethod yX3_behind, Cond.selects RX3 yX3_behind yX3_behind, Cond.code yX3_behind cX3_behind 3 (some .int), Cond.classLink RX3 111 "java/lang/UnsupportedOperationException", Cond.initialized "java/lang/UnsupportedOperationException", Cond.methodLink RX3 107 yX0_usable, Cond.instanceMethod yX0_usable, Cond.selects RX0 yX0_usable yX0_usable, Cond.code yX0_usable cX0_usable 2 (some .boolean), Cond.methodLink RX3 116 yX0_after]
def wsL_law0_r11 : List Cond := [Cond.instanceMethod yX0_after, Cond.selects RX0 yX0_after yX0_after, Cond.code yX0_after cX0_after 4 (some .int), Cond.methodLink RL 102 yX4_behind, Cond.instanceMethod yX4_behind, Cond.selects RX4 yX4_behind yX4_behind, Cond.code yX4_behind cX4_behind 3 (some .int), Cond.constant RX4 137 (65535), Cond.methodLink RX4 138 yX4_usable, Cond.instanceMethod yX4_usable, Cond.selects RX4 yX4_usable yX4_usable, Cond.code yX4_usable cX4_usable 5 (some .boolean), Cond.methodLink RX4 134 yX4_after, Cond.instanceMethod yX4_after, Cond.selects RX4 yX4_after yX4_after, Cond.code yX4_after cX4_after 5 (some .int), Cond.methodLink RX4 130 yX4_next, Cond.instanceMethod yX4_next, Cond.selects RX4 yX4_next yX4_next, Cond.code yX4_next cX4_next 5 (some .int), Cond.methodLink RL 103 yL_least, Cond.static yL_least, Cond.codeWith yL_least cL_least 5 (some .int) [(0, 10, 13, 15), (0, 10, 17, 21)], Cond.methodLink RL 37 yX3_least]
def wsL_law0_r12 : List Cond := [Cond.instanceMethod yX3_least, Cond.selects RX3 yX3_least yX3_least, Cond.code yX3_least cX3_least 3 (some .int), Cond.methodLink RX3 121 yX3_needDepth, Cond.static yX3_needDepth, Cond.code yX3_needDepth cX3_needDepth 1 none, Cond.methodLink RX3 124 yX3_fewest, Cond.instanceMethod yX3_fewest, Cond.selects RX3 yX3_fewest yX3_fewest, Cond.code yX3_fewest cX3_fewest 4 (some .int), Cond.methodLink RX3 213 yX3_solved, Cond.instanceMethod yX3_solved, Cond.selects RX3 yX3_solved yX3_solved, Cond.code yX3_solved cX3_solved 3 (some .boolean), Cond.methodLink RX3 216 yX3_reached, Cond.instanceMethod yX3_reached, Cond.selects RX3 yX3_reached yX3_reached, Cond.code yX3_reached cX3_reached 2 (some .boolean), Cond.methodLink RX3 219 yX3_leastAction, Cond.instanceMethod yX3_leastAction, Cond.selects RX3 yX3_leastAction yX3_leastAction, Cond.code yX3_leastAction cX3_leastAction 4 (some .int), Cond.methodLink RX3 222 yX3_solves, Cond.instanceMethod yX3_solves]
def wsL_law0_r13 : List Cond := [Cond.selects RX3 yX3_solves yX3_solves, Cond.code yX3_solves cX3_solves 5 (some .boolean), Cond.methodLink RX3 226 yX0_part, Cond.instanceMethod yX0_part, Cond.selects RX0 yX0_part yX0_part, Cond.code yX0_part cX0_part 3 (some .int), Cond.methodLink RX3 127 yX3_needSolved, Cond.static yX3_needSolved, Cond.code yX3_needSolved cX3_needSolved 1 (some .int), Cond.methodLink RL 105 yX4_least, Cond.instanceMethod yX4_least, Cond.selects RX4 yX4_least yX4_least, Cond.code yX4_least cX4_least 4 (some .int), Cond.methodLink RX4 152 yX4_leastFor, Cond.instanceMethod yX4_leastFor, Cond.selects RX4 yX4_leastFor yX4_leastFor, Cond.code yX4_leastFor cX4_leastFor 4 (some .int), Cond.methodLink RX4 149 yX4_solved, Cond.instanceMethod yX4_solved, Cond.selects RX4 yX4_solved yX4_solved, Cond.code yX4_solved cX4_solved 5 (some .boolean), Cond.methodLink RX4 141 yX4_reached, Cond.instanceMethod yX4_reached, Cond.selects RX4 yX4_reached yX4_reached]
def wsL_law0_r14 : List Cond := [Cond.code yX4_reached cX4_reached 4 (some .boolean), Cond.methodLink RX4 145 yX4_part, Cond.instanceMethod yX4_part, Cond.selects RX4 yX4_part yX4_part, Cond.code yX4_part cX4_part 7 (some .int), Cond.methodLink RL 106 yL_plan, Cond.static yL_plan, Cond.codeWith yL_plan cL_plan 4 (some .int) [(0, 9, 12, 15), (0, 9, 15, 23), (0, 9, 18, 21)], Cond.methodLink RL 40 yX3_plan, Cond.instanceMethod yX3_plan, Cond.selects RX3 yX3_plan yX3_plan, Cond.code yX3_plan cX3_plan 3 (some .int), Cond.methodLink RX3 135 yX3_grow, Cond.instanceMethod yX3_grow, Cond.selects RX3 yX3_grow yX3_grow, Cond.code yX3_grow cX3_grow 8 (some .int), Cond.methodLink RX3 229 yX2_open, Cond.instanceMethod yX2_open, Cond.selects RX2 yX2_open yX2_open, Cond.code yX2_open cX2_open 1 (some .int), Cond.methodLink RX2 17 yX2_setAction, Cond.instanceMethod yX2_setAction, Cond.selects RX2 yX2_setAction yX2_setAction, Cond.code yX2_setAction cX2_setAction 3 none]
def wsL_law0_r15 : List Cond := [Cond.methodLink RX3 231 yX2_close, Cond.instanceMethod yX2_close, Cond.selects RX2 yX2_close yX2_close, Cond.code yX2_close cX2_close 6 (some .int), Cond.methodLink RX2 21 yX2_cell, Cond.instanceMethod yX2_cell, Cond.selects RX2 yX2_cell yX2_cell, Cond.code yX2_cell cX2_cell 3 (some .int), Cond.methodLink RX3 235 yX3_growPart, Cond.instanceMethod yX3_growPart, Cond.selects RX3 yX3_growPart yX3_growPart, Cond.code yX3_growPart cX3_growPart 3 (some .int), Cond.methodLink RL 109 yX4_plan, Cond.instanceMethod yX4_plan, Cond.selects RX4 yX4_plan yX4_plan, Cond.code yX4_plan cX4_plan 4 (some .int), Cond.methodLink RX4 175 yX4_build, Cond.instanceMethod yX4_build, Cond.selects RX4 yX4_build yX4_build, Cond.code yX4_build cX4_build 5 none, Cond.methodLink RX4 162 yX4_depthOf, Cond.static yX4_depthOf, Cond.code yX4_depthOf cX4_depthOf 3 (some .int), Cond.methodLink RX4 165 yX4_choose]
def wsL_law0_r16 : List Cond := [Cond.instanceMethod yX4_choose, Cond.selects RX4 yX4_choose yX4_choose, Cond.code yX4_choose cX4_choose 5 none, Cond.methodLink RX4 155 yX4_partSolved, Cond.instanceMethod yX4_partSolved, Cond.selects RX4 yX4_partSolved yX4_partSolved, Cond.code yX4_partSolved cX4_partSolved 6 (some .boolean), Cond.methodLink RX4 169 yX4_equal, Cond.instanceMethod yX4_equal, Cond.selects RX4 yX4_equal yX4_equal, Cond.code yX4_equal cX4_equal 3 (some .boolean), Cond.methodLink RX4 159 yX4_classOf, Cond.instanceMethod yX4_classOf, Cond.selects RX4 yX4_classOf yX4_classOf, Cond.code yX4_classOf cX4_classOf 2 (some .int), Cond.methodLink RX4 172 yX4_number, Cond.instanceMethod yX4_number, Cond.selects RX4 yX4_number yX4_number, Cond.code yX4_number cX4_number 5 none, Cond.methodLink RL 110 yX3_nodes, Cond.instanceMethod yX3_nodes, Cond.selects RX3 yX3_nodes yX3_nodes, Cond.code yX3_nodes cX3_nodes 1 (some .int), Cond.methodLink RL 113 yX4_nodes]
def wsL_law0_r17 : List Cond := [Cond.instanceMethod yX4_nodes, Cond.selects RX4 yX4_nodes yX4_nodes, Cond.code yX4_nodes cX4_nodes 1 (some .int), Cond.methodLink RL 114 yL_node, Cond.static yL_node, Cond.codeWith yL_node cL_node 5 (some .int) [(0, 10, 13, 13)], Cond.methodLink RL 44 yX3_node, Cond.instanceMethod yX3_node, Cond.selects RX3 yX3_node yX3_node, Cond.code yX3_node cX3_node 3 (some .int), Cond.methodLink RX3 141 yX3_needNode, Cond.instanceMethod yX3_needNode, Cond.selects RX3 yX3_needNode yX3_needNode, Cond.code yX3_needNode cX3_needNode 2 none, Cond.methodLink RX3 149 yX2_cell, Cond.methodLink RL 116 yX4_node, Cond.instanceMethod yX4_node, Cond.selects RX4 yX4_node yX4_node, Cond.code yX4_node cX4_node 3 (some .int), Cond.methodLink RL 117 yL_edit, Cond.static yL_edit, Cond.codeWith yL_edit cL_edit 5 (some .int) [(0, 10, 13, 13), (0, 10, 17, 21), (0, 10, 21, 35)], Cond.methodLink RL 47 yX3_edit, Cond.instanceMethod yX3_edit]
def wsL_law0_r18 : List Cond := [Cond.selects RX3 yX3_edit yX3_edit, Cond.code yX3_edit cX3_edit 4 (some .int), Cond.methodLink RX3 154 yX2_setAction, Cond.methodLink RL 119 yX4_edit, Cond.instanceMethod yX4_edit, Cond.selects RX4 yX4_edit yX4_edit, Cond.code yX4_edit cX4_edit 4 (some .int), Cond.methodLink RL 120 yL_right, Cond.static yL_right, Cond.codeWith yL_right cL_right 3 (some .int) [(0, 15, 18, 23)], Cond.methodLink RL 50 yX3_right, Cond.instanceMethod yX3_right, Cond.selects RX3 yX3_right yX3_right, Cond.code yX3_right cX3_right 1 (some .boolean), Cond.methodLink RX3 157 yX3_needPlan, Cond.instanceMethod yX3_needPlan, Cond.selects RX3 yX3_needPlan yX3_needPlan, Cond.code yX3_needPlan cX3_needPlan 1 none, Cond.methodLink RX3 160 yX3_fits, Cond.instanceMethod yX3_fits, Cond.selects RX3 yX3_fits yX3_fits, Cond.code yX3_fits cX3_fits 6 (some .boolean), Cond.methodLink RL 123 yX4_right, Cond.instanceMethod yX4_right]
def wsL_law0_r19 : List Cond := [Cond.selects RX4 yX4_right yX4_right, Cond.code yX4_right cX4_right 9 (some .boolean), Cond.methodLink RL 124 yL_hide, Cond.static yL_hide, Cond.codeWith yL_hide cL_hide 4 (some .int) [(0, 16, 19, 15)], Cond.methodLink RL 54 yX3_hide, Cond.instanceMethod yX3_hide, Cond.selects RX3 yX3_hide yX3_hide, Cond.code yX3_hide cX3_hide 2 (some .boolean), Cond.methodLink RX3 169 yX3_isIn, Cond.methodLink RL 126 yX4_hide, Cond.instanceMethod yX4_hide, Cond.selects RX4 yX4_hide yX4_hide, Cond.code yX4_hide cX4_hide 2 (some .boolean), Cond.methodLink RL 127 yL_execute, Cond.static yL_execute, Cond.codeWith yL_execute cL_execute 3 (some .int) [(0, 15, 18, 23)], Cond.methodLink RL 58 yX3_execute, Cond.instanceMethod yX3_execute, Cond.selects RX3 yX3_execute yX3_execute, Cond.code yX3_execute cX3_execute 1 (some .boolean), Cond.methodLink RX3 175 yX3_carryOut, Cond.instanceMethod yX3_carryOut, Cond.selects RX3 yX3_carryOut yX3_carryOut]
def wsL_law0_r20 : List Cond := [Cond.code yX3_carryOut cX3_carryOut 4 (some .boolean), Cond.methodLink RX3 241 yX0_sensed, Cond.instanceMethod yX0_sensed, Cond.selects RX0 yX0_sensed yX0_sensed, Cond.code yX0_sensed cX0_sensed 2 (some .int), Cond.methodLink RL 129 yX4_execute, Cond.instanceMethod yX4_execute, Cond.selects RX4 yX4_execute yX4_execute, Cond.code yX4_execute cX4_execute 5 (some .boolean), Cond.methodLink RL 130 yX3_made, Cond.instanceMethod yX3_made, Cond.selects RX3 yX3_made yX3_made, Cond.code yX3_made cX3_made 1 (some .int), Cond.methodLink RL 133 yX4_made, Cond.instanceMethod yX4_made, Cond.selects RX4 yX4_made yX4_made, Cond.code yX4_made cX4_made 1 (some .int), Cond.methodLink RL 134 yL_trace, Cond.static yL_trace, Cond.codeWith yL_trace cL_trace 4 (some .int) [(0, 9, 12, 13)], Cond.methodLink RL 61 yX3_trace, Cond.instanceMethod yX3_trace, Cond.selects RX3 yX3_trace yX3_trace, Cond.code yX3_trace cX3_trace 2 (some .int)]
def wsL_law0_r21 : List Cond := [Cond.methodLink RL 136 yX4_trace, Cond.instanceMethod yX4_trace, Cond.selects RX4 yX4_trace yX4_trace, Cond.code yX4_trace cX4_trace 2 (some .int), Cond.methodLink RL 137 yL_twins, Cond.static yL_twins, Cond.codeWith yL_twins cL_twins 3 (some .int) [(0, 8, 11, 21)], Cond.methodLink RL 64 yX3_twins, Cond.instanceMethod yX3_twins, Cond.selects RX3 yX3_twins yX3_twins, Cond.code yX3_twins cX3_twins 2 (some .int), Cond.methodLink RX3 184 yX1_open, Cond.instanceMethod yX1_open, Cond.selects RX1 yX1_open yX1_open, Cond.code yX1_open cX1_open 3 none, Cond.fieldLink RX1 18 "HiddenFacts$Sight" "belief" "I", Cond.methodLink RX3 187 yX3_look, Cond.instanceMethod yX3_look, Cond.selects RX3 yX3_look yX3_look, Cond.code yX3_look cX3_look 4 none, Cond.methodLink RX3 244 yX1_step, Cond.instanceMethod yX1_step, Cond.selects RX1 yX1_step yX1_step, Cond.code yX1_step cX1_step 7 none]
def wsL_law0_r22 : List Cond := [Cond.methodLink RX1 27 yX0_sensed, Cond.methodLink RX3 190 yX1_firstAlike, Cond.instanceMethod yX1_firstAlike, Cond.selects RX1 yX1_firstAlike yX1_firstAlike, Cond.code yX1_firstAlike cX1_firstAlike 3 (some .int), Cond.methodLink RL 139 yX4_twins, Cond.instanceMethod yX4_twins, Cond.selects RX4 yX4_twins yX4_twins, Cond.code yX4_twins cX4_twins 6 (some .int), Cond.methodLink RX4 178 yX4_beliefAt, Cond.instanceMethod yX4_beliefAt, Cond.selects RX4 yX4_beliefAt yX4_beliefAt, Cond.code yX4_beliefAt cX4_beliefAt 5 (some .int), Cond.methodLink RX4 181 yX4_make, Cond.instanceMethod yX4_make, Cond.selects RX4 yX4_make yX4_make, Cond.code yX4_make cX4_make 7 none]
def wsL_law0 : List Cond := (wsL_law0_r1 ++ (wsL_law0_r2 ++ (wsL_law0_r3 ++ (wsL_law0_r4 ++ (wsL_law0_r5 ++ (wsL_law0_r6 ++ (wsL_law0_r7 ++ (wsL_law0_r8 ++ (wsL_law0_r9 ++ (wsL_law0_r10 ++ (wsL_law0_r11 ++ (wsL_law0_r12 ++ (wsL_law0_r13 ++ (wsL_law0_r14 ++ (wsL_law0_r15 ++ (wsL_law0_r16 ++ (wsL_law0_r17 ++ (wsL_law0_r18 ++ (wsL_law0_r19 ++ (wsL_law0_r20 ++ (wsL_law0_r21 ++ wsL_law0_r22))))))))))))))))))))) ++ wsX30 ++ wsX40 ++ wsX20 ++ wsX10 ++ wsX00 ++ ([] : List Cond)
def wsL_law : List Cond := wsL_law0 ++ (vx_atS RX3 53 "java/lang/IllegalArgumentException" ["java/lang/RuntimeException", "java/lang/Exception"]).filter goodWord ++ (vx_atS RX3 148 "java/lang/IndexOutOfBoundsException" ["java/lang/RuntimeException", "java/lang/Exception"]).filter goodWord ++ (vx_atS RX3 79 "java/lang/IllegalStateException" ["java/lang/RuntimeException", "java/lang/Exception"]).filter goodWord ++ (xn_atS RX3 198 "java/util/NoSuchElementException" ["java/lang/RuntimeException", "java/lang/Exception"]).filter goodWord ++ (vx_atS RX3 115 "java/lang/UnsupportedOperationException" ["java/lang/RuntimeException", "java/lang/Exception"]).filter goodWord
theorem xw_in {big ws : List Cond} (ps : List Nat) (hp : ws = ps.filterMap (fun i => big[i]?)) : ∀ w ∈ ws, w ∈ big := by
  intro w hw
  rw [hp] at hw
  obtain ⟨i, -, hi⟩ := List.mem_filterMap.mp hw
  first | exact List.mem_of_getElem? hi | exact List.getElem?_mem hi
set_option maxRecDepth 20000 in
theorem xw_r1 : ∀ w ∈ wsL_law0_r1, w ∈ lw_tbl := xw_in [47, 48, 33, 557, 558, 37, 821, 49, 50, 51, 52, 53, 54, 55, 122, 57, 58, 34, 123, 72, 73, 35, 124, 71] rfl
set_option maxRecDepth 20000 in
theorem xw_r2 : ∀ w ∈ wsL_law0_r2, w ∈ lw_tbl := xw_in [125, 88, 36, 60, 61, 62, 63, 75, 76, 77, 78, 79, 90, 91, 92, 99, 113, 115, 0, 116, 126, 121, 127, 128] rfl
set_option maxRecDepth 20000 in
theorem xw_r3 : ∀ w ∈ wsL_law0_r3, w ∈ lw_tbl := xw_in [129, 130, 117, 118, 119, 120, 64, 559, 560, 561, 562, 663, 564, 565, 566, 567, 568, 569, 570, 571, 572, 574, 575, 579] rfl
set_option maxRecDepth 20000 in
theorem xw_r4 : ∀ w ∈ wsL_law0_r4, w ∈ lw_tbl := xw_in [580, 581, 582, 583, 584, 585, 586, 587, 588, 589, 590, 591, 593, 594, 595, 150, 151, 152, 153, 668, 669, 670, 671, 563] rfl
set_option maxRecDepth 20000 in
theorem xw_r5 : ∀ w ∈ wsL_law0_r5, w ∈ lw_tbl := xw_in [573, 576, 577, 578, 592, 166, 167, 32, 168, 169, 170, 171, 172, 173, 174, 251, 42, 271, 175, 176, 177, 178, 41, 248] rfl
set_option maxRecDepth 20000 in
theorem xw_r6 : ∀ w ∈ wsL_law0_r6, w ∈ lw_tbl := xw_in [249, 250, 268, 269, 270, 273, 274, 275, 276, 93, 95, 96, 97, 672, 673, 674, 675, 676, 677, 678, 679, 681, 15, 682] rfl
set_option maxRecDepth 20000 in
theorem xw_r7 : ∀ w ∈ wsL_law0_r7, w ∈ lw_tbl := xw_in [683, 684, 685, 664, 665, 666, 667, 277, 278, 279, 280, 281, 282, 283, 284, 285, 307, 44, 286, 288, 2, 289, 290, 43] rfl
set_option maxRecDepth 20000 in
theorem xw_r8 : ∀ w ∈ wsL_law0_r8, w ∈ lw_tbl := xw_in [323, 324, 325, 326, 328, 329, 686, 687, 688, 689, 330, 331, 332, 333, 334, 335, 336, 338, 339, 340, 690, 691, 692, 693] rfl
set_option maxRecDepth 20000 in
theorem xw_r9 : ∀ w ∈ wsL_law0_r9, w ∈ lw_tbl := xw_in [341, 342, 343, 344, 345, 346, 347, 348, 349, 45, 350, 351, 352, 353, 694, 695, 696, 697, 698, 699, 700, 154, 155, 156] rfl
set_option maxRecDepth 20000 in
theorem xw_r10 : ∀ w ∈ wsL_law0_r10, w ∈ lw_tbl := xw_in [157, 701, 702, 703, 704, 705, 707, 16, 708, 354, 355, 356, 357, 358, 359, 360, 361, 367, 46, 363, 364, 365, 366, 383] rfl
set_option maxRecDepth 20000 in
theorem xw_r11 : ∀ w ∈ wsL_law0_r11, w ∈ lw_tbl := xw_in [384, 385, 386, 709, 710, 711, 712, 713, 714, 716, 17, 717, 718, 720, 18, 721, 722, 724, 19, 725, 387, 388, 389, 390] rfl
set_option maxRecDepth 20000 in
theorem xw_r12 : ∀ w ∈ wsL_law0_r12, w ∈ lw_tbl := xw_in [391, 392, 393, 395, 396, 397, 399, 401, 3, 402, 403, 405, 4, 406, 407, 409, 5, 410, 411, 413, 6, 414, 415, 417] rfl
set_option maxRecDepth 20000 in
theorem xw_r13 : ∀ w ∈ wsL_law0_r13, w ∈ lw_tbl := xw_in [7, 418, 419, 420, 421, 422, 423, 424, 425, 726, 727, 728, 729, 730, 732, 20, 733, 734, 736, 21, 737, 738, 740, 22] rfl
set_option maxRecDepth 20000 in
theorem xw_r14 : ∀ w ∈ wsL_law0_r14, w ∈ lw_tbl := xw_in [741, 742, 744, 23, 745, 427, 428, 429, 430, 431, 432, 433, 435, 437, 8, 438, 439, 440, 441, 442, 443, 444, 445, 446] rfl
set_option maxRecDepth 20000 in
theorem xw_r15 : ∀ w ∈ wsL_law0_r15, w ∈ lw_tbl := xw_in [447, 448, 449, 450, 451, 452, 453, 454, 455, 457, 9, 458, 746, 747, 748, 749, 750, 752, 24, 753, 754, 755, 756, 757] rfl
set_option maxRecDepth 20000 in
theorem xw_r16 : ∀ w ∈ wsL_law0_r16, w ∈ lw_tbl := xw_in [759, 25, 760, 761, 763, 26, 764, 765, 767, 27, 768, 769, 771, 28, 772, 773, 775, 29, 776, 158, 159, 160, 161, 777] rfl
set_option maxRecDepth 20000 in
theorem xw_r17 : ∀ w ∈ wsL_law0_r17, w ∈ lw_tbl := xw_in [778, 779, 780, 459, 460, 461, 462, 463, 464, 465, 466, 468, 10, 469, 472, 781, 782, 783, 784, 473, 474, 475, 476, 477] rfl
set_option maxRecDepth 20000 in
theorem xw_r18 : ∀ w ∈ wsL_law0_r18, w ∈ lw_tbl := xw_in [478, 479, 481, 785, 786, 787, 788, 482, 483, 484, 485, 486, 487, 488, 489, 491, 11, 492, 494, 496, 12, 497, 789, 790] rfl
set_option maxRecDepth 20000 in
theorem xw_r19 : ∀ w ∈ wsL_law0_r19, w ∈ lw_tbl := xw_in [791, 792, 498, 499, 500, 501, 502, 503, 504, 506, 793, 794, 795, 796, 507, 508, 509, 510, 511, 512, 513, 515, 517, 13] rfl
set_option maxRecDepth 20000 in
theorem xw_r20 : ∀ w ∈ wsL_law0_r20, w ∈ lw_tbl := xw_in [518, 519, 520, 521, 522, 797, 798, 799, 800, 162, 163, 164, 165, 801, 802, 803, 804, 523, 524, 525, 526, 527, 528, 529] rfl
set_option maxRecDepth 20000 in
theorem xw_r21 : ∀ w ∈ wsL_law0_r21, w ∈ lw_tbl := xw_in [805, 806, 807, 808, 531, 532, 533, 534, 535, 536, 537, 538, 539, 540, 541, 80, 542, 544, 14, 545, 546, 547, 548, 549] rfl
set_option maxRecDepth 20000 in
theorem xw_r22 : ∀ w ∈ wsL_law0_r22, w ∈ lw_tbl := xw_in [550, 552, 553, 554, 555, 809, 810, 811, 812, 813, 815, 30, 816, 817, 819, 31, 820] rfl
set_option maxRecDepth 20000 in
theorem xw_X3 : ∀ w ∈ wsX30, w ∈ lw_tbl := xw_in [131, 133, 135, 137, 139, 141, 143, 145, 147] rfl
set_option maxRecDepth 20000 in
theorem xw_X4 : ∀ w ∈ wsX40, w ∈ lw_tbl := xw_in [596, 598, 600, 602, 604, 606, 608, 610, 612, 614, 616, 618, 620, 622, 624, 626, 628, 630, 632, 634, 636, 638, 640, 642, 644, 646, 648, 650, 652, 654, 656, 658, 660] rfl
set_option maxRecDepth 20000 in
theorem xw_X2 : ∀ w ∈ wsX20, w ∈ lw_tbl := xw_in [66, 68] rfl
set_option maxRecDepth 20000 in
theorem xw_X1 : ∀ w ∈ wsX10, w ∈ lw_tbl := xw_in [81, 83, 85] rfl
set_option maxRecDepth 20000 in
theorem xw_X0 : ∀ w ∈ wsX00, w ∈ lw_tbl := xw_in [102, 104, 106, 108, 110] rfl
theorem wsL_law_in0 : ∀ w ∈ wsL_law0, w ∈ lw_tbl := by
  intro w h
  unfold wsL_law0 at h
  exact (fun w h => (List.mem_append.mp h).elim ((fun w h => (List.mem_append.mp h).elim ((fun w h => (List.mem_append.mp h).elim ((fun w h => (List.mem_append.mp h).elim ((fun w h => (List.mem_append.mp h).elim ((fun w h => (List.mem_append.mp h).elim ((fun w h => (List.mem_append.mp h).elim (xw_r1 w) ((fun w h => (List.mem_append.mp h).elim (xw_r2 w) ((fun w h => (List.mem_append.mp h).elim (xw_r3 w) ((fun w h => (List.mem_append.mp h).elim (xw_r4 w) ((fun w h => (List.mem_append.mp h).elim (xw_r5 w) ((fun w h => (List.mem_append.mp h).elim (xw_r6 w) ((fun w h => (List.mem_append.mp h).elim (xw_r7 w) ((fun w h => (List.mem_append.mp h).elim (xw_r8 w) ((fun w h => (List.mem_append.mp h).elim (xw_r9 w) ((fun w h => (List.mem_append.mp h).elim (xw_r10 w) ((fun w h => (List.mem_append.mp h).elim (xw_r11 w) ((fun w h => (List.mem_append.mp h).elim (xw_r12 w) ((fun w h => (List.mem_append.mp h).elim (xw_r13 w) ((fun w h => (List.mem_append.mp h).elim (xw_r14 w) ((fun w h => (List.mem_append.mp h).elim (xw_r15 w) ((fun w h => (List.mem_append.mp h).elim (xw_r16 w) ((fun w h => (List.mem_append.mp h).elim (xw_r17 w) ((fun w h => (List.mem_append.mp h).elim (xw_r18 w) ((fun w h => (List.mem_append.mp h).elim (xw_r19 w) ((fun w h => (List.mem_append.mp h).elim (xw_r20 w) ((fun w h => (List.mem_append.mp h).elim (xw_r21 w) (xw_r22 w)) w)) w)) w)) w)) w)) w)) w)) w)) w)) w)) w)) w)) w)) w)) w)) w)) w)) w)) w)) w)) w) (xw_X3 w)) w) (xw_X4 w)) w) (xw_X2 w)) w) (xw_X1 w)) w) (xw_X0 w)) w) ((fun (w : Cond) (h : w ∈ ([] : List Cond)) => (nomatch h : w ∈ lw_tbl)) w)) w h
theorem wsL_law_x0 : ∀ w ∈ (vx_atS RX3 53 "java/lang/IllegalArgumentException" ["java/lang/RuntimeException", "java/lang/Exception"]).filter goodWord, w ∈ lw_tbl := by decide +kernel
theorem wsL_law_x1 : ∀ w ∈ (vx_atS RX3 148 "java/lang/IndexOutOfBoundsException" ["java/lang/RuntimeException", "java/lang/Exception"]).filter goodWord, w ∈ lw_tbl := by decide +kernel
theorem wsL_law_x2 : ∀ w ∈ (vx_atS RX3 79 "java/lang/IllegalStateException" ["java/lang/RuntimeException", "java/lang/Exception"]).filter goodWord, w ∈ lw_tbl := by decide +kernel
theorem wsL_law_x3 : ∀ w ∈ (xn_atS RX3 198 "java/util/NoSuchElementException" ["java/lang/RuntimeException", "java/lang/Exception"]).filter goodWord, w ∈ lw_tbl := by decide +kernel
theorem wsL_law_x4 : ∀ w ∈ (vx_atS RX3 115 "java/lang/UnsupportedOperationException" ["java/lang/RuntimeException", "java/lang/Exception"]).filter goodWord, w ∈ lw_tbl := by decide +kernel
theorem wsL_law_in : ∀ w ∈ wsL_law, w ∈ lw_tbl := fun w h => (List.mem_append.mp h).elim (fun h => (List.mem_append.mp h).elim (fun h => (List.mem_append.mp h).elim (fun h => (List.mem_append.mp h).elim (fun h => (List.mem_append.mp h).elim (fun h => wsL_law_in0 w h) (fun h => wsL_law_x0 w h)) (fun h => wsL_law_x1 w h)) (fun h => wsL_law_x2 w h)) (fun h => wsL_law_x3 w h)) (fun h => wsL_law_x4 w h)
theorem inlX0 : ∀ w ∈ wsX00, w ∈ wsL_law := fun _ h => List.mem_append_left _ (List.mem_append_left _ (List.mem_append_left _ (List.mem_append_left _ (List.mem_append_left _ (List.mem_append_left _ (List.mem_append_right _ h))))))
theorem inX0 : ∀ w ∈ wsX00, w ∈ lw_tbl := fun w h => wsL_law_in w (inlX0 w h)
theorem inlX1 : ∀ w ∈ wsX10, w ∈ wsL_law := fun _ h => List.mem_append_left _ (List.mem_append_left _ (List.mem_append_left _ (List.mem_append_left _ (List.mem_append_left _ (List.mem_append_left _ (List.mem_append_left _ (List.mem_append_right _ h)))))))
theorem inX1 : ∀ w ∈ wsX10, w ∈ lw_tbl := fun w h => wsL_law_in w (inlX1 w h)
theorem inlX2 : ∀ w ∈ wsX20, w ∈ wsL_law := fun _ h => List.mem_append_left _ (List.mem_append_left _ (List.mem_append_left _ (List.mem_append_left _ (List.mem_append_left _ (List.mem_append_left _ (List.mem_append_left _ (List.mem_append_left _ (List.mem_append_right _ h))))))))
theorem inX2 : ∀ w ∈ wsX20, w ∈ lw_tbl := fun w h => wsL_law_in w (inlX2 w h)
theorem inlX3 : ∀ w ∈ wsX30, w ∈ wsL_law := fun _ h => List.mem_append_left _ (List.mem_append_left _ (List.mem_append_left _ (List.mem_append_left _ (List.mem_append_left _ (List.mem_append_left _ (List.mem_append_left _ (List.mem_append_left _ (List.mem_append_left _ (List.mem_append_left _ (List.mem_append_right _ h))))))))))
theorem inX3 : ∀ w ∈ wsX30, w ∈ lw_tbl := fun w h => wsL_law_in w (inlX3 w h)
theorem inlX4 : ∀ w ∈ wsX40, w ∈ wsL_law := fun _ h => List.mem_append_left _ (List.mem_append_left _ (List.mem_append_left _ (List.mem_append_left _ (List.mem_append_left _ (List.mem_append_left _ (List.mem_append_left _ (List.mem_append_left _ (List.mem_append_left _ (List.mem_append_right _ h)))))))))
theorem inX4 : ∀ w ∈ wsX40, w ∈ lw_tbl := fun w h => wsL_law_in w (inlX4 w h)
theorem inJ6 : ∀ w ∈ wsJ60, w ∈ lw_tbl := by decide +kernel
theorem inJ0 : ∀ w ∈ wsJ00, w ∈ lw_tbl := by decide +kernel
end
section
theorem dX0_init_0 : decode cX0_init 0 = .ok (.aload_n 0, 1) := by decide +kernel
theorem dX0_init_1 : decode cX0_init 1 = .ok (.invokespecial 3, 3) := by decide +kernel
theorem dX0_init_4 : decode cX0_init 4 = .ok (.aload_n 0, 1) := by decide +kernel
theorem dX0_init_5 : decode cX0_init 5 = .ok (.bipush 16, 2) := by decide +kernel
theorem dX0_init_7 : decode cX0_init 7 = .ok (.newarray .int, 2) := by decide +kernel
theorem dX0_init_9 : decode cX0_init 9 = .ok (.putfield 9, 3) := by decide +kernel
theorem dX0_init_12 : decode cX0_init 12 = .ok (.return_, 1) := by decide +kernel
theorem dX0_begin_0 : decode cX0_begin 0 = .ok (.aload_n 0, 1) := by decide +kernel
theorem dX0_begin_1 : decode cX0_begin 1 = .ok (.iconst 1, 1) := by decide +kernel
theorem dX0_begin_2 : decode cX0_begin 2 = .ok (.putfield 15, 3) := by decide +kernel
theorem dX0_begin_5 : decode cX0_begin 5 = .ok (.aload_n 0, 1) := by decide +kernel
theorem dX0_begin_6 : decode cX0_begin 6 = .ok (.iload_n 1, 1) := by decide +kernel
theorem dX0_begin_7 : decode cX0_begin 7 = .ok (.putfield 19, 3) := by decide +kernel
theorem dX0_begin_10 : decode cX0_begin 10 = .ok (.aload_n 0, 1) := by decide +kernel
theorem dX0_begin_11 : decode cX0_begin 11 = .ok (.iload_n 2, 1) := by decide +kernel
theorem dX0_begin_12 : decode cX0_begin 12 = .ok (.putfield 23, 3) := by decide +kernel
theorem dX0_begin_15 : decode cX0_begin 15 = .ok (.aload_n 0, 1) := by decide +kernel
theorem dX0_begin_16 : decode cX0_begin 16 = .ok (.iconst 0, 1) := by decide +kernel
theorem dX0_begin_17 : decode cX0_begin 17 = .ok (.putfield 26, 3) := by decide +kernel
theorem dX0_begin_20 : decode cX0_begin 20 = .ok (.iconst 0, 1) := by decide +kernel
theorem dX0_begin_21 : decode cX0_begin 21 = .ok (.istore_n 3, 1) := by decide +kernel
theorem dX0_begin_22 : decode cX0_begin 22 = .ok (.iload_n 3, 1) := by decide +kernel
theorem dX0_begin_23 : decode cX0_begin 23 = .ok (.bipush 16, 2) := by decide +kernel
theorem dX0_begin_25 : decode cX0_begin 25 = .ok (.if_icmp .ge 16, 3) := by decide +kernel
theorem dX0_begin_28 : decode cX0_begin 28 = .ok (.aload_n 0, 1) := by decide +kernel
theorem dX0_begin_29 : decode cX0_begin 29 = .ok (.getfield 9, 3) := by decide +kernel
theorem dX0_begin_32 : decode cX0_begin 32 = .ok (.iload_n 3, 1) := by decide +kernel
theorem dX0_begin_33 : decode cX0_begin 33 = .ok (.iload_n 3, 1) := by decide +kernel
theorem dX0_begin_34 : decode cX0_begin 34 = .ok (.iastore, 1) := by decide +kernel
theorem dX0_begin_35 : decode cX0_begin 35 = .ok (.iinc 3 1, 3) := by decide +kernel
theorem dX0_begin_38 : decode cX0_begin 38 = .ok (.goto (-16), 3) := by decide +kernel
theorem dX0_begin_41 : decode cX0_begin 41 = .ok (.return_, 1) := by decide +kernel
set_option maxRecDepth 20000 in
theorem ggX0_addEffect_X3_isIn : GoodIn wsX0_addEffect wsX3_isIn := goodIn_r _ [5] (by decide +kernel) (by decide +kernel)
set_option maxRecDepth 20000 in
theorem gX0_addEffect_X3_isIn_n29 : GoodIn wsX0_addEffect (wsX3_isIn) := ggX0_addEffect_X3_isIn
theorem dX0_addEffect_0 : decode cX0_addEffect 0 = .ok (.iconst 0, 1) := by decide +kernel
theorem dX0_addEffect_1 : decode cX0_addEffect 1 = .ok (.istore 4, 2) := by decide +kernel
theorem dX0_addEffect_3 : decode cX0_addEffect 3 = .ok (.iload 4, 2) := by decide +kernel
theorem dX0_addEffect_5 : decode cX0_addEffect 5 = .ok (.bipush 16, 2) := by decide +kernel
theorem dX0_addEffect_7 : decode cX0_addEffect 7 = .ok (.if_icmp .ge 52, 3) := by decide +kernel
theorem dX0_addEffect_10 : decode cX0_addEffect 10 = .ok (.iload 4, 2) := by decide +kernel
theorem dX0_addEffect_12 : decode cX0_addEffect 12 = .ok (.iload_n 3, 1) := by decide +kernel
theorem dX0_addEffect_13 : decode cX0_addEffect 13 = .ok (.invokestatic 29, 3) := by decide +kernel
theorem dX0_addEffect_16 : decode cX0_addEffect 16 = .ok (.ifCond .eq 37, 3) := by decide +kernel
theorem dX0_addEffect_19 : decode cX0_addEffect 19 = .ok (.aload_n 0, 1) := by decide +kernel
theorem dX0_addEffect_20 : decode cX0_addEffect 20 = .ok (.getfield 9, 3) := by decide +kernel
theorem dX0_addEffect_23 : decode cX0_addEffect 23 = .ok (.iload 4, 2) := by decide +kernel
theorem dX0_addEffect_25 : decode cX0_addEffect 25 = .ok (.iload_n 2, 1) := by decide +kernel
theorem dX0_addEffect_26 : decode cX0_addEffect 26 = .ok (.ifCond .eq 15, 3) := by decide +kernel
theorem dX0_addEffect_29 : decode cX0_addEffect 29 = .ok (.aload_n 0, 1) := by decide +kernel
theorem dX0_addEffect_30 : decode cX0_addEffect 30 = .ok (.getfield 9, 3) := by decide +kernel
theorem dX0_addEffect_33 : decode cX0_addEffect 33 = .ok (.iload 4, 2) := by decide +kernel
theorem dX0_addEffect_35 : decode cX0_addEffect 35 = .ok (.iaload, 1) := by decide +kernel
theorem dX0_addEffect_36 : decode cX0_addEffect 36 = .ok (.iload_n 1, 1) := by decide +kernel
theorem dX0_addEffect_37 : decode cX0_addEffect 37 = .ok (.ior, 1) := by decide +kernel
theorem dX0_addEffect_38 : decode cX0_addEffect 38 = .ok (.goto 14, 3) := by decide +kernel
theorem dX0_addEffect_41 : decode cX0_addEffect 41 = .ok (.aload_n 0, 1) := by decide +kernel
theorem dX0_addEffect_42 : decode cX0_addEffect 42 = .ok (.getfield 9, 3) := by decide +kernel
theorem dX0_addEffect_45 : decode cX0_addEffect 45 = .ok (.iload 4, 2) := by decide +kernel
theorem dX0_addEffect_47 : decode cX0_addEffect 47 = .ok (.iaload, 1) := by decide +kernel
theorem dX0_addEffect_48 : decode cX0_addEffect 48 = .ok (.iload_n 1, 1) := by decide +kernel
theorem dX0_addEffect_49 : decode cX0_addEffect 49 = .ok (.iconst (-1), 1) := by decide +kernel
theorem dX0_addEffect_50 : decode cX0_addEffect 50 = .ok (.ixor, 1) := by decide +kernel
theorem dX0_addEffect_51 : decode cX0_addEffect 51 = .ok (.iand, 1) := by decide +kernel
theorem dX0_addEffect_52 : decode cX0_addEffect 52 = .ok (.iastore, 1) := by decide +kernel
theorem dX0_addEffect_53 : decode cX0_addEffect 53 = .ok (.iinc 4 1, 3) := by decide +kernel
theorem dX0_addEffect_56 : decode cX0_addEffect 56 = .ok (.goto (-53), 3) := by decide +kernel
theorem dX0_addEffect_59 : decode cX0_addEffect 59 = .ok (.aload_n 0, 1) := by decide +kernel
theorem dX0_addEffect_60 : decode cX0_addEffect 60 = .ok (.dup, 1) := by decide +kernel
theorem dX0_addEffect_61 : decode cX0_addEffect 61 = .ok (.getfield 26, 3) := by decide +kernel
theorem dX0_addEffect_64 : decode cX0_addEffect 64 = .ok (.iconst 1, 1) := by decide +kernel
theorem dX0_addEffect_65 : decode cX0_addEffect 65 = .ok (.iadd, 1) := by decide +kernel
theorem dX0_addEffect_66 : decode cX0_addEffect 66 = .ok (.putfield 26, 3) := by decide +kernel
theorem dX0_addEffect_69 : decode cX0_addEffect 69 = .ok (.return_, 1) := by decide +kernel
theorem dX0_usable_0 : decode cX0_usable 0 = .ok (.aload_n 0, 1) := by decide +kernel
theorem dX0_usable_1 : decode cX0_usable 1 = .ok (.getfield 15, 3) := by decide +kernel
theorem dX0_usable_4 : decode cX0_usable 4 = .ok (.ifCond .eq 18, 3) := by decide +kernel
theorem dX0_usable_7 : decode cX0_usable 7 = .ok (.iload_n 1, 1) := by decide +kernel
theorem dX0_usable_8 : decode cX0_usable 8 = .ok (.aload_n 0, 1) := by decide +kernel
theorem dX0_usable_9 : decode cX0_usable 9 = .ok (.getfield 19, 3) := by decide +kernel
theorem dX0_usable_12 : decode cX0_usable 12 = .ok (.iconst (-1), 1) := by decide +kernel
theorem dX0_usable_13 : decode cX0_usable 13 = .ok (.ixor, 1) := by decide +kernel
theorem dX0_usable_14 : decode cX0_usable 14 = .ok (.iand, 1) := by decide +kernel
theorem dX0_usable_15 : decode cX0_usable 15 = .ok (.ifCond .ne 7, 3) := by decide +kernel
theorem dX0_usable_18 : decode cX0_usable 18 = .ok (.iconst 1, 1) := by decide +kernel
theorem dX0_usable_19 : decode cX0_usable 19 = .ok (.goto 4, 3) := by decide +kernel
theorem dX0_usable_22 : decode cX0_usable 22 = .ok (.iconst 0, 1) := by decide +kernel
theorem dX0_usable_23 : decode cX0_usable 23 = .ok (.ireturn, 1) := by decide +kernel
set_option maxRecDepth 20000 in
theorem ggX0_after_X3_isIn : GoodIn wsX0_after wsX3_isIn := goodIn_r _ [4] (by decide +kernel) (by decide +kernel)
set_option maxRecDepth 20000 in
theorem gX0_after_X3_isIn_n29 : GoodIn wsX0_after (wsX3_isIn) := ggX0_after_X3_isIn
theorem dX0_after_0 : decode cX0_after 0 = .ok (.iconst 0, 1) := by decide +kernel
theorem dX0_after_1 : decode cX0_after 1 = .ok (.istore_n 2, 1) := by decide +kernel
theorem dX0_after_2 : decode cX0_after 2 = .ok (.iconst 0, 1) := by decide +kernel
theorem dX0_after_3 : decode cX0_after 3 = .ok (.istore_n 3, 1) := by decide +kernel
theorem dX0_after_4 : decode cX0_after 4 = .ok (.iload_n 3, 1) := by decide +kernel
theorem dX0_after_5 : decode cX0_after 5 = .ok (.bipush 16, 2) := by decide +kernel
theorem dX0_after_7 : decode cX0_after 7 = .ok (.if_icmp .ge 28, 3) := by decide +kernel
theorem dX0_after_10 : decode cX0_after 10 = .ok (.iload_n 3, 1) := by decide +kernel
theorem dX0_after_11 : decode cX0_after 11 = .ok (.iload_n 1, 1) := by decide +kernel
theorem dX0_after_12 : decode cX0_after 12 = .ok (.invokestatic 29, 3) := by decide +kernel
theorem dX0_after_15 : decode cX0_after 15 = .ok (.ifCond .eq 14, 3) := by decide +kernel
theorem dX0_after_18 : decode cX0_after 18 = .ok (.iload_n 2, 1) := by decide +kernel
theorem dX0_after_19 : decode cX0_after 19 = .ok (.iconst 1, 1) := by decide +kernel
theorem dX0_after_20 : decode cX0_after 20 = .ok (.aload_n 0, 1) := by decide +kernel
theorem dX0_after_21 : decode cX0_after 21 = .ok (.getfield 9, 3) := by decide +kernel
theorem dX0_after_24 : decode cX0_after 24 = .ok (.iload_n 3, 1) := by decide +kernel
theorem dX0_after_25 : decode cX0_after 25 = .ok (.iaload, 1) := by decide +kernel
theorem dX0_after_26 : decode cX0_after 26 = .ok (.ishl, 1) := by decide +kernel
theorem dX0_after_27 : decode cX0_after 27 = .ok (.ior, 1) := by decide +kernel
theorem dX0_after_28 : decode cX0_after 28 = .ok (.istore_n 2, 1) := by decide +kernel
theorem dX0_after_29 : decode cX0_after 29 = .ok (.iinc 3 1, 3) := by decide +kernel
theorem dX0_after_32 : decode cX0_after 32 = .ok (.goto (-28), 3) := by decide +kernel
theorem dX0_after_35 : decode cX0_after 35 = .ok (.iload_n 2, 1) := by decide +kernel
theorem dX0_after_36 : decode cX0_after 36 = .ok (.ireturn, 1) := by decide +kernel
theorem dX0_part_0 : decode cX0_part 0 = .ok (.iload_n 2, 1) := by decide +kernel
theorem dX0_part_1 : decode cX0_part 1 = .ok (.ifCond .ne 14, 3) := by decide +kernel
theorem dX0_part_4 : decode cX0_part 4 = .ok (.iload_n 1, 1) := by decide +kernel
theorem dX0_part_5 : decode cX0_part 5 = .ok (.aload_n 0, 1) := by decide +kernel
theorem dX0_part_6 : decode cX0_part 6 = .ok (.getfield 23, 3) := by decide +kernel
theorem dX0_part_9 : decode cX0_part 9 = .ok (.iconst (-1), 1) := by decide +kernel
theorem dX0_part_10 : decode cX0_part 10 = .ok (.ixor, 1) := by decide +kernel
theorem dX0_part_11 : decode cX0_part 11 = .ok (.iand, 1) := by decide +kernel
theorem dX0_part_12 : decode cX0_part 12 = .ok (.goto 9, 3) := by decide +kernel
theorem dX0_part_15 : decode cX0_part 15 = .ok (.iload_n 1, 1) := by decide +kernel
theorem dX0_part_16 : decode cX0_part 16 = .ok (.aload_n 0, 1) := by decide +kernel
theorem dX0_part_17 : decode cX0_part 17 = .ok (.getfield 23, 3) := by decide +kernel
theorem dX0_part_20 : decode cX0_part 20 = .ok (.iand, 1) := by decide +kernel
theorem dX0_part_21 : decode cX0_part 21 = .ok (.ireturn, 1) := by decide +kernel
set_option maxRecDepth 20000 in
theorem ggX0_sensed_X3_isIn : GoodIn wsX0_sensed wsX3_isIn := goodIn_r _ [4] (by decide +kernel) (by decide +kernel)
set_option maxRecDepth 20000 in
theorem gX0_sensed_X3_isIn_n29 : GoodIn wsX0_sensed (wsX3_isIn) := ggX0_sensed_X3_isIn
theorem dX0_sensed_0 : decode cX0_sensed 0 = .ok (.iload_n 1, 1) := by decide +kernel
theorem dX0_sensed_1 : decode cX0_sensed 1 = .ok (.aload_n 0, 1) := by decide +kernel
theorem dX0_sensed_2 : decode cX0_sensed 2 = .ok (.getfield 23, 3) := by decide +kernel
theorem dX0_sensed_5 : decode cX0_sensed 5 = .ok (.invokestatic 29, 3) := by decide +kernel
theorem dX0_sensed_8 : decode cX0_sensed 8 = .ok (.ifCond .eq 7, 3) := by decide +kernel
theorem dX0_sensed_11 : decode cX0_sensed 11 = .ok (.iconst 1, 1) := by decide +kernel
theorem dX0_sensed_12 : decode cX0_sensed 12 = .ok (.goto 4, 3) := by decide +kernel
theorem dX0_sensed_15 : decode cX0_sensed 15 = .ok (.iconst 0, 1) := by decide +kernel
theorem dX0_sensed_16 : decode cX0_sensed 16 = .ok (.ireturn, 1) := by decide +kernel
theorem dX1_init_0 : decode cX1_init 0 = .ok (.aload_n 0, 1) := by decide +kernel
theorem dX1_init_1 : decode cX1_init 1 = .ok (.invokespecial 3, 3) := by decide +kernel
theorem dX1_init_4 : decode cX1_init 4 = .ok (.aload_n 0, 1) := by decide +kernel
theorem dX1_init_5 : decode cX1_init 5 = .ok (.bipush 64, 2) := by decide +kernel
theorem dX1_init_7 : decode cX1_init 7 = .ok (.newarray .int, 2) := by decide +kernel
theorem dX1_init_9 : decode cX1_init 9 = .ok (.putfield 9, 3) := by decide +kernel
theorem dX1_init_12 : decode cX1_init 12 = .ok (.aload_n 0, 1) := by decide +kernel
theorem dX1_init_13 : decode cX1_init 13 = .ok (.bipush 16, 2) := by decide +kernel
theorem dX1_init_15 : decode cX1_init 15 = .ok (.newarray .int, 2) := by decide +kernel
theorem dX1_init_17 : decode cX1_init 17 = .ok (.putfield 15, 3) := by decide +kernel
theorem dX1_init_20 : decode cX1_init 20 = .ok (.return_, 1) := by decide +kernel
theorem dX1_open_0 : decode cX1_open 0 = .ok (.aload_n 0, 1) := by decide +kernel
theorem dX1_open_1 : decode cX1_open 1 = .ok (.iload_n 1, 1) := by decide +kernel
theorem dX1_open_2 : decode cX1_open 2 = .ok (.putfield 18, 3) := by decide +kernel
theorem dX1_open_5 : decode cX1_open 5 = .ok (.iconst 0, 1) := by decide +kernel
theorem dX1_open_6 : decode cX1_open 6 = .ok (.istore_n 2, 1) := by decide +kernel
theorem dX1_open_7 : decode cX1_open 7 = .ok (.iload_n 2, 1) := by decide +kernel
theorem dX1_open_8 : decode cX1_open 8 = .ok (.bipush 16, 2) := by decide +kernel
theorem dX1_open_10 : decode cX1_open 10 = .ok (.if_icmp .ge 23, 3) := by decide +kernel
theorem dX1_open_13 : decode cX1_open 13 = .ok (.aload_n 0, 1) := by decide +kernel
theorem dX1_open_14 : decode cX1_open 14 = .ok (.getfield 9, 3) := by decide +kernel
theorem dX1_open_17 : decode cX1_open 17 = .ok (.iload_n 2, 1) := by decide +kernel
theorem dX1_open_18 : decode cX1_open 18 = .ok (.iload_n 2, 1) := by decide +kernel
theorem dX1_open_19 : decode cX1_open 19 = .ok (.iastore, 1) := by decide +kernel
theorem dX1_open_20 : decode cX1_open 20 = .ok (.aload_n 0, 1) := by decide +kernel
theorem dX1_open_21 : decode cX1_open 21 = .ok (.getfield 15, 3) := by decide +kernel
theorem dX1_open_24 : decode cX1_open 24 = .ok (.iload_n 2, 1) := by decide +kernel
theorem dX1_open_25 : decode cX1_open 25 = .ok (.iconst 0, 1) := by decide +kernel
theorem dX1_open_26 : decode cX1_open 26 = .ok (.iastore, 1) := by decide +kernel
theorem dX1_open_27 : decode cX1_open 27 = .ok (.iinc 2 1, 3) := by decide +kernel
theorem dX1_open_30 : decode cX1_open 30 = .ok (.goto (-23), 3) := by decide +kernel
theorem dX1_open_33 : decode cX1_open 33 = .ok (.return_, 1) := by decide +kernel
set_option maxRecDepth 20000 in
theorem ggX1_step_X0_sensed : GoodIn wsX1_step wsX0_sensed := goodIn_r _ [7, 8, 9, 10, 11, 12, 13, 14, 15, 16] (by decide +kernel) (by decide +kernel)
set_option maxRecDepth 20000 in
theorem gX1_step_X0_sensed : GoodIn wsX1_step (wsV RX1 27 RX0 yX0_sensed wsX0_sensed) := goodIn_app (goodIn_of _ (by decide +kernel)) ggX1_step_X0_sensed
set_option maxRecDepth 20000 in
theorem ggX1_step_X3_isIn : GoodIn wsX1_step wsX3_isIn := goodIn_r _ [11] (by decide +kernel) (by decide +kernel)
set_option maxRecDepth 20000 in
theorem gX1_step_X3_isIn_n31 : GoodIn wsX1_step (wsX3_isIn) := ggX1_step_X3_isIn
theorem dX1_step_0 : decode cX1_step 0 = .ok (.bipush 16, 2) := by decide +kernel
theorem dX1_step_2 : decode cX1_step 2 = .ok (.iload_n 2, 1) := by decide +kernel
theorem dX1_step_3 : decode cX1_step 3 = .ok (.imul, 1) := by decide +kernel
theorem dX1_step_4 : decode cX1_step 4 = .ok (.istore_n 3, 1) := by decide +kernel
theorem dX1_step_5 : decode cX1_step 5 = .ok (.iconst 0, 1) := by decide +kernel
theorem dX1_step_6 : decode cX1_step 6 = .ok (.istore 4, 2) := by decide +kernel
theorem dX1_step_8 : decode cX1_step 8 = .ok (.iconst 0, 1) := by decide +kernel
theorem dX1_step_9 : decode cX1_step 9 = .ok (.istore 5, 2) := by decide +kernel
theorem dX1_step_11 : decode cX1_step 11 = .ok (.iload 5, 2) := by decide +kernel
theorem dX1_step_13 : decode cX1_step 13 = .ok (.bipush 16, 2) := by decide +kernel
theorem dX1_step_15 : decode cX1_step 15 = .ok (.if_icmp .ge 53, 3) := by decide +kernel
theorem dX1_step_18 : decode cX1_step 18 = .ok (.aload_n 1, 1) := by decide +kernel
theorem dX1_step_19 : decode cX1_step 19 = .ok (.getfield 22, 3) := by decide +kernel
theorem dX1_step_22 : decode cX1_step 22 = .ok (.aload_n 0, 1) := by decide +kernel
theorem dX1_step_23 : decode cX1_step 23 = .ok (.getfield 9, 3) := by decide +kernel
theorem dX1_step_26 : decode cX1_step 26 = .ok (.iload_n 3, 1) := by decide +kernel
theorem dX1_step_27 : decode cX1_step 27 = .ok (.iload 5, 2) := by decide +kernel
theorem dX1_step_29 : decode cX1_step 29 = .ok (.iadd, 1) := by decide +kernel
theorem dX1_step_30 : decode cX1_step 30 = .ok (.iaload, 1) := by decide +kernel
theorem dX1_step_31 : decode cX1_step 31 = .ok (.iaload, 1) := by decide +kernel
theorem dX1_step_32 : decode cX1_step 32 = .ok (.istore 6, 2) := by decide +kernel
theorem dX1_step_34 : decode cX1_step 34 = .ok (.aload_n 0, 1) := by decide +kernel
theorem dX1_step_35 : decode cX1_step 35 = .ok (.getfield 9, 3) := by decide +kernel
theorem dX1_step_38 : decode cX1_step 38 = .ok (.iload_n 3, 1) := by decide +kernel
theorem dX1_step_39 : decode cX1_step 39 = .ok (.bipush 16, 2) := by decide +kernel
theorem dX1_step_41 : decode cX1_step 41 = .ok (.iadd, 1) := by decide +kernel
theorem dX1_step_42 : decode cX1_step 42 = .ok (.iload 5, 2) := by decide +kernel
theorem dX1_step_44 : decode cX1_step 44 = .ok (.iadd, 1) := by decide +kernel
theorem dX1_step_45 : decode cX1_step 45 = .ok (.iload 6, 2) := by decide +kernel
theorem dX1_step_47 : decode cX1_step 47 = .ok (.iastore, 1) := by decide +kernel
theorem dX1_step_48 : decode cX1_step 48 = .ok (.iload 4, 2) := by decide +kernel
theorem dX1_step_50 : decode cX1_step 50 = .ok (.aload_n 1, 1) := by decide +kernel
theorem dX1_step_51 : decode cX1_step 51 = .ok (.iload 6, 2) := by decide +kernel
theorem dX1_step_53 : decode cX1_step 53 = .ok (.invokevirtual 27, 3) := by decide +kernel
theorem dX1_step_56 : decode cX1_step 56 = .ok (.iload 5, 2) := by decide +kernel
theorem dX1_step_58 : decode cX1_step 58 = .ok (.ishl, 1) := by decide +kernel
theorem dX1_step_59 : decode cX1_step 59 = .ok (.ior, 1) := by decide +kernel
theorem dX1_step_60 : decode cX1_step 60 = .ok (.istore 4, 2) := by decide +kernel
theorem dX1_step_62 : decode cX1_step 62 = .ok (.iinc 5 1, 3) := by decide +kernel
theorem dX1_step_65 : decode cX1_step 65 = .ok (.goto (-54), 3) := by decide +kernel
theorem dX1_step_68 : decode cX1_step 68 = .ok (.iconst 0, 1) := by decide +kernel
theorem dX1_step_69 : decode cX1_step 69 = .ok (.istore 5, 2) := by decide +kernel
theorem dX1_step_71 : decode cX1_step 71 = .ok (.iload 5, 2) := by decide +kernel
theorem dX1_step_73 : decode cX1_step 73 = .ok (.bipush 16, 2) := by decide +kernel
theorem dX1_step_75 : decode cX1_step 75 = .ok (.if_icmp .ge 38, 3) := by decide +kernel
theorem dX1_step_78 : decode cX1_step 78 = .ok (.aload_n 0, 1) := by decide +kernel
theorem dX1_step_79 : decode cX1_step 79 = .ok (.getfield 15, 3) := by decide +kernel
theorem dX1_step_82 : decode cX1_step 82 = .ok (.iload 5, 2) := by decide +kernel
theorem dX1_step_84 : decode cX1_step 84 = .ok (.dup2, 1) := by decide +kernel
theorem dX1_step_85 : decode cX1_step 85 = .ok (.iaload, 1) := by decide +kernel
theorem dX1_step_86 : decode cX1_step 86 = .ok (.iload 5, 2) := by decide +kernel
theorem dX1_step_88 : decode cX1_step 88 = .ok (.iload 4, 2) := by decide +kernel
theorem dX1_step_90 : decode cX1_step 90 = .ok (.invokestatic 31, 3) := by decide +kernel
theorem dX1_step_93 : decode cX1_step 93 = .ok (.ifCond .eq 10, 3) := by decide +kernel
theorem dX1_step_96 : decode cX1_step 96 = .ok (.iload 4, 2) := by decide +kernel
theorem dX1_step_98 : decode cX1_step 98 = .ok (.iconst (-1), 1) := by decide +kernel
theorem dX1_step_99 : decode cX1_step 99 = .ok (.ixor, 1) := by decide +kernel
theorem dX1_step_100 : decode cX1_step 100 = .ok (.goto 5, 3) := by decide +kernel
theorem dX1_step_103 : decode cX1_step 103 = .ok (.iload 4, 2) := by decide +kernel
theorem dX1_step_105 : decode cX1_step 105 = .ok (.ior, 1) := by decide +kernel
theorem dX1_step_106 : decode cX1_step 106 = .ok (.iastore, 1) := by decide +kernel
theorem dX1_step_107 : decode cX1_step 107 = .ok (.iinc 5 1, 3) := by decide +kernel
theorem dX1_step_110 : decode cX1_step 110 = .ok (.goto (-39), 3) := by decide +kernel
theorem dX1_step_113 : decode cX1_step 113 = .ok (.return_, 1) := by decide +kernel
set_option maxRecDepth 20000 in
theorem ggX1_firstAlike_X3_isIn : GoodIn wsX1_firstAlike wsX3_isIn := goodIn_r _ [5] (by decide +kernel) (by decide +kernel)
set_option maxRecDepth 20000 in
theorem gX1_firstAlike_X3_isIn_n31 : GoodIn wsX1_firstAlike (wsX3_isIn) := ggX1_firstAlike_X3_isIn
theorem dX1_firstAlike_0 : decode cX1_firstAlike 0 = .ok (.iconst 0, 1) := by decide +kernel
theorem dX1_firstAlike_1 : decode cX1_firstAlike 1 = .ok (.istore_n 1, 1) := by decide +kernel
theorem dX1_firstAlike_2 : decode cX1_firstAlike 2 = .ok (.iload_n 1, 1) := by decide +kernel
theorem dX1_firstAlike_3 : decode cX1_firstAlike 3 = .ok (.bipush 16, 2) := by decide +kernel
theorem dX1_firstAlike_5 : decode cX1_firstAlike 5 = .ok (.if_icmp .ge 67, 3) := by decide +kernel
theorem dX1_firstAlike_8 : decode cX1_firstAlike 8 = .ok (.iload_n 1, 1) := by decide +kernel
theorem dX1_firstAlike_9 : decode cX1_firstAlike 9 = .ok (.iconst 1, 1) := by decide +kernel
theorem dX1_firstAlike_10 : decode cX1_firstAlike 10 = .ok (.iadd, 1) := by decide +kernel
theorem dX1_firstAlike_11 : decode cX1_firstAlike 11 = .ok (.istore_n 2, 1) := by decide +kernel
theorem dX1_firstAlike_12 : decode cX1_firstAlike 12 = .ok (.iload_n 2, 1) := by decide +kernel
theorem dX1_firstAlike_13 : decode cX1_firstAlike 13 = .ok (.bipush 16, 2) := by decide +kernel
theorem dX1_firstAlike_15 : decode cX1_firstAlike 15 = .ok (.if_icmp .ge 51, 3) := by decide +kernel
theorem dX1_firstAlike_18 : decode cX1_firstAlike 18 = .ok (.iload_n 1, 1) := by decide +kernel
theorem dX1_firstAlike_19 : decode cX1_firstAlike 19 = .ok (.aload_n 0, 1) := by decide +kernel
theorem dX1_firstAlike_20 : decode cX1_firstAlike 20 = .ok (.getfield 18, 3) := by decide +kernel
theorem dX1_firstAlike_23 : decode cX1_firstAlike 23 = .ok (.invokestatic 31, 3) := by decide +kernel
theorem dX1_firstAlike_26 : decode cX1_firstAlike 26 = .ok (.ifCond .eq 34, 3) := by decide +kernel
theorem dX1_firstAlike_29 : decode cX1_firstAlike 29 = .ok (.iload_n 2, 1) := by decide +kernel
theorem dX1_firstAlike_30 : decode cX1_firstAlike 30 = .ok (.aload_n 0, 1) := by decide +kernel
theorem dX1_firstAlike_31 : decode cX1_firstAlike 31 = .ok (.getfield 18, 3) := by decide +kernel
theorem dX1_firstAlike_34 : decode cX1_firstAlike 34 = .ok (.invokestatic 31, 3) := by decide +kernel
theorem dX1_firstAlike_37 : decode cX1_firstAlike 37 = .ok (.ifCond .eq 23, 3) := by decide +kernel
theorem dX1_firstAlike_40 : decode cX1_firstAlike 40 = .ok (.iload_n 2, 1) := by decide +kernel
theorem dX1_firstAlike_41 : decode cX1_firstAlike 41 = .ok (.aload_n 0, 1) := by decide +kernel
theorem dX1_firstAlike_42 : decode cX1_firstAlike 42 = .ok (.getfield 15, 3) := by decide +kernel
theorem dX1_firstAlike_45 : decode cX1_firstAlike 45 = .ok (.iload_n 1, 1) := by decide +kernel
theorem dX1_firstAlike_46 : decode cX1_firstAlike 46 = .ok (.iaload, 1) := by decide +kernel
theorem dX1_firstAlike_47 : decode cX1_firstAlike 47 = .ok (.invokestatic 31, 3) := by decide +kernel
theorem dX1_firstAlike_50 : decode cX1_firstAlike 50 = .ok (.ifCond .ne 10, 3) := by decide +kernel
theorem dX1_firstAlike_53 : decode cX1_firstAlike 53 = .ok (.bipush 16, 2) := by decide +kernel
theorem dX1_firstAlike_55 : decode cX1_firstAlike 55 = .ok (.iload_n 1, 1) := by decide +kernel
theorem dX1_firstAlike_56 : decode cX1_firstAlike 56 = .ok (.imul, 1) := by decide +kernel
theorem dX1_firstAlike_57 : decode cX1_firstAlike 57 = .ok (.iload_n 2, 1) := by decide +kernel
theorem dX1_firstAlike_58 : decode cX1_firstAlike 58 = .ok (.iadd, 1) := by decide +kernel
theorem dX1_firstAlike_59 : decode cX1_firstAlike 59 = .ok (.ireturn, 1) := by decide +kernel
theorem dX1_firstAlike_60 : decode cX1_firstAlike 60 = .ok (.iinc 2 1, 3) := by decide +kernel
theorem dX1_firstAlike_63 : decode cX1_firstAlike 63 = .ok (.goto (-51), 3) := by decide +kernel
theorem dX1_firstAlike_66 : decode cX1_firstAlike 66 = .ok (.iinc 1 1, 3) := by decide +kernel
theorem dX1_firstAlike_69 : decode cX1_firstAlike 69 = .ok (.goto (-67), 3) := by decide +kernel
theorem dX1_firstAlike_72 : decode cX1_firstAlike 72 = .ok (.iconst (-1), 1) := by decide +kernel
theorem dX1_firstAlike_73 : decode cX1_firstAlike 73 = .ok (.ireturn, 1) := by decide +kernel
theorem dX2_init_0 : decode cX2_init 0 = .ok (.aload_n 0, 1) := by decide +kernel
theorem dX2_init_1 : decode cX2_init 1 = .ok (.invokespecial 1, 3) := by decide +kernel
theorem dX2_init_4 : decode cX2_init 4 = .ok (.aload_n 0, 1) := by decide +kernel
theorem dX2_init_5 : decode cX2_init 5 = .ok (.bipush 93, 2) := by decide +kernel
theorem dX2_init_7 : decode cX2_init 7 = .ok (.newarray .int, 2) := by decide +kernel
theorem dX2_init_9 : decode cX2_init 9 = .ok (.putfield 9, 3) := by decide +kernel
theorem dX2_init_12 : decode cX2_init 12 = .ok (.return_, 1) := by decide +kernel
theorem dX2_empty_0 : decode cX2_empty 0 = .ok (.aload_n 0, 1) := by decide +kernel
theorem dX2_empty_1 : decode cX2_empty 1 = .ok (.iconst 0, 1) := by decide +kernel
theorem dX2_empty_2 : decode cX2_empty 2 = .ok (.putfield 13, 3) := by decide +kernel
theorem dX2_empty_5 : decode cX2_empty 5 = .ok (.return_, 1) := by decide +kernel
theorem dX2_cell_0 : decode cX2_cell 0 = .ok (.aload_n 0, 1) := by decide +kernel
theorem dX2_cell_1 : decode cX2_cell 1 = .ok (.getfield 9, 3) := by decide +kernel
theorem dX2_cell_4 : decode cX2_cell 4 = .ok (.iconst 3, 1) := by decide +kernel
theorem dX2_cell_5 : decode cX2_cell 5 = .ok (.iload_n 1, 1) := by decide +kernel
theorem dX2_cell_6 : decode cX2_cell 6 = .ok (.imul, 1) := by decide +kernel
theorem dX2_cell_7 : decode cX2_cell 7 = .ok (.iload_n 2, 1) := by decide +kernel
theorem dX2_cell_8 : decode cX2_cell 8 = .ok (.iadd, 1) := by decide +kernel
theorem dX2_cell_9 : decode cX2_cell 9 = .ok (.iaload, 1) := by decide +kernel
theorem dX2_cell_10 : decode cX2_cell 10 = .ok (.ireturn, 1) := by decide +kernel
theorem dX2_setAction_0 : decode cX2_setAction 0 = .ok (.aload_n 0, 1) := by decide +kernel
theorem dX2_setAction_1 : decode cX2_setAction 1 = .ok (.getfield 9, 3) := by decide +kernel
theorem dX2_setAction_4 : decode cX2_setAction 4 = .ok (.iconst 3, 1) := by decide +kernel
theorem dX2_setAction_5 : decode cX2_setAction 5 = .ok (.iload_n 1, 1) := by decide +kernel
theorem dX2_setAction_6 : decode cX2_setAction 6 = .ok (.imul, 1) := by decide +kernel
theorem dX2_setAction_7 : decode cX2_setAction 7 = .ok (.iload_n 2, 1) := by decide +kernel
theorem dX2_setAction_8 : decode cX2_setAction 8 = .ok (.iastore, 1) := by decide +kernel
theorem dX2_setAction_9 : decode cX2_setAction 9 = .ok (.return_, 1) := by decide +kernel
set_option maxRecDepth 20000 in
theorem ggX2_open_X2_setAction : GoodIn wsX2_open wsX2_setAction := goodIn_r _ [6, 7, 8, 9] (by decide +kernel) (by decide +kernel)
set_option maxRecDepth 20000 in
theorem gX2_open_X2_setAction : GoodIn wsX2_open (wsV RX2 17 RX2 yX2_setAction wsX2_setAction) := goodIn_app (goodIn_of _ (by decide +kernel)) ggX2_open_X2_setAction
theorem dX2_open_0 : decode cX2_open 0 = .ok (.aload_n 0, 1) := by decide +kernel
theorem dX2_open_1 : decode cX2_open 1 = .ok (.aload_n 0, 1) := by decide +kernel
theorem dX2_open_2 : decode cX2_open 2 = .ok (.getfield 13, 3) := by decide +kernel
theorem dX2_open_5 : decode cX2_open 5 = .ok (.bipush (-2), 2) := by decide +kernel
theorem dX2_open_7 : decode cX2_open 7 = .ok (.invokevirtual 17, 3) := by decide +kernel
theorem dX2_open_10 : decode cX2_open 10 = .ok (.aload_n 0, 1) := by decide +kernel
theorem dX2_open_11 : decode cX2_open 11 = .ok (.dup, 1) := by decide +kernel
theorem dX2_open_12 : decode cX2_open 12 = .ok (.getfield 13, 3) := by decide +kernel
theorem dX2_open_15 : decode cX2_open 15 = .ok (.iconst 1, 1) := by decide +kernel
theorem dX2_open_16 : decode cX2_open 16 = .ok (.iadd, 1) := by decide +kernel
theorem dX2_open_17 : decode cX2_open 17 = .ok (.putfield 13, 3) := by decide +kernel
theorem dX2_open_20 : decode cX2_open 20 = .ok (.aload_n 0, 1) := by decide +kernel
theorem dX2_open_21 : decode cX2_open 21 = .ok (.getfield 13, 3) := by decide +kernel
theorem dX2_open_24 : decode cX2_open 24 = .ok (.iconst 1, 1) := by decide +kernel
theorem dX2_open_25 : decode cX2_open 25 = .ok (.isub, 1) := by decide +kernel
theorem dX2_open_26 : decode cX2_open 26 = .ok (.ireturn, 1) := by decide +kernel
set_option maxRecDepth 20000 in
theorem ggX2_close_X2_cell : GoodIn wsX2_close wsX2_cell := goodIn_r _ [7, 2, 12, 13] (by decide +kernel) (by decide +kernel)
set_option maxRecDepth 20000 in
theorem gX2_close_X2_cell : GoodIn wsX2_close (wsV RX2 21 RX2 yX2_cell wsX2_cell) := goodIn_app (goodIn_of _ (by decide +kernel)) ggX2_close_X2_cell
set_option maxRecDepth 20000 in
theorem ggX2_close_X2_setAction : GoodIn wsX2_close wsX2_setAction := goodIn_r _ [11, 2, 12, 13] (by decide +kernel) (by decide +kernel)
set_option maxRecDepth 20000 in
theorem gX2_close_X2_setAction : GoodIn wsX2_close (wsV RX2 17 RX2 yX2_setAction wsX2_setAction) := goodIn_app (goodIn_of _ (by decide +kernel)) ggX2_close_X2_setAction
theorem dX2_close_0 : decode cX2_close 0 = .ok (.iconst 0, 1) := by decide +kernel
theorem dX2_close_1 : decode cX2_close 1 = .ok (.istore 5, 2) := by decide +kernel
theorem dX2_close_3 : decode cX2_close 3 = .ok (.iload 5, 2) := by decide +kernel
theorem dX2_close_5 : decode cX2_close 5 = .ok (.iload_n 1, 1) := by decide +kernel
theorem dX2_close_6 : decode cX2_close 6 = .ok (.if_icmp .ge 51, 3) := by decide +kernel
theorem dX2_close_9 : decode cX2_close 9 = .ok (.aload_n 0, 1) := by decide +kernel
theorem dX2_close_10 : decode cX2_close 10 = .ok (.iload 5, 2) := by decide +kernel
theorem dX2_close_12 : decode cX2_close 12 = .ok (.iconst 0, 1) := by decide +kernel
theorem dX2_close_13 : decode cX2_close 13 = .ok (.invokevirtual 21, 3) := by decide +kernel
theorem dX2_close_16 : decode cX2_close 16 = .ok (.iload_n 2, 1) := by decide +kernel
theorem dX2_close_17 : decode cX2_close 17 = .ok (.if_icmp .ne 34, 3) := by decide +kernel
theorem dX2_close_20 : decode cX2_close 20 = .ok (.aload_n 0, 1) := by decide +kernel
theorem dX2_close_21 : decode cX2_close 21 = .ok (.iload 5, 2) := by decide +kernel
theorem dX2_close_23 : decode cX2_close 23 = .ok (.iconst 1, 1) := by decide +kernel
theorem dX2_close_24 : decode cX2_close 24 = .ok (.invokevirtual 21, 3) := by decide +kernel
theorem dX2_close_27 : decode cX2_close 27 = .ok (.iload_n 3, 1) := by decide +kernel
theorem dX2_close_28 : decode cX2_close 28 = .ok (.if_icmp .ne 23, 3) := by decide +kernel
theorem dX2_close_31 : decode cX2_close 31 = .ok (.aload_n 0, 1) := by decide +kernel
theorem dX2_close_32 : decode cX2_close 32 = .ok (.iload 5, 2) := by decide +kernel
theorem dX2_close_34 : decode cX2_close 34 = .ok (.iconst 2, 1) := by decide +kernel
theorem dX2_close_35 : decode cX2_close 35 = .ok (.invokevirtual 21, 3) := by decide +kernel
theorem dX2_close_38 : decode cX2_close 38 = .ok (.iload 4, 2) := by decide +kernel
theorem dX2_close_40 : decode cX2_close 40 = .ok (.if_icmp .ne 11, 3) := by decide +kernel
theorem dX2_close_43 : decode cX2_close 43 = .ok (.aload_n 0, 1) := by decide +kernel
theorem dX2_close_44 : decode cX2_close 44 = .ok (.iload_n 1, 1) := by decide +kernel
theorem dX2_close_45 : decode cX2_close 45 = .ok (.putfield 13, 3) := by decide +kernel
theorem dX2_close_48 : decode cX2_close 48 = .ok (.iload 5, 2) := by decide +kernel
theorem dX2_close_50 : decode cX2_close 50 = .ok (.ireturn, 1) := by decide +kernel
theorem dX2_close_51 : decode cX2_close 51 = .ok (.iinc 5 1, 3) := by decide +kernel
theorem dX2_close_54 : decode cX2_close 54 = .ok (.goto (-51), 3) := by decide +kernel
theorem dX2_close_57 : decode cX2_close 57 = .ok (.aload_n 0, 1) := by decide +kernel
theorem dX2_close_58 : decode cX2_close 58 = .ok (.iload_n 1, 1) := by decide +kernel
theorem dX2_close_59 : decode cX2_close 59 = .ok (.iload_n 2, 1) := by decide +kernel
theorem dX2_close_60 : decode cX2_close 60 = .ok (.invokevirtual 17, 3) := by decide +kernel
theorem dX2_close_63 : decode cX2_close 63 = .ok (.aload_n 0, 1) := by decide +kernel
theorem dX2_close_64 : decode cX2_close 64 = .ok (.getfield 9, 3) := by decide +kernel
theorem dX2_close_67 : decode cX2_close 67 = .ok (.iconst 3, 1) := by decide +kernel
theorem dX2_close_68 : decode cX2_close 68 = .ok (.iload_n 1, 1) := by decide +kernel
theorem dX2_close_69 : decode cX2_close 69 = .ok (.imul, 1) := by decide +kernel
theorem dX2_close_70 : decode cX2_close 70 = .ok (.iconst 1, 1) := by decide +kernel
theorem dX2_close_71 : decode cX2_close 71 = .ok (.iadd, 1) := by decide +kernel
theorem dX2_close_72 : decode cX2_close 72 = .ok (.iload_n 3, 1) := by decide +kernel
theorem dX2_close_73 : decode cX2_close 73 = .ok (.iastore, 1) := by decide +kernel
theorem dX2_close_74 : decode cX2_close 74 = .ok (.aload_n 0, 1) := by decide +kernel
theorem dX2_close_75 : decode cX2_close 75 = .ok (.getfield 9, 3) := by decide +kernel
theorem dX2_close_78 : decode cX2_close 78 = .ok (.iconst 3, 1) := by decide +kernel
theorem dX2_close_79 : decode cX2_close 79 = .ok (.iload_n 1, 1) := by decide +kernel
theorem dX2_close_80 : decode cX2_close 80 = .ok (.imul, 1) := by decide +kernel
theorem dX2_close_81 : decode cX2_close 81 = .ok (.iconst 1, 1) := by decide +kernel
theorem dX2_close_82 : decode cX2_close 82 = .ok (.iadd, 1) := by decide +kernel
theorem dX2_close_83 : decode cX2_close 83 = .ok (.iconst 1, 1) := by decide +kernel
theorem dX2_close_84 : decode cX2_close 84 = .ok (.iadd, 1) := by decide +kernel
theorem dX2_close_85 : decode cX2_close 85 = .ok (.iload 4, 2) := by decide +kernel
theorem dX2_close_87 : decode cX2_close 87 = .ok (.iastore, 1) := by decide +kernel
theorem dX2_close_88 : decode cX2_close 88 = .ok (.iload_n 1, 1) := by decide +kernel
theorem dX2_close_89 : decode cX2_close 89 = .ok (.ireturn, 1) := by decide +kernel
set_option maxRecDepth 20000 in
theorem ggX3_init_X2_init : GoodIn wsX3_init wsX2_init := goodIn_r _ [19, 20, 2, 3, 14, 21, 56, 57] (by decide +kernel) (by decide +kernel)
set_option maxRecDepth 20000 in
theorem gX3_init_X2_init_n17 : GoodIn wsX3_init (wsX2_init) := ggX3_init_X2_init
set_option maxRecDepth 20000 in
theorem ggX3_init_X1_init : GoodIn wsX3_init wsX1_init := goodIn_r _ [23, 24, 2, 3, 14, 25, 26, 58, 59, 60] (by decide +kernel) (by decide +kernel)
set_option maxRecDepth 20000 in
theorem gX3_init_X1_init_n24 : GoodIn wsX3_init (wsX1_init) := ggX3_init_X1_init
set_option maxRecDepth 20000 in
theorem ggX3_init_X0_init : GoodIn wsX3_init wsX0_init := goodIn_r _ [28, 29, 2, 3, 14, 30, 61, 62, 63, 64, 65] (by decide +kernel) (by decide +kernel)
set_option maxRecDepth 20000 in
theorem gX3_init_X0_init_n33 : GoodIn wsX3_init (wsX0_init) := ggX3_init_X0_init
set_option maxRecDepth 20000 in
theorem ggX3_init_X3_forgetAll : GoodIn wsX3_init wsX3_forgetAll := goodIn_r _ [35, 5, 9, 36, 37, 38, 39, 40, 41, 42, 43, 44, 8, 45, 46, 47, 48, 49, 50, 51, 52, 53, 54, 55, 61, 62, 63, 64, 65, 56, 57] (by decide +kernel) (by decide +kernel)
set_option maxRecDepth 20000 in
theorem gX3_init_X3_forgetAll : GoodIn wsX3_init (wsV RX3 34 RX3 yX3_forgetAll wsX3_forgetAll) := goodIn_app (goodIn_of _ (by decide +kernel)) ggX3_init_X3_forgetAll
theorem dX3_init_0 : decode cX3_init 0 = .ok (.aload_n 0, 1) := by decide +kernel
theorem dX3_init_1 : decode cX3_init 1 = .ok (.invokespecial 1, 3) := by decide +kernel
theorem dX3_init_4 : decode cX3_init 4 = .ok (.aload_n 0, 1) := by decide +kernel
theorem dX3_init_5 : decode cX3_init 5 = .ok (.bipush 8, 2) := by decide +kernel
theorem dX3_init_7 : decode cX3_init 7 = .ok (.anewarray 9, 3) := by decide +kernel
theorem dX3_init_10 : decode cX3_init 10 = .ok (.putfield 11, 3) := by decide +kernel
theorem dX3_init_13 : decode cX3_init 13 = .ok (.aload_n 0, 1) := by decide +kernel
theorem dX3_init_14 : decode cX3_init 14 = .ok (.new 15, 3) := by decide +kernel
theorem dX3_init_17 : decode cX3_init 17 = .ok (.dup, 1) := by decide +kernel
theorem dX3_init_18 : decode cX3_init 18 = .ok (.invokespecial 17, 3) := by decide +kernel
theorem dX3_init_21 : decode cX3_init 21 = .ok (.putfield 18, 3) := by decide +kernel
theorem dX3_init_24 : decode cX3_init 24 = .ok (.aload_n 0, 1) := by decide +kernel
theorem dX3_init_25 : decode cX3_init 25 = .ok (.new 22, 3) := by decide +kernel
theorem dX3_init_28 : decode cX3_init 28 = .ok (.dup, 1) := by decide +kernel
theorem dX3_init_29 : decode cX3_init 29 = .ok (.invokespecial 24, 3) := by decide +kernel
theorem dX3_init_32 : decode cX3_init 32 = .ok (.putfield 25, 3) := by decide +kernel
theorem dX3_init_35 : decode cX3_init 35 = .ok (.aload_n 0, 1) := by decide +kernel
theorem dX3_init_36 : decode cX3_init 36 = .ok (.iconst 4, 1) := by decide +kernel
theorem dX3_init_37 : decode cX3_init 37 = .ok (.newarray .int, 2) := by decide +kernel
theorem dX3_init_39 : decode cX3_init 39 = .ok (.putfield 29, 3) := by decide +kernel
theorem dX3_init_42 : decode cX3_init 42 = .ok (.iconst 0, 1) := by decide +kernel
theorem dX3_init_43 : decode cX3_init 43 = .ok (.istore_n 1, 1) := by decide +kernel
theorem dX3_init_44 : decode cX3_init 44 = .ok (.iload_n 1, 1) := by decide +kernel
theorem dX3_init_45 : decode cX3_init 45 = .ok (.bipush 8, 2) := by decide +kernel
theorem dX3_init_47 : decode cX3_init 47 = .ok (.if_icmp .ge 22, 3) := by decide +kernel
theorem dX3_init_50 : decode cX3_init 50 = .ok (.aload_n 0, 1) := by decide +kernel
theorem dX3_init_51 : decode cX3_init 51 = .ok (.getfield 11, 3) := by decide +kernel
theorem dX3_init_54 : decode cX3_init 54 = .ok (.iload_n 1, 1) := by decide +kernel
theorem dX3_init_55 : decode cX3_init 55 = .ok (.new 9, 3) := by decide +kernel
theorem dX3_init_58 : decode cX3_init 58 = .ok (.dup, 1) := by decide +kernel
theorem dX3_init_59 : decode cX3_init 59 = .ok (.invokespecial 33, 3) := by decide +kernel
theorem dX3_init_62 : decode cX3_init 62 = .ok (.aastore, 1) := by decide +kernel
theorem dX3_init_63 : decode cX3_init 63 = .ok (.iinc 1 1, 3) := by decide +kernel
theorem dX3_init_66 : decode cX3_init 66 = .ok (.goto (-22), 3) := by decide +kernel
theorem dX3_init_69 : decode cX3_init 69 = .ok (.aload_n 0, 1) := by decide +kernel
theorem dX3_init_70 : decode cX3_init 70 = .ok (.invokevirtual 34, 3) := by decide +kernel
theorem dX3_init_73 : decode cX3_init 73 = .ok (.return_, 1) := by decide +kernel
set_option maxRecDepth 20000 in
theorem ggX3_clear_X3_forgetAll : GoodIn wsX3_clear wsX3_forgetAll := goodIn_r _ [6, 1, 7, 8, 9, 10, 11, 12, 13, 14, 15, 16, 17, 18, 19, 20, 21, 22, 23, 24, 25, 26, 27, 28, 29, 30, 31, 32, 33, 34, 35] (by decide +kernel) (by decide +kernel)
set_option maxRecDepth 20000 in
theorem gX3_clear_X3_forgetAll : GoodIn wsX3_clear (wsV RX3 34 RX3 yX3_forgetAll wsX3_forgetAll) := goodIn_app (goodIn_of _ (by decide +kernel)) ggX3_clear_X3_forgetAll
theorem dX3_clear_0 : decode cX3_clear 0 = .ok (.iconst 0, 1) := by decide +kernel
theorem dX3_clear_1 : decode cX3_clear 1 = .ok (.istore_n 1, 1) := by decide +kernel
theorem dX3_clear_2 : decode cX3_clear 2 = .ok (.iconst 0, 1) := by decide +kernel
theorem dX3_clear_3 : decode cX3_clear 3 = .ok (.istore_n 2, 1) := by decide +kernel
theorem dX3_clear_4 : decode cX3_clear 4 = .ok (.iload_n 2, 1) := by decide +kernel
theorem dX3_clear_5 : decode cX3_clear 5 = .ok (.bipush 8, 2) := by decide +kernel
theorem dX3_clear_7 : decode cX3_clear 7 = .ok (.if_icmp .ge 24, 3) := by decide +kernel
theorem dX3_clear_10 : decode cX3_clear 10 = .ok (.aload_n 0, 1) := by decide +kernel
theorem dX3_clear_11 : decode cX3_clear 11 = .ok (.getfield 11, 3) := by decide +kernel
theorem dX3_clear_14 : decode cX3_clear 14 = .ok (.iload_n 2, 1) := by decide +kernel
theorem dX3_clear_15 : decode cX3_clear 15 = .ok (.aaload, 1) := by decide +kernel
theorem dX3_clear_16 : decode cX3_clear 16 = .ok (.getfield 37, 3) := by decide +kernel
theorem dX3_clear_19 : decode cX3_clear 19 = .ok (.ifCond .eq 6, 3) := by decide +kernel
theorem dX3_clear_22 : decode cX3_clear 22 = .ok (.iinc 1 1, 3) := by decide +kernel
theorem dX3_clear_25 : decode cX3_clear 25 = .ok (.iinc 2 1, 3) := by decide +kernel
theorem dX3_clear_28 : decode cX3_clear 28 = .ok (.goto (-24), 3) := by decide +kernel
theorem dX3_clear_31 : decode cX3_clear 31 = .ok (.aload_n 0, 1) := by decide +kernel
theorem dX3_clear_32 : decode cX3_clear 32 = .ok (.invokevirtual 34, 3) := by decide +kernel
theorem dX3_clear_35 : decode cX3_clear 35 = .ok (.iload_n 1, 1) := by decide +kernel
theorem dX3_clear_36 : decode cX3_clear 36 = .ok (.ireturn, 1) := by decide +kernel
set_option maxRecDepth 20000 in
theorem ggX3_action_X3_needNumber : GoodIn wsX3_action wsX3_needNumber := goodIn_ca (goodIn_r _ [8, 9, 10] (by decide +kernel) (by decide +kernel)) (goodIn_sub (fun _ h => List.mem_cons_of_mem _ (List.mem_append_right _ h)) (by decide +kernel))
set_option maxRecDepth 20000 in
theorem gX3_action_X3_needNumber : GoodIn wsX3_action (va_wsS RX3 41 yX3_needNumber wsX3_needNumber) := goodIn_app (goodIn_of _ (by decide +kernel)) ggX3_action_X3_needNumber
set_option maxRecDepth 20000 in
theorem ggX3_action_X3_needBits : GoodIn wsX3_action wsX3_needBits := goodIn_ca (goodIn_r _ [13, 1, 2] (by decide +kernel) (by decide +kernel)) (goodIn_sub (fun _ h => List.mem_cons_of_mem _ (List.mem_append_left _ (List.mem_append_right _ h))) (by decide +kernel))
set_option maxRecDepth 20000 in
theorem gX3_action_X3_needBits : GoodIn wsX3_action (va_wsS RX3 45 yX3_needBits wsX3_needBits) := goodIn_app (goodIn_of _ (by decide +kernel)) ggX3_action_X3_needBits
set_option maxRecDepth 20000 in
theorem ggX3_action_X3_demanded : GoodIn wsX3_action wsX3_demanded := goodIn_r _ [16] (by decide +kernel) (by decide +kernel)
set_option maxRecDepth 20000 in
theorem gX3_action_X3_demanded : GoodIn wsX3_action (va_wsS RX3 56 yX3_demanded wsX3_demanded) := goodIn_app (goodIn_of _ (by decide +kernel)) ggX3_action_X3_demanded
set_option maxRecDepth 20000 in
theorem ggX3_action_X0_begin : GoodIn wsX3_action wsX0_begin := goodIn_r _ [21, 22, 23, 24, 25, 26, 36, 37, 38, 39, 40] (by decide +kernel) (by decide +kernel)
set_option maxRecDepth 20000 in
theorem gX3_action_X0_begin : GoodIn wsX3_action (wsV RX3 63 RX0 yX0_begin wsX0_begin) := goodIn_app (goodIn_of _ (by decide +kernel)) ggX3_action_X0_begin
theorem dX3_action_0 : decode cX3_action 0 = .ok (.iload_n 1, 1) := by decide +kernel
theorem dX3_action_1 : decode cX3_action 1 = .ok (.invokestatic 41, 3) := by decide +kernel
theorem dX3_action_4 : decode cX3_action 4 = .ok (.iload_n 2, 1) := by decide +kernel
theorem dX3_action_5 : decode cX3_action 5 = .ok (.iload_n 3, 1) := by decide +kernel
theorem dX3_action_6 : decode cX3_action 6 = .ok (.invokestatic 45, 3) := by decide +kernel
theorem dX3_action_9 : decode cX3_action 9 = .ok (.iload 4, 2) := by decide +kernel
theorem dX3_action_11 : decode cX3_action 11 = .ok (.iconst (-1), 1) := by decide +kernel
theorem dX3_action_12 : decode cX3_action 12 = .ok (.if_icmp .lt 9, 3) := by decide +kernel
theorem dX3_action_15 : decode cX3_action 15 = .ok (.iload 4, 2) := by decide +kernel
theorem dX3_action_17 : decode cX3_action 17 = .ok (.iconst 4, 1) := by decide +kernel
theorem dX3_action_18 : decode cX3_action 18 = .ok (.if_icmp .lt 13, 3) := by decide +kernel
theorem dX3_action_21 : decode cX3_action 21 = .ok (.new 49, 3) := by decide +kernel
theorem dX3_action_24 : decode cX3_action 24 = .ok (.dup, 1) := by decide +kernel
theorem dX3_action_25 : decode cX3_action 25 = .ok (.ldc 51, 2) := by decide +kernel
theorem dX3_action_27 : decode cX3_action 27 = .ok (.invokespecial 53, 3) := by decide +kernel
theorem dX3_action_30 : decode cX3_action 30 = .ok (.athrow, 1) := by decide +kernel
theorem dX3_action_31 : decode cX3_action 31 = .ok (.aload_n 0, 1) := by decide +kernel
theorem dX3_action_32 : decode cX3_action 32 = .ok (.getfield 11, 3) := by decide +kernel
theorem dX3_action_35 : decode cX3_action 35 = .ok (.iload_n 1, 1) := by decide +kernel
theorem dX3_action_36 : decode cX3_action 36 = .ok (.aaload, 1) := by decide +kernel
theorem dX3_action_37 : decode cX3_action 37 = .ok (.getfield 37, 3) := by decide +kernel
theorem dX3_action_40 : decode cX3_action 40 = .ok (.istore 5, 2) := by decide +kernel
theorem dX3_action_42 : decode cX3_action 42 = .ok (.aload_n 0, 1) := by decide +kernel
theorem dX3_action_43 : decode cX3_action 43 = .ok (.getfield 11, 3) := by decide +kernel
theorem dX3_action_46 : decode cX3_action 46 = .ok (.iload_n 1, 1) := by decide +kernel
theorem dX3_action_47 : decode cX3_action 47 = .ok (.aaload, 1) := by decide +kernel
theorem dX3_action_48 : decode cX3_action 48 = .ok (.iload_n 2, 1) := by decide +kernel
theorem dX3_action_49 : decode cX3_action 49 = .ok (.iload_n 3, 1) := by decide +kernel
theorem dX3_action_50 : decode cX3_action 50 = .ok (.invokestatic 56, 3) := by decide +kernel
theorem dX3_action_53 : decode cX3_action 53 = .ok (.iload 4, 2) := by decide +kernel
theorem dX3_action_55 : decode cX3_action 55 = .ok (.iconst (-1), 1) := by decide +kernel
theorem dX3_action_56 : decode cX3_action 56 = .ok (.if_icmp .ne 7, 3) := by decide +kernel
theorem dX3_action_59 : decode cX3_action 59 = .ok (.iconst 0, 1) := by decide +kernel
theorem dX3_action_60 : decode cX3_action 60 = .ok (.goto 9, 3) := by decide +kernel
theorem dX3_action_63 : decode cX3_action 63 = .ok (.getstatic 60, 3) := by decide +kernel
theorem dX3_action_66 : decode cX3_action 66 = .ok (.iload 4, 2) := by decide +kernel
theorem dX3_action_68 : decode cX3_action 68 = .ok (.iaload, 1) := by decide +kernel
theorem dX3_action_69 : decode cX3_action 69 = .ok (.invokevirtual 63, 3) := by decide +kernel
theorem dX3_action_72 : decode cX3_action 72 = .ok (.iload 5, 2) := by decide +kernel
theorem dX3_action_74 : decode cX3_action 74 = .ok (.ireturn, 1) := by decide +kernel
set_option maxRecDepth 20000 in
theorem ggX3_effect_X3_needNumber : GoodIn wsX3_effect wsX3_needNumber := goodIn_ca (goodIn_r _ [9, 10, 11] (by decide +kernel) (by decide +kernel)) (goodIn_sub (fun _ h => List.mem_cons_of_mem _ (List.mem_append_left _ (List.mem_append_right _ h))) (by decide +kernel))
set_option maxRecDepth 20000 in
theorem gX3_effect_X3_needNumber : GoodIn wsX3_effect (va_wsS RX3 41 yX3_needNumber wsX3_needNumber) := goodIn_app (goodIn_of _ (by decide +kernel)) ggX3_effect_X3_needNumber
set_option maxRecDepth 20000 in
theorem ggX3_effect_X3_needThere : GoodIn wsX3_effect wsX3_needThere := goodIn_ca (goodIn_r _ [15, 16, 17, 5, 33, 34, 35, 36, 37, 38, 39, 40, 41, 42, 43, 44, 45, 46] (by decide +kernel) (by decide +kernel)) (goodIn_sub (fun _ h => List.mem_cons_of_mem _ (List.mem_append_right _ h)) (by decide +kernel))
set_option maxRecDepth 20000 in
theorem gX3_effect_X3_needThere : GoodIn wsX3_effect (wsV RX3 66 RX3 yX3_needThere wsX3_needThere) := goodIn_app (goodIn_of _ (by decide +kernel)) ggX3_effect_X3_needThere
set_option maxRecDepth 20000 in
theorem ggX3_effect_X3_needBits : GoodIn wsX3_effect wsX3_needBits := goodIn_ca (goodIn_r _ [20, 1, 2] (by decide +kernel) (by decide +kernel)) (goodIn_sub (fun _ h => List.mem_cons_of_mem _ (List.mem_append_left _ (List.mem_append_left _ (List.mem_append_left _ (List.mem_append_right _ h))))) (by decide +kernel))
set_option maxRecDepth 20000 in
theorem gX3_effect_X3_needBits : GoodIn wsX3_effect (va_wsS RX3 45 yX3_needBits wsX3_needBits) := goodIn_app (goodIn_of _ (by decide +kernel)) ggX3_effect_X3_needBits
set_option maxRecDepth 20000 in
theorem ggX3_effect_X3_demanded : GoodIn wsX3_effect wsX3_demanded := goodIn_r _ [23] (by decide +kernel) (by decide +kernel)
set_option maxRecDepth 20000 in
theorem gX3_effect_X3_demanded : GoodIn wsX3_effect (va_wsS RX3 56 yX3_demanded wsX3_demanded) := goodIn_app (goodIn_of _ (by decide +kernel)) ggX3_effect_X3_demanded
set_option maxRecDepth 20000 in
theorem ggX3_effect_X0_addEffect : GoodIn wsX3_effect wsX0_addEffect := goodIn_r _ [28, 29, 30, 31, 8, 32, 42, 43, 44, 45, 46] (by decide +kernel) (by decide +kernel)
set_option maxRecDepth 20000 in
theorem gX3_effect_X0_addEffect : GoodIn wsX3_effect (wsV RX3 80 RX0 yX0_addEffect wsX0_addEffect) := goodIn_app (goodIn_of _ (by decide +kernel)) ggX3_effect_X0_addEffect
theorem dX3_effect_0 : decode cX3_effect 0 = .ok (.iload_n 1, 1) := by decide +kernel
theorem dX3_effect_1 : decode cX3_effect 1 = .ok (.invokestatic 41, 3) := by decide +kernel
theorem dX3_effect_4 : decode cX3_effect 4 = .ok (.aload_n 0, 1) := by decide +kernel
theorem dX3_effect_5 : decode cX3_effect 5 = .ok (.iload_n 1, 1) := by decide +kernel
theorem dX3_effect_6 : decode cX3_effect 6 = .ok (.invokevirtual 66, 3) := by decide +kernel
theorem dX3_effect_9 : decode cX3_effect 9 = .ok (.iload 4, 2) := by decide +kernel
theorem dX3_effect_11 : decode cX3_effect 11 = .ok (.iload 5, 2) := by decide +kernel
theorem dX3_effect_13 : decode cX3_effect 13 = .ok (.invokestatic 45, 3) := by decide +kernel
theorem dX3_effect_16 : decode cX3_effect 16 = .ok (.iload_n 2, 1) := by decide +kernel
theorem dX3_effect_17 : decode cX3_effect 17 = .ok (.ifCond .lt 8, 3) := by decide +kernel
theorem dX3_effect_20 : decode cX3_effect 20 = .ok (.iload_n 2, 1) := by decide +kernel
theorem dX3_effect_21 : decode cX3_effect 21 = .ok (.iconst 4, 1) := by decide +kernel
theorem dX3_effect_22 : decode cX3_effect 22 = .ok (.if_icmp .lt 13, 3) := by decide +kernel
theorem dX3_effect_25 : decode cX3_effect 25 = .ok (.new 49, 3) := by decide +kernel
theorem dX3_effect_28 : decode cX3_effect 28 = .ok (.dup, 1) := by decide +kernel
theorem dX3_effect_29 : decode cX3_effect 29 = .ok (.ldc 69, 2) := by decide +kernel
theorem dX3_effect_31 : decode cX3_effect 31 = .ok (.invokespecial 53, 3) := by decide +kernel
theorem dX3_effect_34 : decode cX3_effect 34 = .ok (.athrow, 1) := by decide +kernel
theorem dX3_effect_35 : decode cX3_effect 35 = .ok (.aload_n 0, 1) := by decide +kernel
theorem dX3_effect_36 : decode cX3_effect 36 = .ok (.getfield 11, 3) := by decide +kernel
theorem dX3_effect_39 : decode cX3_effect 39 = .ok (.iload_n 1, 1) := by decide +kernel
theorem dX3_effect_40 : decode cX3_effect 40 = .ok (.aaload, 1) := by decide +kernel
theorem dX3_effect_41 : decode cX3_effect 41 = .ok (.getfield 71, 3) := by decide +kernel
theorem dX3_effect_44 : decode cX3_effect 44 = .ok (.iconst 4, 1) := by decide +kernel
theorem dX3_effect_45 : decode cX3_effect 45 = .ok (.if_icmp .lt 13, 3) := by decide +kernel
theorem dX3_effect_48 : decode cX3_effect 48 = .ok (.new 75, 3) := by decide +kernel
theorem dX3_effect_51 : decode cX3_effect 51 = .ok (.dup, 1) := by decide +kernel
theorem dX3_effect_52 : decode cX3_effect 52 = .ok (.ldc 77, 2) := by decide +kernel
theorem dX3_effect_54 : decode cX3_effect 54 = .ok (.invokespecial 79, 3) := by decide +kernel
theorem dX3_effect_57 : decode cX3_effect 57 = .ok (.athrow, 1) := by decide +kernel
theorem dX3_effect_58 : decode cX3_effect 58 = .ok (.aload_n 0, 1) := by decide +kernel
theorem dX3_effect_59 : decode cX3_effect 59 = .ok (.getfield 11, 3) := by decide +kernel
theorem dX3_effect_62 : decode cX3_effect 62 = .ok (.iload_n 1, 1) := by decide +kernel
theorem dX3_effect_63 : decode cX3_effect 63 = .ok (.aaload, 1) := by decide +kernel
theorem dX3_effect_64 : decode cX3_effect 64 = .ok (.iconst 1, 1) := by decide +kernel
theorem dX3_effect_65 : decode cX3_effect 65 = .ok (.iload_n 2, 1) := by decide +kernel
theorem dX3_effect_66 : decode cX3_effect 66 = .ok (.ishl, 1) := by decide +kernel
theorem dX3_effect_67 : decode cX3_effect 67 = .ok (.iload_n 3, 1) := by decide +kernel
theorem dX3_effect_68 : decode cX3_effect 68 = .ok (.iload 4, 2) := by decide +kernel
theorem dX3_effect_70 : decode cX3_effect 70 = .ok (.iload 5, 2) := by decide +kernel
theorem dX3_effect_72 : decode cX3_effect 72 = .ok (.invokestatic 56, 3) := by decide +kernel
theorem dX3_effect_75 : decode cX3_effect 75 = .ok (.invokevirtual 80, 3) := by decide +kernel
theorem dX3_effect_78 : decode cX3_effect 78 = .ok (.aload_n 0, 1) := by decide +kernel
theorem dX3_effect_79 : decode cX3_effect 79 = .ok (.getfield 11, 3) := by decide +kernel
theorem dX3_effect_82 : decode cX3_effect 82 = .ok (.iload_n 1, 1) := by decide +kernel
theorem dX3_effect_83 : decode cX3_effect 83 = .ok (.aaload, 1) := by decide +kernel
theorem dX3_effect_84 : decode cX3_effect 84 = .ok (.getfield 71, 3) := by decide +kernel
theorem dX3_effect_87 : decode cX3_effect 87 = .ok (.ireturn, 1) := by decide +kernel
set_option maxRecDepth 20000 in
theorem ggX3_clause_X3_needBits : GoodIn wsX3_clause wsX3_needBits := goodIn_ca (goodIn_r _ [8, 9, 10] (by decide +kernel) (by decide +kernel)) (goodIn_sub (fun _ h => List.mem_cons_of_mem _ (List.mem_append_right _ h)) (by decide +kernel))
set_option maxRecDepth 20000 in
theorem gX3_clause_X3_needBits : GoodIn wsX3_clause (va_wsS RX3 45 yX3_needBits wsX3_needBits) := goodIn_app (goodIn_of _ (by decide +kernel)) ggX3_clause_X3_needBits
set_option maxRecDepth 20000 in
theorem ggX3_clause_X3_allowed : GoodIn wsX3_clause wsX3_allowed := goodIn_r _ [13] (by decide +kernel) (by decide +kernel)
set_option maxRecDepth 20000 in
theorem gX3_clause_X3_allowed : GoodIn wsX3_clause (va_wsS RX3 92 yX3_allowed wsX3_allowed) := goodIn_app (goodIn_of _ (by decide +kernel)) ggX3_clause_X3_allowed
theorem dX3_clause_0 : decode cX3_clause 0 = .ok (.iload_n 1, 1) := by decide +kernel
theorem dX3_clause_1 : decode cX3_clause 1 = .ok (.iload_n 2, 1) := by decide +kernel
theorem dX3_clause_2 : decode cX3_clause 2 = .ok (.invokestatic 45, 3) := by decide +kernel
theorem dX3_clause_5 : decode cX3_clause 5 = .ok (.aload_n 0, 1) := by decide +kernel
theorem dX3_clause_6 : decode cX3_clause 6 = .ok (.getfield 84, 3) := by decide +kernel
theorem dX3_clause_9 : decode cX3_clause 9 = .ok (.bipush 6, 2) := by decide +kernel
theorem dX3_clause_11 : decode cX3_clause 11 = .ok (.if_icmp .lt 13, 3) := by decide +kernel
theorem dX3_clause_14 : decode cX3_clause 14 = .ok (.new 75, 3) := by decide +kernel
theorem dX3_clause_17 : decode cX3_clause 17 = .ok (.dup, 1) := by decide +kernel
theorem dX3_clause_18 : decode cX3_clause 18 = .ok (.ldc 87, 2) := by decide +kernel
theorem dX3_clause_20 : decode cX3_clause 20 = .ok (.invokespecial 79, 3) := by decide +kernel
theorem dX3_clause_23 : decode cX3_clause 23 = .ok (.athrow, 1) := by decide +kernel
theorem dX3_clause_24 : decode cX3_clause 24 = .ok (.aload_n 0, 1) := by decide +kernel
theorem dX3_clause_25 : decode cX3_clause 25 = .ok (.dup, 1) := by decide +kernel
theorem dX3_clause_26 : decode cX3_clause 26 = .ok (.getfield 89, 3) := by decide +kernel
theorem dX3_clause_29 : decode cX3_clause 29 = .ok (.iload_n 1, 1) := by decide +kernel
theorem dX3_clause_30 : decode cX3_clause 30 = .ok (.iload_n 2, 1) := by decide +kernel
theorem dX3_clause_31 : decode cX3_clause 31 = .ok (.invokestatic 92, 3) := by decide +kernel
theorem dX3_clause_34 : decode cX3_clause 34 = .ok (.iand, 1) := by decide +kernel
theorem dX3_clause_35 : decode cX3_clause 35 = .ok (.putfield 89, 3) := by decide +kernel
theorem dX3_clause_38 : decode cX3_clause 38 = .ok (.aload_n 0, 1) := by decide +kernel
theorem dX3_clause_39 : decode cX3_clause 39 = .ok (.dup, 1) := by decide +kernel
theorem dX3_clause_40 : decode cX3_clause 40 = .ok (.getfield 84, 3) := by decide +kernel
theorem dX3_clause_43 : decode cX3_clause 43 = .ok (.iconst 1, 1) := by decide +kernel
theorem dX3_clause_44 : decode cX3_clause 44 = .ok (.iadd, 1) := by decide +kernel
theorem dX3_clause_45 : decode cX3_clause 45 = .ok (.putfield 84, 3) := by decide +kernel
theorem dX3_clause_48 : decode cX3_clause 48 = .ok (.aload_n 0, 1) := by decide +kernel
theorem dX3_clause_49 : decode cX3_clause 49 = .ok (.getfield 84, 3) := by decide +kernel
theorem dX3_clause_52 : decode cX3_clause 52 = .ok (.ireturn, 1) := by decide +kernel
set_option maxRecDepth 20000 in
theorem ggX3_goal_X3_needBits : GoodIn wsX3_goal wsX3_needBits := goodIn_ca (goodIn_r _ [5, 6, 7] (by decide +kernel) (by decide +kernel)) (goodIn_sub (fun _ h => List.mem_cons_of_mem _ (List.mem_append_right _ h)) (by decide +kernel))
set_option maxRecDepth 20000 in
theorem gX3_goal_X3_needBits : GoodIn wsX3_goal (va_wsS RX3 45 yX3_needBits wsX3_needBits) := goodIn_app (goodIn_of _ (by decide +kernel)) ggX3_goal_X3_needBits
set_option maxRecDepth 20000 in
theorem ggX3_goal_X3_demanded : GoodIn wsX3_goal wsX3_demanded := goodIn_r _ [10] (by decide +kernel) (by decide +kernel)
set_option maxRecDepth 20000 in
theorem gX3_goal_X3_demanded : GoodIn wsX3_goal (va_wsS RX3 56 yX3_demanded wsX3_demanded) := goodIn_app (goodIn_of _ (by decide +kernel)) ggX3_goal_X3_demanded
set_option maxRecDepth 20000 in
theorem ggX3_goal_J6_bitCount_0f7a4 : GoodIn wsX3_goal wsJ6_bitCount_0f7a4 := goodIn_r _ [14, 15, 16, 17] (by decide +kernel) (by decide +kernel)
set_option maxRecDepth 20000 in
theorem gX3_goal_J6_bitCount_0f7a4 : GoodIn wsX3_goal (va_wsS RX3 98 yJ6_bitCount_0f7a4 wsJ6_bitCount_0f7a4) := goodIn_app (goodIn_of _ (by decide +kernel)) ggX3_goal_J6_bitCount_0f7a4
theorem dX3_goal_0 : decode cX3_goal 0 = .ok (.iload_n 1, 1) := by decide +kernel
theorem dX3_goal_1 : decode cX3_goal 1 = .ok (.iload_n 2, 1) := by decide +kernel
theorem dX3_goal_2 : decode cX3_goal 2 = .ok (.invokestatic 45, 3) := by decide +kernel
theorem dX3_goal_5 : decode cX3_goal 5 = .ok (.aload_n 0, 1) := by decide +kernel
theorem dX3_goal_6 : decode cX3_goal 6 = .ok (.iload_n 1, 1) := by decide +kernel
theorem dX3_goal_7 : decode cX3_goal 7 = .ok (.iload_n 2, 1) := by decide +kernel
theorem dX3_goal_8 : decode cX3_goal 8 = .ok (.invokestatic 56, 3) := by decide +kernel
theorem dX3_goal_11 : decode cX3_goal 11 = .ok (.putfield 95, 3) := by decide +kernel
theorem dX3_goal_14 : decode cX3_goal 14 = .ok (.aload_n 0, 1) := by decide +kernel
theorem dX3_goal_15 : decode cX3_goal 15 = .ok (.getfield 95, 3) := by decide +kernel
theorem dX3_goal_18 : decode cX3_goal 18 = .ok (.invokestatic 98, 3) := by decide +kernel
theorem dX3_goal_21 : decode cX3_goal 21 = .ok (.ireturn, 1) := by decide +kernel
theorem dX3_start_0 : decode cX3_start 0 = .ok (.aload_n 0, 1) := by decide +kernel
theorem dX3_start_1 : decode cX3_start 1 = .ok (.getfield 89, 3) := by decide +kernel
theorem dX3_start_4 : decode cX3_start 4 = .ok (.ireturn, 1) := by decide +kernel
set_option maxRecDepth 20000 in
theorem ggX3_behind_X3_needNumber : GoodIn wsX3_behind wsX3_needNumber := goodIn_ca (goodIn_r _ [10, 11, 12] (by decide +kernel) (by decide +kernel)) (goodIn_sub (fun _ h => List.mem_cons_of_mem _ (List.mem_append_left _ (List.mem_append_right _ h))) (by decide +kernel))
set_option maxRecDepth 20000 in
theorem gX3_behind_X3_needNumber : GoodIn wsX3_behind (va_wsS RX3 41 yX3_needNumber wsX3_needNumber) := goodIn_app (goodIn_of _ (by decide +kernel)) ggX3_behind_X3_needNumber
set_option maxRecDepth 20000 in
theorem ggX3_behind_X3_needThere : GoodIn wsX3_behind wsX3_needThere := goodIn_ca (goodIn_r _ [16, 17, 18, 6, 33, 34, 35, 36, 37, 38, 39, 40, 41, 42, 43, 44, 45, 46] (by decide +kernel) (by decide +kernel)) (goodIn_sub (fun _ h => List.mem_cons_of_mem _ (List.mem_append_right _ h)) (by decide +kernel))
set_option maxRecDepth 20000 in
theorem gX3_behind_X3_needThere : GoodIn wsX3_behind (wsV RX3 66 RX3 yX3_needThere wsX3_needThere) := goodIn_app (goodIn_of _ (by decide +kernel)) ggX3_behind_X3_needThere
set_option maxRecDepth 20000 in
theorem ggX3_behind_X0_usable : GoodIn wsX3_behind wsX0_usable := goodIn_r _ [23, 24, 25, 42, 43, 44, 45, 46] (by decide +kernel) (by decide +kernel)
set_option maxRecDepth 20000 in
theorem gX3_behind_X0_usable : GoodIn wsX3_behind (wsV RX3 107 RX0 yX0_usable wsX0_usable) := goodIn_app (goodIn_of _ (by decide +kernel)) ggX3_behind_X0_usable
set_option maxRecDepth 20000 in
theorem ggX3_behind_X0_after : GoodIn wsX3_behind wsX0_after := goodIn_r _ [29, 30, 31, 9, 32, 42, 43, 44, 45, 46] (by decide +kernel) (by decide +kernel)
set_option maxRecDepth 20000 in
theorem gX3_behind_X0_after : GoodIn wsX3_behind (wsV RX3 116 RX0 yX0_after wsX0_after) := goodIn_app (goodIn_of _ (by decide +kernel)) ggX3_behind_X0_after
theorem dX3_behind_0 : decode cX3_behind 0 = .ok (.iload_n 1, 1) := by decide +kernel
theorem dX3_behind_1 : decode cX3_behind 1 = .ok (.invokestatic 41, 3) := by decide +kernel
theorem dX3_behind_4 : decode cX3_behind 4 = .ok (.aload_n 0, 1) := by decide +kernel
theorem dX3_behind_5 : decode cX3_behind 5 = .ok (.iload_n 1, 1) := by decide +kernel
theorem dX3_behind_6 : decode cX3_behind 6 = .ok (.invokevirtual 66, 3) := by decide +kernel
theorem dX3_behind_9 : decode cX3_behind 9 = .ok (.iload_n 2, 1) := by decide +kernel
theorem dX3_behind_10 : decode cX3_behind 10 = .ok (.ifCond .lt 9, 3) := by decide +kernel
theorem dX3_behind_13 : decode cX3_behind 13 = .ok (.iload_n 2, 1) := by decide +kernel
theorem dX3_behind_14 : decode cX3_behind 14 = .ok (.ldc 104, 2) := by decide +kernel
theorem dX3_behind_16 : decode cX3_behind 16 = .ok (.if_icmp .le 13, 3) := by decide +kernel
theorem dX3_behind_19 : decode cX3_behind 19 = .ok (.new 49, 3) := by decide +kernel
theorem dX3_behind_22 : decode cX3_behind 22 = .ok (.dup, 1) := by decide +kernel
theorem dX3_behind_23 : decode cX3_behind 23 = .ok (.ldc 105, 2) := by decide +kernel
theorem dX3_behind_25 : decode cX3_behind 25 = .ok (.invokespecial 53, 3) := by decide +kernel
theorem dX3_behind_28 : decode cX3_behind 28 = .ok (.athrow, 1) := by decide +kernel
theorem dX3_behind_29 : decode cX3_behind 29 = .ok (.aload_n 0, 1) := by decide +kernel
theorem dX3_behind_30 : decode cX3_behind 30 = .ok (.getfield 11, 3) := by decide +kernel
theorem dX3_behind_33 : decode cX3_behind 33 = .ok (.iload_n 1, 1) := by decide +kernel
theorem dX3_behind_34 : decode cX3_behind 34 = .ok (.aaload, 1) := by decide +kernel
theorem dX3_behind_35 : decode cX3_behind 35 = .ok (.iload_n 2, 1) := by decide +kernel
theorem dX3_behind_36 : decode cX3_behind 36 = .ok (.invokevirtual 107, 3) := by decide +kernel
theorem dX3_behind_39 : decode cX3_behind 39 = .ok (.ifCond .ne 13, 3) := by decide +kernel
theorem dX3_behind_42 : decode cX3_behind 42 = .ok (.new 111, 3) := by decide +kernel
theorem dX3_behind_45 : decode cX3_behind 45 = .ok (.dup, 1) := by decide +kernel
theorem dX3_behind_46 : decode cX3_behind 46 = .ok (.ldc 113, 2) := by decide +kernel
theorem dX3_behind_48 : decode cX3_behind 48 = .ok (.invokespecial 115, 3) := by decide +kernel
theorem dX3_behind_51 : decode cX3_behind 51 = .ok (.athrow, 1) := by decide +kernel
theorem dX3_behind_52 : decode cX3_behind 52 = .ok (.aload_n 0, 1) := by decide +kernel
theorem dX3_behind_53 : decode cX3_behind 53 = .ok (.getfield 11, 3) := by decide +kernel
theorem dX3_behind_56 : decode cX3_behind 56 = .ok (.iload_n 1, 1) := by decide +kernel
theorem dX3_behind_57 : decode cX3_behind 57 = .ok (.aaload, 1) := by decide +kernel
theorem dX3_behind_58 : decode cX3_behind 58 = .ok (.iload_n 2, 1) := by decide +kernel
theorem dX3_behind_59 : decode cX3_behind 59 = .ok (.invokevirtual 116, 3) := by decide +kernel
theorem dX3_behind_62 : decode cX3_behind 62 = .ok (.ireturn, 1) := by decide +kernel
set_option maxRecDepth 20000 in
theorem ggX3_least_X3_needDepth : GoodIn wsX3_least wsX3_needDepth := goodIn_ca (goodIn_r _ [7, 1, 2] (by decide +kernel) (by decide +kernel)) (goodIn_sub (fun _ h => List.mem_cons_of_mem _ (List.mem_append_left _ (List.mem_append_right _ h))) (by decide +kernel))
set_option maxRecDepth 20000 in
theorem gX3_least_X3_needDepth : GoodIn wsX3_least (va_wsS RX3 121 yX3_needDepth wsX3_needDepth) := goodIn_app (goodIn_of _ (by decide +kernel)) ggX3_least_X3_needDepth
set_option maxRecDepth 20000 in
theorem ggX3_least_X3_fewest : GoodIn wsX3_least wsX3_fewest := goodIn_r _ [11, 12, 13, 14, 6, 15, 16, 17, 18, 19, 20, 21, 22, 23, 24, 25, 26, 27, 28, 29, 30, 31, 32, 33, 34, 35, 36, 37, 38, 39, 40, 41, 42, 43, 44, 45, 46, 47, 48, 54, 55, 56, 57, 58, 59, 60, 61, 62, 63, 64, 65, 66, 67] (by decide +kernel) (by decide +kernel)
set_option maxRecDepth 20000 in
theorem gX3_least_X3_fewest : GoodIn wsX3_least (wsV RX3 124 RX3 yX3_fewest wsX3_fewest) := goodIn_app (goodIn_of _ (by decide +kernel)) ggX3_least_X3_fewest
set_option maxRecDepth 20000 in
theorem ggX3_least_X3_needSolved : GoodIn wsX3_least wsX3_needSolved := goodIn_ca (goodIn_r _ [51, 52, 53] (by decide +kernel) (by decide +kernel)) (goodIn_sub (fun _ h => List.mem_cons_of_mem _ (List.mem_append_right _ h)) (by decide +kernel))
set_option maxRecDepth 20000 in
theorem gX3_least_X3_needSolved : GoodIn wsX3_least (va_wsS RX3 127 yX3_needSolved wsX3_needSolved) := goodIn_app (goodIn_of _ (by decide +kernel)) ggX3_least_X3_needSolved
theorem dX3_least_0 : decode cX3_least 0 = .ok (.iload_n 1, 1) := by decide +kernel
theorem dX3_least_1 : decode cX3_least 1 = .ok (.iconst 1, 1) := by decide +kernel
theorem dX3_least_2 : decode cX3_least 2 = .ok (.if_icmp .lt 9, 3) := by decide +kernel
theorem dX3_least_5 : decode cX3_least 5 = .ok (.iload_n 1, 1) := by decide +kernel
theorem dX3_least_6 : decode cX3_least 6 = .ok (.ldc 104, 2) := by decide +kernel
theorem dX3_least_8 : decode cX3_least 8 = .ok (.if_icmp .le 13, 3) := by decide +kernel
theorem dX3_least_11 : decode cX3_least 11 = .ok (.new 49, 3) := by decide +kernel
theorem dX3_least_14 : decode cX3_least 14 = .ok (.dup, 1) := by decide +kernel
theorem dX3_least_15 : decode cX3_least 15 = .ok (.ldc 119, 2) := by decide +kernel
theorem dX3_least_17 : decode cX3_least 17 = .ok (.invokespecial 53, 3) := by decide +kernel
theorem dX3_least_20 : decode cX3_least 20 = .ok (.athrow, 1) := by decide +kernel
theorem dX3_least_21 : decode cX3_least 21 = .ok (.iload_n 2, 1) := by decide +kernel
theorem dX3_least_22 : decode cX3_least 22 = .ok (.invokestatic 121, 3) := by decide +kernel
theorem dX3_least_25 : decode cX3_least 25 = .ok (.aload_n 0, 1) := by decide +kernel
theorem dX3_least_26 : decode cX3_least 26 = .ok (.iload_n 1, 1) := by decide +kernel
theorem dX3_least_27 : decode cX3_least 27 = .ok (.iload_n 2, 1) := by decide +kernel
theorem dX3_least_28 : decode cX3_least 28 = .ok (.invokevirtual 124, 3) := by decide +kernel
theorem dX3_least_31 : decode cX3_least 31 = .ok (.invokestatic 127, 3) := by decide +kernel
theorem dX3_least_34 : decode cX3_least 34 = .ok (.ireturn, 1) := by decide +kernel
set_option maxRecDepth 20000 in
theorem ggX3_plan_X3_needDepth : GoodIn wsX3_plan wsX3_needDepth := goodIn_ca (goodIn_r _ [8, 9, 10] (by decide +kernel) (by decide +kernel)) (goodIn_sub (fun _ h => List.mem_cons_of_mem _ (List.mem_append_left _ (List.mem_append_right _ h))) (by decide +kernel))
set_option maxRecDepth 20000 in
theorem gX3_plan_X3_needDepth : GoodIn wsX3_plan (va_wsS RX3 121 yX3_needDepth wsX3_needDepth) := goodIn_app (goodIn_of _ (by decide +kernel)) ggX3_plan_X3_needDepth
set_option maxRecDepth 20000 in
theorem ggX3_plan_X3_fewest : GoodIn wsX3_plan wsX3_fewest := goodIn_r _ [14, 15, 16, 17, 7, 18, 19, 20, 21, 22, 23, 24, 25, 26, 27, 28, 29, 30, 31, 32, 33, 34, 35, 36, 37, 38, 39, 40, 41, 42, 43, 44, 45, 46, 47, 48, 49, 50, 51, 88, 89, 90, 91, 92, 93, 94, 95, 96, 97, 98, 99, 100, 101] (by decide +kernel) (by decide +kernel)
set_option maxRecDepth 20000 in
theorem gX3_plan_X3_fewest : GoodIn wsX3_plan (wsV RX3 124 RX3 yX3_fewest wsX3_fewest) := goodIn_app (goodIn_of _ (by decide +kernel)) ggX3_plan_X3_fewest
set_option maxRecDepth 20000 in
theorem ggX3_plan_X3_needSolved : GoodIn wsX3_plan wsX3_needSolved := goodIn_ca (goodIn_r _ [54, 55, 56] (by decide +kernel) (by decide +kernel)) (goodIn_sub (fun _ h => List.mem_cons_of_mem _ (List.mem_append_right _ h)) (by decide +kernel))
set_option maxRecDepth 20000 in
theorem gX3_plan_X3_needSolved : GoodIn wsX3_plan (va_wsS RX3 127 yX3_needSolved wsX3_needSolved) := goodIn_app (goodIn_of _ (by decide +kernel)) ggX3_plan_X3_needSolved
set_option maxRecDepth 20000 in
theorem ggX3_plan_X2_empty : GoodIn wsX3_plan wsX2_empty := goodIn_r _ [61, 62, 102, 103] (by decide +kernel) (by decide +kernel)
set_option maxRecDepth 20000 in
theorem gX3_plan_X2_empty : GoodIn wsX3_plan (wsV RX3 132 RX2 yX2_empty wsX2_empty) := goodIn_app (goodIn_of _ (by decide +kernel)) ggX3_plan_X2_empty
set_option maxRecDepth 20000 in
theorem ggX3_plan_X3_grow : GoodIn wsX3_plan wsX3_grow := goodIn_r _ [66, 4, 28, 67, 68, 69, 60, 70, 62, 71, 72, 73, 74, 75, 19, 20, 21, 7, 22, 23, 24, 25, 26, 27, 29, 30, 31, 32, 33, 34, 35, 36, 37, 38, 18, 39, 40, 41, 42, 43, 44, 45, 46, 47, 48, 49, 50, 51, 15, 16, 17, 76, 77, 78, 79, 80, 81, 82, 83, 84, 85, 86, 87, 63, 64, 65, 88, 89, 90, 91, 92, 93, 94, 95, 96, 102, 103, 97, 98, 99, 100, 101] (by decide +kernel) (by decide +kernel)
set_option maxRecDepth 20000 in
theorem gX3_plan_X3_grow : GoodIn wsX3_plan (wsV RX3 135 RX3 yX3_grow wsX3_grow) := goodIn_app (goodIn_of _ (by decide +kernel)) ggX3_plan_X3_grow
theorem dX3_plan_0 : decode cX3_plan 0 = .ok (.iload_n 1, 1) := by decide +kernel
theorem dX3_plan_1 : decode cX3_plan 1 = .ok (.invokestatic 121, 3) := by decide +kernel
theorem dX3_plan_4 : decode cX3_plan 4 = .ok (.aload_n 0, 1) := by decide +kernel
theorem dX3_plan_5 : decode cX3_plan 5 = .ok (.getfield 89, 3) := by decide +kernel
theorem dX3_plan_8 : decode cX3_plan 8 = .ok (.ifCond .ne 13, 3) := by decide +kernel
theorem dX3_plan_11 : decode cX3_plan 11 = .ok (.new 75, 3) := by decide +kernel
theorem dX3_plan_14 : decode cX3_plan 14 = .ok (.dup, 1) := by decide +kernel
theorem dX3_plan_15 : decode cX3_plan 15 = .ok (.ldc 130, 2) := by decide +kernel
theorem dX3_plan_17 : decode cX3_plan 17 = .ok (.invokespecial 79, 3) := by decide +kernel
theorem dX3_plan_20 : decode cX3_plan 20 = .ok (.athrow, 1) := by decide +kernel
theorem dX3_plan_21 : decode cX3_plan 21 = .ok (.aload_n 0, 1) := by decide +kernel
theorem dX3_plan_22 : decode cX3_plan 22 = .ok (.aload_n 0, 1) := by decide +kernel
theorem dX3_plan_23 : decode cX3_plan 23 = .ok (.getfield 89, 3) := by decide +kernel
theorem dX3_plan_26 : decode cX3_plan 26 = .ok (.iload_n 1, 1) := by decide +kernel
theorem dX3_plan_27 : decode cX3_plan 27 = .ok (.invokevirtual 124, 3) := by decide +kernel
theorem dX3_plan_30 : decode cX3_plan 30 = .ok (.invokestatic 127, 3) := by decide +kernel
theorem dX3_plan_33 : decode cX3_plan 33 = .ok (.istore_n 2, 1) := by decide +kernel
theorem dX3_plan_34 : decode cX3_plan 34 = .ok (.aload_n 0, 1) := by decide +kernel
theorem dX3_plan_35 : decode cX3_plan 35 = .ok (.getfield 18, 3) := by decide +kernel
theorem dX3_plan_38 : decode cX3_plan 38 = .ok (.invokevirtual 132, 3) := by decide +kernel
theorem dX3_plan_41 : decode cX3_plan 41 = .ok (.aload_n 0, 1) := by decide +kernel
theorem dX3_plan_42 : decode cX3_plan 42 = .ok (.aload_n 0, 1) := by decide +kernel
theorem dX3_plan_43 : decode cX3_plan 43 = .ok (.getfield 89, 3) := by decide +kernel
theorem dX3_plan_46 : decode cX3_plan 46 = .ok (.iload_n 2, 1) := by decide +kernel
theorem dX3_plan_47 : decode cX3_plan 47 = .ok (.invokevirtual 135, 3) := by decide +kernel
theorem dX3_plan_50 : decode cX3_plan 50 = .ok (.pop, 1) := by decide +kernel
theorem dX3_plan_51 : decode cX3_plan 51 = .ok (.iload_n 2, 1) := by decide +kernel
theorem dX3_plan_52 : decode cX3_plan 52 = .ok (.ireturn, 1) := by decide +kernel
theorem dX3_nodes_0 : decode cX3_nodes 0 = .ok (.aload_n 0, 1) := by decide +kernel
theorem dX3_nodes_1 : decode cX3_nodes 1 = .ok (.getfield 18, 3) := by decide +kernel
theorem dX3_nodes_4 : decode cX3_nodes 4 = .ok (.getfield 138, 3) := by decide +kernel
theorem dX3_nodes_7 : decode cX3_nodes 7 = .ok (.ireturn, 1) := by decide +kernel
set_option maxRecDepth 20000 in
theorem ggX3_node_X3_needNode : GoodIn wsX3_node wsX3_needNode := goodIn_ca (goodIn_r _ [8, 1, 2, 3, 15, 16, 17, 18, 19, 20, 21, 22, 23, 24, 25] (by decide +kernel) (by decide +kernel)) (goodIn_sub (fun _ h => List.mem_cons_of_mem _ (List.mem_append_right _ h)) (by decide +kernel))
set_option maxRecDepth 20000 in
theorem gX3_node_X3_needNode : GoodIn wsX3_node (wsV RX3 141 RX3 yX3_needNode wsX3_needNode) := goodIn_app (goodIn_of _ (by decide +kernel)) ggX3_node_X3_needNode
set_option maxRecDepth 20000 in
theorem ggX3_node_X2_cell : GoodIn wsX3_node wsX2_cell := goodIn_r _ [13, 14, 24, 25] (by decide +kernel) (by decide +kernel)
set_option maxRecDepth 20000 in
theorem gX3_node_X2_cell : GoodIn wsX3_node (wsV RX3 149 RX2 yX2_cell wsX2_cell) := goodIn_app (goodIn_of _ (by decide +kernel)) ggX3_node_X2_cell
theorem dX3_node_0 : decode cX3_node 0 = .ok (.aload_n 0, 1) := by decide +kernel
theorem dX3_node_1 : decode cX3_node 1 = .ok (.iload_n 1, 1) := by decide +kernel
theorem dX3_node_2 : decode cX3_node 2 = .ok (.invokevirtual 141, 3) := by decide +kernel
theorem dX3_node_5 : decode cX3_node 5 = .ok (.iload_n 2, 1) := by decide +kernel
theorem dX3_node_6 : decode cX3_node 6 = .ok (.ifCond .lt 8, 3) := by decide +kernel
theorem dX3_node_9 : decode cX3_node 9 = .ok (.iload_n 2, 1) := by decide +kernel
theorem dX3_node_10 : decode cX3_node 10 = .ok (.iconst 3, 1) := by decide +kernel
theorem dX3_node_11 : decode cX3_node 11 = .ok (.if_icmp .lt 13, 3) := by decide +kernel
theorem dX3_node_14 : decode cX3_node 14 = .ok (.new 144, 3) := by decide +kernel
theorem dX3_node_17 : decode cX3_node 17 = .ok (.dup, 1) := by decide +kernel
theorem dX3_node_18 : decode cX3_node 18 = .ok (.ldc 146, 2) := by decide +kernel
theorem dX3_node_20 : decode cX3_node 20 = .ok (.invokespecial 148, 3) := by decide +kernel
theorem dX3_node_23 : decode cX3_node 23 = .ok (.athrow, 1) := by decide +kernel
theorem dX3_node_24 : decode cX3_node 24 = .ok (.aload_n 0, 1) := by decide +kernel
theorem dX3_node_25 : decode cX3_node 25 = .ok (.getfield 18, 3) := by decide +kernel
theorem dX3_node_28 : decode cX3_node 28 = .ok (.iload_n 1, 1) := by decide +kernel
theorem dX3_node_29 : decode cX3_node 29 = .ok (.iload_n 2, 1) := by decide +kernel
theorem dX3_node_30 : decode cX3_node 30 = .ok (.invokevirtual 149, 3) := by decide +kernel
theorem dX3_node_33 : decode cX3_node 33 = .ok (.ireturn, 1) := by decide +kernel
set_option maxRecDepth 20000 in
theorem ggX3_edit_X3_needNode : GoodIn wsX3_edit wsX3_needNode := goodIn_ca (goodIn_r _ [8, 9, 10, 3, 31, 32, 33, 34, 35, 36, 37, 38, 39, 40, 41] (by decide +kernel) (by decide +kernel)) (goodIn_sub (fun _ h => List.mem_cons_of_mem _ (List.mem_append_left _ (List.mem_append_right _ h))) (by decide +kernel))
set_option maxRecDepth 20000 in
theorem gX3_edit_X3_needNode : GoodIn wsX3_edit (wsV RX3 141 RX3 yX3_needNode wsX3_needNode) := goodIn_app (goodIn_of _ (by decide +kernel)) ggX3_edit_X3_needNode
set_option maxRecDepth 20000 in
theorem ggX3_edit_X3_needNumber : GoodIn wsX3_edit wsX3_needNumber := goodIn_ca (goodIn_r _ [13, 9, 10] (by decide +kernel) (by decide +kernel)) (goodIn_sub (fun _ h => List.mem_cons_of_mem _ (List.mem_append_left _ (List.mem_append_right _ h))) (by decide +kernel))
set_option maxRecDepth 20000 in
theorem gX3_edit_X3_needNumber : GoodIn wsX3_edit (va_wsS RX3 41 yX3_needNumber wsX3_needNumber) := goodIn_app (goodIn_of _ (by decide +kernel)) ggX3_edit_X3_needNumber
set_option maxRecDepth 20000 in
theorem ggX3_edit_X3_needThere : GoodIn wsX3_edit wsX3_needThere := goodIn_ca (goodIn_r _ [17, 18, 19, 20, 31, 32, 33, 34, 35, 36, 37, 38, 39, 42, 43, 44, 45, 46] (by decide +kernel) (by decide +kernel)) (goodIn_sub (fun _ h => List.mem_cons_of_mem _ (List.mem_append_right _ h)) (by decide +kernel))
set_option maxRecDepth 20000 in
theorem gX3_edit_X3_needThere : GoodIn wsX3_edit (wsV RX3 66 RX3 yX3_needThere wsX3_needThere) := goodIn_app (goodIn_of _ (by decide +kernel)) ggX3_edit_X3_needThere
set_option maxRecDepth 20000 in
theorem ggX3_edit_X2_cell : GoodIn wsX3_edit wsX2_cell := goodIn_r _ [25, 26, 40, 41] (by decide +kernel) (by decide +kernel)
set_option maxRecDepth 20000 in
theorem gX3_edit_X2_cell : GoodIn wsX3_edit (wsV RX3 149 RX2 yX2_cell wsX2_cell) := goodIn_app (goodIn_of _ (by decide +kernel)) ggX3_edit_X2_cell
set_option maxRecDepth 20000 in
theorem ggX3_edit_X2_setAction : GoodIn wsX3_edit wsX2_setAction := goodIn_r _ [30, 26, 40, 41] (by decide +kernel) (by decide +kernel)
set_option maxRecDepth 20000 in
theorem gX3_edit_X2_setAction : GoodIn wsX3_edit (wsV RX3 154 RX2 yX2_setAction wsX2_setAction) := goodIn_app (goodIn_of _ (by decide +kernel)) ggX3_edit_X2_setAction
theorem dX3_edit_0 : decode cX3_edit 0 = .ok (.aload_n 0, 1) := by decide +kernel
theorem dX3_edit_1 : decode cX3_edit 1 = .ok (.iload_n 1, 1) := by decide +kernel
theorem dX3_edit_2 : decode cX3_edit 2 = .ok (.invokevirtual 141, 3) := by decide +kernel
theorem dX3_edit_5 : decode cX3_edit 5 = .ok (.iload_n 2, 1) := by decide +kernel
theorem dX3_edit_6 : decode cX3_edit 6 = .ok (.invokestatic 41, 3) := by decide +kernel
theorem dX3_edit_9 : decode cX3_edit 9 = .ok (.aload_n 0, 1) := by decide +kernel
theorem dX3_edit_10 : decode cX3_edit 10 = .ok (.iload_n 2, 1) := by decide +kernel
theorem dX3_edit_11 : decode cX3_edit 11 = .ok (.invokevirtual 66, 3) := by decide +kernel
theorem dX3_edit_14 : decode cX3_edit 14 = .ok (.aload_n 0, 1) := by decide +kernel
theorem dX3_edit_15 : decode cX3_edit 15 = .ok (.getfield 18, 3) := by decide +kernel
theorem dX3_edit_18 : decode cX3_edit 18 = .ok (.iload_n 1, 1) := by decide +kernel
theorem dX3_edit_19 : decode cX3_edit 19 = .ok (.iconst 0, 1) := by decide +kernel
theorem dX3_edit_20 : decode cX3_edit 20 = .ok (.invokevirtual 149, 3) := by decide +kernel
theorem dX3_edit_23 : decode cX3_edit 23 = .ok (.istore_n 3, 1) := by decide +kernel
theorem dX3_edit_24 : decode cX3_edit 24 = .ok (.iload_n 3, 1) := by decide +kernel
theorem dX3_edit_25 : decode cX3_edit 25 = .ok (.iconst (-1), 1) := by decide +kernel
theorem dX3_edit_26 : decode cX3_edit 26 = .ok (.if_icmp .ne 13, 3) := by decide +kernel
theorem dX3_edit_29 : decode cX3_edit 29 = .ok (.new 111, 3) := by decide +kernel
theorem dX3_edit_32 : decode cX3_edit 32 = .ok (.dup, 1) := by decide +kernel
theorem dX3_edit_33 : decode cX3_edit 33 = .ok (.ldc 152, 2) := by decide +kernel
theorem dX3_edit_35 : decode cX3_edit 35 = .ok (.invokespecial 115, 3) := by decide +kernel
theorem dX3_edit_38 : decode cX3_edit 38 = .ok (.athrow, 1) := by decide +kernel
theorem dX3_edit_39 : decode cX3_edit 39 = .ok (.aload_n 0, 1) := by decide +kernel
theorem dX3_edit_40 : decode cX3_edit 40 = .ok (.getfield 18, 3) := by decide +kernel
theorem dX3_edit_43 : decode cX3_edit 43 = .ok (.iload_n 1, 1) := by decide +kernel
theorem dX3_edit_44 : decode cX3_edit 44 = .ok (.iload_n 2, 1) := by decide +kernel
theorem dX3_edit_45 : decode cX3_edit 45 = .ok (.invokevirtual 154, 3) := by decide +kernel
theorem dX3_edit_48 : decode cX3_edit 48 = .ok (.iload_n 3, 1) := by decide +kernel
theorem dX3_edit_49 : decode cX3_edit 49 = .ok (.ireturn, 1) := by decide +kernel
set_option maxRecDepth 20000 in
theorem ggX3_right_X3_needPlan : GoodIn wsX3_right wsX3_needPlan := goodIn_ca (goodIn_r _ [6, 7, 8, 9, 45, 46, 47, 48, 49, 50, 51, 52, 53, 54, 55] (by decide +kernel) (by decide +kernel)) (goodIn_sub (fun _ h => List.mem_cons_of_mem _ (List.mem_append_right _ h)) (by decide +kernel))
set_option maxRecDepth 20000 in
theorem gX3_right_X3_needPlan : GoodIn wsX3_right (wsV RX3 157 RX3 yX3_needPlan wsX3_needPlan) := goodIn_app (goodIn_of _ (by decide +kernel)) ggX3_right_X3_needPlan
set_option maxRecDepth 20000 in
theorem ggX3_right_X3_fits : GoodIn wsX3_right wsX3_fits := goodIn_r _ [13, 9, 14, 15, 16, 17, 18, 19, 20, 21, 22, 23, 5, 24, 25, 26, 27, 28, 29, 30, 31, 32, 33, 34, 35, 36, 37, 38, 39, 40, 41, 42, 43, 44, 10, 11, 12, 45, 46, 47, 48, 49, 50, 51, 52, 53, 54, 55, 56, 57, 58, 59, 60] (by decide +kernel) (by decide +kernel)
set_option maxRecDepth 20000 in
theorem gX3_right_X3_fits : GoodIn wsX3_right (wsV RX3 160 RX3 yX3_fits wsX3_fits) := goodIn_app (goodIn_of _ (by decide +kernel)) ggX3_right_X3_fits
theorem dX3_right_0 : decode cX3_right 0 = .ok (.aload_n 0, 1) := by decide +kernel
theorem dX3_right_1 : decode cX3_right 1 = .ok (.invokevirtual 157, 3) := by decide +kernel
theorem dX3_right_4 : decode cX3_right 4 = .ok (.aload_n 0, 1) := by decide +kernel
theorem dX3_right_5 : decode cX3_right 5 = .ok (.iconst 0, 1) := by decide +kernel
theorem dX3_right_6 : decode cX3_right 6 = .ok (.aload_n 0, 1) := by decide +kernel
theorem dX3_right_7 : decode cX3_right 7 = .ok (.getfield 89, 3) := by decide +kernel
theorem dX3_right_10 : decode cX3_right 10 = .ok (.iconst 4, 1) := by decide +kernel
theorem dX3_right_11 : decode cX3_right 11 = .ok (.invokevirtual 160, 3) := by decide +kernel
theorem dX3_right_14 : decode cX3_right 14 = .ok (.ireturn, 1) := by decide +kernel
set_option maxRecDepth 20000 in
theorem ggX3_hide_X3_isIn : GoodIn wsX3_hide wsX3_isIn := goodIn_r _ [8] (by decide +kernel) (by decide +kernel)
set_option maxRecDepth 20000 in
theorem gX3_hide_X3_isIn : GoodIn wsX3_hide (va_wsS RX3 169 yX3_isIn wsX3_isIn) := goodIn_app (goodIn_of _ (by decide +kernel)) ggX3_hide_X3_isIn
theorem dX3_hide_0 : decode cX3_hide 0 = .ok (.iload_n 1, 1) := by decide +kernel
theorem dX3_hide_1 : decode cX3_hide 1 = .ok (.ifCond .lt 9, 3) := by decide +kernel
theorem dX3_hide_4 : decode cX3_hide 4 = .ok (.iload_n 1, 1) := by decide +kernel
theorem dX3_hide_5 : decode cX3_hide 5 = .ok (.bipush 16, 2) := by decide +kernel
theorem dX3_hide_7 : decode cX3_hide 7 = .ok (.if_icmp .lt 13, 3) := by decide +kernel
theorem dX3_hide_10 : decode cX3_hide 10 = .ok (.new 49, 3) := by decide +kernel
theorem dX3_hide_13 : decode cX3_hide 13 = .ok (.dup, 1) := by decide +kernel
theorem dX3_hide_14 : decode cX3_hide 14 = .ok (.ldc 164, 2) := by decide +kernel
theorem dX3_hide_16 : decode cX3_hide 16 = .ok (.invokespecial 53, 3) := by decide +kernel
theorem dX3_hide_19 : decode cX3_hide 19 = .ok (.athrow, 1) := by decide +kernel
theorem dX3_hide_20 : decode cX3_hide 20 = .ok (.aload_n 0, 1) := by decide +kernel
theorem dX3_hide_21 : decode cX3_hide 21 = .ok (.iload_n 1, 1) := by decide +kernel
theorem dX3_hide_22 : decode cX3_hide 22 = .ok (.putfield 166, 3) := by decide +kernel
theorem dX3_hide_25 : decode cX3_hide 25 = .ok (.iload_n 1, 1) := by decide +kernel
theorem dX3_hide_26 : decode cX3_hide 26 = .ok (.aload_n 0, 1) := by decide +kernel
theorem dX3_hide_27 : decode cX3_hide 27 = .ok (.getfield 89, 3) := by decide +kernel
theorem dX3_hide_30 : decode cX3_hide 30 = .ok (.invokestatic 169, 3) := by decide +kernel
theorem dX3_hide_33 : decode cX3_hide 33 = .ok (.ireturn, 1) := by decide +kernel
set_option maxRecDepth 20000 in
theorem ggX3_execute_X3_needPlan : GoodIn wsX3_execute wsX3_needPlan := goodIn_ca (goodIn_r _ [8, 1, 2, 9, 39, 40, 41, 42, 43, 44, 45, 46, 47, 48, 49] (by decide +kernel) (by decide +kernel)) (goodIn_sub (fun _ h => List.mem_cons_of_mem _ (List.mem_append_right _ h)) (by decide +kernel))
set_option maxRecDepth 20000 in
theorem gX3_execute_X3_needPlan : GoodIn wsX3_execute (wsV RX3 157 RX3 yX3_needPlan wsX3_needPlan) := goodIn_app (goodIn_of _ (by decide +kernel)) ggX3_execute_X3_needPlan
set_option maxRecDepth 20000 in
theorem ggX3_execute_X3_carryOut : GoodIn wsX3_execute wsX3_carryOut := goodIn_r _ [13, 3, 14, 9, 15, 16, 17, 18, 19, 20, 21, 22, 23, 24, 25, 26, 27, 28, 29, 30, 31, 32, 33, 34, 35, 36, 7, 37, 38, 39, 40, 41, 42, 43, 44, 45, 46, 47, 50, 51, 52, 53, 54, 48, 49] (by decide +kernel) (by decide +kernel)
set_option maxRecDepth 20000 in
theorem gX3_execute_X3_carryOut : GoodIn wsX3_execute (wsV RX3 175 RX3 yX3_carryOut wsX3_carryOut) := goodIn_app (goodIn_of _ (by decide +kernel)) ggX3_execute_X3_carryOut
theorem dX3_execute_0 : decode cX3_execute 0 = .ok (.aload_n 0, 1) := by decide +kernel
theorem dX3_execute_1 : decode cX3_execute 1 = .ok (.invokevirtual 157, 3) := by decide +kernel
theorem dX3_execute_4 : decode cX3_execute 4 = .ok (.aload_n 0, 1) := by decide +kernel
theorem dX3_execute_5 : decode cX3_execute 5 = .ok (.getfield 166, 3) := by decide +kernel
theorem dX3_execute_8 : decode cX3_execute 8 = .ok (.iconst (-1), 1) := by decide +kernel
theorem dX3_execute_9 : decode cX3_execute 9 = .ok (.if_icmp .ne 13, 3) := by decide +kernel
theorem dX3_execute_12 : decode cX3_execute 12 = .ok (.new 75, 3) := by decide +kernel
theorem dX3_execute_15 : decode cX3_execute 15 = .ok (.dup, 1) := by decide +kernel
theorem dX3_execute_16 : decode cX3_execute 16 = .ok (.ldc 173, 2) := by decide +kernel
theorem dX3_execute_18 : decode cX3_execute 18 = .ok (.invokespecial 79, 3) := by decide +kernel
theorem dX3_execute_21 : decode cX3_execute 21 = .ok (.athrow, 1) := by decide +kernel
theorem dX3_execute_22 : decode cX3_execute 22 = .ok (.aload_n 0, 1) := by decide +kernel
theorem dX3_execute_23 : decode cX3_execute 23 = .ok (.invokevirtual 175, 3) := by decide +kernel
theorem dX3_execute_26 : decode cX3_execute 26 = .ok (.ireturn, 1) := by decide +kernel
theorem dX3_made_0 : decode cX3_made 0 = .ok (.aload_n 0, 1) := by decide +kernel
theorem dX3_made_1 : decode cX3_made 1 = .ok (.getfield 179, 3) := by decide +kernel
theorem dX3_made_4 : decode cX3_made 4 = .ok (.ireturn, 1) := by decide +kernel
theorem dX3_trace_0 : decode cX3_trace 0 = .ok (.iload_n 1, 1) := by decide +kernel
theorem dX3_trace_1 : decode cX3_trace 1 = .ok (.ifCond .lt 11, 3) := by decide +kernel
theorem dX3_trace_4 : decode cX3_trace 4 = .ok (.iload_n 1, 1) := by decide +kernel
theorem dX3_trace_5 : decode cX3_trace 5 = .ok (.aload_n 0, 1) := by decide +kernel
theorem dX3_trace_6 : decode cX3_trace 6 = .ok (.getfield 179, 3) := by decide +kernel
theorem dX3_trace_9 : decode cX3_trace 9 = .ok (.if_icmp .lt 13, 3) := by decide +kernel
theorem dX3_trace_12 : decode cX3_trace 12 = .ok (.new 144, 3) := by decide +kernel
theorem dX3_trace_15 : decode cX3_trace 15 = .ok (.dup, 1) := by decide +kernel
theorem dX3_trace_16 : decode cX3_trace 16 = .ok (.ldc 182, 2) := by decide +kernel
theorem dX3_trace_18 : decode cX3_trace 18 = .ok (.invokespecial 148, 3) := by decide +kernel
theorem dX3_trace_21 : decode cX3_trace 21 = .ok (.athrow, 1) := by decide +kernel
theorem dX3_trace_22 : decode cX3_trace 22 = .ok (.aload_n 0, 1) := by decide +kernel
theorem dX3_trace_23 : decode cX3_trace 23 = .ok (.getfield 29, 3) := by decide +kernel
theorem dX3_trace_26 : decode cX3_trace 26 = .ok (.iload_n 1, 1) := by decide +kernel
theorem dX3_trace_27 : decode cX3_trace 27 = .ok (.iaload, 1) := by decide +kernel
theorem dX3_trace_28 : decode cX3_trace 28 = .ok (.ireturn, 1) := by decide +kernel
set_option maxRecDepth 20000 in
theorem ggX3_twins_X1_open : GoodIn wsX3_twins wsX1_open := goodIn_r _ [9, 10, 11, 12, 55, 56, 57] (by decide +kernel) (by decide +kernel)
set_option maxRecDepth 20000 in
theorem gX3_twins_X1_open : GoodIn wsX3_twins (wsV RX3 184 RX1 yX1_open wsX1_open) := goodIn_app (goodIn_of _ (by decide +kernel)) ggX3_twins_X1_open
set_option maxRecDepth 20000 in
theorem ggX3_twins_X3_look : GoodIn wsX3_twins wsX3_look := goodIn_r _ [17, 18, 3, 19, 20, 21, 22, 23, 24, 25, 26, 27, 28, 8, 29, 11, 12, 30, 31, 32, 33, 34, 35, 16, 36, 37, 38, 39, 40, 41, 13, 14, 15, 46, 47, 48, 49, 50, 51, 52, 53, 54, 58, 59, 60, 61, 62, 55, 56, 57] (by decide +kernel) (by decide +kernel)
set_option maxRecDepth 20000 in
theorem gX3_twins_X3_look : GoodIn wsX3_twins (wsV RX3 187 RX3 yX3_look wsX3_look) := goodIn_app (goodIn_of _ (by decide +kernel)) ggX3_twins_X3_look
set_option maxRecDepth 20000 in
theorem ggX3_twins_X1_firstAlike : GoodIn wsX3_twins wsX1_firstAlike := goodIn_r _ [45, 10, 12, 35, 16, 36, 55, 56, 57] (by decide +kernel) (by decide +kernel)
set_option maxRecDepth 20000 in
theorem gX3_twins_X1_firstAlike : GoodIn wsX3_twins (wsV RX3 190 RX1 yX1_firstAlike wsX1_firstAlike) := goodIn_app (goodIn_of _ (by decide +kernel)) ggX3_twins_X1_firstAlike
theorem dX3_twins_0 : decode cX3_twins 0 = .ok (.aload_n 0, 1) := by decide +kernel
theorem dX3_twins_1 : decode cX3_twins 1 = .ok (.getfield 25, 3) := by decide +kernel
theorem dX3_twins_4 : decode cX3_twins 4 = .ok (.aload_n 0, 1) := by decide +kernel
theorem dX3_twins_5 : decode cX3_twins 5 = .ok (.getfield 89, 3) := by decide +kernel
theorem dX3_twins_8 : decode cX3_twins 8 = .ok (.invokevirtual 184, 3) := by decide +kernel
theorem dX3_twins_11 : decode cX3_twins 11 = .ok (.aload_n 0, 1) := by decide +kernel
theorem dX3_twins_12 : decode cX3_twins 12 = .ok (.aload_n 0, 1) := by decide +kernel
theorem dX3_twins_13 : decode cX3_twins 13 = .ok (.getfield 89, 3) := by decide +kernel
theorem dX3_twins_16 : decode cX3_twins 16 = .ok (.iconst 0, 1) := by decide +kernel
theorem dX3_twins_17 : decode cX3_twins 17 = .ok (.invokevirtual 187, 3) := by decide +kernel
theorem dX3_twins_20 : decode cX3_twins 20 = .ok (.aload_n 0, 1) := by decide +kernel
theorem dX3_twins_21 : decode cX3_twins 21 = .ok (.getfield 25, 3) := by decide +kernel
theorem dX3_twins_24 : decode cX3_twins 24 = .ok (.invokevirtual 190, 3) := by decide +kernel
theorem dX3_twins_27 : decode cX3_twins 27 = .ok (.istore_n 1, 1) := by decide +kernel
theorem dX3_twins_28 : decode cX3_twins 28 = .ok (.iload_n 1, 1) := by decide +kernel
theorem dX3_twins_29 : decode cX3_twins 29 = .ok (.iconst (-1), 1) := by decide +kernel
theorem dX3_twins_30 : decode cX3_twins 30 = .ok (.if_icmp .ne 13, 3) := by decide +kernel
theorem dX3_twins_33 : decode cX3_twins 33 = .ok (.new 194, 3) := by decide +kernel
theorem dX3_twins_36 : decode cX3_twins 36 = .ok (.dup, 1) := by decide +kernel
theorem dX3_twins_37 : decode cX3_twins 37 = .ok (.ldc 196, 2) := by decide +kernel
theorem dX3_twins_39 : decode cX3_twins 39 = .ok (.invokespecial 198, 3) := by decide +kernel
theorem dX3_twins_42 : decode cX3_twins 42 = .ok (.athrow, 1) := by decide +kernel
theorem dX3_twins_43 : decode cX3_twins 43 = .ok (.iload_n 1, 1) := by decide +kernel
theorem dX3_twins_44 : decode cX3_twins 44 = .ok (.ireturn, 1) := by decide +kernel
set_option maxRecDepth 20000 in
theorem ggX3_forgetAll_X2_empty : GoodIn wsX3_forgetAll wsX2_empty := goodIn_r _ [13, 14, 29, 30] (by decide +kernel) (by decide +kernel)
set_option maxRecDepth 20000 in
theorem gX3_forgetAll_X2_empty : GoodIn wsX3_forgetAll (wsV RX3 132 RX2 yX2_empty wsX2_empty) := goodIn_app (goodIn_of _ (by decide +kernel)) ggX3_forgetAll_X2_empty
theorem dX3_forgetAll_0 : decode cX3_forgetAll 0 = .ok (.iconst 0, 1) := by decide +kernel
theorem dX3_forgetAll_1 : decode cX3_forgetAll 1 = .ok (.istore_n 1, 1) := by decide +kernel
theorem dX3_forgetAll_2 : decode cX3_forgetAll 2 = .ok (.iload_n 1, 1) := by decide +kernel
theorem dX3_forgetAll_3 : decode cX3_forgetAll 3 = .ok (.bipush 8, 2) := by decide +kernel
theorem dX3_forgetAll_5 : decode cX3_forgetAll 5 = .ok (.if_icmp .ge 19, 3) := by decide +kernel
theorem dX3_forgetAll_8 : decode cX3_forgetAll 8 = .ok (.aload_n 0, 1) := by decide +kernel
theorem dX3_forgetAll_9 : decode cX3_forgetAll 9 = .ok (.getfield 11, 3) := by decide +kernel
theorem dX3_forgetAll_12 : decode cX3_forgetAll 12 = .ok (.iload_n 1, 1) := by decide +kernel
theorem dX3_forgetAll_13 : decode cX3_forgetAll 13 = .ok (.aaload, 1) := by decide +kernel
theorem dX3_forgetAll_14 : decode cX3_forgetAll 14 = .ok (.iconst 0, 1) := by decide +kernel
theorem dX3_forgetAll_15 : decode cX3_forgetAll 15 = .ok (.putfield 37, 3) := by decide +kernel
theorem dX3_forgetAll_18 : decode cX3_forgetAll 18 = .ok (.iinc 1 1, 3) := by decide +kernel
theorem dX3_forgetAll_21 : decode cX3_forgetAll 21 = .ok (.goto (-19), 3) := by decide +kernel
theorem dX3_forgetAll_24 : decode cX3_forgetAll 24 = .ok (.aload_n 0, 1) := by decide +kernel
theorem dX3_forgetAll_25 : decode cX3_forgetAll 25 = .ok (.getfield 18, 3) := by decide +kernel
theorem dX3_forgetAll_28 : decode cX3_forgetAll 28 = .ok (.invokevirtual 132, 3) := by decide +kernel
theorem dX3_forgetAll_31 : decode cX3_forgetAll 31 = .ok (.aload_n 0, 1) := by decide +kernel
theorem dX3_forgetAll_32 : decode cX3_forgetAll 32 = .ok (.iconst 0, 1) := by decide +kernel
theorem dX3_forgetAll_33 : decode cX3_forgetAll 33 = .ok (.putfield 84, 3) := by decide +kernel
theorem dX3_forgetAll_36 : decode cX3_forgetAll 36 = .ok (.aload_n 0, 1) := by decide +kernel
theorem dX3_forgetAll_37 : decode cX3_forgetAll 37 = .ok (.ldc 104, 2) := by decide +kernel
theorem dX3_forgetAll_39 : decode cX3_forgetAll 39 = .ok (.putfield 89, 3) := by decide +kernel
theorem dX3_forgetAll_42 : decode cX3_forgetAll 42 = .ok (.aload_n 0, 1) := by decide +kernel
theorem dX3_forgetAll_43 : decode cX3_forgetAll 43 = .ok (.ldc 104, 2) := by decide +kernel
theorem dX3_forgetAll_45 : decode cX3_forgetAll 45 = .ok (.putfield 95, 3) := by decide +kernel
theorem dX3_forgetAll_48 : decode cX3_forgetAll 48 = .ok (.aload_n 0, 1) := by decide +kernel
theorem dX3_forgetAll_49 : decode cX3_forgetAll 49 = .ok (.iconst (-1), 1) := by decide +kernel
theorem dX3_forgetAll_50 : decode cX3_forgetAll 50 = .ok (.putfield 166, 3) := by decide +kernel
theorem dX3_forgetAll_53 : decode cX3_forgetAll 53 = .ok (.aload_n 0, 1) := by decide +kernel
theorem dX3_forgetAll_54 : decode cX3_forgetAll 54 = .ok (.iconst 0, 1) := by decide +kernel
theorem dX3_forgetAll_55 : decode cX3_forgetAll 55 = .ok (.putfield 179, 3) := by decide +kernel
theorem dX3_forgetAll_58 : decode cX3_forgetAll 58 = .ok (.return_, 1) := by decide +kernel
theorem dX3_needNumber_0 : decode cX3_needNumber 0 = .ok (.iload_n 0, 1) := by decide +kernel
theorem dX3_needNumber_1 : decode cX3_needNumber 1 = .ok (.ifCond .lt 9, 3) := by decide +kernel
theorem dX3_needNumber_4 : decode cX3_needNumber 4 = .ok (.iload_n 0, 1) := by decide +kernel
theorem dX3_needNumber_5 : decode cX3_needNumber 5 = .ok (.bipush 8, 2) := by decide +kernel
theorem dX3_needNumber_7 : decode cX3_needNumber 7 = .ok (.if_icmp .lt 13, 3) := by decide +kernel
theorem dX3_needNumber_10 : decode cX3_needNumber 10 = .ok (.new 144, 3) := by decide +kernel
theorem dX3_needNumber_13 : decode cX3_needNumber 13 = .ok (.dup, 1) := by decide +kernel
theorem dX3_needNumber_14 : decode cX3_needNumber 14 = .ok (.ldc 199, 2) := by decide +kernel
theorem dX3_needNumber_16 : decode cX3_needNumber 16 = .ok (.invokespecial 148, 3) := by decide +kernel
theorem dX3_needNumber_19 : decode cX3_needNumber 19 = .ok (.athrow, 1) := by decide +kernel
theorem dX3_needNumber_20 : decode cX3_needNumber 20 = .ok (.return_, 1) := by decide +kernel
theorem dX3_needThere_0 : decode cX3_needThere 0 = .ok (.aload_n 0, 1) := by decide +kernel
theorem dX3_needThere_1 : decode cX3_needThere 1 = .ok (.getfield 11, 3) := by decide +kernel
theorem dX3_needThere_4 : decode cX3_needThere 4 = .ok (.iload_n 1, 1) := by decide +kernel
theorem dX3_needThere_5 : decode cX3_needThere 5 = .ok (.aaload, 1) := by decide +kernel
theorem dX3_needThere_6 : decode cX3_needThere 6 = .ok (.getfield 37, 3) := by decide +kernel
theorem dX3_needThere_9 : decode cX3_needThere 9 = .ok (.ifCond .ne 13, 3) := by decide +kernel
theorem dX3_needThere_12 : decode cX3_needThere 12 = .ok (.new 194, 3) := by decide +kernel
theorem dX3_needThere_15 : decode cX3_needThere 15 = .ok (.dup, 1) := by decide +kernel
theorem dX3_needThere_16 : decode cX3_needThere 16 = .ok (.ldc 201, 2) := by decide +kernel
theorem dX3_needThere_18 : decode cX3_needThere 18 = .ok (.invokespecial 198, 3) := by decide +kernel
theorem dX3_needThere_21 : decode cX3_needThere 21 = .ok (.athrow, 1) := by decide +kernel
theorem dX3_needThere_22 : decode cX3_needThere 22 = .ok (.return_, 1) := by decide +kernel
theorem dX3_needBits_0 : decode cX3_needBits 0 = .ok (.iload_n 0, 1) := by decide +kernel
theorem dX3_needBits_1 : decode cX3_needBits 1 = .ok (.ifCond .lt 19, 3) := by decide +kernel
theorem dX3_needBits_4 : decode cX3_needBits 4 = .ok (.iload_n 0, 1) := by decide +kernel
theorem dX3_needBits_5 : decode cX3_needBits 5 = .ok (.bipush 15, 2) := by decide +kernel
theorem dX3_needBits_7 : decode cX3_needBits 7 = .ok (.if_icmp .gt 13, 3) := by decide +kernel
theorem dX3_needBits_10 : decode cX3_needBits 10 = .ok (.iload_n 1, 1) := by decide +kernel
theorem dX3_needBits_11 : decode cX3_needBits 11 = .ok (.ifCond .lt 9, 3) := by decide +kernel
theorem dX3_needBits_14 : decode cX3_needBits 14 = .ok (.iload_n 1, 1) := by decide +kernel
theorem dX3_needBits_15 : decode cX3_needBits 15 = .ok (.bipush 15, 2) := by decide +kernel
theorem dX3_needBits_17 : decode cX3_needBits 17 = .ok (.if_icmp .le 13, 3) := by decide +kernel
theorem dX3_needBits_20 : decode cX3_needBits 20 = .ok (.new 49, 3) := by decide +kernel
theorem dX3_needBits_23 : decode cX3_needBits 23 = .ok (.dup, 1) := by decide +kernel
theorem dX3_needBits_24 : decode cX3_needBits 24 = .ok (.ldc 203, 2) := by decide +kernel
theorem dX3_needBits_26 : decode cX3_needBits 26 = .ok (.invokespecial 53, 3) := by decide +kernel
theorem dX3_needBits_29 : decode cX3_needBits 29 = .ok (.athrow, 1) := by decide +kernel
theorem dX3_needBits_30 : decode cX3_needBits 30 = .ok (.return_, 1) := by decide +kernel
theorem dX3_needDepth_0 : decode cX3_needDepth 0 = .ok (.iload_n 0, 1) := by decide +kernel
theorem dX3_needDepth_1 : decode cX3_needDepth 1 = .ok (.ifCond .lt 8, 3) := by decide +kernel
theorem dX3_needDepth_4 : decode cX3_needDepth 4 = .ok (.iload_n 0, 1) := by decide +kernel
theorem dX3_needDepth_5 : decode cX3_needDepth 5 = .ok (.iconst 4, 1) := by decide +kernel
theorem dX3_needDepth_6 : decode cX3_needDepth 6 = .ok (.if_icmp .le 13, 3) := by decide +kernel
theorem dX3_needDepth_9 : decode cX3_needDepth 9 = .ok (.new 49, 3) := by decide +kernel
theorem dX3_needDepth_12 : decode cX3_needDepth 12 = .ok (.dup, 1) := by decide +kernel
theorem dX3_needDepth_13 : decode cX3_needDepth 13 = .ok (.ldc 205, 2) := by decide +kernel
theorem dX3_needDepth_15 : decode cX3_needDepth 15 = .ok (.invokespecial 53, 3) := by decide +kernel
theorem dX3_needDepth_18 : decode cX3_needDepth 18 = .ok (.athrow, 1) := by decide +kernel
theorem dX3_needDepth_19 : decode cX3_needDepth 19 = .ok (.return_, 1) := by decide +kernel
theorem dX3_needSolved_0 : decode cX3_needSolved 0 = .ok (.iload_n 0, 1) := by decide +kernel
theorem dX3_needSolved_1 : decode cX3_needSolved 1 = .ok (.iconst (-1), 1) := by decide +kernel
theorem dX3_needSolved_2 : decode cX3_needSolved 2 = .ok (.if_icmp .ne 13, 3) := by decide +kernel
theorem dX3_needSolved_5 : decode cX3_needSolved 5 = .ok (.new 194, 3) := by decide +kernel
theorem dX3_needSolved_8 : decode cX3_needSolved 8 = .ok (.dup, 1) := by decide +kernel
theorem dX3_needSolved_9 : decode cX3_needSolved 9 = .ok (.ldc 207, 2) := by decide +kernel
theorem dX3_needSolved_11 : decode cX3_needSolved 11 = .ok (.invokespecial 198, 3) := by decide +kernel
theorem dX3_needSolved_14 : decode cX3_needSolved 14 = .ok (.athrow, 1) := by decide +kernel
theorem dX3_needSolved_15 : decode cX3_needSolved 15 = .ok (.iload_n 0, 1) := by decide +kernel
theorem dX3_needSolved_16 : decode cX3_needSolved 16 = .ok (.ireturn, 1) := by decide +kernel
theorem dX3_needNode_0 : decode cX3_needNode 0 = .ok (.iload_n 1, 1) := by decide +kernel
theorem dX3_needNode_1 : decode cX3_needNode 1 = .ok (.ifCond .lt 14, 3) := by decide +kernel
theorem dX3_needNode_4 : decode cX3_needNode 4 = .ok (.iload_n 1, 1) := by decide +kernel
theorem dX3_needNode_5 : decode cX3_needNode 5 = .ok (.aload_n 0, 1) := by decide +kernel
theorem dX3_needNode_6 : decode cX3_needNode 6 = .ok (.getfield 18, 3) := by decide +kernel
theorem dX3_needNode_9 : decode cX3_needNode 9 = .ok (.getfield 138, 3) := by decide +kernel
theorem dX3_needNode_12 : decode cX3_needNode 12 = .ok (.if_icmp .lt 13, 3) := by decide +kernel
theorem dX3_needNode_15 : decode cX3_needNode 15 = .ok (.new 144, 3) := by decide +kernel
theorem dX3_needNode_18 : decode cX3_needNode 18 = .ok (.dup, 1) := by decide +kernel
theorem dX3_needNode_19 : decode cX3_needNode 19 = .ok (.ldc 209, 2) := by decide +kernel
theorem dX3_needNode_21 : decode cX3_needNode 21 = .ok (.invokespecial 148, 3) := by decide +kernel
theorem dX3_needNode_24 : decode cX3_needNode 24 = .ok (.athrow, 1) := by decide +kernel
theorem dX3_needNode_25 : decode cX3_needNode 25 = .ok (.return_, 1) := by decide +kernel
theorem dX3_needPlan_0 : decode cX3_needPlan 0 = .ok (.aload_n 0, 1) := by decide +kernel
theorem dX3_needPlan_1 : decode cX3_needPlan 1 = .ok (.getfield 18, 3) := by decide +kernel
theorem dX3_needPlan_4 : decode cX3_needPlan 4 = .ok (.getfield 138, 3) := by decide +kernel
theorem dX3_needPlan_7 : decode cX3_needPlan 7 = .ok (.ifCond .ne 13, 3) := by decide +kernel
theorem dX3_needPlan_10 : decode cX3_needPlan 10 = .ok (.new 75, 3) := by decide +kernel
theorem dX3_needPlan_13 : decode cX3_needPlan 13 = .ok (.dup, 1) := by decide +kernel
theorem dX3_needPlan_14 : decode cX3_needPlan 14 = .ok (.ldc 211, 2) := by decide +kernel
theorem dX3_needPlan_16 : decode cX3_needPlan 16 = .ok (.invokespecial 79, 3) := by decide +kernel
theorem dX3_needPlan_19 : decode cX3_needPlan 19 = .ok (.athrow, 1) := by decide +kernel
theorem dX3_needPlan_20 : decode cX3_needPlan 20 = .ok (.return_, 1) := by decide +kernel
theorem dX3_isIn_0 : decode cX3_isIn 0 = .ok (.iload_n 1, 1) := by decide +kernel
theorem dX3_isIn_1 : decode cX3_isIn 1 = .ok (.iload_n 0, 1) := by decide +kernel
theorem dX3_isIn_2 : decode cX3_isIn 2 = .ok (.ishr, 1) := by decide +kernel
theorem dX3_isIn_3 : decode cX3_isIn 3 = .ok (.iconst 1, 1) := by decide +kernel
theorem dX3_isIn_4 : decode cX3_isIn 4 = .ok (.iand, 1) := by decide +kernel
theorem dX3_isIn_5 : decode cX3_isIn 5 = .ok (.ifCond .eq 7, 3) := by decide +kernel
theorem dX3_isIn_8 : decode cX3_isIn 8 = .ok (.iconst 1, 1) := by decide +kernel
theorem dX3_isIn_9 : decode cX3_isIn 9 = .ok (.goto 4, 3) := by decide +kernel
theorem dX3_isIn_12 : decode cX3_isIn 12 = .ok (.iconst 0, 1) := by decide +kernel
theorem dX3_isIn_13 : decode cX3_isIn 13 = .ok (.ireturn, 1) := by decide +kernel
theorem dX3_demanded_0 : decode cX3_demanded 0 = .ok (.iconst 0, 1) := by decide +kernel
theorem dX3_demanded_1 : decode cX3_demanded 1 = .ok (.istore_n 2, 1) := by decide +kernel
theorem dX3_demanded_2 : decode cX3_demanded 2 = .ok (.iconst 0, 1) := by decide +kernel
theorem dX3_demanded_3 : decode cX3_demanded 3 = .ok (.istore_n 3, 1) := by decide +kernel
theorem dX3_demanded_4 : decode cX3_demanded 4 = .ok (.iload_n 3, 1) := by decide +kernel
theorem dX3_demanded_5 : decode cX3_demanded 5 = .ok (.bipush 16, 2) := by decide +kernel
theorem dX3_demanded_7 : decode cX3_demanded 7 = .ok (.if_icmp .ge 24, 3) := by decide +kernel
theorem dX3_demanded_10 : decode cX3_demanded 10 = .ok (.iload_n 3, 1) := by decide +kernel
theorem dX3_demanded_11 : decode cX3_demanded 11 = .ok (.iload_n 0, 1) := by decide +kernel
theorem dX3_demanded_12 : decode cX3_demanded 12 = .ok (.iand, 1) := by decide +kernel
theorem dX3_demanded_13 : decode cX3_demanded 13 = .ok (.iload_n 1, 1) := by decide +kernel
theorem dX3_demanded_14 : decode cX3_demanded 14 = .ok (.iload_n 0, 1) := by decide +kernel
theorem dX3_demanded_15 : decode cX3_demanded 15 = .ok (.iand, 1) := by decide +kernel
theorem dX3_demanded_16 : decode cX3_demanded 16 = .ok (.if_icmp .ne 9, 3) := by decide +kernel
theorem dX3_demanded_19 : decode cX3_demanded 19 = .ok (.iload_n 2, 1) := by decide +kernel
theorem dX3_demanded_20 : decode cX3_demanded 20 = .ok (.iconst 1, 1) := by decide +kernel
theorem dX3_demanded_21 : decode cX3_demanded 21 = .ok (.iload_n 3, 1) := by decide +kernel
theorem dX3_demanded_22 : decode cX3_demanded 22 = .ok (.ishl, 1) := by decide +kernel
theorem dX3_demanded_23 : decode cX3_demanded 23 = .ok (.ior, 1) := by decide +kernel
theorem dX3_demanded_24 : decode cX3_demanded 24 = .ok (.istore_n 2, 1) := by decide +kernel
theorem dX3_demanded_25 : decode cX3_demanded 25 = .ok (.iinc 3 1, 3) := by decide +kernel
theorem dX3_demanded_28 : decode cX3_demanded 28 = .ok (.goto (-24), 3) := by decide +kernel
theorem dX3_demanded_31 : decode cX3_demanded 31 = .ok (.iload_n 2, 1) := by decide +kernel
theorem dX3_demanded_32 : decode cX3_demanded 32 = .ok (.ireturn, 1) := by decide +kernel
theorem dX3_allowed_0 : decode cX3_allowed 0 = .ok (.iconst 0, 1) := by decide +kernel
theorem dX3_allowed_1 : decode cX3_allowed 1 = .ok (.istore_n 2, 1) := by decide +kernel
theorem dX3_allowed_2 : decode cX3_allowed 2 = .ok (.iconst 0, 1) := by decide +kernel
theorem dX3_allowed_3 : decode cX3_allowed 3 = .ok (.istore_n 3, 1) := by decide +kernel
theorem dX3_allowed_4 : decode cX3_allowed 4 = .ok (.iload_n 3, 1) := by decide +kernel
theorem dX3_allowed_5 : decode cX3_allowed 5 = .ok (.bipush 16, 2) := by decide +kernel
theorem dX3_allowed_7 : decode cX3_allowed 7 = .ok (.if_icmp .ge 29, 3) := by decide +kernel
theorem dX3_allowed_10 : decode cX3_allowed 10 = .ok (.iload_n 3, 1) := by decide +kernel
theorem dX3_allowed_11 : decode cX3_allowed 11 = .ok (.iload_n 0, 1) := by decide +kernel
theorem dX3_allowed_12 : decode cX3_allowed 12 = .ok (.iand, 1) := by decide +kernel
theorem dX3_allowed_13 : decode cX3_allowed 13 = .ok (.ifCond .ne 11, 3) := by decide +kernel
theorem dX3_allowed_16 : decode cX3_allowed 16 = .ok (.iload_n 3, 1) := by decide +kernel
theorem dX3_allowed_17 : decode cX3_allowed 17 = .ok (.iconst (-1), 1) := by decide +kernel
theorem dX3_allowed_18 : decode cX3_allowed 18 = .ok (.ixor, 1) := by decide +kernel
theorem dX3_allowed_19 : decode cX3_allowed 19 = .ok (.iload_n 1, 1) := by decide +kernel
theorem dX3_allowed_20 : decode cX3_allowed 20 = .ok (.iand, 1) := by decide +kernel
theorem dX3_allowed_21 : decode cX3_allowed 21 = .ok (.ifCond .eq 9, 3) := by decide +kernel
theorem dX3_allowed_24 : decode cX3_allowed 24 = .ok (.iload_n 2, 1) := by decide +kernel
theorem dX3_allowed_25 : decode cX3_allowed 25 = .ok (.iconst 1, 1) := by decide +kernel
theorem dX3_allowed_26 : decode cX3_allowed 26 = .ok (.iload_n 3, 1) := by decide +kernel
theorem dX3_allowed_27 : decode cX3_allowed 27 = .ok (.ishl, 1) := by decide +kernel
theorem dX3_allowed_28 : decode cX3_allowed 28 = .ok (.ior, 1) := by decide +kernel
theorem dX3_allowed_29 : decode cX3_allowed 29 = .ok (.istore_n 2, 1) := by decide +kernel
theorem dX3_allowed_30 : decode cX3_allowed 30 = .ok (.iinc 3 1, 3) := by decide +kernel
theorem dX3_allowed_33 : decode cX3_allowed 33 = .ok (.goto (-29), 3) := by decide +kernel
theorem dX3_allowed_36 : decode cX3_allowed 36 = .ok (.iload_n 2, 1) := by decide +kernel
theorem dX3_allowed_37 : decode cX3_allowed 37 = .ok (.ireturn, 1) := by decide +kernel
set_option maxRecDepth 20000 in
theorem ggX3_fewest_X3_solved : GoodIn wsX3_fewest wsX3_solved := goodIn_r _ [5, 6, 7, 8, 4, 9, 10, 11, 12, 13, 14, 15, 16, 17, 18, 19, 20, 21, 22, 23, 24, 25, 26, 27, 28, 29, 30, 31, 32, 33, 34, 35, 36, 37, 38, 1, 2, 3, 39, 40, 41, 42, 43, 44, 45, 46, 47, 48, 49, 50, 51, 52] (by decide +kernel) (by decide +kernel)
set_option maxRecDepth 20000 in
theorem gX3_fewest_X3_solved : GoodIn wsX3_fewest (wsV RX3 213 RX3 yX3_solved wsX3_solved) := goodIn_app (goodIn_of _ (by decide +kernel)) ggX3_fewest_X3_solved
theorem dX3_fewest_0 : decode cX3_fewest 0 = .ok (.iconst 0, 1) := by decide +kernel
theorem dX3_fewest_1 : decode cX3_fewest 1 = .ok (.istore_n 3, 1) := by decide +kernel
theorem dX3_fewest_2 : decode cX3_fewest 2 = .ok (.iload_n 3, 1) := by decide +kernel
theorem dX3_fewest_3 : decode cX3_fewest 3 = .ok (.iload_n 2, 1) := by decide +kernel
theorem dX3_fewest_4 : decode cX3_fewest 4 = .ok (.if_icmp .gt 20, 3) := by decide +kernel
theorem dX3_fewest_7 : decode cX3_fewest 7 = .ok (.aload_n 0, 1) := by decide +kernel
theorem dX3_fewest_8 : decode cX3_fewest 8 = .ok (.iload_n 1, 1) := by decide +kernel
theorem dX3_fewest_9 : decode cX3_fewest 9 = .ok (.iload_n 3, 1) := by decide +kernel
theorem dX3_fewest_10 : decode cX3_fewest 10 = .ok (.invokevirtual 213, 3) := by decide +kernel
theorem dX3_fewest_13 : decode cX3_fewest 13 = .ok (.ifCond .eq 5, 3) := by decide +kernel
theorem dX3_fewest_16 : decode cX3_fewest 16 = .ok (.iload_n 3, 1) := by decide +kernel
theorem dX3_fewest_17 : decode cX3_fewest 17 = .ok (.ireturn, 1) := by decide +kernel
theorem dX3_fewest_18 : decode cX3_fewest 18 = .ok (.iinc 3 1, 3) := by decide +kernel
theorem dX3_fewest_21 : decode cX3_fewest 21 = .ok (.goto (-19), 3) := by decide +kernel
theorem dX3_fewest_24 : decode cX3_fewest 24 = .ok (.iconst (-1), 1) := by decide +kernel
theorem dX3_fewest_25 : decode cX3_fewest 25 = .ok (.ireturn, 1) := by decide +kernel
set_option maxRecDepth 20000 in
theorem ggX3_solved_X3_reached : GoodIn wsX3_solved wsX3_reached := goodIn_r _ [5, 6, 38, 39, 40, 41, 42, 43, 44, 45, 46] (by decide +kernel) (by decide +kernel)
set_option maxRecDepth 20000 in
theorem gX3_solved_X3_reached : GoodIn wsX3_solved (wsV RX3 216 RX3 yX3_reached wsX3_reached) := goodIn_app (goodIn_of _ (by decide +kernel)) ggX3_solved_X3_reached
set_option maxRecDepth 20000 in
theorem ggX3_solved_X3_leastAction : GoodIn wsX3_solved wsX3_leastAction := goodIn_r _ [10, 11, 12, 13, 14, 15, 16, 17, 18, 19, 20, 21, 4, 0, 1, 2, 3, 5, 6, 7, 8, 9, 22, 23, 24, 25, 26, 27, 28, 29, 30, 31, 32, 33, 34, 35, 36, 37, 38, 39, 40, 41, 42, 43, 44, 45, 46, 47, 48, 49, 50, 51] (by decide +kernel) (by decide +kernel)
set_option maxRecDepth 20000 in
theorem gX3_solved_X3_leastAction : GoodIn wsX3_solved (wsV RX3 219 RX3 yX3_leastAction wsX3_leastAction) := goodIn_app (goodIn_of _ (by decide +kernel)) ggX3_solved_X3_leastAction
theorem dX3_solved_0 : decode cX3_solved 0 = .ok (.aload_n 0, 1) := by decide +kernel
theorem dX3_solved_1 : decode cX3_solved 1 = .ok (.iload_n 1, 1) := by decide +kernel
theorem dX3_solved_2 : decode cX3_solved 2 = .ok (.invokevirtual 216, 3) := by decide +kernel
theorem dX3_solved_5 : decode cX3_solved 5 = .ok (.ifCond .ne 13, 3) := by decide +kernel
theorem dX3_solved_8 : decode cX3_solved 8 = .ok (.aload_n 0, 1) := by decide +kernel
theorem dX3_solved_9 : decode cX3_solved 9 = .ok (.iload_n 1, 1) := by decide +kernel
theorem dX3_solved_10 : decode cX3_solved 10 = .ok (.iload_n 2, 1) := by decide +kernel
theorem dX3_solved_11 : decode cX3_solved 11 = .ok (.invokevirtual 219, 3) := by decide +kernel
theorem dX3_solved_14 : decode cX3_solved 14 = .ok (.iconst (-1), 1) := by decide +kernel
theorem dX3_solved_15 : decode cX3_solved 15 = .ok (.if_icmp .eq 7, 3) := by decide +kernel
theorem dX3_solved_18 : decode cX3_solved 18 = .ok (.iconst 1, 1) := by decide +kernel
theorem dX3_solved_19 : decode cX3_solved 19 = .ok (.goto 4, 3) := by decide +kernel
theorem dX3_solved_22 : decode cX3_solved 22 = .ok (.iconst 0, 1) := by decide +kernel
theorem dX3_solved_23 : decode cX3_solved 23 = .ok (.ireturn, 1) := by decide +kernel
theorem dX3_reached_0 : decode cX3_reached 0 = .ok (.iload_n 1, 1) := by decide +kernel
theorem dX3_reached_1 : decode cX3_reached 1 = .ok (.aload_n 0, 1) := by decide +kernel
theorem dX3_reached_2 : decode cX3_reached 2 = .ok (.getfield 95, 3) := by decide +kernel
theorem dX3_reached_5 : decode cX3_reached 5 = .ok (.iconst (-1), 1) := by decide +kernel
theorem dX3_reached_6 : decode cX3_reached 6 = .ok (.ixor, 1) := by decide +kernel
theorem dX3_reached_7 : decode cX3_reached 7 = .ok (.iand, 1) := by decide +kernel
theorem dX3_reached_8 : decode cX3_reached 8 = .ok (.ifCond .ne 7, 3) := by decide +kernel
theorem dX3_reached_11 : decode cX3_reached 11 = .ok (.iconst 1, 1) := by decide +kernel
theorem dX3_reached_12 : decode cX3_reached 12 = .ok (.goto 4, 3) := by decide +kernel
theorem dX3_reached_15 : decode cX3_reached 15 = .ok (.iconst 0, 1) := by decide +kernel
theorem dX3_reached_16 : decode cX3_reached 16 = .ok (.ireturn, 1) := by decide +kernel
set_option maxRecDepth 20000 in
theorem ggX3_leastAction_X0_usable : GoodIn wsX3_leastAction wsX0_usable := goodIn_r _ [6, 7, 8, 47, 48, 49, 50, 51] (by decide +kernel) (by decide +kernel)
set_option maxRecDepth 20000 in
theorem gX3_leastAction_X0_usable : GoodIn wsX3_leastAction (wsV RX3 107 RX0 yX0_usable wsX0_usable) := goodIn_app (goodIn_of _ (by decide +kernel)) ggX3_leastAction_X0_usable
set_option maxRecDepth 20000 in
theorem ggX3_leastAction_X3_solves : GoodIn wsX3_leastAction wsX3_solves := goodIn_r _ [22, 23, 24, 25, 5, 26, 27, 28, 12, 29, 30, 31, 32, 33, 34, 35, 36, 37, 0, 1, 2, 3, 4, 6, 7, 8, 9, 10, 11, 13, 14, 15, 16, 17, 18, 19, 20, 21, 38, 39, 40, 41, 42, 43, 44, 45, 46, 47, 48, 49, 50, 51] (by decide +kernel) (by decide +kernel)
set_option maxRecDepth 20000 in
theorem gX3_leastAction_X3_solves : GoodIn wsX3_leastAction (wsV RX3 222 RX3 yX3_solves wsX3_solves) := goodIn_app (goodIn_of _ (by decide +kernel)) ggX3_leastAction_X3_solves
theorem dX3_leastAction_0 : decode cX3_leastAction 0 = .ok (.iload_n 2, 1) := by decide +kernel
theorem dX3_leastAction_1 : decode cX3_leastAction 1 = .ok (.ifCond .gt 5, 3) := by decide +kernel
theorem dX3_leastAction_4 : decode cX3_leastAction 4 = .ok (.iconst (-1), 1) := by decide +kernel
theorem dX3_leastAction_5 : decode cX3_leastAction 5 = .ok (.ireturn, 1) := by decide +kernel
theorem dX3_leastAction_6 : decode cX3_leastAction 6 = .ok (.iconst 0, 1) := by decide +kernel
theorem dX3_leastAction_7 : decode cX3_leastAction 7 = .ok (.istore_n 3, 1) := by decide +kernel
theorem dX3_leastAction_8 : decode cX3_leastAction 8 = .ok (.iload_n 3, 1) := by decide +kernel
theorem dX3_leastAction_9 : decode cX3_leastAction 9 = .ok (.bipush 8, 2) := by decide +kernel
theorem dX3_leastAction_11 : decode cX3_leastAction 11 = .ok (.if_icmp .ge 39, 3) := by decide +kernel
theorem dX3_leastAction_14 : decode cX3_leastAction 14 = .ok (.aload_n 0, 1) := by decide +kernel
theorem dX3_leastAction_15 : decode cX3_leastAction 15 = .ok (.getfield 11, 3) := by decide +kernel
theorem dX3_leastAction_18 : decode cX3_leastAction 18 = .ok (.iload_n 3, 1) := by decide +kernel
theorem dX3_leastAction_19 : decode cX3_leastAction 19 = .ok (.aaload, 1) := by decide +kernel
theorem dX3_leastAction_20 : decode cX3_leastAction 20 = .ok (.iload_n 1, 1) := by decide +kernel
theorem dX3_leastAction_21 : decode cX3_leastAction 21 = .ok (.invokevirtual 107, 3) := by decide +kernel
theorem dX3_leastAction_24 : decode cX3_leastAction 24 = .ok (.ifCond .eq 20, 3) := by decide +kernel
theorem dX3_leastAction_27 : decode cX3_leastAction 27 = .ok (.aload_n 0, 1) := by decide +kernel
theorem dX3_leastAction_28 : decode cX3_leastAction 28 = .ok (.aload_n 0, 1) := by decide +kernel
theorem dX3_leastAction_29 : decode cX3_leastAction 29 = .ok (.getfield 11, 3) := by decide +kernel
theorem dX3_leastAction_32 : decode cX3_leastAction 32 = .ok (.iload_n 3, 1) := by decide +kernel
theorem dX3_leastAction_33 : decode cX3_leastAction 33 = .ok (.aaload, 1) := by decide +kernel
theorem dX3_leastAction_34 : decode cX3_leastAction 34 = .ok (.iload_n 1, 1) := by decide +kernel
theorem dX3_leastAction_35 : decode cX3_leastAction 35 = .ok (.iload_n 2, 1) := by decide +kernel
theorem dX3_leastAction_36 : decode cX3_leastAction 36 = .ok (.invokevirtual 222, 3) := by decide +kernel
theorem dX3_leastAction_39 : decode cX3_leastAction 39 = .ok (.ifCond .eq 5, 3) := by decide +kernel
theorem dX3_leastAction_42 : decode cX3_leastAction 42 = .ok (.iload_n 3, 1) := by decide +kernel
theorem dX3_leastAction_43 : decode cX3_leastAction 43 = .ok (.ireturn, 1) := by decide +kernel
theorem dX3_leastAction_44 : decode cX3_leastAction 44 = .ok (.iinc 3 1, 3) := by decide +kernel
theorem dX3_leastAction_47 : decode cX3_leastAction 47 = .ok (.goto (-39), 3) := by decide +kernel
theorem dX3_leastAction_50 : decode cX3_leastAction 50 = .ok (.iconst (-1), 1) := by decide +kernel
theorem dX3_leastAction_51 : decode cX3_leastAction 51 = .ok (.ireturn, 1) := by decide +kernel
set_option maxRecDepth 20000 in
theorem ggX3_solves_X0_after : GoodIn wsX3_solves wsX0_after := goodIn_r _ [5, 6, 7, 8, 9, 47, 48, 49, 50, 51] (by decide +kernel) (by decide +kernel)
set_option maxRecDepth 20000 in
theorem gX3_solves_X0_after : GoodIn wsX3_solves (wsV RX3 116 RX0 yX0_after wsX0_after) := goodIn_app (goodIn_of _ (by decide +kernel)) ggX3_solves_X0_after
set_option maxRecDepth 20000 in
theorem ggX3_solves_X0_part : GoodIn wsX3_solves wsX0_part := goodIn_r _ [13, 14, 47, 48, 49, 50, 51] (by decide +kernel) (by decide +kernel)
set_option maxRecDepth 20000 in
theorem gX3_solves_X0_part : GoodIn wsX3_solves (wsV RX3 226 RX0 yX0_part wsX0_part) := goodIn_app (goodIn_of _ (by decide +kernel)) ggX3_solves_X0_part
set_option maxRecDepth 20000 in
theorem ggX3_solves_X3_solved : GoodIn wsX3_solves wsX3_solved := goodIn_r _ [29, 30, 31, 32, 8, 33, 34, 35, 36, 37, 18, 19, 20, 21, 22, 4, 23, 24, 25, 26, 27, 28, 0, 1, 2, 3, 5, 6, 7, 9, 10, 11, 12, 13, 14, 15, 16, 17, 38, 39, 40, 41, 42, 43, 44, 45, 46, 47, 48, 49, 50, 51] (by decide +kernel) (by decide +kernel)
set_option maxRecDepth 20000 in
theorem gX3_solves_X3_solved : GoodIn wsX3_solves (wsV RX3 213 RX3 yX3_solved wsX3_solved) := goodIn_app (goodIn_of _ (by decide +kernel)) ggX3_solves_X3_solved
theorem dX3_solves_0 : decode cX3_solves 0 = .ok (.aload_n 1, 1) := by decide +kernel
theorem dX3_solves_1 : decode cX3_solves 1 = .ok (.iload_n 2, 1) := by decide +kernel
theorem dX3_solves_2 : decode cX3_solves 2 = .ok (.invokevirtual 116, 3) := by decide +kernel
theorem dX3_solves_5 : decode cX3_solves 5 = .ok (.istore 4, 2) := by decide +kernel
theorem dX3_solves_7 : decode cX3_solves 7 = .ok (.aload_n 0, 1) := by decide +kernel
theorem dX3_solves_8 : decode cX3_solves 8 = .ok (.aload_n 1, 1) := by decide +kernel
theorem dX3_solves_9 : decode cX3_solves 9 = .ok (.iload 4, 2) := by decide +kernel
theorem dX3_solves_11 : decode cX3_solves 11 = .ok (.iconst 0, 1) := by decide +kernel
theorem dX3_solves_12 : decode cX3_solves 12 = .ok (.invokevirtual 226, 3) := by decide +kernel
theorem dX3_solves_15 : decode cX3_solves 15 = .ok (.iload_n 3, 1) := by decide +kernel
theorem dX3_solves_16 : decode cX3_solves 16 = .ok (.iconst 1, 1) := by decide +kernel
theorem dX3_solves_17 : decode cX3_solves 17 = .ok (.isub, 1) := by decide +kernel
theorem dX3_solves_18 : decode cX3_solves 18 = .ok (.invokevirtual 213, 3) := by decide +kernel
theorem dX3_solves_21 : decode cX3_solves 21 = .ok (.ifCond .eq 24, 3) := by decide +kernel
theorem dX3_solves_24 : decode cX3_solves 24 = .ok (.aload_n 0, 1) := by decide +kernel
theorem dX3_solves_25 : decode cX3_solves 25 = .ok (.aload_n 1, 1) := by decide +kernel
theorem dX3_solves_26 : decode cX3_solves 26 = .ok (.iload 4, 2) := by decide +kernel
theorem dX3_solves_28 : decode cX3_solves 28 = .ok (.iconst 1, 1) := by decide +kernel
theorem dX3_solves_29 : decode cX3_solves 29 = .ok (.invokevirtual 226, 3) := by decide +kernel
theorem dX3_solves_32 : decode cX3_solves 32 = .ok (.iload_n 3, 1) := by decide +kernel
theorem dX3_solves_33 : decode cX3_solves 33 = .ok (.iconst 1, 1) := by decide +kernel
theorem dX3_solves_34 : decode cX3_solves 34 = .ok (.isub, 1) := by decide +kernel
theorem dX3_solves_35 : decode cX3_solves 35 = .ok (.invokevirtual 213, 3) := by decide +kernel
theorem dX3_solves_38 : decode cX3_solves 38 = .ok (.ifCond .eq 7, 3) := by decide +kernel
theorem dX3_solves_41 : decode cX3_solves 41 = .ok (.iconst 1, 1) := by decide +kernel
theorem dX3_solves_42 : decode cX3_solves 42 = .ok (.goto 4, 3) := by decide +kernel
theorem dX3_solves_45 : decode cX3_solves 45 = .ok (.iconst 0, 1) := by decide +kernel
theorem dX3_solves_46 : decode cX3_solves 46 = .ok (.ireturn, 1) := by decide +kernel
set_option maxRecDepth 20000 in
theorem ggX3_grow_X2_open : GoodIn wsX3_grow wsX2_open := goodIn_r _ [7, 8, 9, 10, 11, 6, 12, 13, 75, 76] (by decide +kernel) (by decide +kernel)
set_option maxRecDepth 20000 in
theorem gX3_grow_X2_open : GoodIn wsX3_grow (wsV RX3 229 RX2 yX2_open wsX2_open) := goodIn_app (goodIn_of _ (by decide +kernel)) ggX3_grow_X2_open
set_option maxRecDepth 20000 in
theorem ggX3_grow_X3_reached : GoodIn wsX3_grow wsX3_reached := goodIn_r _ [18, 19, 66, 67, 68, 69, 70, 71, 72, 73, 74] (by decide +kernel) (by decide +kernel)
set_option maxRecDepth 20000 in
theorem gX3_grow_X3_reached : GoodIn wsX3_grow (wsV RX3 216 RX3 yX3_reached wsX3_reached) := goodIn_app (goodIn_of _ (by decide +kernel)) ggX3_grow_X3_reached
set_option maxRecDepth 20000 in
theorem ggX3_grow_X3_leastAction : GoodIn wsX3_grow wsX3_leastAction := goodIn_r _ [23, 2, 24, 25, 26, 27, 28, 29, 30, 31, 32, 33, 17, 34, 14, 15, 16, 18, 19, 20, 21, 22, 35, 36, 37, 38, 39, 40, 41, 42, 43, 44, 45, 46, 47, 48, 49, 50, 66, 67, 68, 69, 70, 71, 72, 73, 74, 77, 78, 79, 80, 81] (by decide +kernel) (by decide +kernel)
set_option maxRecDepth 20000 in
theorem gX3_grow_X3_leastAction : GoodIn wsX3_grow (wsV RX3 219 RX3 yX3_leastAction wsX3_leastAction) := goodIn_app (goodIn_of _ (by decide +kernel)) ggX3_grow_X3_leastAction
set_option maxRecDepth 20000 in
theorem ggX3_grow_X2_close : GoodIn wsX3_grow wsX2_close := goodIn_r _ [54, 8, 13, 55, 56, 57, 6, 58, 9, 10, 11, 12, 75, 76] (by decide +kernel) (by decide +kernel)
set_option maxRecDepth 20000 in
theorem gX3_grow_X2_close : GoodIn wsX3_grow (wsV RX3 231 RX2 yX2_close wsX2_close) := goodIn_app (goodIn_of _ (by decide +kernel)) ggX3_grow_X2_close
set_option maxRecDepth 20000 in
theorem ggX3_grow_X0_after : GoodIn wsX3_grow wsX0_after := goodIn_r _ [39, 40, 41, 17, 42, 77, 78, 79, 80, 81] (by decide +kernel) (by decide +kernel)
set_option maxRecDepth 20000 in
theorem gX3_grow_X0_after : GoodIn wsX3_grow (wsV RX3 116 RX0 yX0_after wsX0_after) := goodIn_app (goodIn_of _ (by decide +kernel)) ggX3_grow_X0_after
set_option maxRecDepth 20000 in
theorem ggX3_grow_X0_part : GoodIn wsX3_grow wsX0_part := goodIn_r _ [46, 47, 77, 78, 79, 80, 81] (by decide +kernel) (by decide +kernel)
set_option maxRecDepth 20000 in
theorem gX3_grow_X0_part : GoodIn wsX3_grow (wsV RX3 226 RX0 yX0_part wsX0_part) := goodIn_app (goodIn_of _ (by decide +kernel)) ggX3_grow_X0_part
set_option maxRecDepth 20000 in
theorem ggX3_grow_X3_growPart : GoodIn wsX3_grow wsX3_growPart := goodIn_r _ [62, 63, 64, 65, 17, 0, 1, 2, 3, 4, 5, 6, 7, 8, 9, 10, 11, 12, 13, 14, 15, 16, 18, 19, 20, 21, 22, 23, 24, 25, 26, 27, 28, 29, 30, 31, 32, 33, 34, 35, 36, 37, 38, 39, 40, 41, 42, 43, 44, 45, 46, 47, 48, 49, 50, 51, 52, 53, 54, 55, 56, 57, 58, 59, 60, 61, 66, 67, 68, 69, 70, 71, 72, 73, 74, 75, 76, 77, 78, 79, 80, 81] (by decide +kernel) (by decide +kernel)
set_option maxRecDepth 20000 in
theorem gX3_grow_X3_growPart : GoodIn wsX3_grow (wsV RX3 235 RX3 yX3_growPart wsX3_growPart) := goodIn_app (goodIn_of _ (by decide +kernel)) ggX3_grow_X3_growPart
theorem dX3_grow_0 : decode cX3_grow 0 = .ok (.aload_n 0, 1) := by decide +kernel
theorem dX3_grow_1 : decode cX3_grow 1 = .ok (.getfield 18, 3) := by decide +kernel
theorem dX3_grow_4 : decode cX3_grow 4 = .ok (.invokevirtual 229, 3) := by decide +kernel
theorem dX3_grow_7 : decode cX3_grow 7 = .ok (.istore_n 3, 1) := by decide +kernel
theorem dX3_grow_8 : decode cX3_grow 8 = .ok (.aload_n 0, 1) := by decide +kernel
theorem dX3_grow_9 : decode cX3_grow 9 = .ok (.iload_n 1, 1) := by decide +kernel
theorem dX3_grow_10 : decode cX3_grow 10 = .ok (.invokevirtual 216, 3) := by decide +kernel
theorem dX3_grow_13 : decode cX3_grow 13 = .ok (.ifCond .eq 7, 3) := by decide +kernel
theorem dX3_grow_16 : decode cX3_grow 16 = .ok (.iconst (-1), 1) := by decide +kernel
theorem dX3_grow_17 : decode cX3_grow 17 = .ok (.goto 9, 3) := by decide +kernel
theorem dX3_grow_20 : decode cX3_grow 20 = .ok (.aload_n 0, 1) := by decide +kernel
theorem dX3_grow_21 : decode cX3_grow 21 = .ok (.iload_n 1, 1) := by decide +kernel
theorem dX3_grow_22 : decode cX3_grow 22 = .ok (.iload_n 2, 1) := by decide +kernel
theorem dX3_grow_23 : decode cX3_grow 23 = .ok (.invokevirtual 219, 3) := by decide +kernel
theorem dX3_grow_26 : decode cX3_grow 26 = .ok (.istore 4, 2) := by decide +kernel
theorem dX3_grow_28 : decode cX3_grow 28 = .ok (.iload 4, 2) := by decide +kernel
theorem dX3_grow_30 : decode cX3_grow 30 = .ok (.iconst (-1), 1) := by decide +kernel
theorem dX3_grow_31 : decode cX3_grow 31 = .ok (.if_icmp .ne 15, 3) := by decide +kernel
theorem dX3_grow_34 : decode cX3_grow 34 = .ok (.aload_n 0, 1) := by decide +kernel
theorem dX3_grow_35 : decode cX3_grow 35 = .ok (.getfield 18, 3) := by decide +kernel
theorem dX3_grow_38 : decode cX3_grow 38 = .ok (.iload_n 3, 1) := by decide +kernel
theorem dX3_grow_39 : decode cX3_grow 39 = .ok (.iconst (-1), 1) := by decide +kernel
theorem dX3_grow_40 : decode cX3_grow 40 = .ok (.iconst (-1), 1) := by decide +kernel
theorem dX3_grow_41 : decode cX3_grow 41 = .ok (.iconst (-1), 1) := by decide +kernel
theorem dX3_grow_42 : decode cX3_grow 42 = .ok (.invokevirtual 231, 3) := by decide +kernel
theorem dX3_grow_45 : decode cX3_grow 45 = .ok (.ireturn, 1) := by decide +kernel
theorem dX3_grow_46 : decode cX3_grow 46 = .ok (.aload_n 0, 1) := by decide +kernel
theorem dX3_grow_47 : decode cX3_grow 47 = .ok (.getfield 11, 3) := by decide +kernel
theorem dX3_grow_50 : decode cX3_grow 50 = .ok (.iload 4, 2) := by decide +kernel
theorem dX3_grow_52 : decode cX3_grow 52 = .ok (.aaload, 1) := by decide +kernel
theorem dX3_grow_53 : decode cX3_grow 53 = .ok (.iload_n 1, 1) := by decide +kernel
theorem dX3_grow_54 : decode cX3_grow 54 = .ok (.invokevirtual 116, 3) := by decide +kernel
theorem dX3_grow_57 : decode cX3_grow 57 = .ok (.istore 5, 2) := by decide +kernel
theorem dX3_grow_59 : decode cX3_grow 59 = .ok (.aload_n 0, 1) := by decide +kernel
theorem dX3_grow_60 : decode cX3_grow 60 = .ok (.aload_n 0, 1) := by decide +kernel
theorem dX3_grow_61 : decode cX3_grow 61 = .ok (.getfield 11, 3) := by decide +kernel
theorem dX3_grow_64 : decode cX3_grow 64 = .ok (.iload 4, 2) := by decide +kernel
theorem dX3_grow_66 : decode cX3_grow 66 = .ok (.aaload, 1) := by decide +kernel
theorem dX3_grow_67 : decode cX3_grow 67 = .ok (.iload 5, 2) := by decide +kernel
theorem dX3_grow_69 : decode cX3_grow 69 = .ok (.iconst 0, 1) := by decide +kernel
theorem dX3_grow_70 : decode cX3_grow 70 = .ok (.invokevirtual 226, 3) := by decide +kernel
theorem dX3_grow_73 : decode cX3_grow 73 = .ok (.iload_n 2, 1) := by decide +kernel
theorem dX3_grow_74 : decode cX3_grow 74 = .ok (.iconst 1, 1) := by decide +kernel
theorem dX3_grow_75 : decode cX3_grow 75 = .ok (.isub, 1) := by decide +kernel
theorem dX3_grow_76 : decode cX3_grow 76 = .ok (.invokevirtual 235, 3) := by decide +kernel
theorem dX3_grow_79 : decode cX3_grow 79 = .ok (.istore 6, 2) := by decide +kernel
theorem dX3_grow_81 : decode cX3_grow 81 = .ok (.aload_n 0, 1) := by decide +kernel
theorem dX3_grow_82 : decode cX3_grow 82 = .ok (.aload_n 0, 1) := by decide +kernel
theorem dX3_grow_83 : decode cX3_grow 83 = .ok (.getfield 11, 3) := by decide +kernel
theorem dX3_grow_86 : decode cX3_grow 86 = .ok (.iload 4, 2) := by decide +kernel
theorem dX3_grow_88 : decode cX3_grow 88 = .ok (.aaload, 1) := by decide +kernel
theorem dX3_grow_89 : decode cX3_grow 89 = .ok (.iload 5, 2) := by decide +kernel
theorem dX3_grow_91 : decode cX3_grow 91 = .ok (.iconst 1, 1) := by decide +kernel
theorem dX3_grow_92 : decode cX3_grow 92 = .ok (.invokevirtual 226, 3) := by decide +kernel
theorem dX3_grow_95 : decode cX3_grow 95 = .ok (.iload_n 2, 1) := by decide +kernel
theorem dX3_grow_96 : decode cX3_grow 96 = .ok (.iconst 1, 1) := by decide +kernel
theorem dX3_grow_97 : decode cX3_grow 97 = .ok (.isub, 1) := by decide +kernel
theorem dX3_grow_98 : decode cX3_grow 98 = .ok (.invokevirtual 235, 3) := by decide +kernel
theorem dX3_grow_101 : decode cX3_grow 101 = .ok (.istore 7, 2) := by decide +kernel
theorem dX3_grow_103 : decode cX3_grow 103 = .ok (.aload_n 0, 1) := by decide +kernel
theorem dX3_grow_104 : decode cX3_grow 104 = .ok (.getfield 18, 3) := by decide +kernel
theorem dX3_grow_107 : decode cX3_grow 107 = .ok (.iload_n 3, 1) := by decide +kernel
theorem dX3_grow_108 : decode cX3_grow 108 = .ok (.iload 4, 2) := by decide +kernel
theorem dX3_grow_110 : decode cX3_grow 110 = .ok (.iload 6, 2) := by decide +kernel
theorem dX3_grow_112 : decode cX3_grow 112 = .ok (.iload 7, 2) := by decide +kernel
theorem dX3_grow_114 : decode cX3_grow 114 = .ok (.invokevirtual 231, 3) := by decide +kernel
theorem dX3_grow_117 : decode cX3_grow 117 = .ok (.ireturn, 1) := by decide +kernel
set_option maxRecDepth 20000 in
theorem ggX3_growPart_X3_grow : GoodIn wsX3_growPart wsX3_grow := goodIn_r _ [5, 6, 7, 8, 9, 10, 11, 12, 13, 14, 15, 16, 17, 18, 19, 20, 21, 4, 22, 23, 24, 25, 26, 27, 28, 29, 30, 31, 32, 33, 34, 35, 36, 37, 38, 39, 40, 41, 42, 43, 44, 45, 46, 47, 48, 49, 50, 51, 52, 53, 54, 55, 56, 57, 58, 59, 60, 61, 62, 63, 64, 65, 0, 1, 2, 3, 66, 67, 68, 69, 70, 71, 72, 73, 74, 75, 76, 77, 78, 79, 80, 81] (by decide +kernel) (by decide +kernel)
set_option maxRecDepth 20000 in
theorem gX3_growPart_X3_grow : GoodIn wsX3_growPart (wsV RX3 135 RX3 yX3_grow wsX3_grow) := goodIn_app (goodIn_of _ (by decide +kernel)) ggX3_growPart_X3_grow
theorem dX3_growPart_0 : decode cX3_growPart 0 = .ok (.iload_n 1, 1) := by decide +kernel
theorem dX3_growPart_1 : decode cX3_growPart 1 = .ok (.ifCond .ne 7, 3) := by decide +kernel
theorem dX3_growPart_4 : decode cX3_growPart 4 = .ok (.iconst (-1), 1) := by decide +kernel
theorem dX3_growPart_5 : decode cX3_growPart 5 = .ok (.goto 9, 3) := by decide +kernel
theorem dX3_growPart_8 : decode cX3_growPart 8 = .ok (.aload_n 0, 1) := by decide +kernel
theorem dX3_growPart_9 : decode cX3_growPart 9 = .ok (.iload_n 1, 1) := by decide +kernel
theorem dX3_growPart_10 : decode cX3_growPart 10 = .ok (.iload_n 2, 1) := by decide +kernel
theorem dX3_growPart_11 : decode cX3_growPart 11 = .ok (.invokevirtual 135, 3) := by decide +kernel
theorem dX3_growPart_14 : decode cX3_growPart 14 = .ok (.ireturn, 1) := by decide +kernel
set_option maxRecDepth 20000 in
theorem ggX3_fits_X2_cell : GoodIn wsX3_fits wsX2_cell := goodIn_r _ [7, 8, 46, 47] (by decide +kernel) (by decide +kernel)
set_option maxRecDepth 20000 in
theorem gX3_fits_X2_cell : GoodIn wsX3_fits (wsV RX3 149 RX2 yX2_cell wsX2_cell) := goodIn_app (goodIn_of _ (by decide +kernel)) ggX3_fits_X2_cell
set_option maxRecDepth 20000 in
theorem ggX3_fits_X3_reached : GoodIn wsX3_fits wsX3_reached := goodIn_r _ [13, 14, 37, 38, 39, 40, 41, 42, 43, 44, 45] (by decide +kernel) (by decide +kernel)
set_option maxRecDepth 20000 in
theorem gX3_fits_X3_reached : GoodIn wsX3_fits (wsV RX3 216 RX3 yX3_reached wsX3_reached) := goodIn_app (goodIn_of _ (by decide +kernel)) ggX3_fits_X3_reached
set_option maxRecDepth 20000 in
theorem ggX3_fits_X0_usable : GoodIn wsX3_fits wsX0_usable := goodIn_r _ [19, 20, 21, 48, 49, 50, 51, 52] (by decide +kernel) (by decide +kernel)
set_option maxRecDepth 20000 in
theorem gX3_fits_X0_usable : GoodIn wsX3_fits (wsV RX3 107 RX0 yX0_usable wsX0_usable) := goodIn_app (goodIn_of _ (by decide +kernel)) ggX3_fits_X0_usable
set_option maxRecDepth 20000 in
theorem ggX3_fits_X0_after : GoodIn wsX3_fits wsX0_after := goodIn_r _ [25, 26, 27, 12, 28, 48, 49, 50, 51, 52] (by decide +kernel) (by decide +kernel)
set_option maxRecDepth 20000 in
theorem gX3_fits_X0_after : GoodIn wsX3_fits (wsV RX3 116 RX0 yX0_after wsX0_after) := goodIn_app (goodIn_of _ (by decide +kernel)) ggX3_fits_X0_after
set_option maxRecDepth 20000 in
theorem ggX3_fits_X0_part : GoodIn wsX3_fits wsX0_part := goodIn_r _ [32, 33, 48, 49, 50, 51, 52] (by decide +kernel) (by decide +kernel)
set_option maxRecDepth 20000 in
theorem gX3_fits_X0_part : GoodIn wsX3_fits (wsV RX3 226 RX0 yX0_part wsX0_part) := goodIn_app (goodIn_of _ (by decide +kernel)) ggX3_fits_X0_part
set_option maxRecDepth 20000 in
theorem ggX3_fits_X3_fits : GoodIn wsX3_fits wsX3_fits := goodIn_r _ [0, 1, 2, 3, 4, 5, 6, 7, 8, 9, 10, 11, 12, 13, 14, 15, 16, 17, 18, 19, 20, 21, 22, 23, 24, 25, 26, 27, 28, 29, 30, 31, 32, 33, 34, 35, 36, 37, 38, 39, 40, 41, 42, 43, 44, 45, 46, 47, 48, 49, 50, 51, 52] (by decide +kernel) (by decide +kernel)
set_option maxRecDepth 20000 in
theorem gX3_fits_X3_fits : GoodIn wsX3_fits (wsV RX3 160 RX3 yX3_fits wsX3_fits) := goodIn_app (goodIn_of _ (by decide +kernel)) ggX3_fits_X3_fits
theorem dX3_fits_0 : decode cX3_fits 0 = .ok (.iload_n 2, 1) := by decide +kernel
theorem dX3_fits_1 : decode cX3_fits 1 = .ok (.ifCond .ne 5, 3) := by decide +kernel
theorem dX3_fits_4 : decode cX3_fits 4 = .ok (.iconst 1, 1) := by decide +kernel
theorem dX3_fits_5 : decode cX3_fits 5 = .ok (.ireturn, 1) := by decide +kernel
theorem dX3_fits_6 : decode cX3_fits 6 = .ok (.iload_n 1, 1) := by decide +kernel
theorem dX3_fits_7 : decode cX3_fits 7 = .ok (.iconst (-1), 1) := by decide +kernel
theorem dX3_fits_8 : decode cX3_fits 8 = .ok (.if_icmp .eq 7, 3) := by decide +kernel
theorem dX3_fits_11 : decode cX3_fits 11 = .ok (.iload_n 3, 1) := by decide +kernel
theorem dX3_fits_12 : decode cX3_fits 12 = .ok (.ifCond .ge 5, 3) := by decide +kernel
theorem dX3_fits_15 : decode cX3_fits 15 = .ok (.iconst 0, 1) := by decide +kernel
theorem dX3_fits_16 : decode cX3_fits 16 = .ok (.ireturn, 1) := by decide +kernel
theorem dX3_fits_17 : decode cX3_fits 17 = .ok (.aload_n 0, 1) := by decide +kernel
theorem dX3_fits_18 : decode cX3_fits 18 = .ok (.getfield 18, 3) := by decide +kernel
theorem dX3_fits_21 : decode cX3_fits 21 = .ok (.iload_n 1, 1) := by decide +kernel
theorem dX3_fits_22 : decode cX3_fits 22 = .ok (.iconst 0, 1) := by decide +kernel
theorem dX3_fits_23 : decode cX3_fits 23 = .ok (.invokevirtual 149, 3) := by decide +kernel
theorem dX3_fits_26 : decode cX3_fits 26 = .ok (.istore 4, 2) := by decide +kernel
theorem dX3_fits_28 : decode cX3_fits 28 = .ok (.iload 4, 2) := by decide +kernel
theorem dX3_fits_30 : decode cX3_fits 30 = .ok (.iconst (-1), 1) := by decide +kernel
theorem dX3_fits_31 : decode cX3_fits 31 = .ok (.if_icmp .ne 9, 3) := by decide +kernel
theorem dX3_fits_34 : decode cX3_fits 34 = .ok (.aload_n 0, 1) := by decide +kernel
theorem dX3_fits_35 : decode cX3_fits 35 = .ok (.iload_n 2, 1) := by decide +kernel
theorem dX3_fits_36 : decode cX3_fits 36 = .ok (.invokevirtual 216, 3) := by decide +kernel
theorem dX3_fits_39 : decode cX3_fits 39 = .ok (.ireturn, 1) := by decide +kernel
theorem dX3_fits_40 : decode cX3_fits 40 = .ok (.aload_n 0, 1) := by decide +kernel
theorem dX3_fits_41 : decode cX3_fits 41 = .ok (.getfield 11, 3) := by decide +kernel
theorem dX3_fits_44 : decode cX3_fits 44 = .ok (.iload 4, 2) := by decide +kernel
theorem dX3_fits_46 : decode cX3_fits 46 = .ok (.aaload, 1) := by decide +kernel
theorem dX3_fits_47 : decode cX3_fits 47 = .ok (.iload_n 2, 1) := by decide +kernel
theorem dX3_fits_48 : decode cX3_fits 48 = .ok (.invokevirtual 107, 3) := by decide +kernel
theorem dX3_fits_51 : decode cX3_fits 51 = .ok (.ifCond .ne 5, 3) := by decide +kernel
theorem dX3_fits_54 : decode cX3_fits 54 = .ok (.iconst 0, 1) := by decide +kernel
theorem dX3_fits_55 : decode cX3_fits 55 = .ok (.ireturn, 1) := by decide +kernel
theorem dX3_fits_56 : decode cX3_fits 56 = .ok (.aload_n 0, 1) := by decide +kernel
theorem dX3_fits_57 : decode cX3_fits 57 = .ok (.getfield 11, 3) := by decide +kernel
theorem dX3_fits_60 : decode cX3_fits 60 = .ok (.iload 4, 2) := by decide +kernel
theorem dX3_fits_62 : decode cX3_fits 62 = .ok (.aaload, 1) := by decide +kernel
theorem dX3_fits_63 : decode cX3_fits 63 = .ok (.iload_n 2, 1) := by decide +kernel
theorem dX3_fits_64 : decode cX3_fits 64 = .ok (.invokevirtual 116, 3) := by decide +kernel
theorem dX3_fits_67 : decode cX3_fits 67 = .ok (.istore 5, 2) := by decide +kernel
theorem dX3_fits_69 : decode cX3_fits 69 = .ok (.aload_n 0, 1) := by decide +kernel
theorem dX3_fits_70 : decode cX3_fits 70 = .ok (.aload_n 0, 1) := by decide +kernel
theorem dX3_fits_71 : decode cX3_fits 71 = .ok (.getfield 18, 3) := by decide +kernel
theorem dX3_fits_74 : decode cX3_fits 74 = .ok (.iload_n 1, 1) := by decide +kernel
theorem dX3_fits_75 : decode cX3_fits 75 = .ok (.iconst 1, 1) := by decide +kernel
theorem dX3_fits_76 : decode cX3_fits 76 = .ok (.invokevirtual 149, 3) := by decide +kernel
theorem dX3_fits_79 : decode cX3_fits 79 = .ok (.aload_n 0, 1) := by decide +kernel
theorem dX3_fits_80 : decode cX3_fits 80 = .ok (.getfield 11, 3) := by decide +kernel
theorem dX3_fits_83 : decode cX3_fits 83 = .ok (.iload 4, 2) := by decide +kernel
theorem dX3_fits_85 : decode cX3_fits 85 = .ok (.aaload, 1) := by decide +kernel
theorem dX3_fits_86 : decode cX3_fits 86 = .ok (.iload 5, 2) := by decide +kernel
theorem dX3_fits_88 : decode cX3_fits 88 = .ok (.iconst 0, 1) := by decide +kernel
theorem dX3_fits_89 : decode cX3_fits 89 = .ok (.invokevirtual 226, 3) := by decide +kernel
theorem dX3_fits_92 : decode cX3_fits 92 = .ok (.iload_n 3, 1) := by decide +kernel
theorem dX3_fits_93 : decode cX3_fits 93 = .ok (.iconst 1, 1) := by decide +kernel
theorem dX3_fits_94 : decode cX3_fits 94 = .ok (.isub, 1) := by decide +kernel
theorem dX3_fits_95 : decode cX3_fits 95 = .ok (.invokevirtual 160, 3) := by decide +kernel
theorem dX3_fits_98 : decode cX3_fits 98 = .ok (.ifCond .eq 39, 3) := by decide +kernel
theorem dX3_fits_101 : decode cX3_fits 101 = .ok (.aload_n 0, 1) := by decide +kernel
theorem dX3_fits_102 : decode cX3_fits 102 = .ok (.aload_n 0, 1) := by decide +kernel
theorem dX3_fits_103 : decode cX3_fits 103 = .ok (.getfield 18, 3) := by decide +kernel
end
section
theorem dX3_fits_106 : decode cX3_fits 106 = .ok (.iload_n 1, 1) := by decide +kernel
theorem dX3_fits_107 : decode cX3_fits 107 = .ok (.iconst 2, 1) := by decide +kernel
theorem dX3_fits_108 : decode cX3_fits 108 = .ok (.invokevirtual 149, 3) := by decide +kernel
theorem dX3_fits_111 : decode cX3_fits 111 = .ok (.aload_n 0, 1) := by decide +kernel
theorem dX3_fits_112 : decode cX3_fits 112 = .ok (.getfield 11, 3) := by decide +kernel
theorem dX3_fits_115 : decode cX3_fits 115 = .ok (.iload 4, 2) := by decide +kernel
theorem dX3_fits_117 : decode cX3_fits 117 = .ok (.aaload, 1) := by decide +kernel
theorem dX3_fits_118 : decode cX3_fits 118 = .ok (.iload 5, 2) := by decide +kernel
theorem dX3_fits_120 : decode cX3_fits 120 = .ok (.iconst 1, 1) := by decide +kernel
theorem dX3_fits_121 : decode cX3_fits 121 = .ok (.invokevirtual 226, 3) := by decide +kernel
theorem dX3_fits_124 : decode cX3_fits 124 = .ok (.iload_n 3, 1) := by decide +kernel
theorem dX3_fits_125 : decode cX3_fits 125 = .ok (.iconst 1, 1) := by decide +kernel
theorem dX3_fits_126 : decode cX3_fits 126 = .ok (.isub, 1) := by decide +kernel
theorem dX3_fits_127 : decode cX3_fits 127 = .ok (.invokevirtual 160, 3) := by decide +kernel
theorem dX3_fits_130 : decode cX3_fits 130 = .ok (.ifCond .eq 7, 3) := by decide +kernel
theorem dX3_fits_133 : decode cX3_fits 133 = .ok (.iconst 1, 1) := by decide +kernel
theorem dX3_fits_134 : decode cX3_fits 134 = .ok (.goto 4, 3) := by decide +kernel
theorem dX3_fits_137 : decode cX3_fits 137 = .ok (.iconst 0, 1) := by decide +kernel
theorem dX3_fits_138 : decode cX3_fits 138 = .ok (.ireturn, 1) := by decide +kernel
set_option maxRecDepth 20000 in
theorem ggX3_carryOut_X2_cell : GoodIn wsX3_carryOut wsX2_cell := goodIn_r _ [11, 12, 43, 44] (by decide +kernel) (by decide +kernel)
set_option maxRecDepth 20000 in
theorem gX3_carryOut_X2_cell : GoodIn wsX3_carryOut (wsV RX3 149 RX2 yX2_cell wsX2_cell) := goodIn_app (goodIn_of _ (by decide +kernel)) ggX3_carryOut_X2_cell
set_option maxRecDepth 20000 in
theorem ggX3_carryOut_X0_usable : GoodIn wsX3_carryOut wsX0_usable := goodIn_r _ [17, 18, 19, 38, 39, 40, 41, 42] (by decide +kernel) (by decide +kernel)
set_option maxRecDepth 20000 in
theorem gX3_carryOut_X0_usable : GoodIn wsX3_carryOut (wsV RX3 107 RX0 yX0_usable wsX0_usable) := goodIn_app (goodIn_of _ (by decide +kernel)) ggX3_carryOut_X0_usable
set_option maxRecDepth 20000 in
theorem ggX3_carryOut_X0_sensed : GoodIn wsX3_carryOut wsX0_sensed := goodIn_r _ [23, 24, 25, 26, 27, 38, 39, 40, 41, 42] (by decide +kernel) (by decide +kernel)
set_option maxRecDepth 20000 in
theorem gX3_carryOut_X0_sensed : GoodIn wsX3_carryOut (wsV RX3 241 RX0 yX0_sensed wsX0_sensed) := goodIn_app (goodIn_of _ (by decide +kernel)) ggX3_carryOut_X0_sensed
set_option maxRecDepth 20000 in
theorem ggX3_carryOut_X3_isIn : GoodIn wsX3_carryOut wsX3_isIn := goodIn_r _ [27] (by decide +kernel) (by decide +kernel)
set_option maxRecDepth 20000 in
theorem gX3_carryOut_X3_isIn : GoodIn wsX3_carryOut (va_wsS RX3 169 yX3_isIn wsX3_isIn) := goodIn_app (goodIn_of _ (by decide +kernel)) ggX3_carryOut_X3_isIn
theorem dX3_carryOut_0 : decode cX3_carryOut 0 = .ok (.iconst 0, 1) := by decide +kernel
theorem dX3_carryOut_1 : decode cX3_carryOut 1 = .ok (.istore_n 1, 1) := by decide +kernel
theorem dX3_carryOut_2 : decode cX3_carryOut 2 = .ok (.aload_n 0, 1) := by decide +kernel
theorem dX3_carryOut_3 : decode cX3_carryOut 3 = .ok (.getfield 166, 3) := by decide +kernel
theorem dX3_carryOut_6 : decode cX3_carryOut 6 = .ok (.istore_n 2, 1) := by decide +kernel
theorem dX3_carryOut_7 : decode cX3_carryOut 7 = .ok (.aload_n 0, 1) := by decide +kernel
theorem dX3_carryOut_8 : decode cX3_carryOut 8 = .ok (.iconst 0, 1) := by decide +kernel
theorem dX3_carryOut_9 : decode cX3_carryOut 9 = .ok (.putfield 179, 3) := by decide +kernel
theorem dX3_carryOut_12 : decode cX3_carryOut 12 = .ok (.aload_n 0, 1) := by decide +kernel
theorem dX3_carryOut_13 : decode cX3_carryOut 13 = .ok (.getfield 179, 3) := by decide +kernel
theorem dX3_carryOut_16 : decode cX3_carryOut 16 = .ok (.iconst 4, 1) := by decide +kernel
theorem dX3_carryOut_17 : decode cX3_carryOut 17 = .ok (.if_icmp .ge 94, 3) := by decide +kernel
theorem dX3_carryOut_20 : decode cX3_carryOut 20 = .ok (.iload_n 1, 1) := by decide +kernel
theorem dX3_carryOut_21 : decode cX3_carryOut 21 = .ok (.iconst (-1), 1) := by decide +kernel
theorem dX3_carryOut_22 : decode cX3_carryOut 22 = .ok (.if_icmp .eq 89, 3) := by decide +kernel
theorem dX3_carryOut_25 : decode cX3_carryOut 25 = .ok (.aload_n 0, 1) := by decide +kernel
theorem dX3_carryOut_26 : decode cX3_carryOut 26 = .ok (.getfield 18, 3) := by decide +kernel
theorem dX3_carryOut_29 : decode cX3_carryOut 29 = .ok (.iload_n 1, 1) := by decide +kernel
theorem dX3_carryOut_30 : decode cX3_carryOut 30 = .ok (.iconst 0, 1) := by decide +kernel
theorem dX3_carryOut_31 : decode cX3_carryOut 31 = .ok (.invokevirtual 149, 3) := by decide +kernel
theorem dX3_carryOut_34 : decode cX3_carryOut 34 = .ok (.iconst (-1), 1) := by decide +kernel
theorem dX3_carryOut_35 : decode cX3_carryOut 35 = .ok (.if_icmp .eq 76, 3) := by decide +kernel
theorem dX3_carryOut_38 : decode cX3_carryOut 38 = .ok (.aload_n 0, 1) := by decide +kernel
theorem dX3_carryOut_39 : decode cX3_carryOut 39 = .ok (.getfield 11, 3) := by decide +kernel
theorem dX3_carryOut_42 : decode cX3_carryOut 42 = .ok (.aload_n 0, 1) := by decide +kernel
theorem dX3_carryOut_43 : decode cX3_carryOut 43 = .ok (.getfield 18, 3) := by decide +kernel
theorem dX3_carryOut_46 : decode cX3_carryOut 46 = .ok (.iload_n 1, 1) := by decide +kernel
theorem dX3_carryOut_47 : decode cX3_carryOut 47 = .ok (.iconst 0, 1) := by decide +kernel
theorem dX3_carryOut_48 : decode cX3_carryOut 48 = .ok (.invokevirtual 149, 3) := by decide +kernel
theorem dX3_carryOut_51 : decode cX3_carryOut 51 = .ok (.aaload, 1) := by decide +kernel
theorem dX3_carryOut_52 : decode cX3_carryOut 52 = .ok (.astore_n 3, 1) := by decide +kernel
theorem dX3_carryOut_53 : decode cX3_carryOut 53 = .ok (.aload_n 3, 1) := by decide +kernel
theorem dX3_carryOut_54 : decode cX3_carryOut 54 = .ok (.iconst 1, 1) := by decide +kernel
theorem dX3_carryOut_55 : decode cX3_carryOut 55 = .ok (.iload_n 2, 1) := by decide +kernel
theorem dX3_carryOut_56 : decode cX3_carryOut 56 = .ok (.ishl, 1) := by decide +kernel
theorem dX3_carryOut_57 : decode cX3_carryOut 57 = .ok (.invokevirtual 107, 3) := by decide +kernel
theorem dX3_carryOut_60 : decode cX3_carryOut 60 = .ok (.ifCond .ne 5, 3) := by decide +kernel
theorem dX3_carryOut_63 : decode cX3_carryOut 63 = .ok (.iconst 0, 1) := by decide +kernel
theorem dX3_carryOut_64 : decode cX3_carryOut 64 = .ok (.ireturn, 1) := by decide +kernel
theorem dX3_carryOut_65 : decode cX3_carryOut 65 = .ok (.aload_n 3, 1) := by decide +kernel
theorem dX3_carryOut_66 : decode cX3_carryOut 66 = .ok (.getfield 238, 3) := by decide +kernel
theorem dX3_carryOut_69 : decode cX3_carryOut 69 = .ok (.iload_n 2, 1) := by decide +kernel
theorem dX3_carryOut_70 : decode cX3_carryOut 70 = .ok (.iaload, 1) := by decide +kernel
theorem dX3_carryOut_71 : decode cX3_carryOut 71 = .ok (.istore_n 2, 1) := by decide +kernel
theorem dX3_carryOut_72 : decode cX3_carryOut 72 = .ok (.aload_n 0, 1) := by decide +kernel
theorem dX3_carryOut_73 : decode cX3_carryOut 73 = .ok (.getfield 29, 3) := by decide +kernel
theorem dX3_carryOut_76 : decode cX3_carryOut 76 = .ok (.aload_n 0, 1) := by decide +kernel
theorem dX3_carryOut_77 : decode cX3_carryOut 77 = .ok (.getfield 179, 3) := by decide +kernel
theorem dX3_carryOut_80 : decode cX3_carryOut 80 = .ok (.iload_n 2, 1) := by decide +kernel
theorem dX3_carryOut_81 : decode cX3_carryOut 81 = .ok (.iastore, 1) := by decide +kernel
theorem dX3_carryOut_82 : decode cX3_carryOut 82 = .ok (.aload_n 0, 1) := by decide +kernel
theorem dX3_carryOut_83 : decode cX3_carryOut 83 = .ok (.dup, 1) := by decide +kernel
theorem dX3_carryOut_84 : decode cX3_carryOut 84 = .ok (.getfield 179, 3) := by decide +kernel
theorem dX3_carryOut_87 : decode cX3_carryOut 87 = .ok (.iconst 1, 1) := by decide +kernel
theorem dX3_carryOut_88 : decode cX3_carryOut 88 = .ok (.iadd, 1) := by decide +kernel
theorem dX3_carryOut_89 : decode cX3_carryOut 89 = .ok (.putfield 179, 3) := by decide +kernel
theorem dX3_carryOut_92 : decode cX3_carryOut 92 = .ok (.aload_n 0, 1) := by decide +kernel
theorem dX3_carryOut_93 : decode cX3_carryOut 93 = .ok (.getfield 18, 3) := by decide +kernel
theorem dX3_carryOut_96 : decode cX3_carryOut 96 = .ok (.iload_n 1, 1) := by decide +kernel
theorem dX3_carryOut_97 : decode cX3_carryOut 97 = .ok (.iconst 1, 1) := by decide +kernel
theorem dX3_carryOut_98 : decode cX3_carryOut 98 = .ok (.aload_n 3, 1) := by decide +kernel
theorem dX3_carryOut_99 : decode cX3_carryOut 99 = .ok (.iload_n 2, 1) := by decide +kernel
theorem dX3_carryOut_100 : decode cX3_carryOut 100 = .ok (.invokevirtual 241, 3) := by decide +kernel
theorem dX3_carryOut_103 : decode cX3_carryOut 103 = .ok (.iadd, 1) := by decide +kernel
theorem dX3_carryOut_104 : decode cX3_carryOut 104 = .ok (.invokevirtual 149, 3) := by decide +kernel
theorem dX3_carryOut_107 : decode cX3_carryOut 107 = .ok (.istore_n 1, 1) := by decide +kernel
theorem dX3_carryOut_108 : decode cX3_carryOut 108 = .ok (.goto (-96), 3) := by decide +kernel
theorem dX3_carryOut_111 : decode cX3_carryOut 111 = .ok (.iload_n 1, 1) := by decide +kernel
theorem dX3_carryOut_112 : decode cX3_carryOut 112 = .ok (.iconst (-1), 1) := by decide +kernel
theorem dX3_carryOut_113 : decode cX3_carryOut 113 = .ok (.if_icmp .eq 31, 3) := by decide +kernel
theorem dX3_carryOut_116 : decode cX3_carryOut 116 = .ok (.aload_n 0, 1) := by decide +kernel
theorem dX3_carryOut_117 : decode cX3_carryOut 117 = .ok (.getfield 18, 3) := by decide +kernel
theorem dX3_carryOut_120 : decode cX3_carryOut 120 = .ok (.iload_n 1, 1) := by decide +kernel
theorem dX3_carryOut_121 : decode cX3_carryOut 121 = .ok (.iconst 0, 1) := by decide +kernel
theorem dX3_carryOut_122 : decode cX3_carryOut 122 = .ok (.invokevirtual 149, 3) := by decide +kernel
theorem dX3_carryOut_125 : decode cX3_carryOut 125 = .ok (.iconst (-1), 1) := by decide +kernel
theorem dX3_carryOut_126 : decode cX3_carryOut 126 = .ok (.if_icmp .ne 18, 3) := by decide +kernel
theorem dX3_carryOut_129 : decode cX3_carryOut 129 = .ok (.iload_n 2, 1) := by decide +kernel
theorem dX3_carryOut_130 : decode cX3_carryOut 130 = .ok (.aload_n 0, 1) := by decide +kernel
theorem dX3_carryOut_131 : decode cX3_carryOut 131 = .ok (.getfield 95, 3) := by decide +kernel
theorem dX3_carryOut_134 : decode cX3_carryOut 134 = .ok (.invokestatic 169, 3) := by decide +kernel
theorem dX3_carryOut_137 : decode cX3_carryOut 137 = .ok (.ifCond .eq 7, 3) := by decide +kernel
theorem dX3_carryOut_140 : decode cX3_carryOut 140 = .ok (.iconst 1, 1) := by decide +kernel
theorem dX3_carryOut_141 : decode cX3_carryOut 141 = .ok (.goto 4, 3) := by decide +kernel
theorem dX3_carryOut_144 : decode cX3_carryOut 144 = .ok (.iconst 0, 1) := by decide +kernel
theorem dX3_carryOut_145 : decode cX3_carryOut 145 = .ok (.ireturn, 1) := by decide +kernel
set_option maxRecDepth 20000 in
theorem ggX3_look_X0_usable : GoodIn wsX3_look wsX0_usable := goodIn_r _ [7, 8, 9, 42, 43, 44, 45, 46] (by decide +kernel) (by decide +kernel)
set_option maxRecDepth 20000 in
theorem gX3_look_X0_usable : GoodIn wsX3_look (wsV RX3 107 RX0 yX0_usable wsX0_usable) := goodIn_app (goodIn_of _ (by decide +kernel)) ggX3_look_X0_usable
set_option maxRecDepth 20000 in
theorem ggX3_look_X1_step : GoodIn wsX3_look wsX1_step := goodIn_r _ [14, 15, 16, 17, 18, 19, 6, 20, 21, 22, 23, 24, 42, 43, 44, 45, 46, 47, 48, 49] (by decide +kernel) (by decide +kernel)
set_option maxRecDepth 20000 in
theorem gX3_look_X1_step : GoodIn wsX3_look (wsV RX3 244 RX1 yX1_step wsX1_step) := goodIn_app (goodIn_of _ (by decide +kernel)) ggX3_look_X1_step
set_option maxRecDepth 20000 in
theorem ggX3_look_X0_after : GoodIn wsX3_look wsX0_after := goodIn_r _ [28, 29, 22, 23, 24, 42, 43, 44, 45, 46] (by decide +kernel) (by decide +kernel)
set_option maxRecDepth 20000 in
theorem gX3_look_X0_after : GoodIn wsX3_look (wsV RX3 116 RX0 yX0_after wsX0_after) := goodIn_app (goodIn_of _ (by decide +kernel)) ggX3_look_X0_after
set_option maxRecDepth 20000 in
theorem ggX3_look_X3_look : GoodIn wsX3_look wsX3_look := goodIn_r _ [0, 1, 2, 3, 4, 5, 6, 7, 8, 9, 10, 11, 12, 13, 14, 15, 16, 17, 18, 19, 20, 21, 22, 23, 24, 25, 26, 27, 28, 29, 30, 31, 32, 33, 34, 35, 36, 37, 38, 39, 40, 41, 42, 43, 44, 45, 46, 47, 48, 49] (by decide +kernel) (by decide +kernel)
set_option maxRecDepth 20000 in
theorem gX3_look_X3_look : GoodIn wsX3_look (wsV RX3 187 RX3 yX3_look wsX3_look) := goodIn_app (goodIn_of _ (by decide +kernel)) ggX3_look_X3_look
theorem dX3_look_0 : decode cX3_look 0 = .ok (.iload_n 2, 1) := by decide +kernel
theorem dX3_look_1 : decode cX3_look 1 = .ok (.iconst 3, 1) := by decide +kernel
theorem dX3_look_2 : decode cX3_look 2 = .ok (.if_icmp .lt 4, 3) := by decide +kernel
theorem dX3_look_5 : decode cX3_look 5 = .ok (.return_, 1) := by decide +kernel
theorem dX3_look_6 : decode cX3_look 6 = .ok (.iconst 0, 1) := by decide +kernel
theorem dX3_look_7 : decode cX3_look 7 = .ok (.istore_n 3, 1) := by decide +kernel
theorem dX3_look_8 : decode cX3_look 8 = .ok (.iload_n 3, 1) := by decide +kernel
theorem dX3_look_9 : decode cX3_look 9 = .ok (.bipush 8, 2) := by decide +kernel
theorem dX3_look_11 : decode cX3_look 11 = .ok (.if_icmp .ge 53, 3) := by decide +kernel
theorem dX3_look_14 : decode cX3_look 14 = .ok (.aload_n 0, 1) := by decide +kernel
theorem dX3_look_15 : decode cX3_look 15 = .ok (.getfield 11, 3) := by decide +kernel
theorem dX3_look_18 : decode cX3_look 18 = .ok (.iload_n 3, 1) := by decide +kernel
theorem dX3_look_19 : decode cX3_look 19 = .ok (.aaload, 1) := by decide +kernel
theorem dX3_look_20 : decode cX3_look 20 = .ok (.iload_n 1, 1) := by decide +kernel
theorem dX3_look_21 : decode cX3_look 21 = .ok (.invokevirtual 107, 3) := by decide +kernel
theorem dX3_look_24 : decode cX3_look 24 = .ok (.ifCond .eq 34, 3) := by decide +kernel
theorem dX3_look_27 : decode cX3_look 27 = .ok (.aload_n 0, 1) := by decide +kernel
theorem dX3_look_28 : decode cX3_look 28 = .ok (.getfield 25, 3) := by decide +kernel
theorem dX3_look_31 : decode cX3_look 31 = .ok (.aload_n 0, 1) := by decide +kernel
theorem dX3_look_32 : decode cX3_look 32 = .ok (.getfield 11, 3) := by decide +kernel
theorem dX3_look_35 : decode cX3_look 35 = .ok (.iload_n 3, 1) := by decide +kernel
theorem dX3_look_36 : decode cX3_look 36 = .ok (.aaload, 1) := by decide +kernel
theorem dX3_look_37 : decode cX3_look 37 = .ok (.iload_n 2, 1) := by decide +kernel
theorem dX3_look_38 : decode cX3_look 38 = .ok (.invokevirtual 244, 3) := by decide +kernel
theorem dX3_look_41 : decode cX3_look 41 = .ok (.aload_n 0, 1) := by decide +kernel
theorem dX3_look_42 : decode cX3_look 42 = .ok (.aload_n 0, 1) := by decide +kernel
theorem dX3_look_43 : decode cX3_look 43 = .ok (.getfield 11, 3) := by decide +kernel
theorem dX3_look_46 : decode cX3_look 46 = .ok (.iload_n 3, 1) := by decide +kernel
theorem dX3_look_47 : decode cX3_look 47 = .ok (.aaload, 1) := by decide +kernel
theorem dX3_look_48 : decode cX3_look 48 = .ok (.iload_n 1, 1) := by decide +kernel
theorem dX3_look_49 : decode cX3_look 49 = .ok (.invokevirtual 116, 3) := by decide +kernel
theorem dX3_look_52 : decode cX3_look 52 = .ok (.iload_n 2, 1) := by decide +kernel
theorem dX3_look_53 : decode cX3_look 53 = .ok (.iconst 1, 1) := by decide +kernel
theorem dX3_look_54 : decode cX3_look 54 = .ok (.iadd, 1) := by decide +kernel
theorem dX3_look_55 : decode cX3_look 55 = .ok (.invokevirtual 187, 3) := by decide +kernel
theorem dX3_look_58 : decode cX3_look 58 = .ok (.iinc 3 1, 3) := by decide +kernel
theorem dX3_look_61 : decode cX3_look 61 = .ok (.goto (-53), 3) := by decide +kernel
theorem dX3_look_64 : decode cX3_look 64 = .ok (.return_, 1) := by decide +kernel
theorem dX4_init_0 : decode cX4_init 0 = .ok (.aload_n 0, 1) := by decide +kernel
theorem dX4_init_1 : decode cX4_init 1 = .ok (.invokespecial 1, 3) := by decide +kernel
theorem dX4_init_4 : decode cX4_init 4 = .ok (.aload_n 0, 1) := by decide +kernel
theorem dX4_init_5 : decode cX4_init 5 = .ok (.bipush 8, 2) := by decide +kernel
theorem dX4_init_7 : decode cX4_init 7 = .ok (.newarray .boolean, 2) := by decide +kernel
theorem dX4_init_9 : decode cX4_init 9 = .ok (.putfield 7, 3) := by decide +kernel
theorem dX4_init_12 : decode cX4_init 12 = .ok (.aload_n 0, 1) := by decide +kernel
theorem dX4_init_13 : decode cX4_init 13 = .ok (.bipush 8, 2) := by decide +kernel
theorem dX4_init_15 : decode cX4_init 15 = .ok (.newarray .int, 2) := by decide +kernel
theorem dX4_init_17 : decode cX4_init 17 = .ok (.putfield 13, 3) := by decide +kernel
theorem dX4_init_20 : decode cX4_init 20 = .ok (.aload_n 0, 1) := by decide +kernel
theorem dX4_init_21 : decode cX4_init 21 = .ok (.bipush 8, 2) := by decide +kernel
theorem dX4_init_23 : decode cX4_init 23 = .ok (.newarray .int, 2) := by decide +kernel
theorem dX4_init_25 : decode cX4_init 25 = .ok (.putfield 17, 3) := by decide +kernel
theorem dX4_init_28 : decode cX4_init 28 = .ok (.aload_n 0, 1) := by decide +kernel
theorem dX4_init_29 : decode cX4_init 29 = .ok (.bipush 8, 2) := by decide +kernel
theorem dX4_init_31 : decode cX4_init 31 = .ok (.newarray .int, 2) := by decide +kernel
theorem dX4_init_33 : decode cX4_init 33 = .ok (.putfield 20, 3) := by decide +kernel
theorem dX4_init_36 : decode cX4_init 36 = .ok (.aload_n 0, 1) := by decide +kernel
theorem dX4_init_37 : decode cX4_init 37 = .ok (.bipush 8, 2) := by decide +kernel
theorem dX4_init_39 : decode cX4_init 39 = .ok (.newarray .int, 2) := by decide +kernel
theorem dX4_init_41 : decode cX4_init 41 = .ok (.putfield 23, 3) := by decide +kernel
theorem dX4_init_44 : decode cX4_init 44 = .ok (.aload_n 0, 1) := by decide +kernel
theorem dX4_init_45 : decode cX4_init 45 = .ok (.bipush 32, 2) := by decide +kernel
theorem dX4_init_47 : decode cX4_init 47 = .ok (.newarray .int, 2) := by decide +kernel
theorem dX4_init_49 : decode cX4_init 49 = .ok (.putfield 26, 3) := by decide +kernel
theorem dX4_init_52 : decode cX4_init 52 = .ok (.aload_n 0, 1) := by decide +kernel
theorem dX4_init_53 : decode cX4_init 53 = .ok (.bipush 32, 2) := by decide +kernel
theorem dX4_init_55 : decode cX4_init 55 = .ok (.newarray .boolean, 2) := by decide +kernel
theorem dX4_init_57 : decode cX4_init 57 = .ok (.putfield 29, 3) := by decide +kernel
theorem dX4_init_60 : decode cX4_init 60 = .ok (.aload_n 0, 1) := by decide +kernel
theorem dX4_init_61 : decode cX4_init 61 = .ok (.bipush 32, 2) := by decide +kernel
theorem dX4_init_63 : decode cX4_init 63 = .ok (.newarray .int, 2) := by decide +kernel
theorem dX4_init_65 : decode cX4_init 65 = .ok (.putfield 32, 3) := by decide +kernel
theorem dX4_init_68 : decode cX4_init 68 = .ok (.aload_n 0, 1) := by decide +kernel
theorem dX4_init_69 : decode cX4_init 69 = .ok (.bipush 32, 2) := by decide +kernel
theorem dX4_init_71 : decode cX4_init 71 = .ok (.newarray .int, 2) := by decide +kernel
theorem dX4_init_73 : decode cX4_init 73 = .ok (.putfield 35, 3) := by decide +kernel
theorem dX4_init_76 : decode cX4_init 76 = .ok (.aload_n 0, 1) := by decide +kernel
theorem dX4_init_77 : decode cX4_init 77 = .ok (.bipush 6, 2) := by decide +kernel
theorem dX4_init_79 : decode cX4_init 79 = .ok (.newarray .int, 2) := by decide +kernel
theorem dX4_init_81 : decode cX4_init 81 = .ok (.putfield 38, 3) := by decide +kernel
theorem dX4_init_84 : decode cX4_init 84 = .ok (.aload_n 0, 1) := by decide +kernel
theorem dX4_init_85 : decode cX4_init 85 = .ok (.bipush 6, 2) := by decide +kernel
theorem dX4_init_87 : decode cX4_init 87 = .ok (.newarray .int, 2) := by decide +kernel
theorem dX4_init_89 : decode cX4_init 89 = .ok (.putfield 41, 3) := by decide +kernel
theorem dX4_init_92 : decode cX4_init 92 = .ok (.aload_n 0, 1) := by decide +kernel
theorem dX4_init_93 : decode cX4_init 93 = .ok (.bipush 32, 2) := by decide +kernel
theorem dX4_init_95 : decode cX4_init 95 = .ok (.newarray .int, 2) := by decide +kernel
theorem dX4_init_97 : decode cX4_init 97 = .ok (.putfield 44, 3) := by decide +kernel
theorem dX4_init_100 : decode cX4_init 100 = .ok (.aload_n 0, 1) := by decide +kernel
theorem dX4_init_101 : decode cX4_init 101 = .ok (.bipush 32, 2) := by decide +kernel
theorem dX4_init_103 : decode cX4_init 103 = .ok (.newarray .int, 2) := by decide +kernel
theorem dX4_init_105 : decode cX4_init 105 = .ok (.putfield 47, 3) := by decide +kernel
theorem dX4_init_108 : decode cX4_init 108 = .ok (.aload_n 0, 1) := by decide +kernel
theorem dX4_init_109 : decode cX4_init 109 = .ok (.bipush 32, 2) := by decide +kernel
theorem dX4_init_111 : decode cX4_init 111 = .ok (.newarray .int, 2) := by decide +kernel
theorem dX4_init_113 : decode cX4_init 113 = .ok (.putfield 50, 3) := by decide +kernel
theorem dX4_init_116 : decode cX4_init 116 = .ok (.aload_n 0, 1) := by decide +kernel
theorem dX4_init_117 : decode cX4_init 117 = .ok (.bipush 6, 2) := by decide +kernel
theorem dX4_init_119 : decode cX4_init 119 = .ok (.newarray .int, 2) := by decide +kernel
theorem dX4_init_121 : decode cX4_init 121 = .ok (.putfield 53, 3) := by decide +kernel
theorem dX4_init_124 : decode cX4_init 124 = .ok (.aload_n 0, 1) := by decide +kernel
theorem dX4_init_125 : decode cX4_init 125 = .ok (.bipush 6, 2) := by decide +kernel
theorem dX4_init_127 : decode cX4_init 127 = .ok (.newarray .int, 2) := by decide +kernel
theorem dX4_init_129 : decode cX4_init 129 = .ok (.putfield 56, 3) := by decide +kernel
theorem dX4_init_132 : decode cX4_init 132 = .ok (.aload_n 0, 1) := by decide +kernel
theorem dX4_init_133 : decode cX4_init 133 = .ok (.bipush 6, 2) := by decide +kernel
theorem dX4_init_135 : decode cX4_init 135 = .ok (.newarray .int, 2) := by decide +kernel
theorem dX4_init_137 : decode cX4_init 137 = .ok (.putfield 59, 3) := by decide +kernel
theorem dX4_init_140 : decode cX4_init 140 = .ok (.aload_n 0, 1) := by decide +kernel
theorem dX4_init_141 : decode cX4_init 141 = .ok (.bipush 64, 2) := by decide +kernel
theorem dX4_init_143 : decode cX4_init 143 = .ok (.newarray .int, 2) := by decide +kernel
theorem dX4_init_145 : decode cX4_init 145 = .ok (.putfield 62, 3) := by decide +kernel
theorem dX4_init_148 : decode cX4_init 148 = .ok (.aload_n 0, 1) := by decide +kernel
theorem dX4_init_149 : decode cX4_init 149 = .ok (.bipush 64, 2) := by decide +kernel
theorem dX4_init_151 : decode cX4_init 151 = .ok (.newarray .int, 2) := by decide +kernel
theorem dX4_init_153 : decode cX4_init 153 = .ok (.putfield 65, 3) := by decide +kernel
theorem dX4_init_156 : decode cX4_init 156 = .ok (.aload_n 0, 1) := by decide +kernel
theorem dX4_init_157 : decode cX4_init 157 = .ok (.bipush 64, 2) := by decide +kernel
theorem dX4_init_159 : decode cX4_init 159 = .ok (.newarray .int, 2) := by decide +kernel
theorem dX4_init_161 : decode cX4_init 161 = .ok (.putfield 68, 3) := by decide +kernel
theorem dX4_init_164 : decode cX4_init 164 = .ok (.aload_n 0, 1) := by decide +kernel
theorem dX4_init_165 : decode cX4_init 165 = .ok (.bipush 64, 2) := by decide +kernel
theorem dX4_init_167 : decode cX4_init 167 = .ok (.newarray .int, 2) := by decide +kernel
theorem dX4_init_169 : decode cX4_init 169 = .ok (.putfield 71, 3) := by decide +kernel
theorem dX4_init_172 : decode cX4_init 172 = .ok (.aload_n 0, 1) := by decide +kernel
theorem dX4_init_173 : decode cX4_init 173 = .ok (.bipush 64, 2) := by decide +kernel
theorem dX4_init_175 : decode cX4_init 175 = .ok (.newarray .int, 2) := by decide +kernel
theorem dX4_init_177 : decode cX4_init 177 = .ok (.putfield 74, 3) := by decide +kernel
theorem dX4_init_180 : decode cX4_init 180 = .ok (.aload_n 0, 1) := by decide +kernel
theorem dX4_init_181 : decode cX4_init 181 = .ok (.bipush 64, 2) := by decide +kernel
theorem dX4_init_183 : decode cX4_init 183 = .ok (.newarray .int, 2) := by decide +kernel
theorem dX4_init_185 : decode cX4_init 185 = .ok (.putfield 77, 3) := by decide +kernel
theorem dX4_init_188 : decode cX4_init 188 = .ok (.aload_n 0, 1) := by decide +kernel
theorem dX4_init_189 : decode cX4_init 189 = .ok (.iconst (-1), 1) := by decide +kernel
theorem dX4_init_190 : decode cX4_init 190 = .ok (.putfield 80, 3) := by decide +kernel
theorem dX4_init_193 : decode cX4_init 193 = .ok (.aload_n 0, 1) := by decide +kernel
theorem dX4_init_194 : decode cX4_init 194 = .ok (.bipush 8, 2) := by decide +kernel
theorem dX4_init_196 : decode cX4_init 196 = .ok (.newarray .int, 2) := by decide +kernel
theorem dX4_init_198 : decode cX4_init 198 = .ok (.putfield 84, 3) := by decide +kernel
theorem dX4_init_201 : decode cX4_init 201 = .ok (.aload_n 0, 1) := by decide +kernel
theorem dX4_init_202 : decode cX4_init 202 = .ok (.bipush 64, 2) := by decide +kernel
theorem dX4_init_204 : decode cX4_init 204 = .ok (.newarray .int, 2) := by decide +kernel
theorem dX4_init_206 : decode cX4_init 206 = .ok (.putfield 87, 3) := by decide +kernel
theorem dX4_init_209 : decode cX4_init 209 = .ok (.aload_n 0, 1) := by decide +kernel
theorem dX4_init_210 : decode cX4_init 210 = .ok (.bipush 16, 2) := by decide +kernel
theorem dX4_init_212 : decode cX4_init 212 = .ok (.newarray .int, 2) := by decide +kernel
theorem dX4_init_214 : decode cX4_init 214 = .ok (.putfield 90, 3) := by decide +kernel
theorem dX4_init_217 : decode cX4_init 217 = .ok (.return_, 1) := by decide +kernel
theorem dX4_thrown_0 : decode cX4_thrown 0 = .ok (.aload_n 0, 1) := by decide +kernel
theorem dX4_thrown_1 : decode cX4_thrown 1 = .ok (.getfield 93, 3) := by decide +kernel
theorem dX4_thrown_4 : decode cX4_thrown 4 = .ok (.ireturn, 1) := by decide +kernel
theorem dX4_fail_0 : decode cX4_fail 0 = .ok (.aload_n 0, 1) := by decide +kernel
theorem dX4_fail_1 : decode cX4_fail 1 = .ok (.iload_n 1, 1) := by decide +kernel
theorem dX4_fail_2 : decode cX4_fail 2 = .ok (.putfield 93, 3) := by decide +kernel
theorem dX4_fail_5 : decode cX4_fail 5 = .ok (.iconst 0, 1) := by decide +kernel
theorem dX4_fail_6 : decode cX4_fail 6 = .ok (.ireturn, 1) := by decide +kernel
theorem dX4_within_0 : decode cX4_within 0 = .ok (.iload_n 0, 1) := by decide +kernel
theorem dX4_within_1 : decode cX4_within 1 = .ok (.iload_n 1, 1) := by decide +kernel
theorem dX4_within_2 : decode cX4_within 2 = .ok (.if_icmp .lt 12, 3) := by decide +kernel
theorem dX4_within_5 : decode cX4_within 5 = .ok (.iload_n 0, 1) := by decide +kernel
theorem dX4_within_6 : decode cX4_within 6 = .ok (.iload_n 2, 1) := by decide +kernel
theorem dX4_within_7 : decode cX4_within 7 = .ok (.if_icmp .gt 7, 3) := by decide +kernel
theorem dX4_within_10 : decode cX4_within 10 = .ok (.iconst 1, 1) := by decide +kernel
theorem dX4_within_11 : decode cX4_within 11 = .ok (.goto 4, 3) := by decide +kernel
theorem dX4_within_14 : decode cX4_within 14 = .ok (.iconst 0, 1) := by decide +kernel
theorem dX4_within_15 : decode cX4_within 15 = .ok (.ireturn, 1) := by decide +kernel
set_option maxRecDepth 20000 in
theorem ggX4_demand_X4_within : GoodIn wsX4_demand wsX4_within := goodIn_r _ [4] (by decide +kernel) (by decide +kernel)
set_option maxRecDepth 20000 in
theorem gX4_demand_X4_within : GoodIn wsX4_demand (va_wsS RX4 96 yX4_within wsX4_within) := goodIn_app (goodIn_of _ (by decide +kernel)) ggX4_demand_X4_within
theorem dX4_demand_0 : decode cX4_demand 0 = .ok (.iload_n 0, 1) := by decide +kernel
theorem dX4_demand_1 : decode cX4_demand 1 = .ok (.iconst 0, 1) := by decide +kernel
theorem dX4_demand_2 : decode cX4_demand 2 = .ok (.bipush 15, 2) := by decide +kernel
theorem dX4_demand_4 : decode cX4_demand 4 = .ok (.invokestatic 96, 3) := by decide +kernel
theorem dX4_demand_7 : decode cX4_demand 7 = .ok (.ifCond .eq 17, 3) := by decide +kernel
theorem dX4_demand_10 : decode cX4_demand 10 = .ok (.iload_n 1, 1) := by decide +kernel
theorem dX4_demand_11 : decode cX4_demand 11 = .ok (.iconst 0, 1) := by decide +kernel
theorem dX4_demand_12 : decode cX4_demand 12 = .ok (.bipush 15, 2) := by decide +kernel
theorem dX4_demand_14 : decode cX4_demand 14 = .ok (.invokestatic 96, 3) := by decide +kernel
theorem dX4_demand_17 : decode cX4_demand 17 = .ok (.ifCond .eq 7, 3) := by decide +kernel
theorem dX4_demand_20 : decode cX4_demand 20 = .ok (.iconst 1, 1) := by decide +kernel
theorem dX4_demand_21 : decode cX4_demand 21 = .ok (.goto 4, 3) := by decide +kernel
theorem dX4_demand_24 : decode cX4_demand 24 = .ok (.iconst 0, 1) := by decide +kernel
theorem dX4_demand_25 : decode cX4_demand 25 = .ok (.ireturn, 1) := by decide +kernel
theorem dX4_holds_0 : decode cX4_holds 0 = .ok (.iload_n 2, 1) := by decide +kernel
theorem dX4_holds_1 : decode cX4_holds 1 = .ok (.iload_n 0, 1) := by decide +kernel
theorem dX4_holds_2 : decode cX4_holds 2 = .ok (.iand, 1) := by decide +kernel
theorem dX4_holds_3 : decode cX4_holds 3 = .ok (.iload_n 1, 1) := by decide +kernel
theorem dX4_holds_4 : decode cX4_holds 4 = .ok (.iload_n 0, 1) := by decide +kernel
theorem dX4_holds_5 : decode cX4_holds 5 = .ok (.iand, 1) := by decide +kernel
theorem dX4_holds_6 : decode cX4_holds 6 = .ok (.if_icmp .ne 7, 3) := by decide +kernel
theorem dX4_holds_9 : decode cX4_holds 9 = .ok (.iconst 1, 1) := by decide +kernel
theorem dX4_holds_10 : decode cX4_holds 10 = .ok (.goto 4, 3) := by decide +kernel
theorem dX4_holds_13 : decode cX4_holds 13 = .ok (.iconst 0, 1) := by decide +kernel
theorem dX4_holds_14 : decode cX4_holds 14 = .ok (.ireturn, 1) := by decide +kernel
theorem dX4_clear_0 : decode cX4_clear 0 = .ok (.aload_n 0, 1) := by decide +kernel
theorem dX4_clear_1 : decode cX4_clear 1 = .ok (.iconst 0, 1) := by decide +kernel
theorem dX4_clear_2 : decode cX4_clear 2 = .ok (.putfield 93, 3) := by decide +kernel
theorem dX4_clear_5 : decode cX4_clear 5 = .ok (.iconst 0, 1) := by decide +kernel
theorem dX4_clear_6 : decode cX4_clear 6 = .ok (.istore_n 1, 1) := by decide +kernel
theorem dX4_clear_7 : decode cX4_clear 7 = .ok (.iconst 0, 1) := by decide +kernel
theorem dX4_clear_8 : decode cX4_clear 8 = .ok (.istore_n 2, 1) := by decide +kernel
theorem dX4_clear_9 : decode cX4_clear 9 = .ok (.iload_n 2, 1) := by decide +kernel
theorem dX4_clear_10 : decode cX4_clear 10 = .ok (.bipush 8, 2) := by decide +kernel
theorem dX4_clear_12 : decode cX4_clear 12 = .ok (.if_icmp .ge 33, 3) := by decide +kernel
theorem dX4_clear_15 : decode cX4_clear 15 = .ok (.iload_n 1, 1) := by decide +kernel
theorem dX4_clear_16 : decode cX4_clear 16 = .ok (.aload_n 0, 1) := by decide +kernel
theorem dX4_clear_17 : decode cX4_clear 17 = .ok (.getfield 7, 3) := by decide +kernel
theorem dX4_clear_20 : decode cX4_clear 20 = .ok (.iload_n 2, 1) := by decide +kernel
theorem dX4_clear_21 : decode cX4_clear 21 = .ok (.baload, 1) := by decide +kernel
theorem dX4_clear_22 : decode cX4_clear 22 = .ok (.ifCond .eq 7, 3) := by decide +kernel
theorem dX4_clear_25 : decode cX4_clear 25 = .ok (.iconst 1, 1) := by decide +kernel
theorem dX4_clear_26 : decode cX4_clear 26 = .ok (.goto 4, 3) := by decide +kernel
theorem dX4_clear_29 : decode cX4_clear 29 = .ok (.iconst 0, 1) := by decide +kernel
theorem dX4_clear_30 : decode cX4_clear 30 = .ok (.iadd, 1) := by decide +kernel
theorem dX4_clear_31 : decode cX4_clear 31 = .ok (.istore_n 1, 1) := by decide +kernel
theorem dX4_clear_32 : decode cX4_clear 32 = .ok (.aload_n 0, 1) := by decide +kernel
theorem dX4_clear_33 : decode cX4_clear 33 = .ok (.getfield 7, 3) := by decide +kernel
theorem dX4_clear_36 : decode cX4_clear 36 = .ok (.iload_n 2, 1) := by decide +kernel
theorem dX4_clear_37 : decode cX4_clear 37 = .ok (.iconst 0, 1) := by decide +kernel
theorem dX4_clear_38 : decode cX4_clear 38 = .ok (.bastore, 1) := by decide +kernel
theorem dX4_clear_39 : decode cX4_clear 39 = .ok (.iinc 2 1, 3) := by decide +kernel
theorem dX4_clear_42 : decode cX4_clear 42 = .ok (.goto (-33), 3) := by decide +kernel
theorem dX4_clear_45 : decode cX4_clear 45 = .ok (.aload_n 0, 1) := by decide +kernel
theorem dX4_clear_46 : decode cX4_clear 46 = .ok (.iconst 0, 1) := by decide +kernel
theorem dX4_clear_47 : decode cX4_clear 47 = .ok (.putfield 100, 3) := by decide +kernel
theorem dX4_clear_50 : decode cX4_clear 50 = .ok (.aload_n 0, 1) := by decide +kernel
theorem dX4_clear_51 : decode cX4_clear 51 = .ok (.iconst 0, 1) := by decide +kernel
theorem dX4_clear_52 : decode cX4_clear 52 = .ok (.putfield 103, 3) := by decide +kernel
theorem dX4_clear_55 : decode cX4_clear 55 = .ok (.aload_n 0, 1) := by decide +kernel
theorem dX4_clear_56 : decode cX4_clear 56 = .ok (.iconst 0, 1) := by decide +kernel
theorem dX4_clear_57 : decode cX4_clear 57 = .ok (.putfield 106, 3) := by decide +kernel
theorem dX4_clear_60 : decode cX4_clear 60 = .ok (.aload_n 0, 1) := by decide +kernel
theorem dX4_clear_61 : decode cX4_clear 61 = .ok (.iconst 0, 1) := by decide +kernel
theorem dX4_clear_62 : decode cX4_clear 62 = .ok (.putfield 109, 3) := by decide +kernel
theorem dX4_clear_65 : decode cX4_clear 65 = .ok (.aload_n 0, 1) := by decide +kernel
theorem dX4_clear_66 : decode cX4_clear 66 = .ok (.iconst (-1), 1) := by decide +kernel
theorem dX4_clear_67 : decode cX4_clear 67 = .ok (.putfield 80, 3) := by decide +kernel
theorem dX4_clear_70 : decode cX4_clear 70 = .ok (.aload_n 0, 1) := by decide +kernel
theorem dX4_clear_71 : decode cX4_clear 71 = .ok (.iconst 0, 1) := by decide +kernel
theorem dX4_clear_72 : decode cX4_clear 72 = .ok (.putfield 112, 3) := by decide +kernel
theorem dX4_clear_75 : decode cX4_clear 75 = .ok (.iload_n 1, 1) := by decide +kernel
theorem dX4_clear_76 : decode cX4_clear 76 = .ok (.ireturn, 1) := by decide +kernel
set_option maxRecDepth 20000 in
theorem ggX4_action_X4_within : GoodIn wsX4_action wsX4_within := goodIn_r _ [10] (by decide +kernel) (by decide +kernel)
set_option maxRecDepth 20000 in
theorem gX4_action_X4_within : GoodIn wsX4_action (va_wsS RX4 96 yX4_within wsX4_within) := goodIn_app (goodIn_of _ (by decide +kernel)) ggX4_action_X4_within
set_option maxRecDepth 20000 in
theorem ggX4_action_X4_fail : GoodIn wsX4_action wsX4_fail := goodIn_r _ [14, 1, 18, 19, 20, 21, 22, 23, 24, 25, 26, 27, 28, 29, 30, 31, 32, 33, 34, 35, 36, 37, 38, 39, 40, 41, 42, 43, 44, 45, 46, 47, 48, 49, 50] (by decide +kernel) (by decide +kernel)
set_option maxRecDepth 20000 in
theorem gX4_action_X4_fail : GoodIn wsX4_action (wsV RX4 115 RX4 yX4_fail wsX4_fail) := goodIn_app (goodIn_of _ (by decide +kernel)) ggX4_action_X4_fail
set_option maxRecDepth 20000 in
theorem ggX4_action_X4_demand : GoodIn wsX4_action wsX4_demand := goodIn_r _ [17, 7, 8, 9, 10] (by decide +kernel) (by decide +kernel)
set_option maxRecDepth 20000 in
theorem gX4_action_X4_demand : GoodIn wsX4_action (va_wsS RX4 119 yX4_demand wsX4_demand) := goodIn_app (goodIn_of _ (by decide +kernel)) ggX4_action_X4_demand
theorem dX4_action_0 : decode cX4_action 0 = .ok (.aload_n 0, 1) := by decide +kernel
theorem dX4_action_1 : decode cX4_action 1 = .ok (.iconst 0, 1) := by decide +kernel
theorem dX4_action_2 : decode cX4_action 2 = .ok (.putfield 93, 3) := by decide +kernel
theorem dX4_action_5 : decode cX4_action 5 = .ok (.iload_n 1, 1) := by decide +kernel
theorem dX4_action_6 : decode cX4_action 6 = .ok (.iconst 0, 1) := by decide +kernel
theorem dX4_action_7 : decode cX4_action 7 = .ok (.bipush 7, 2) := by decide +kernel
theorem dX4_action_9 : decode cX4_action 9 = .ok (.invokestatic 96, 3) := by decide +kernel
theorem dX4_action_12 : decode cX4_action 12 = .ok (.ifCond .ne 17, 3) := by decide +kernel
theorem dX4_action_15 : decode cX4_action 15 = .ok (.aload_n 0, 1) := by decide +kernel
theorem dX4_action_16 : decode cX4_action 16 = .ok (.iconst 1, 1) := by decide +kernel
theorem dX4_action_17 : decode cX4_action 17 = .ok (.invokevirtual 115, 3) := by decide +kernel
theorem dX4_action_20 : decode cX4_action 20 = .ok (.ifCond .le 7, 3) := by decide +kernel
theorem dX4_action_23 : decode cX4_action 23 = .ok (.iconst 1, 1) := by decide +kernel
theorem dX4_action_24 : decode cX4_action 24 = .ok (.goto 4, 3) := by decide +kernel
theorem dX4_action_27 : decode cX4_action 27 = .ok (.iconst 0, 1) := by decide +kernel
theorem dX4_action_28 : decode cX4_action 28 = .ok (.ireturn, 1) := by decide +kernel
theorem dX4_action_29 : decode cX4_action 29 = .ok (.iload_n 2, 1) := by decide +kernel
theorem dX4_action_30 : decode cX4_action 30 = .ok (.iload_n 3, 1) := by decide +kernel
theorem dX4_action_31 : decode cX4_action 31 = .ok (.invokestatic 119, 3) := by decide +kernel
theorem dX4_action_34 : decode cX4_action 34 = .ok (.ifCond .eq 13, 3) := by decide +kernel
theorem dX4_action_37 : decode cX4_action 37 = .ok (.iload 4, 2) := by decide +kernel
theorem dX4_action_39 : decode cX4_action 39 = .ok (.iconst (-1), 1) := by decide +kernel
theorem dX4_action_40 : decode cX4_action 40 = .ok (.iconst 3, 1) := by decide +kernel
theorem dX4_action_41 : decode cX4_action 41 = .ok (.invokestatic 96, 3) := by decide +kernel
theorem dX4_action_44 : decode cX4_action 44 = .ok (.ifCond .ne 17, 3) := by decide +kernel
theorem dX4_action_47 : decode cX4_action 47 = .ok (.aload_n 0, 1) := by decide +kernel
theorem dX4_action_48 : decode cX4_action 48 = .ok (.iconst 2, 1) := by decide +kernel
theorem dX4_action_49 : decode cX4_action 49 = .ok (.invokevirtual 115, 3) := by decide +kernel
theorem dX4_action_52 : decode cX4_action 52 = .ok (.ifCond .le 7, 3) := by decide +kernel
theorem dX4_action_55 : decode cX4_action 55 = .ok (.iconst 1, 1) := by decide +kernel
theorem dX4_action_56 : decode cX4_action 56 = .ok (.goto 4, 3) := by decide +kernel
theorem dX4_action_59 : decode cX4_action 59 = .ok (.iconst 0, 1) := by decide +kernel
theorem dX4_action_60 : decode cX4_action 60 = .ok (.ireturn, 1) := by decide +kernel
theorem dX4_action_61 : decode cX4_action 61 = .ok (.aload_n 0, 1) := by decide +kernel
theorem dX4_action_62 : decode cX4_action 62 = .ok (.getfield 7, 3) := by decide +kernel
theorem dX4_action_65 : decode cX4_action 65 = .ok (.iload_n 1, 1) := by decide +kernel
theorem dX4_action_66 : decode cX4_action 66 = .ok (.baload, 1) := by decide +kernel
theorem dX4_action_67 : decode cX4_action 67 = .ok (.istore 5, 2) := by decide +kernel
theorem dX4_action_69 : decode cX4_action 69 = .ok (.aload_n 0, 1) := by decide +kernel
theorem dX4_action_70 : decode cX4_action 70 = .ok (.getfield 7, 3) := by decide +kernel
theorem dX4_action_73 : decode cX4_action 73 = .ok (.iload_n 1, 1) := by decide +kernel
theorem dX4_action_74 : decode cX4_action 74 = .ok (.iconst 1, 1) := by decide +kernel
theorem dX4_action_75 : decode cX4_action 75 = .ok (.bastore, 1) := by decide +kernel
theorem dX4_action_76 : decode cX4_action 76 = .ok (.aload_n 0, 1) := by decide +kernel
theorem dX4_action_77 : decode cX4_action 77 = .ok (.getfield 13, 3) := by decide +kernel
theorem dX4_action_80 : decode cX4_action 80 = .ok (.iload_n 1, 1) := by decide +kernel
theorem dX4_action_81 : decode cX4_action 81 = .ok (.iload_n 2, 1) := by decide +kernel
theorem dX4_action_82 : decode cX4_action 82 = .ok (.iastore, 1) := by decide +kernel
theorem dX4_action_83 : decode cX4_action 83 = .ok (.aload_n 0, 1) := by decide +kernel
theorem dX4_action_84 : decode cX4_action 84 = .ok (.getfield 17, 3) := by decide +kernel
theorem dX4_action_87 : decode cX4_action 87 = .ok (.iload_n 1, 1) := by decide +kernel
theorem dX4_action_88 : decode cX4_action 88 = .ok (.iload_n 3, 1) := by decide +kernel
theorem dX4_action_89 : decode cX4_action 89 = .ok (.iastore, 1) := by decide +kernel
theorem dX4_action_90 : decode cX4_action 90 = .ok (.aload_n 0, 1) := by decide +kernel
theorem dX4_action_91 : decode cX4_action 91 = .ok (.getfield 20, 3) := by decide +kernel
theorem dX4_action_94 : decode cX4_action 94 = .ok (.iload_n 1, 1) := by decide +kernel
theorem dX4_action_95 : decode cX4_action 95 = .ok (.iload 4, 2) := by decide +kernel
theorem dX4_action_97 : decode cX4_action 97 = .ok (.iastore, 1) := by decide +kernel
theorem dX4_action_98 : decode cX4_action 98 = .ok (.aload_n 0, 1) := by decide +kernel
theorem dX4_action_99 : decode cX4_action 99 = .ok (.getfield 23, 3) := by decide +kernel
theorem dX4_action_102 : decode cX4_action 102 = .ok (.iload_n 1, 1) := by decide +kernel
theorem dX4_action_103 : decode cX4_action 103 = .ok (.iconst 0, 1) := by decide +kernel
theorem dX4_action_104 : decode cX4_action 104 = .ok (.iastore, 1) := by decide +kernel
theorem dX4_action_105 : decode cX4_action 105 = .ok (.iload 5, 2) := by decide +kernel
theorem dX4_action_107 : decode cX4_action 107 = .ok (.ireturn, 1) := by decide +kernel
set_option maxRecDepth 20000 in
theorem ggX4_effect_X4_within : GoodIn wsX4_effect wsX4_within := goodIn_r _ [11] (by decide +kernel) (by decide +kernel)
set_option maxRecDepth 20000 in
theorem gX4_effect_X4_within : GoodIn wsX4_effect (va_wsS RX4 96 yX4_within wsX4_within) := goodIn_app (goodIn_of _ (by decide +kernel)) ggX4_effect_X4_within
set_option maxRecDepth 20000 in
theorem ggX4_effect_X4_fail : GoodIn wsX4_effect wsX4_fail := goodIn_r _ [15, 1, 19, 20, 21, 22, 23, 24, 25, 26, 27, 28, 29, 30, 31, 32, 33, 34, 35, 36, 37, 38, 39, 40, 41, 42, 43, 44, 45, 46, 47, 48, 49, 50, 51] (by decide +kernel) (by decide +kernel)
set_option maxRecDepth 20000 in
theorem gX4_effect_X4_fail : GoodIn wsX4_effect (wsV RX4 115 RX4 yX4_fail wsX4_fail) := goodIn_app (goodIn_of _ (by decide +kernel)) ggX4_effect_X4_fail
set_option maxRecDepth 20000 in
theorem ggX4_effect_X4_demand : GoodIn wsX4_effect wsX4_demand := goodIn_r _ [18, 8, 9, 10, 11] (by decide +kernel) (by decide +kernel)
set_option maxRecDepth 20000 in
theorem gX4_effect_X4_demand : GoodIn wsX4_effect (va_wsS RX4 119 yX4_demand wsX4_demand) := goodIn_app (goodIn_of _ (by decide +kernel)) ggX4_effect_X4_demand
theorem dX4_effect_0 : decode cX4_effect 0 = .ok (.aload_n 0, 1) := by decide +kernel
theorem dX4_effect_1 : decode cX4_effect 1 = .ok (.iconst 0, 1) := by decide +kernel
theorem dX4_effect_2 : decode cX4_effect 2 = .ok (.putfield 93, 3) := by decide +kernel
theorem dX4_effect_5 : decode cX4_effect 5 = .ok (.iload_n 1, 1) := by decide +kernel
theorem dX4_effect_6 : decode cX4_effect 6 = .ok (.iconst 0, 1) := by decide +kernel
theorem dX4_effect_7 : decode cX4_effect 7 = .ok (.bipush 7, 2) := by decide +kernel
theorem dX4_effect_9 : decode cX4_effect 9 = .ok (.invokestatic 96, 3) := by decide +kernel
theorem dX4_effect_12 : decode cX4_effect 12 = .ok (.ifCond .ne 9, 3) := by decide +kernel
theorem dX4_effect_15 : decode cX4_effect 15 = .ok (.aload_n 0, 1) := by decide +kernel
theorem dX4_effect_16 : decode cX4_effect 16 = .ok (.iconst 1, 1) := by decide +kernel
theorem dX4_effect_17 : decode cX4_effect 17 = .ok (.invokevirtual 115, 3) := by decide +kernel
theorem dX4_effect_20 : decode cX4_effect 20 = .ok (.ireturn, 1) := by decide +kernel
theorem dX4_effect_21 : decode cX4_effect 21 = .ok (.aload_n 0, 1) := by decide +kernel
theorem dX4_effect_22 : decode cX4_effect 22 = .ok (.getfield 7, 3) := by decide +kernel
theorem dX4_effect_25 : decode cX4_effect 25 = .ok (.iload_n 1, 1) := by decide +kernel
theorem dX4_effect_26 : decode cX4_effect 26 = .ok (.baload, 1) := by decide +kernel
theorem dX4_effect_27 : decode cX4_effect 27 = .ok (.ifCond .ne 9, 3) := by decide +kernel
theorem dX4_effect_30 : decode cX4_effect 30 = .ok (.aload_n 0, 1) := by decide +kernel
theorem dX4_effect_31 : decode cX4_effect 31 = .ok (.iconst 2, 1) := by decide +kernel
theorem dX4_effect_32 : decode cX4_effect 32 = .ok (.invokevirtual 115, 3) := by decide +kernel
theorem dX4_effect_35 : decode cX4_effect 35 = .ok (.ireturn, 1) := by decide +kernel
theorem dX4_effect_36 : decode cX4_effect 36 = .ok (.iload 4, 2) := by decide +kernel
theorem dX4_effect_38 : decode cX4_effect 38 = .ok (.iload 5, 2) := by decide +kernel
theorem dX4_effect_40 : decode cX4_effect 40 = .ok (.invokestatic 119, 3) := by decide +kernel
theorem dX4_effect_43 : decode cX4_effect 43 = .ok (.ifCond .eq 12, 3) := by decide +kernel
theorem dX4_effect_46 : decode cX4_effect 46 = .ok (.iload_n 2, 1) := by decide +kernel
theorem dX4_effect_47 : decode cX4_effect 47 = .ok (.iconst 0, 1) := by decide +kernel
theorem dX4_effect_48 : decode cX4_effect 48 = .ok (.iconst 3, 1) := by decide +kernel
theorem dX4_effect_49 : decode cX4_effect 49 = .ok (.invokestatic 96, 3) := by decide +kernel
theorem dX4_effect_52 : decode cX4_effect 52 = .ok (.ifCond .ne 9, 3) := by decide +kernel
theorem dX4_effect_55 : decode cX4_effect 55 = .ok (.aload_n 0, 1) := by decide +kernel
theorem dX4_effect_56 : decode cX4_effect 56 = .ok (.iconst 3, 1) := by decide +kernel
theorem dX4_effect_57 : decode cX4_effect 57 = .ok (.invokevirtual 115, 3) := by decide +kernel
theorem dX4_effect_60 : decode cX4_effect 60 = .ok (.ireturn, 1) := by decide +kernel
theorem dX4_effect_61 : decode cX4_effect 61 = .ok (.aload_n 0, 1) := by decide +kernel
theorem dX4_effect_62 : decode cX4_effect 62 = .ok (.getfield 23, 3) := by decide +kernel
theorem dX4_effect_65 : decode cX4_effect 65 = .ok (.iload_n 1, 1) := by decide +kernel
theorem dX4_effect_66 : decode cX4_effect 66 = .ok (.iaload, 1) := by decide +kernel
theorem dX4_effect_67 : decode cX4_effect 67 = .ok (.iconst 4, 1) := by decide +kernel
theorem dX4_effect_68 : decode cX4_effect 68 = .ok (.if_icmp .ne 9, 3) := by decide +kernel
theorem dX4_effect_71 : decode cX4_effect 71 = .ok (.aload_n 0, 1) := by decide +kernel
theorem dX4_effect_72 : decode cX4_effect 72 = .ok (.iconst 4, 1) := by decide +kernel
theorem dX4_effect_73 : decode cX4_effect 73 = .ok (.invokevirtual 115, 3) := by decide +kernel
theorem dX4_effect_76 : decode cX4_effect 76 = .ok (.ireturn, 1) := by decide +kernel
theorem dX4_effect_77 : decode cX4_effect 77 = .ok (.iconst 4, 1) := by decide +kernel
theorem dX4_effect_78 : decode cX4_effect 78 = .ok (.iload_n 1, 1) := by decide +kernel
theorem dX4_effect_79 : decode cX4_effect 79 = .ok (.imul, 1) := by decide +kernel
theorem dX4_effect_80 : decode cX4_effect 80 = .ok (.aload_n 0, 1) := by decide +kernel
theorem dX4_effect_81 : decode cX4_effect 81 = .ok (.getfield 23, 3) := by decide +kernel
theorem dX4_effect_84 : decode cX4_effect 84 = .ok (.iload_n 1, 1) := by decide +kernel
theorem dX4_effect_85 : decode cX4_effect 85 = .ok (.iaload, 1) := by decide +kernel
theorem dX4_effect_86 : decode cX4_effect 86 = .ok (.iadd, 1) := by decide +kernel
theorem dX4_effect_87 : decode cX4_effect 87 = .ok (.istore 6, 2) := by decide +kernel
theorem dX4_effect_89 : decode cX4_effect 89 = .ok (.aload_n 0, 1) := by decide +kernel
theorem dX4_effect_90 : decode cX4_effect 90 = .ok (.getfield 26, 3) := by decide +kernel
theorem dX4_effect_93 : decode cX4_effect 93 = .ok (.iload 6, 2) := by decide +kernel
theorem dX4_effect_95 : decode cX4_effect 95 = .ok (.iload_n 2, 1) := by decide +kernel
theorem dX4_effect_96 : decode cX4_effect 96 = .ok (.iastore, 1) := by decide +kernel
theorem dX4_effect_97 : decode cX4_effect 97 = .ok (.aload_n 0, 1) := by decide +kernel
theorem dX4_effect_98 : decode cX4_effect 98 = .ok (.getfield 29, 3) := by decide +kernel
theorem dX4_effect_101 : decode cX4_effect 101 = .ok (.iload 6, 2) := by decide +kernel
theorem dX4_effect_103 : decode cX4_effect 103 = .ok (.iload_n 3, 1) := by decide +kernel
theorem dX4_effect_104 : decode cX4_effect 104 = .ok (.bastore, 1) := by decide +kernel
theorem dX4_effect_105 : decode cX4_effect 105 = .ok (.aload_n 0, 1) := by decide +kernel
theorem dX4_effect_106 : decode cX4_effect 106 = .ok (.getfield 32, 3) := by decide +kernel
theorem dX4_effect_109 : decode cX4_effect 109 = .ok (.iload 6, 2) := by decide +kernel
theorem dX4_effect_111 : decode cX4_effect 111 = .ok (.iload 4, 2) := by decide +kernel
theorem dX4_effect_113 : decode cX4_effect 113 = .ok (.iastore, 1) := by decide +kernel
theorem dX4_effect_114 : decode cX4_effect 114 = .ok (.aload_n 0, 1) := by decide +kernel
theorem dX4_effect_115 : decode cX4_effect 115 = .ok (.getfield 35, 3) := by decide +kernel
theorem dX4_effect_118 : decode cX4_effect 118 = .ok (.iload 6, 2) := by decide +kernel
theorem dX4_effect_120 : decode cX4_effect 120 = .ok (.iload 5, 2) := by decide +kernel
theorem dX4_effect_122 : decode cX4_effect 122 = .ok (.iastore, 1) := by decide +kernel
theorem dX4_effect_123 : decode cX4_effect 123 = .ok (.aload_n 0, 1) := by decide +kernel
theorem dX4_effect_124 : decode cX4_effect 124 = .ok (.getfield 23, 3) := by decide +kernel
theorem dX4_effect_127 : decode cX4_effect 127 = .ok (.iload_n 1, 1) := by decide +kernel
theorem dX4_effect_128 : decode cX4_effect 128 = .ok (.dup2, 1) := by decide +kernel
theorem dX4_effect_129 : decode cX4_effect 129 = .ok (.iaload, 1) := by decide +kernel
theorem dX4_effect_130 : decode cX4_effect 130 = .ok (.iconst 1, 1) := by decide +kernel
theorem dX4_effect_131 : decode cX4_effect 131 = .ok (.iadd, 1) := by decide +kernel
theorem dX4_effect_132 : decode cX4_effect 132 = .ok (.iastore, 1) := by decide +kernel
theorem dX4_effect_133 : decode cX4_effect 133 = .ok (.aload_n 0, 1) := by decide +kernel
theorem dX4_effect_134 : decode cX4_effect 134 = .ok (.getfield 23, 3) := by decide +kernel
theorem dX4_effect_137 : decode cX4_effect 137 = .ok (.iload_n 1, 1) := by decide +kernel
theorem dX4_effect_138 : decode cX4_effect 138 = .ok (.iaload, 1) := by decide +kernel
theorem dX4_effect_139 : decode cX4_effect 139 = .ok (.ireturn, 1) := by decide +kernel
set_option maxRecDepth 20000 in
theorem ggX4_clause_X4_demand : GoodIn wsX4_clause wsX4_demand := goodIn_r _ [8, 9, 10, 7, 11] (by decide +kernel) (by decide +kernel)
set_option maxRecDepth 20000 in
theorem gX4_clause_X4_demand : GoodIn wsX4_clause (va_wsS RX4 119 yX4_demand wsX4_demand) := goodIn_app (goodIn_of _ (by decide +kernel)) ggX4_clause_X4_demand
set_option maxRecDepth 20000 in
theorem ggX4_clause_X4_fail : GoodIn wsX4_clause wsX4_fail := goodIn_r _ [15, 1, 16, 17, 18, 19, 20, 21, 22, 23, 24, 25, 26, 27, 28, 29, 30, 31, 32, 33, 34, 35, 36, 37, 38, 39, 40, 41, 42, 43, 44, 45, 46, 47, 48] (by decide +kernel) (by decide +kernel)
set_option maxRecDepth 20000 in
theorem gX4_clause_X4_fail : GoodIn wsX4_clause (wsV RX4 115 RX4 yX4_fail wsX4_fail) := goodIn_app (goodIn_of _ (by decide +kernel)) ggX4_clause_X4_fail
theorem dX4_clause_0 : decode cX4_clause 0 = .ok (.aload_n 0, 1) := by decide +kernel
theorem dX4_clause_1 : decode cX4_clause 1 = .ok (.iconst 0, 1) := by decide +kernel
theorem dX4_clause_2 : decode cX4_clause 2 = .ok (.putfield 93, 3) := by decide +kernel
theorem dX4_clause_5 : decode cX4_clause 5 = .ok (.iload_n 1, 1) := by decide +kernel
theorem dX4_clause_6 : decode cX4_clause 6 = .ok (.iload_n 2, 1) := by decide +kernel
theorem dX4_clause_7 : decode cX4_clause 7 = .ok (.invokestatic 119, 3) := by decide +kernel
theorem dX4_clause_10 : decode cX4_clause 10 = .ok (.ifCond .ne 9, 3) := by decide +kernel
theorem dX4_clause_13 : decode cX4_clause 13 = .ok (.aload_n 0, 1) := by decide +kernel
theorem dX4_clause_14 : decode cX4_clause 14 = .ok (.iconst 1, 1) := by decide +kernel
theorem dX4_clause_15 : decode cX4_clause 15 = .ok (.invokevirtual 115, 3) := by decide +kernel
theorem dX4_clause_18 : decode cX4_clause 18 = .ok (.ireturn, 1) := by decide +kernel
theorem dX4_clause_19 : decode cX4_clause 19 = .ok (.aload_n 0, 1) := by decide +kernel
theorem dX4_clause_20 : decode cX4_clause 20 = .ok (.getfield 100, 3) := by decide +kernel
theorem dX4_clause_23 : decode cX4_clause 23 = .ok (.bipush 6, 2) := by decide +kernel
theorem dX4_clause_25 : decode cX4_clause 25 = .ok (.if_icmp .ne 9, 3) := by decide +kernel
theorem dX4_clause_28 : decode cX4_clause 28 = .ok (.aload_n 0, 1) := by decide +kernel
theorem dX4_clause_29 : decode cX4_clause 29 = .ok (.iconst 2, 1) := by decide +kernel
theorem dX4_clause_30 : decode cX4_clause 30 = .ok (.invokevirtual 115, 3) := by decide +kernel
theorem dX4_clause_33 : decode cX4_clause 33 = .ok (.ireturn, 1) := by decide +kernel
theorem dX4_clause_34 : decode cX4_clause 34 = .ok (.aload_n 0, 1) := by decide +kernel
theorem dX4_clause_35 : decode cX4_clause 35 = .ok (.getfield 38, 3) := by decide +kernel
theorem dX4_clause_38 : decode cX4_clause 38 = .ok (.aload_n 0, 1) := by decide +kernel
theorem dX4_clause_39 : decode cX4_clause 39 = .ok (.getfield 100, 3) := by decide +kernel
theorem dX4_clause_42 : decode cX4_clause 42 = .ok (.iload_n 1, 1) := by decide +kernel
theorem dX4_clause_43 : decode cX4_clause 43 = .ok (.iastore, 1) := by decide +kernel
theorem dX4_clause_44 : decode cX4_clause 44 = .ok (.aload_n 0, 1) := by decide +kernel
theorem dX4_clause_45 : decode cX4_clause 45 = .ok (.getfield 41, 3) := by decide +kernel
theorem dX4_clause_48 : decode cX4_clause 48 = .ok (.aload_n 0, 1) := by decide +kernel
theorem dX4_clause_49 : decode cX4_clause 49 = .ok (.getfield 100, 3) := by decide +kernel
theorem dX4_clause_52 : decode cX4_clause 52 = .ok (.iload_n 2, 1) := by decide +kernel
theorem dX4_clause_53 : decode cX4_clause 53 = .ok (.iastore, 1) := by decide +kernel
theorem dX4_clause_54 : decode cX4_clause 54 = .ok (.aload_n 0, 1) := by decide +kernel
theorem dX4_clause_55 : decode cX4_clause 55 = .ok (.dup, 1) := by decide +kernel
theorem dX4_clause_56 : decode cX4_clause 56 = .ok (.getfield 100, 3) := by decide +kernel
theorem dX4_clause_59 : decode cX4_clause 59 = .ok (.iconst 1, 1) := by decide +kernel
theorem dX4_clause_60 : decode cX4_clause 60 = .ok (.iadd, 1) := by decide +kernel
theorem dX4_clause_61 : decode cX4_clause 61 = .ok (.putfield 100, 3) := by decide +kernel
theorem dX4_clause_64 : decode cX4_clause 64 = .ok (.aload_n 0, 1) := by decide +kernel
theorem dX4_clause_65 : decode cX4_clause 65 = .ok (.getfield 100, 3) := by decide +kernel
theorem dX4_clause_68 : decode cX4_clause 68 = .ok (.ireturn, 1) := by decide +kernel
set_option maxRecDepth 20000 in
theorem ggX4_goal_X4_demand : GoodIn wsX4_goal wsX4_demand := goodIn_r _ [7, 8, 9, 6, 10] (by decide +kernel) (by decide +kernel)
set_option maxRecDepth 20000 in
theorem gX4_goal_X4_demand : GoodIn wsX4_goal (va_wsS RX4 119 yX4_demand wsX4_demand) := goodIn_app (goodIn_of _ (by decide +kernel)) ggX4_goal_X4_demand
set_option maxRecDepth 20000 in
theorem ggX4_goal_X4_fail : GoodIn wsX4_goal wsX4_fail := goodIn_r _ [14, 1, 18, 19, 20, 21, 22, 23, 24, 25, 26, 27, 28, 29, 30, 31, 32, 33, 34, 35, 36, 37, 38, 39, 40, 41, 42, 43, 44, 45, 46, 47, 48, 49, 50] (by decide +kernel) (by decide +kernel)
set_option maxRecDepth 20000 in
theorem gX4_goal_X4_fail : GoodIn wsX4_goal (wsV RX4 115 RX4 yX4_fail wsX4_fail) := goodIn_app (goodIn_of _ (by decide +kernel)) ggX4_goal_X4_fail
set_option maxRecDepth 20000 in
theorem ggX4_goal_X4_holds : GoodIn wsX4_goal wsX4_holds := goodIn_r _ [17] (by decide +kernel) (by decide +kernel)
set_option maxRecDepth 20000 in
theorem gX4_goal_X4_holds : GoodIn wsX4_goal (va_wsS RX4 123 yX4_holds wsX4_holds) := goodIn_app (goodIn_of _ (by decide +kernel)) ggX4_goal_X4_holds
theorem dX4_goal_0 : decode cX4_goal 0 = .ok (.aload_n 0, 1) := by decide +kernel
theorem dX4_goal_1 : decode cX4_goal 1 = .ok (.iconst 0, 1) := by decide +kernel
theorem dX4_goal_2 : decode cX4_goal 2 = .ok (.putfield 93, 3) := by decide +kernel
theorem dX4_goal_5 : decode cX4_goal 5 = .ok (.iload_n 1, 1) := by decide +kernel
theorem dX4_goal_6 : decode cX4_goal 6 = .ok (.iload_n 2, 1) := by decide +kernel
theorem dX4_goal_7 : decode cX4_goal 7 = .ok (.invokestatic 119, 3) := by decide +kernel
theorem dX4_goal_10 : decode cX4_goal 10 = .ok (.ifCond .ne 9, 3) := by decide +kernel
theorem dX4_goal_13 : decode cX4_goal 13 = .ok (.aload_n 0, 1) := by decide +kernel
theorem dX4_goal_14 : decode cX4_goal 14 = .ok (.iconst 1, 1) := by decide +kernel
theorem dX4_goal_15 : decode cX4_goal 15 = .ok (.invokevirtual 115, 3) := by decide +kernel
theorem dX4_goal_18 : decode cX4_goal 18 = .ok (.ireturn, 1) := by decide +kernel
theorem dX4_goal_19 : decode cX4_goal 19 = .ok (.aload_n 0, 1) := by decide +kernel
theorem dX4_goal_20 : decode cX4_goal 20 = .ok (.iload_n 1, 1) := by decide +kernel
theorem dX4_goal_21 : decode cX4_goal 21 = .ok (.putfield 103, 3) := by decide +kernel
theorem dX4_goal_24 : decode cX4_goal 24 = .ok (.aload_n 0, 1) := by decide +kernel
theorem dX4_goal_25 : decode cX4_goal 25 = .ok (.iload_n 2, 1) := by decide +kernel
theorem dX4_goal_26 : decode cX4_goal 26 = .ok (.putfield 106, 3) := by decide +kernel
theorem dX4_goal_29 : decode cX4_goal 29 = .ok (.iconst 0, 1) := by decide +kernel
theorem dX4_goal_30 : decode cX4_goal 30 = .ok (.istore_n 3, 1) := by decide +kernel
theorem dX4_goal_31 : decode cX4_goal 31 = .ok (.iconst 0, 1) := by decide +kernel
theorem dX4_goal_32 : decode cX4_goal 32 = .ok (.istore 4, 2) := by decide +kernel
theorem dX4_goal_34 : decode cX4_goal 34 = .ok (.iload 4, 2) := by decide +kernel
theorem dX4_goal_36 : decode cX4_goal 36 = .ok (.bipush 16, 2) := by decide +kernel
theorem dX4_goal_38 : decode cX4_goal 38 = .ok (.if_icmp .ge 27, 3) := by decide +kernel
theorem dX4_goal_41 : decode cX4_goal 41 = .ok (.iload_n 3, 1) := by decide +kernel
theorem dX4_goal_42 : decode cX4_goal 42 = .ok (.iload_n 1, 1) := by decide +kernel
theorem dX4_goal_43 : decode cX4_goal 43 = .ok (.iload_n 2, 1) := by decide +kernel
theorem dX4_goal_44 : decode cX4_goal 44 = .ok (.iload 4, 2) := by decide +kernel
theorem dX4_goal_46 : decode cX4_goal 46 = .ok (.invokestatic 123, 3) := by decide +kernel
theorem dX4_goal_49 : decode cX4_goal 49 = .ok (.ifCond .eq 7, 3) := by decide +kernel
theorem dX4_goal_52 : decode cX4_goal 52 = .ok (.iconst 1, 1) := by decide +kernel
theorem dX4_goal_53 : decode cX4_goal 53 = .ok (.goto 4, 3) := by decide +kernel
theorem dX4_goal_56 : decode cX4_goal 56 = .ok (.iconst 0, 1) := by decide +kernel
theorem dX4_goal_57 : decode cX4_goal 57 = .ok (.iadd, 1) := by decide +kernel
theorem dX4_goal_58 : decode cX4_goal 58 = .ok (.istore_n 3, 1) := by decide +kernel
theorem dX4_goal_59 : decode cX4_goal 59 = .ok (.iinc 4 1, 3) := by decide +kernel
theorem dX4_goal_62 : decode cX4_goal 62 = .ok (.goto (-28), 3) := by decide +kernel
theorem dX4_goal_65 : decode cX4_goal 65 = .ok (.iload_n 3, 1) := by decide +kernel
theorem dX4_goal_66 : decode cX4_goal 66 = .ok (.ireturn, 1) := by decide +kernel
theorem dX4_startBelief_0 : decode cX4_startBelief 0 = .ok (.iconst 0, 1) := by decide +kernel
theorem dX4_startBelief_1 : decode cX4_startBelief 1 = .ok (.istore_n 1, 1) := by decide +kernel
theorem dX4_startBelief_2 : decode cX4_startBelief 2 = .ok (.iconst 0, 1) := by decide +kernel
theorem dX4_startBelief_3 : decode cX4_startBelief 3 = .ok (.istore_n 2, 1) := by decide +kernel
theorem dX4_startBelief_4 : decode cX4_startBelief 4 = .ok (.iload_n 2, 1) := by decide +kernel
theorem dX4_startBelief_5 : decode cX4_startBelief 5 = .ok (.bipush 16, 2) := by decide +kernel
theorem dX4_startBelief_7 : decode cX4_startBelief 7 = .ok (.if_icmp .ge 79, 3) := by decide +kernel
theorem dX4_startBelief_10 : decode cX4_startBelief 10 = .ok (.iconst 1, 1) := by decide +kernel
theorem dX4_startBelief_11 : decode cX4_startBelief 11 = .ok (.istore_n 3, 1) := by decide +kernel
theorem dX4_startBelief_12 : decode cX4_startBelief 12 = .ok (.iconst 0, 1) := by decide +kernel
theorem dX4_startBelief_13 : decode cX4_startBelief 13 = .ok (.istore 4, 2) := by decide +kernel
theorem dX4_startBelief_15 : decode cX4_startBelief 15 = .ok (.iload 4, 2) := by decide +kernel
theorem dX4_startBelief_17 : decode cX4_startBelief 17 = .ok (.aload_n 0, 1) := by decide +kernel
theorem dX4_startBelief_18 : decode cX4_startBelief 18 = .ok (.getfield 100, 3) := by decide +kernel
theorem dX4_startBelief_21 : decode cX4_startBelief 21 = .ok (.if_icmp .ge 45, 3) := by decide +kernel
theorem dX4_startBelief_24 : decode cX4_startBelief 24 = .ok (.iload_n 3, 1) := by decide +kernel
theorem dX4_startBelief_25 : decode cX4_startBelief 25 = .ok (.ifCond .eq 33, 3) := by decide +kernel
theorem dX4_startBelief_28 : decode cX4_startBelief 28 = .ok (.iload_n 2, 1) := by decide +kernel
theorem dX4_startBelief_29 : decode cX4_startBelief 29 = .ok (.aload_n 0, 1) := by decide +kernel
theorem dX4_startBelief_30 : decode cX4_startBelief 30 = .ok (.getfield 38, 3) := by decide +kernel
theorem dX4_startBelief_33 : decode cX4_startBelief 33 = .ok (.iload 4, 2) := by decide +kernel
theorem dX4_startBelief_35 : decode cX4_startBelief 35 = .ok (.iaload, 1) := by decide +kernel
theorem dX4_startBelief_36 : decode cX4_startBelief 36 = .ok (.iand, 1) := by decide +kernel
theorem dX4_startBelief_37 : decode cX4_startBelief 37 = .ok (.ifCond .ne 17, 3) := by decide +kernel
theorem dX4_startBelief_40 : decode cX4_startBelief 40 = .ok (.iload_n 2, 1) := by decide +kernel
theorem dX4_startBelief_41 : decode cX4_startBelief 41 = .ok (.iconst (-1), 1) := by decide +kernel
theorem dX4_startBelief_42 : decode cX4_startBelief 42 = .ok (.ixor, 1) := by decide +kernel
theorem dX4_startBelief_43 : decode cX4_startBelief 43 = .ok (.aload_n 0, 1) := by decide +kernel
theorem dX4_startBelief_44 : decode cX4_startBelief 44 = .ok (.getfield 41, 3) := by decide +kernel
theorem dX4_startBelief_47 : decode cX4_startBelief 47 = .ok (.iload 4, 2) := by decide +kernel
theorem dX4_startBelief_49 : decode cX4_startBelief 49 = .ok (.iaload, 1) := by decide +kernel
theorem dX4_startBelief_50 : decode cX4_startBelief 50 = .ok (.iand, 1) := by decide +kernel
theorem dX4_startBelief_51 : decode cX4_startBelief 51 = .ok (.ifCond .eq 7, 3) := by decide +kernel
theorem dX4_startBelief_54 : decode cX4_startBelief 54 = .ok (.iconst 1, 1) := by decide +kernel
theorem dX4_startBelief_55 : decode cX4_startBelief 55 = .ok (.goto 4, 3) := by decide +kernel
theorem dX4_startBelief_58 : decode cX4_startBelief 58 = .ok (.iconst 0, 1) := by decide +kernel
theorem dX4_startBelief_59 : decode cX4_startBelief 59 = .ok (.istore_n 3, 1) := by decide +kernel
theorem dX4_startBelief_60 : decode cX4_startBelief 60 = .ok (.iinc 4 1, 3) := by decide +kernel
theorem dX4_startBelief_63 : decode cX4_startBelief 63 = .ok (.goto (-48), 3) := by decide +kernel
theorem dX4_startBelief_66 : decode cX4_startBelief 66 = .ok (.iload_n 1, 1) := by decide +kernel
theorem dX4_startBelief_67 : decode cX4_startBelief 67 = .ok (.iload_n 3, 1) := by decide +kernel
theorem dX4_startBelief_68 : decode cX4_startBelief 68 = .ok (.ifCond .eq 9, 3) := by decide +kernel
theorem dX4_startBelief_71 : decode cX4_startBelief 71 = .ok (.iconst 1, 1) := by decide +kernel
theorem dX4_startBelief_72 : decode cX4_startBelief 72 = .ok (.iload_n 2, 1) := by decide +kernel
theorem dX4_startBelief_73 : decode cX4_startBelief 73 = .ok (.ishl, 1) := by decide +kernel
theorem dX4_startBelief_74 : decode cX4_startBelief 74 = .ok (.goto 4, 3) := by decide +kernel
theorem dX4_startBelief_77 : decode cX4_startBelief 77 = .ok (.iconst 0, 1) := by decide +kernel
theorem dX4_startBelief_78 : decode cX4_startBelief 78 = .ok (.ior, 1) := by decide +kernel
theorem dX4_startBelief_79 : decode cX4_startBelief 79 = .ok (.istore_n 1, 1) := by decide +kernel
theorem dX4_startBelief_80 : decode cX4_startBelief 80 = .ok (.iinc 2 1, 3) := by decide +kernel
theorem dX4_startBelief_83 : decode cX4_startBelief 83 = .ok (.goto (-79), 3) := by decide +kernel
theorem dX4_startBelief_86 : decode cX4_startBelief 86 = .ok (.iload_n 1, 1) := by decide +kernel
theorem dX4_startBelief_87 : decode cX4_startBelief 87 = .ok (.ireturn, 1) := by decide +kernel
set_option maxRecDepth 20000 in
theorem ggX4_start_X4_startBelief : GoodIn wsX4_start wsX4_startBelief := goodIn_r _ [6, 7, 8, 9, 10, 11, 12, 13, 14, 15, 16, 17, 18, 19, 20, 21, 22, 23, 24, 25, 26, 27, 28, 29, 30, 31, 32, 33, 34, 35, 36, 37, 38, 39, 40, 41, 42] (by decide +kernel) (by decide +kernel)
set_option maxRecDepth 20000 in
theorem gX4_start_X4_startBelief : GoodIn wsX4_start (wsV RX4 126 RX4 yX4_startBelief wsX4_startBelief) := goodIn_app (goodIn_of _ (by decide +kernel)) ggX4_start_X4_startBelief
theorem dX4_start_0 : decode cX4_start 0 = .ok (.aload_n 0, 1) := by decide +kernel
theorem dX4_start_1 : decode cX4_start 1 = .ok (.iconst 0, 1) := by decide +kernel
theorem dX4_start_2 : decode cX4_start 2 = .ok (.putfield 93, 3) := by decide +kernel
theorem dX4_start_5 : decode cX4_start 5 = .ok (.aload_n 0, 1) := by decide +kernel
theorem dX4_start_6 : decode cX4_start 6 = .ok (.invokevirtual 126, 3) := by decide +kernel
theorem dX4_start_9 : decode cX4_start 9 = .ok (.ireturn, 1) := by decide +kernel
set_option maxRecDepth 20000 in
theorem ggX4_usable_X4_holds : GoodIn wsX4_usable wsX4_holds := goodIn_r _ [7] (by decide +kernel) (by decide +kernel)
set_option maxRecDepth 20000 in
theorem gX4_usable_X4_holds : GoodIn wsX4_usable (va_wsS RX4 123 yX4_holds wsX4_holds) := goodIn_app (goodIn_of _ (by decide +kernel)) ggX4_usable_X4_holds
theorem dX4_usable_0 : decode cX4_usable 0 = .ok (.aload_n 0, 1) := by decide +kernel
theorem dX4_usable_1 : decode cX4_usable 1 = .ok (.getfield 7, 3) := by decide +kernel
theorem dX4_usable_4 : decode cX4_usable 4 = .ok (.iload_n 1, 1) := by decide +kernel
theorem dX4_usable_5 : decode cX4_usable 5 = .ok (.baload, 1) := by decide +kernel
theorem dX4_usable_6 : decode cX4_usable 6 = .ok (.istore_n 3, 1) := by decide +kernel
theorem dX4_usable_7 : decode cX4_usable 7 = .ok (.iconst 0, 1) := by decide +kernel
theorem dX4_usable_8 : decode cX4_usable 8 = .ok (.istore 4, 2) := by decide +kernel
theorem dX4_usable_10 : decode cX4_usable 10 = .ok (.iload 4, 2) := by decide +kernel
theorem dX4_usable_12 : decode cX4_usable 12 = .ok (.bipush 16, 2) := by decide +kernel
theorem dX4_usable_14 : decode cX4_usable 14 = .ok (.if_icmp .ge 48, 3) := by decide +kernel
theorem dX4_usable_17 : decode cX4_usable 17 = .ok (.iload_n 3, 1) := by decide +kernel
theorem dX4_usable_18 : decode cX4_usable 18 = .ok (.ifCond .eq 44, 3) := by decide +kernel
theorem dX4_usable_21 : decode cX4_usable 21 = .ok (.iload_n 2, 1) := by decide +kernel
theorem dX4_usable_22 : decode cX4_usable 22 = .ok (.iload 4, 2) := by decide +kernel
theorem dX4_usable_24 : decode cX4_usable 24 = .ok (.ishr, 1) := by decide +kernel
theorem dX4_usable_25 : decode cX4_usable 25 = .ok (.iconst 1, 1) := by decide +kernel
theorem dX4_usable_26 : decode cX4_usable 26 = .ok (.iand, 1) := by decide +kernel
theorem dX4_usable_27 : decode cX4_usable 27 = .ok (.ifCond .eq 23, 3) := by decide +kernel
theorem dX4_usable_30 : decode cX4_usable 30 = .ok (.aload_n 0, 1) := by decide +kernel
theorem dX4_usable_31 : decode cX4_usable 31 = .ok (.getfield 13, 3) := by decide +kernel
theorem dX4_usable_34 : decode cX4_usable 34 = .ok (.iload_n 1, 1) := by decide +kernel
theorem dX4_usable_35 : decode cX4_usable 35 = .ok (.iaload, 1) := by decide +kernel
theorem dX4_usable_36 : decode cX4_usable 36 = .ok (.aload_n 0, 1) := by decide +kernel
theorem dX4_usable_37 : decode cX4_usable 37 = .ok (.getfield 17, 3) := by decide +kernel
theorem dX4_usable_40 : decode cX4_usable 40 = .ok (.iload_n 1, 1) := by decide +kernel
theorem dX4_usable_41 : decode cX4_usable 41 = .ok (.iaload, 1) := by decide +kernel
theorem dX4_usable_42 : decode cX4_usable 42 = .ok (.iload 4, 2) := by decide +kernel
theorem dX4_usable_44 : decode cX4_usable 44 = .ok (.invokestatic 123, 3) := by decide +kernel
theorem dX4_usable_47 : decode cX4_usable 47 = .ok (.ifCond .eq 7, 3) := by decide +kernel
theorem dX4_usable_50 : decode cX4_usable 50 = .ok (.iconst 1, 1) := by decide +kernel
theorem dX4_usable_51 : decode cX4_usable 51 = .ok (.goto 4, 3) := by decide +kernel
theorem dX4_usable_54 : decode cX4_usable 54 = .ok (.iconst 0, 1) := by decide +kernel
theorem dX4_usable_55 : decode cX4_usable 55 = .ok (.istore_n 3, 1) := by decide +kernel
theorem dX4_usable_56 : decode cX4_usable 56 = .ok (.iinc 4 1, 3) := by decide +kernel
theorem dX4_usable_59 : decode cX4_usable 59 = .ok (.goto (-49), 3) := by decide +kernel
theorem dX4_usable_62 : decode cX4_usable 62 = .ok (.iload_n 3, 1) := by decide +kernel
theorem dX4_usable_63 : decode cX4_usable 63 = .ok (.ireturn, 1) := by decide +kernel
set_option maxRecDepth 20000 in
theorem ggX4_next_X4_holds : GoodIn wsX4_next wsX4_holds := goodIn_r _ [9] (by decide +kernel) (by decide +kernel)
set_option maxRecDepth 20000 in
theorem gX4_next_X4_holds : GoodIn wsX4_next (va_wsS RX4 123 yX4_holds wsX4_holds) := goodIn_app (goodIn_of _ (by decide +kernel)) ggX4_next_X4_holds
theorem dX4_next_0 : decode cX4_next 0 = .ok (.iload_n 2, 1) := by decide +kernel
theorem dX4_next_1 : decode cX4_next 1 = .ok (.istore_n 3, 1) := by decide +kernel
theorem dX4_next_2 : decode cX4_next 2 = .ok (.iconst 4, 1) := by decide +kernel
theorem dX4_next_3 : decode cX4_next 3 = .ok (.iload_n 1, 1) := by decide +kernel
theorem dX4_next_4 : decode cX4_next 4 = .ok (.imul, 1) := by decide +kernel
theorem dX4_next_5 : decode cX4_next 5 = .ok (.istore 4, 2) := by decide +kernel
theorem dX4_next_7 : decode cX4_next 7 = .ok (.iload 4, 2) := by decide +kernel
theorem dX4_next_9 : decode cX4_next 9 = .ok (.iconst 4, 1) := by decide +kernel
theorem dX4_next_10 : decode cX4_next 10 = .ok (.iload_n 1, 1) := by decide +kernel
theorem dX4_next_11 : decode cX4_next 11 = .ok (.imul, 1) := by decide +kernel
theorem dX4_next_12 : decode cX4_next 12 = .ok (.aload_n 0, 1) := by decide +kernel
theorem dX4_next_13 : decode cX4_next 13 = .ok (.getfield 23, 3) := by decide +kernel
theorem dX4_next_16 : decode cX4_next 16 = .ok (.iload_n 1, 1) := by decide +kernel
theorem dX4_next_17 : decode cX4_next 17 = .ok (.iaload, 1) := by decide +kernel
theorem dX4_next_18 : decode cX4_next 18 = .ok (.iadd, 1) := by decide +kernel
theorem dX4_next_19 : decode cX4_next 19 = .ok (.if_icmp .ge 68, 3) := by decide +kernel
theorem dX4_next_22 : decode cX4_next 22 = .ok (.aload_n 0, 1) := by decide +kernel
theorem dX4_next_23 : decode cX4_next 23 = .ok (.getfield 32, 3) := by decide +kernel
theorem dX4_next_26 : decode cX4_next 26 = .ok (.iload 4, 2) := by decide +kernel
theorem dX4_next_28 : decode cX4_next 28 = .ok (.iaload, 1) := by decide +kernel
theorem dX4_next_29 : decode cX4_next 29 = .ok (.aload_n 0, 1) := by decide +kernel
theorem dX4_next_30 : decode cX4_next 30 = .ok (.getfield 35, 3) := by decide +kernel
theorem dX4_next_33 : decode cX4_next 33 = .ok (.iload 4, 2) := by decide +kernel
theorem dX4_next_35 : decode cX4_next 35 = .ok (.iaload, 1) := by decide +kernel
theorem dX4_next_36 : decode cX4_next 36 = .ok (.iload_n 2, 1) := by decide +kernel
theorem dX4_next_37 : decode cX4_next 37 = .ok (.invokestatic 123, 3) := by decide +kernel
theorem dX4_next_40 : decode cX4_next 40 = .ok (.ifCond .eq 41, 3) := by decide +kernel
theorem dX4_next_43 : decode cX4_next 43 = .ok (.aload_n 0, 1) := by decide +kernel
theorem dX4_next_44 : decode cX4_next 44 = .ok (.getfield 29, 3) := by decide +kernel
theorem dX4_next_47 : decode cX4_next 47 = .ok (.iload 4, 2) := by decide +kernel
theorem dX4_next_49 : decode cX4_next 49 = .ok (.baload, 1) := by decide +kernel
theorem dX4_next_50 : decode cX4_next 50 = .ok (.ifCond .eq 17, 3) := by decide +kernel
theorem dX4_next_53 : decode cX4_next 53 = .ok (.iload_n 3, 1) := by decide +kernel
theorem dX4_next_54 : decode cX4_next 54 = .ok (.iconst 1, 1) := by decide +kernel
theorem dX4_next_55 : decode cX4_next 55 = .ok (.aload_n 0, 1) := by decide +kernel
theorem dX4_next_56 : decode cX4_next 56 = .ok (.getfield 26, 3) := by decide +kernel
theorem dX4_next_59 : decode cX4_next 59 = .ok (.iload 4, 2) := by decide +kernel
theorem dX4_next_61 : decode cX4_next 61 = .ok (.iaload, 1) := by decide +kernel
theorem dX4_next_62 : decode cX4_next 62 = .ok (.ishl, 1) := by decide +kernel
theorem dX4_next_63 : decode cX4_next 63 = .ok (.ior, 1) := by decide +kernel
theorem dX4_next_64 : decode cX4_next 64 = .ok (.goto 16, 3) := by decide +kernel
theorem dX4_next_67 : decode cX4_next 67 = .ok (.iload_n 3, 1) := by decide +kernel
theorem dX4_next_68 : decode cX4_next 68 = .ok (.iconst 1, 1) := by decide +kernel
theorem dX4_next_69 : decode cX4_next 69 = .ok (.aload_n 0, 1) := by decide +kernel
theorem dX4_next_70 : decode cX4_next 70 = .ok (.getfield 26, 3) := by decide +kernel
theorem dX4_next_73 : decode cX4_next 73 = .ok (.iload 4, 2) := by decide +kernel
theorem dX4_next_75 : decode cX4_next 75 = .ok (.iaload, 1) := by decide +kernel
theorem dX4_next_76 : decode cX4_next 76 = .ok (.ishl, 1) := by decide +kernel
theorem dX4_next_77 : decode cX4_next 77 = .ok (.iconst (-1), 1) := by decide +kernel
theorem dX4_next_78 : decode cX4_next 78 = .ok (.ixor, 1) := by decide +kernel
theorem dX4_next_79 : decode cX4_next 79 = .ok (.iand, 1) := by decide +kernel
theorem dX4_next_80 : decode cX4_next 80 = .ok (.istore_n 3, 1) := by decide +kernel
theorem dX4_next_81 : decode cX4_next 81 = .ok (.iinc 4 1, 3) := by decide +kernel
theorem dX4_next_84 : decode cX4_next 84 = .ok (.goto (-77), 3) := by decide +kernel
theorem dX4_next_87 : decode cX4_next 87 = .ok (.iload_n 3, 1) := by decide +kernel
theorem dX4_next_88 : decode cX4_next 88 = .ok (.ireturn, 1) := by decide +kernel
set_option maxRecDepth 20000 in
theorem ggX4_after_X4_next : GoodIn wsX4_after wsX4_next := goodIn_r _ [5, 6, 7, 8, 9, 10, 11, 12, 4, 13, 14, 15, 16, 17, 18, 19, 20, 21, 22, 23, 24, 25, 26, 27, 28, 29, 30, 31, 32, 33, 34, 35, 36, 37, 38, 39, 40, 41, 42, 43, 44, 45, 46] (by decide +kernel) (by decide +kernel)
set_option maxRecDepth 20000 in
theorem gX4_after_X4_next : GoodIn wsX4_after (wsV RX4 130 RX4 yX4_next wsX4_next) := goodIn_app (goodIn_of _ (by decide +kernel)) ggX4_after_X4_next
theorem dX4_after_0 : decode cX4_after 0 = .ok (.iconst 0, 1) := by decide +kernel
theorem dX4_after_1 : decode cX4_after 1 = .ok (.istore_n 3, 1) := by decide +kernel
theorem dX4_after_2 : decode cX4_after 2 = .ok (.iconst 0, 1) := by decide +kernel
theorem dX4_after_3 : decode cX4_after 3 = .ok (.istore 4, 2) := by decide +kernel
theorem dX4_after_5 : decode cX4_after 5 = .ok (.iload 4, 2) := by decide +kernel
theorem dX4_after_7 : decode cX4_after 7 = .ok (.bipush 16, 2) := by decide +kernel
theorem dX4_after_9 : decode cX4_after 9 = .ok (.if_icmp .ge 35, 3) := by decide +kernel
theorem dX4_after_12 : decode cX4_after 12 = .ok (.iload_n 3, 1) := by decide +kernel
theorem dX4_after_13 : decode cX4_after 13 = .ok (.iload_n 2, 1) := by decide +kernel
theorem dX4_after_14 : decode cX4_after 14 = .ok (.iload 4, 2) := by decide +kernel
theorem dX4_after_16 : decode cX4_after 16 = .ok (.ishr, 1) := by decide +kernel
theorem dX4_after_17 : decode cX4_after 17 = .ok (.iconst 1, 1) := by decide +kernel
theorem dX4_after_18 : decode cX4_after 18 = .ok (.iand, 1) := by decide +kernel
theorem dX4_after_19 : decode cX4_after 19 = .ok (.iconst 1, 1) := by decide +kernel
theorem dX4_after_20 : decode cX4_after 20 = .ok (.if_icmp .ne 15, 3) := by decide +kernel
theorem dX4_after_23 : decode cX4_after 23 = .ok (.iconst 1, 1) := by decide +kernel
theorem dX4_after_24 : decode cX4_after 24 = .ok (.aload_n 0, 1) := by decide +kernel
theorem dX4_after_25 : decode cX4_after 25 = .ok (.iload_n 1, 1) := by decide +kernel
theorem dX4_after_26 : decode cX4_after 26 = .ok (.iload 4, 2) := by decide +kernel
theorem dX4_after_28 : decode cX4_after 28 = .ok (.invokevirtual 130, 3) := by decide +kernel
theorem dX4_after_31 : decode cX4_after 31 = .ok (.ishl, 1) := by decide +kernel
theorem dX4_after_32 : decode cX4_after 32 = .ok (.goto 4, 3) := by decide +kernel
theorem dX4_after_35 : decode cX4_after 35 = .ok (.iconst 0, 1) := by decide +kernel
theorem dX4_after_36 : decode cX4_after 36 = .ok (.ior, 1) := by decide +kernel
theorem dX4_after_37 : decode cX4_after 37 = .ok (.istore_n 3, 1) := by decide +kernel
theorem dX4_after_38 : decode cX4_after 38 = .ok (.iinc 4 1, 3) := by decide +kernel
theorem dX4_after_41 : decode cX4_after 41 = .ok (.goto (-36), 3) := by decide +kernel
theorem dX4_after_44 : decode cX4_after 44 = .ok (.iload_n 3, 1) := by decide +kernel
theorem dX4_after_45 : decode cX4_after 45 = .ok (.ireturn, 1) := by decide +kernel
set_option maxRecDepth 20000 in
theorem ggX4_part_X4_after : GoodIn wsX4_part wsX4_after := goodIn_r _ [6, 7, 8, 9, 5, 10, 11, 12, 13, 14, 15, 16, 17, 18, 19, 20, 21, 22, 23, 24, 25, 26, 27, 28, 29, 30, 31, 32, 33, 34, 35, 36, 37, 38, 39, 40, 41, 42, 43, 44, 45, 46, 47, 48, 49, 50, 51] (by decide +kernel) (by decide +kernel)
set_option maxRecDepth 20000 in
theorem gX4_part_X4_after : GoodIn wsX4_part (wsV RX4 134 RX4 yX4_after wsX4_after) := goodIn_app (goodIn_of _ (by decide +kernel)) ggX4_part_X4_after
theorem dX4_part_0 : decode cX4_part 0 = .ok (.aload_n 0, 1) := by decide +kernel
theorem dX4_part_1 : decode cX4_part 1 = .ok (.iload_n 1, 1) := by decide +kernel
theorem dX4_part_2 : decode cX4_part 2 = .ok (.iload_n 2, 1) := by decide +kernel
theorem dX4_part_3 : decode cX4_part 3 = .ok (.invokevirtual 134, 3) := by decide +kernel
theorem dX4_part_6 : decode cX4_part 6 = .ok (.istore 4, 2) := by decide +kernel
theorem dX4_part_8 : decode cX4_part 8 = .ok (.aload_n 0, 1) := by decide +kernel
theorem dX4_part_9 : decode cX4_part 9 = .ok (.getfield 20, 3) := by decide +kernel
theorem dX4_part_12 : decode cX4_part 12 = .ok (.iload_n 1, 1) := by decide +kernel
theorem dX4_part_13 : decode cX4_part 13 = .ok (.iaload, 1) := by decide +kernel
theorem dX4_part_14 : decode cX4_part 14 = .ok (.ifCond .ge 14, 3) := by decide +kernel
theorem dX4_part_17 : decode cX4_part 17 = .ok (.iload_n 3, 1) := by decide +kernel
theorem dX4_part_18 : decode cX4_part 18 = .ok (.ifCond .ne 8, 3) := by decide +kernel
theorem dX4_part_21 : decode cX4_part 21 = .ok (.iload 4, 2) := by decide +kernel
theorem dX4_part_23 : decode cX4_part 23 = .ok (.goto 4, 3) := by decide +kernel
theorem dX4_part_26 : decode cX4_part 26 = .ok (.iconst 0, 1) := by decide +kernel
theorem dX4_part_27 : decode cX4_part 27 = .ok (.ireturn, 1) := by decide +kernel
theorem dX4_part_28 : decode cX4_part 28 = .ok (.iconst 0, 1) := by decide +kernel
theorem dX4_part_29 : decode cX4_part 29 = .ok (.istore 5, 2) := by decide +kernel
theorem dX4_part_31 : decode cX4_part 31 = .ok (.iconst 0, 1) := by decide +kernel
theorem dX4_part_32 : decode cX4_part 32 = .ok (.istore 6, 2) := by decide +kernel
theorem dX4_part_34 : decode cX4_part 34 = .ok (.iload 6, 2) := by decide +kernel
theorem dX4_part_36 : decode cX4_part 36 = .ok (.bipush 16, 2) := by decide +kernel
theorem dX4_part_38 : decode cX4_part 38 = .ok (.if_icmp .ge 40, 3) := by decide +kernel
theorem dX4_part_41 : decode cX4_part 41 = .ok (.iload 5, 2) := by decide +kernel
theorem dX4_part_43 : decode cX4_part 43 = .ok (.iload 6, 2) := by decide +kernel
theorem dX4_part_45 : decode cX4_part 45 = .ok (.aload_n 0, 1) := by decide +kernel
theorem dX4_part_46 : decode cX4_part 46 = .ok (.getfield 20, 3) := by decide +kernel
theorem dX4_part_49 : decode cX4_part 49 = .ok (.iload_n 1, 1) := by decide +kernel
theorem dX4_part_50 : decode cX4_part 50 = .ok (.iaload, 1) := by decide +kernel
theorem dX4_part_51 : decode cX4_part 51 = .ok (.ishr, 1) := by decide +kernel
theorem dX4_part_52 : decode cX4_part 52 = .ok (.iconst 1, 1) := by decide +kernel
theorem dX4_part_53 : decode cX4_part 53 = .ok (.iand, 1) := by decide +kernel
theorem dX4_part_54 : decode cX4_part 54 = .ok (.iload_n 3, 1) := by decide +kernel
theorem dX4_part_55 : decode cX4_part 55 = .ok (.if_icmp .ne 13, 3) := by decide +kernel
theorem dX4_part_58 : decode cX4_part 58 = .ok (.iload 4, 2) := by decide +kernel
theorem dX4_part_60 : decode cX4_part 60 = .ok (.iconst 1, 1) := by decide +kernel
theorem dX4_part_61 : decode cX4_part 61 = .ok (.iload 6, 2) := by decide +kernel
theorem dX4_part_63 : decode cX4_part 63 = .ok (.ishl, 1) := by decide +kernel
theorem dX4_part_64 : decode cX4_part 64 = .ok (.iand, 1) := by decide +kernel
theorem dX4_part_65 : decode cX4_part 65 = .ok (.goto 4, 3) := by decide +kernel
theorem dX4_part_68 : decode cX4_part 68 = .ok (.iconst 0, 1) := by decide +kernel
theorem dX4_part_69 : decode cX4_part 69 = .ok (.ior, 1) := by decide +kernel
theorem dX4_part_70 : decode cX4_part 70 = .ok (.istore 5, 2) := by decide +kernel
theorem dX4_part_72 : decode cX4_part 72 = .ok (.iinc 6 1, 3) := by decide +kernel
theorem dX4_part_75 : decode cX4_part 75 = .ok (.goto (-41), 3) := by decide +kernel
theorem dX4_part_78 : decode cX4_part 78 = .ok (.iload 5, 2) := by decide +kernel
theorem dX4_part_80 : decode cX4_part 80 = .ok (.ireturn, 1) := by decide +kernel
set_option maxRecDepth 20000 in
theorem ggX4_behind_X4_within : GoodIn wsX4_behind wsX4_within := goodIn_r _ [7] (by decide +kernel) (by decide +kernel)
set_option maxRecDepth 20000 in
theorem gX4_behind_X4_within : GoodIn wsX4_behind (va_wsS RX4 96 yX4_within wsX4_within) := goodIn_app (goodIn_of _ (by decide +kernel)) ggX4_behind_X4_within
set_option maxRecDepth 20000 in
theorem ggX4_behind_X4_fail : GoodIn wsX4_behind wsX4_fail := goodIn_r _ [11, 1, 34, 35, 36, 37, 38, 39, 40, 41, 42, 43, 44, 45, 46, 47, 48, 49, 50, 51, 52, 53, 54, 55, 56, 57, 58, 59, 60, 61, 62, 63, 64, 65, 66] (by decide +kernel) (by decide +kernel)
set_option maxRecDepth 20000 in
theorem gX4_behind_X4_fail : GoodIn wsX4_behind (wsV RX4 115 RX4 yX4_fail wsX4_fail) := goodIn_app (goodIn_of _ (by decide +kernel)) ggX4_behind_X4_fail
set_option maxRecDepth 20000 in
theorem ggX4_behind_X4_usable : GoodIn wsX4_behind wsX4_usable := goodIn_r _ [15, 2, 16, 17, 18, 19, 6, 20, 34, 35, 36, 37, 38, 39, 40, 41, 42, 43, 44, 45, 46, 47, 48, 49, 50, 51, 52, 53, 54, 55, 56, 57, 58, 59, 60, 61, 62, 63, 64, 65, 66] (by decide +kernel) (by decide +kernel)
set_option maxRecDepth 20000 in
theorem gX4_behind_X4_usable : GoodIn wsX4_behind (wsV RX4 138 RX4 yX4_usable wsX4_usable) := goodIn_app (goodIn_of _ (by decide +kernel)) ggX4_behind_X4_usable
set_option maxRecDepth 20000 in
theorem ggX4_behind_X4_after : GoodIn wsX4_behind wsX4_after := goodIn_r _ [24, 25, 26, 27, 6, 28, 29, 30, 31, 32, 33, 18, 19, 20, 34, 35, 36, 37, 38, 39, 40, 41, 42, 43, 44, 45, 46, 47, 48, 49, 50, 51, 52, 53, 54, 55, 56, 57, 58, 59, 60, 61, 62, 63, 64, 65, 66] (by decide +kernel) (by decide +kernel)
set_option maxRecDepth 20000 in
theorem gX4_behind_X4_after : GoodIn wsX4_behind (wsV RX4 134 RX4 yX4_after wsX4_after) := goodIn_app (goodIn_of _ (by decide +kernel)) ggX4_behind_X4_after
theorem dX4_behind_0 : decode cX4_behind 0 = .ok (.aload_n 0, 1) := by decide +kernel
theorem dX4_behind_1 : decode cX4_behind 1 = .ok (.iconst 0, 1) := by decide +kernel
theorem dX4_behind_2 : decode cX4_behind 2 = .ok (.putfield 93, 3) := by decide +kernel
theorem dX4_behind_5 : decode cX4_behind 5 = .ok (.iload_n 1, 1) := by decide +kernel
theorem dX4_behind_6 : decode cX4_behind 6 = .ok (.iconst 0, 1) := by decide +kernel
theorem dX4_behind_7 : decode cX4_behind 7 = .ok (.bipush 7, 2) := by decide +kernel
theorem dX4_behind_9 : decode cX4_behind 9 = .ok (.invokestatic 96, 3) := by decide +kernel
theorem dX4_behind_12 : decode cX4_behind 12 = .ok (.ifCond .ne 9, 3) := by decide +kernel
theorem dX4_behind_15 : decode cX4_behind 15 = .ok (.aload_n 0, 1) := by decide +kernel
theorem dX4_behind_16 : decode cX4_behind 16 = .ok (.iconst 1, 1) := by decide +kernel
theorem dX4_behind_17 : decode cX4_behind 17 = .ok (.invokevirtual 115, 3) := by decide +kernel
theorem dX4_behind_20 : decode cX4_behind 20 = .ok (.ireturn, 1) := by decide +kernel
theorem dX4_behind_21 : decode cX4_behind 21 = .ok (.aload_n 0, 1) := by decide +kernel
theorem dX4_behind_22 : decode cX4_behind 22 = .ok (.getfield 7, 3) := by decide +kernel
theorem dX4_behind_25 : decode cX4_behind 25 = .ok (.iload_n 1, 1) := by decide +kernel
theorem dX4_behind_26 : decode cX4_behind 26 = .ok (.baload, 1) := by decide +kernel
theorem dX4_behind_27 : decode cX4_behind 27 = .ok (.ifCond .ne 9, 3) := by decide +kernel
theorem dX4_behind_30 : decode cX4_behind 30 = .ok (.aload_n 0, 1) := by decide +kernel
theorem dX4_behind_31 : decode cX4_behind 31 = .ok (.iconst 2, 1) := by decide +kernel
theorem dX4_behind_32 : decode cX4_behind 32 = .ok (.invokevirtual 115, 3) := by decide +kernel
theorem dX4_behind_35 : decode cX4_behind 35 = .ok (.ireturn, 1) := by decide +kernel
theorem dX4_behind_36 : decode cX4_behind 36 = .ok (.iload_n 2, 1) := by decide +kernel
theorem dX4_behind_37 : decode cX4_behind 37 = .ok (.iconst 0, 1) := by decide +kernel
theorem dX4_behind_38 : decode cX4_behind 38 = .ok (.ldc 137, 2) := by decide +kernel
theorem dX4_behind_40 : decode cX4_behind 40 = .ok (.invokestatic 96, 3) := by decide +kernel
theorem dX4_behind_43 : decode cX4_behind 43 = .ok (.ifCond .ne 9, 3) := by decide +kernel
theorem dX4_behind_46 : decode cX4_behind 46 = .ok (.aload_n 0, 1) := by decide +kernel
theorem dX4_behind_47 : decode cX4_behind 47 = .ok (.iconst 3, 1) := by decide +kernel
theorem dX4_behind_48 : decode cX4_behind 48 = .ok (.invokevirtual 115, 3) := by decide +kernel
theorem dX4_behind_51 : decode cX4_behind 51 = .ok (.ireturn, 1) := by decide +kernel
theorem dX4_behind_52 : decode cX4_behind 52 = .ok (.aload_n 0, 1) := by decide +kernel
theorem dX4_behind_53 : decode cX4_behind 53 = .ok (.iload_n 1, 1) := by decide +kernel
theorem dX4_behind_54 : decode cX4_behind 54 = .ok (.iload_n 2, 1) := by decide +kernel
theorem dX4_behind_55 : decode cX4_behind 55 = .ok (.invokevirtual 138, 3) := by decide +kernel
theorem dX4_behind_58 : decode cX4_behind 58 = .ok (.ifCond .eq 12, 3) := by decide +kernel
theorem dX4_behind_61 : decode cX4_behind 61 = .ok (.aload_n 0, 1) := by decide +kernel
theorem dX4_behind_62 : decode cX4_behind 62 = .ok (.iload_n 1, 1) := by decide +kernel
theorem dX4_behind_63 : decode cX4_behind 63 = .ok (.iload_n 2, 1) := by decide +kernel
theorem dX4_behind_64 : decode cX4_behind 64 = .ok (.invokevirtual 134, 3) := by decide +kernel
theorem dX4_behind_67 : decode cX4_behind 67 = .ok (.goto 8, 3) := by decide +kernel
theorem dX4_behind_70 : decode cX4_behind 70 = .ok (.aload_n 0, 1) := by decide +kernel
theorem dX4_behind_71 : decode cX4_behind 71 = .ok (.iconst 4, 1) := by decide +kernel
theorem dX4_behind_72 : decode cX4_behind 72 = .ok (.invokevirtual 115, 3) := by decide +kernel
theorem dX4_behind_75 : decode cX4_behind 75 = .ok (.ireturn, 1) := by decide +kernel
set_option maxRecDepth 20000 in
theorem ggX4_reached_X4_holds : GoodIn wsX4_reached wsX4_holds := goodIn_r _ [6] (by decide +kernel) (by decide +kernel)
set_option maxRecDepth 20000 in
theorem gX4_reached_X4_holds : GoodIn wsX4_reached (va_wsS RX4 123 yX4_holds wsX4_holds) := goodIn_app (goodIn_of _ (by decide +kernel)) ggX4_reached_X4_holds
theorem dX4_reached_0 : decode cX4_reached 0 = .ok (.iconst 1, 1) := by decide +kernel
theorem dX4_reached_1 : decode cX4_reached 1 = .ok (.istore_n 2, 1) := by decide +kernel
theorem dX4_reached_2 : decode cX4_reached 2 = .ok (.iconst 0, 1) := by decide +kernel
theorem dX4_reached_3 : decode cX4_reached 3 = .ok (.istore_n 3, 1) := by decide +kernel
theorem dX4_reached_4 : decode cX4_reached 4 = .ok (.iload_n 3, 1) := by decide +kernel
theorem dX4_reached_5 : decode cX4_reached 5 = .ok (.bipush 16, 2) := by decide +kernel
theorem dX4_reached_7 : decode cX4_reached 7 = .ok (.if_icmp .ge 42, 3) := by decide +kernel
theorem dX4_reached_10 : decode cX4_reached 10 = .ok (.iload_n 2, 1) := by decide +kernel
theorem dX4_reached_11 : decode cX4_reached 11 = .ok (.ifCond .eq 30, 3) := by decide +kernel
theorem dX4_reached_14 : decode cX4_reached 14 = .ok (.iload_n 1, 1) := by decide +kernel
theorem dX4_reached_15 : decode cX4_reached 15 = .ok (.iload_n 3, 1) := by decide +kernel
theorem dX4_reached_16 : decode cX4_reached 16 = .ok (.ishr, 1) := by decide +kernel
theorem dX4_reached_17 : decode cX4_reached 17 = .ok (.iconst 1, 1) := by decide +kernel
theorem dX4_reached_18 : decode cX4_reached 18 = .ok (.iand, 1) := by decide +kernel
theorem dX4_reached_19 : decode cX4_reached 19 = .ok (.ifCond .eq 18, 3) := by decide +kernel
theorem dX4_reached_22 : decode cX4_reached 22 = .ok (.aload_n 0, 1) := by decide +kernel
theorem dX4_reached_23 : decode cX4_reached 23 = .ok (.getfield 103, 3) := by decide +kernel
theorem dX4_reached_26 : decode cX4_reached 26 = .ok (.aload_n 0, 1) := by decide +kernel
theorem dX4_reached_27 : decode cX4_reached 27 = .ok (.getfield 106, 3) := by decide +kernel
theorem dX4_reached_30 : decode cX4_reached 30 = .ok (.iload_n 3, 1) := by decide +kernel
theorem dX4_reached_31 : decode cX4_reached 31 = .ok (.invokestatic 123, 3) := by decide +kernel
theorem dX4_reached_34 : decode cX4_reached 34 = .ok (.ifCond .eq 7, 3) := by decide +kernel
theorem dX4_reached_37 : decode cX4_reached 37 = .ok (.iconst 1, 1) := by decide +kernel
theorem dX4_reached_38 : decode cX4_reached 38 = .ok (.goto 4, 3) := by decide +kernel
theorem dX4_reached_41 : decode cX4_reached 41 = .ok (.iconst 0, 1) := by decide +kernel
theorem dX4_reached_42 : decode cX4_reached 42 = .ok (.istore_n 2, 1) := by decide +kernel
theorem dX4_reached_43 : decode cX4_reached 43 = .ok (.iinc 3 1, 3) := by decide +kernel
theorem dX4_reached_46 : decode cX4_reached 46 = .ok (.goto (-42), 3) := by decide +kernel
theorem dX4_reached_49 : decode cX4_reached 49 = .ok (.iload_n 2, 1) := by decide +kernel
theorem dX4_reached_50 : decode cX4_reached 50 = .ok (.ireturn, 1) := by decide +kernel
set_option maxRecDepth 20000 in
theorem ggX4_solved_X4_reached : GoodIn wsX4_solved wsX4_reached := goodIn_r _ [8, 9, 10, 11, 12, 7, 13, 39, 40, 41, 42, 43, 44, 45, 46, 47, 48, 49, 50, 51, 52, 53, 54, 55, 56, 57, 58, 59, 60, 61, 62, 63, 64, 65, 66, 67, 68, 69, 70, 71] (by decide +kernel) (by decide +kernel)
set_option maxRecDepth 20000 in
theorem gX4_solved_X4_reached : GoodIn wsX4_solved (wsV RX4 141 RX4 yX4_reached wsX4_reached) := goodIn_app (goodIn_of _ (by decide +kernel)) ggX4_solved_X4_reached
set_option maxRecDepth 20000 in
theorem ggX4_solved_X4_usable : GoodIn wsX4_solved wsX4_usable := goodIn_r _ [17, 18, 19, 20, 11, 12, 7, 13, 39, 40, 41, 42, 43, 44, 45, 46, 47, 48, 49, 50, 51, 52, 53, 54, 55, 56, 57, 58, 59, 60, 61, 62, 63, 64, 65, 66, 67, 68, 69, 70, 71] (by decide +kernel) (by decide +kernel)
set_option maxRecDepth 20000 in
theorem gX4_solved_X4_usable : GoodIn wsX4_solved (wsV RX4 138 RX4 yX4_usable wsX4_usable) := goodIn_app (goodIn_of _ (by decide +kernel)) ggX4_solved_X4_usable
set_option maxRecDepth 20000 in
theorem ggX4_solved_X4_part : GoodIn wsX4_solved wsX4_part := goodIn_r _ [24, 25, 26, 27, 28, 7, 29, 30, 31, 32, 33, 34, 35, 36, 37, 38, 11, 12, 13, 39, 40, 41, 42, 43, 44, 45, 46, 47, 48, 49, 50, 51, 52, 53, 54, 55, 56, 57, 58, 59, 60, 61, 62, 63, 64, 65, 66, 67, 68, 69, 70, 71] (by decide +kernel) (by decide +kernel)
set_option maxRecDepth 20000 in
theorem gX4_solved_X4_part : GoodIn wsX4_solved (wsV RX4 145 RX4 yX4_part wsX4_part) := goodIn_app (goodIn_of _ (by decide +kernel)) ggX4_solved_X4_part
theorem dX4_solved_0 : decode cX4_solved 0 = .ok (.iconst 0, 1) := by decide +kernel
theorem dX4_solved_1 : decode cX4_solved 1 = .ok (.istore_n 3, 1) := by decide +kernel
theorem dX4_solved_2 : decode cX4_solved 2 = .ok (.aload_n 0, 1) := by decide +kernel
theorem dX4_solved_3 : decode cX4_solved 3 = .ok (.getfield 53, 3) := by decide +kernel
theorem dX4_solved_6 : decode cX4_solved 6 = .ok (.iconst 0, 1) := by decide +kernel
theorem dX4_solved_7 : decode cX4_solved 7 = .ok (.iload_n 1, 1) := by decide +kernel
theorem dX4_solved_8 : decode cX4_solved 8 = .ok (.iastore, 1) := by decide +kernel
theorem dX4_solved_9 : decode cX4_solved 9 = .ok (.aload_n 0, 1) := by decide +kernel
theorem dX4_solved_10 : decode cX4_solved 10 = .ok (.getfield 56, 3) := by decide +kernel
theorem dX4_solved_13 : decode cX4_solved 13 = .ok (.iconst 0, 1) := by decide +kernel
theorem dX4_solved_14 : decode cX4_solved 14 = .ok (.iconst (-1), 1) := by decide +kernel
theorem dX4_solved_15 : decode cX4_solved 15 = .ok (.iastore, 1) := by decide +kernel
theorem dX4_solved_16 : decode cX4_solved 16 = .ok (.iconst 0, 1) := by decide +kernel
theorem dX4_solved_17 : decode cX4_solved 17 = .ok (.istore 4, 2) := by decide +kernel
theorem dX4_solved_19 : decode cX4_solved 19 = .ok (.iload_n 3, 1) := by decide +kernel
theorem dX4_solved_20 : decode cX4_solved 20 = .ok (.ifCond .lt 265, 3) := by decide +kernel
theorem dX4_solved_23 : decode cX4_solved 23 = .ok (.iload 4, 2) := by decide +kernel
theorem dX4_solved_25 : decode cX4_solved 25 = .ok (.ifCond .ne 56, 3) := by decide +kernel
theorem dX4_solved_28 : decode cX4_solved 28 = .ok (.aload_n 0, 1) := by decide +kernel
theorem dX4_solved_29 : decode cX4_solved 29 = .ok (.getfield 56, 3) := by decide +kernel
theorem dX4_solved_32 : decode cX4_solved 32 = .ok (.iload_n 3, 1) := by decide +kernel
theorem dX4_solved_33 : decode cX4_solved 33 = .ok (.iaload, 1) := by decide +kernel
theorem dX4_solved_34 : decode cX4_solved 34 = .ok (.ifCond .ge 47, 3) := by decide +kernel
theorem dX4_solved_37 : decode cX4_solved 37 = .ok (.aload_n 0, 1) := by decide +kernel
theorem dX4_solved_38 : decode cX4_solved 38 = .ok (.aload_n 0, 1) := by decide +kernel
theorem dX4_solved_39 : decode cX4_solved 39 = .ok (.getfield 53, 3) := by decide +kernel
theorem dX4_solved_42 : decode cX4_solved 42 = .ok (.iload_n 3, 1) := by decide +kernel
theorem dX4_solved_43 : decode cX4_solved 43 = .ok (.iaload, 1) := by decide +kernel
theorem dX4_solved_44 : decode cX4_solved 44 = .ok (.invokevirtual 141, 3) := by decide +kernel
theorem dX4_solved_47 : decode cX4_solved 47 = .ok (.ifCond .ne 8, 3) := by decide +kernel
theorem dX4_solved_50 : decode cX4_solved 50 = .ok (.iload_n 3, 1) := by decide +kernel
theorem dX4_solved_51 : decode cX4_solved 51 = .ok (.iload_n 2, 1) := by decide +kernel
theorem dX4_solved_52 : decode cX4_solved 52 = .ok (.if_icmp .ne 29, 3) := by decide +kernel
theorem dX4_solved_55 : decode cX4_solved 55 = .ok (.aload_n 0, 1) := by decide +kernel
theorem dX4_solved_56 : decode cX4_solved 56 = .ok (.aload_n 0, 1) := by decide +kernel
theorem dX4_solved_57 : decode cX4_solved 57 = .ok (.getfield 53, 3) := by decide +kernel
theorem dX4_solved_60 : decode cX4_solved 60 = .ok (.iload_n 3, 1) := by decide +kernel
theorem dX4_solved_61 : decode cX4_solved 61 = .ok (.iaload, 1) := by decide +kernel
theorem dX4_solved_62 : decode cX4_solved 62 = .ok (.invokevirtual 141, 3) := by decide +kernel
theorem dX4_solved_65 : decode cX4_solved 65 = .ok (.ifCond .eq 7, 3) := by decide +kernel
theorem dX4_solved_68 : decode cX4_solved 68 = .ok (.iconst 1, 1) := by decide +kernel
theorem dX4_solved_69 : decode cX4_solved 69 = .ok (.goto 4, 3) := by decide +kernel
theorem dX4_solved_72 : decode cX4_solved 72 = .ok (.iconst 2, 1) := by decide +kernel
theorem dX4_solved_73 : decode cX4_solved 73 = .ok (.istore 4, 2) := by decide +kernel
theorem dX4_solved_75 : decode cX4_solved 75 = .ok (.iinc 3 (-1), 3) := by decide +kernel
theorem dX4_solved_78 : decode cX4_solved 78 = .ok (.goto (-59), 3) := by decide +kernel
theorem dX4_solved_81 : decode cX4_solved 81 = .ok (.iload 4, 2) := by decide +kernel
theorem dX4_solved_83 : decode cX4_solved 83 = .ok (.iconst 1, 1) := by decide +kernel
theorem dX4_solved_84 : decode cX4_solved 84 = .ok (.if_icmp .ne 19, 3) := by decide +kernel
theorem dX4_solved_87 : decode cX4_solved 87 = .ok (.aload_n 0, 1) := by decide +kernel
theorem dX4_solved_88 : decode cX4_solved 88 = .ok (.getfield 59, 3) := by decide +kernel
theorem dX4_solved_91 : decode cX4_solved 91 = .ok (.iload_n 3, 1) := by decide +kernel
theorem dX4_solved_92 : decode cX4_solved 92 = .ok (.iaload, 1) := by decide +kernel
theorem dX4_solved_93 : decode cX4_solved 93 = .ok (.iconst 1, 1) := by decide +kernel
theorem dX4_solved_94 : decode cX4_solved 94 = .ok (.if_icmp .ne 9, 3) := by decide +kernel
theorem dX4_solved_97 : decode cX4_solved 97 = .ok (.iinc 3 (-1), 3) := by decide +kernel
theorem dX4_solved_100 : decode cX4_solved 100 = .ok (.goto (-81), 3) := by decide +kernel
theorem dX4_solved_103 : decode cX4_solved 103 = .ok (.iload 4, 2) := by decide +kernel
theorem dX4_solved_105 : decode cX4_solved 105 = .ok (.iconst 1, 1) := by decide +kernel
theorem dX4_solved_106 : decode cX4_solved 106 = .ok (.if_icmp .ne 13, 3) := by decide +kernel
theorem dX4_solved_109 : decode cX4_solved 109 = .ok (.aload_n 0, 1) := by decide +kernel
theorem dX4_solved_110 : decode cX4_solved 110 = .ok (.getfield 59, 3) := by decide +kernel
theorem dX4_solved_113 : decode cX4_solved 113 = .ok (.iload_n 3, 1) := by decide +kernel
theorem dX4_solved_114 : decode cX4_solved 114 = .ok (.iconst 1, 1) := by decide +kernel
theorem dX4_solved_115 : decode cX4_solved 115 = .ok (.iastore, 1) := by decide +kernel
theorem dX4_solved_116 : decode cX4_solved 116 = .ok (.goto 63, 3) := by decide +kernel
theorem dX4_solved_119 : decode cX4_solved 119 = .ok (.aload_n 0, 1) := by decide +kernel
theorem dX4_solved_120 : decode cX4_solved 120 = .ok (.getfield 56, 3) := by decide +kernel
theorem dX4_solved_123 : decode cX4_solved 123 = .ok (.iload_n 3, 1) := by decide +kernel
theorem dX4_solved_124 : decode cX4_solved 124 = .ok (.dup2, 1) := by decide +kernel
theorem dX4_solved_125 : decode cX4_solved 125 = .ok (.iaload, 1) := by decide +kernel
theorem dX4_solved_126 : decode cX4_solved 126 = .ok (.iconst 1, 1) := by decide +kernel
theorem dX4_solved_127 : decode cX4_solved 127 = .ok (.iadd, 1) := by decide +kernel
theorem dX4_solved_128 : decode cX4_solved 128 = .ok (.iastore, 1) := by decide +kernel
theorem dX4_solved_129 : decode cX4_solved 129 = .ok (.aload_n 0, 1) := by decide +kernel
theorem dX4_solved_130 : decode cX4_solved 130 = .ok (.getfield 59, 3) := by decide +kernel
theorem dX4_solved_133 : decode cX4_solved 133 = .ok (.iload_n 3, 1) := by decide +kernel
theorem dX4_solved_134 : decode cX4_solved 134 = .ok (.iconst 0, 1) := by decide +kernel
theorem dX4_solved_135 : decode cX4_solved 135 = .ok (.iastore, 1) := by decide +kernel
theorem dX4_solved_136 : decode cX4_solved 136 = .ok (.aload_n 0, 1) := by decide +kernel
theorem dX4_solved_137 : decode cX4_solved 137 = .ok (.getfield 56, 3) := by decide +kernel
theorem dX4_solved_140 : decode cX4_solved 140 = .ok (.iload_n 3, 1) := by decide +kernel
theorem dX4_solved_141 : decode cX4_solved 141 = .ok (.iaload, 1) := by decide +kernel
theorem dX4_solved_142 : decode cX4_solved 142 = .ok (.bipush 8, 2) := by decide +kernel
theorem dX4_solved_144 : decode cX4_solved 144 = .ok (.if_icmp .ge 35, 3) := by decide +kernel
theorem dX4_solved_147 : decode cX4_solved 147 = .ok (.aload_n 0, 1) := by decide +kernel
theorem dX4_solved_148 : decode cX4_solved 148 = .ok (.aload_n 0, 1) := by decide +kernel
theorem dX4_solved_149 : decode cX4_solved 149 = .ok (.getfield 56, 3) := by decide +kernel
theorem dX4_solved_152 : decode cX4_solved 152 = .ok (.iload_n 3, 1) := by decide +kernel
theorem dX4_solved_153 : decode cX4_solved 153 = .ok (.iaload, 1) := by decide +kernel
theorem dX4_solved_154 : decode cX4_solved 154 = .ok (.aload_n 0, 1) := by decide +kernel
theorem dX4_solved_155 : decode cX4_solved 155 = .ok (.getfield 53, 3) := by decide +kernel
theorem dX4_solved_158 : decode cX4_solved 158 = .ok (.iload_n 3, 1) := by decide +kernel
theorem dX4_solved_159 : decode cX4_solved 159 = .ok (.iaload, 1) := by decide +kernel
theorem dX4_solved_160 : decode cX4_solved 160 = .ok (.invokevirtual 138, 3) := by decide +kernel
theorem dX4_solved_163 : decode cX4_solved 163 = .ok (.ifCond .ne 16, 3) := by decide +kernel
theorem dX4_solved_166 : decode cX4_solved 166 = .ok (.aload_n 0, 1) := by decide +kernel
theorem dX4_solved_167 : decode cX4_solved 167 = .ok (.getfield 56, 3) := by decide +kernel
theorem dX4_solved_170 : decode cX4_solved 170 = .ok (.iload_n 3, 1) := by decide +kernel
theorem dX4_solved_171 : decode cX4_solved 171 = .ok (.dup2, 1) := by decide +kernel
theorem dX4_solved_172 : decode cX4_solved 172 = .ok (.iaload, 1) := by decide +kernel
theorem dX4_solved_173 : decode cX4_solved 173 = .ok (.iconst 1, 1) := by decide +kernel
theorem dX4_solved_174 : decode cX4_solved 174 = .ok (.iadd, 1) := by decide +kernel
theorem dX4_solved_175 : decode cX4_solved 175 = .ok (.iastore, 1) := by decide +kernel
theorem dX4_solved_176 : decode cX4_solved 176 = .ok (.goto (-40), 3) := by decide +kernel
theorem dX4_solved_179 : decode cX4_solved 179 = .ok (.aload_n 0, 1) := by decide +kernel
theorem dX4_solved_180 : decode cX4_solved 180 = .ok (.getfield 56, 3) := by decide +kernel
theorem dX4_solved_183 : decode cX4_solved 183 = .ok (.iload_n 3, 1) := by decide +kernel
theorem dX4_solved_184 : decode cX4_solved 184 = .ok (.iaload, 1) := by decide +kernel
theorem dX4_solved_185 : decode cX4_solved 185 = .ok (.bipush 8, 2) := by decide +kernel
theorem dX4_solved_187 : decode cX4_solved 187 = .ok (.if_icmp .ne 7, 3) := by decide +kernel
theorem dX4_solved_190 : decode cX4_solved 190 = .ok (.iconst 2, 1) := by decide +kernel
theorem dX4_solved_191 : decode cX4_solved 191 = .ok (.goto 4, 3) := by decide +kernel
theorem dX4_solved_194 : decode cX4_solved 194 = .ok (.iconst 0, 1) := by decide +kernel
theorem dX4_solved_195 : decode cX4_solved 195 = .ok (.istore 4, 2) := by decide +kernel
theorem dX4_solved_197 : decode cX4_solved 197 = .ok (.iload 4, 2) := by decide +kernel
theorem dX4_solved_199 : decode cX4_solved 199 = .ok (.iconst 2, 1) := by decide +kernel
theorem dX4_solved_200 : decode cX4_solved 200 = .ok (.if_icmp .ne 9, 3) := by decide +kernel
theorem dX4_solved_203 : decode cX4_solved 203 = .ok (.iinc 3 (-1), 3) := by decide +kernel
theorem dX4_solved_206 : decode cX4_solved 206 = .ok (.goto (-187), 3) := by decide +kernel
theorem dX4_solved_209 : decode cX4_solved 209 = .ok (.aload_n 0, 1) := by decide +kernel
theorem dX4_solved_210 : decode cX4_solved 210 = .ok (.aload_n 0, 1) := by decide +kernel
theorem dX4_solved_211 : decode cX4_solved 211 = .ok (.getfield 56, 3) := by decide +kernel
theorem dX4_solved_214 : decode cX4_solved 214 = .ok (.iload_n 3, 1) := by decide +kernel
theorem dX4_solved_215 : decode cX4_solved 215 = .ok (.iaload, 1) := by decide +kernel
theorem dX4_solved_216 : decode cX4_solved 216 = .ok (.aload_n 0, 1) := by decide +kernel
theorem dX4_solved_217 : decode cX4_solved 217 = .ok (.getfield 53, 3) := by decide +kernel
theorem dX4_solved_220 : decode cX4_solved 220 = .ok (.iload_n 3, 1) := by decide +kernel
theorem dX4_solved_221 : decode cX4_solved 221 = .ok (.iaload, 1) := by decide +kernel
theorem dX4_solved_222 : decode cX4_solved 222 = .ok (.aload_n 0, 1) := by decide +kernel
theorem dX4_solved_223 : decode cX4_solved 223 = .ok (.getfield 59, 3) := by decide +kernel
theorem dX4_solved_226 : decode cX4_solved 226 = .ok (.iload_n 3, 1) := by decide +kernel
theorem dX4_solved_227 : decode cX4_solved 227 = .ok (.iaload, 1) := by decide +kernel
theorem dX4_solved_228 : decode cX4_solved 228 = .ok (.invokevirtual 145, 3) := by decide +kernel
theorem dX4_solved_231 : decode cX4_solved 231 = .ok (.ifCond .ne 9, 3) := by decide +kernel
theorem dX4_solved_234 : decode cX4_solved 234 = .ok (.iconst 1, 1) := by decide +kernel
theorem dX4_solved_235 : decode cX4_solved 235 = .ok (.istore 4, 2) := by decide +kernel
theorem dX4_solved_237 : decode cX4_solved 237 = .ok (.goto (-218), 3) := by decide +kernel
theorem dX4_solved_240 : decode cX4_solved 240 = .ok (.aload_n 0, 1) := by decide +kernel
theorem dX4_solved_241 : decode cX4_solved 241 = .ok (.getfield 53, 3) := by decide +kernel
theorem dX4_solved_244 : decode cX4_solved 244 = .ok (.iload_n 3, 1) := by decide +kernel
theorem dX4_solved_245 : decode cX4_solved 245 = .ok (.iconst 1, 1) := by decide +kernel
theorem dX4_solved_246 : decode cX4_solved 246 = .ok (.iadd, 1) := by decide +kernel
theorem dX4_solved_247 : decode cX4_solved 247 = .ok (.aload_n 0, 1) := by decide +kernel
theorem dX4_solved_248 : decode cX4_solved 248 = .ok (.aload_n 0, 1) := by decide +kernel
theorem dX4_solved_249 : decode cX4_solved 249 = .ok (.getfield 56, 3) := by decide +kernel
theorem dX4_solved_252 : decode cX4_solved 252 = .ok (.iload_n 3, 1) := by decide +kernel
theorem dX4_solved_253 : decode cX4_solved 253 = .ok (.iaload, 1) := by decide +kernel
theorem dX4_solved_254 : decode cX4_solved 254 = .ok (.aload_n 0, 1) := by decide +kernel
theorem dX4_solved_255 : decode cX4_solved 255 = .ok (.getfield 53, 3) := by decide +kernel
theorem dX4_solved_258 : decode cX4_solved 258 = .ok (.iload_n 3, 1) := by decide +kernel
theorem dX4_solved_259 : decode cX4_solved 259 = .ok (.iaload, 1) := by decide +kernel
theorem dX4_solved_260 : decode cX4_solved 260 = .ok (.aload_n 0, 1) := by decide +kernel
theorem dX4_solved_261 : decode cX4_solved 261 = .ok (.getfield 59, 3) := by decide +kernel
theorem dX4_solved_264 : decode cX4_solved 264 = .ok (.iload_n 3, 1) := by decide +kernel
theorem dX4_solved_265 : decode cX4_solved 265 = .ok (.iaload, 1) := by decide +kernel
theorem dX4_solved_266 : decode cX4_solved 266 = .ok (.invokevirtual 145, 3) := by decide +kernel
theorem dX4_solved_269 : decode cX4_solved 269 = .ok (.iastore, 1) := by decide +kernel
theorem dX4_solved_270 : decode cX4_solved 270 = .ok (.aload_n 0, 1) := by decide +kernel
theorem dX4_solved_271 : decode cX4_solved 271 = .ok (.getfield 56, 3) := by decide +kernel
theorem dX4_solved_274 : decode cX4_solved 274 = .ok (.iload_n 3, 1) := by decide +kernel
theorem dX4_solved_275 : decode cX4_solved 275 = .ok (.iconst 1, 1) := by decide +kernel
theorem dX4_solved_276 : decode cX4_solved 276 = .ok (.iadd, 1) := by decide +kernel
theorem dX4_solved_277 : decode cX4_solved 277 = .ok (.iconst (-1), 1) := by decide +kernel
theorem dX4_solved_278 : decode cX4_solved 278 = .ok (.iastore, 1) := by decide +kernel
theorem dX4_solved_279 : decode cX4_solved 279 = .ok (.iinc 3 1, 3) := by decide +kernel
theorem dX4_solved_282 : decode cX4_solved 282 = .ok (.goto (-263), 3) := by decide +kernel
theorem dX4_solved_285 : decode cX4_solved 285 = .ok (.iload 4, 2) := by decide +kernel
theorem dX4_solved_287 : decode cX4_solved 287 = .ok (.iconst 1, 1) := by decide +kernel
theorem dX4_solved_288 : decode cX4_solved 288 = .ok (.if_icmp .ne 7, 3) := by decide +kernel
theorem dX4_solved_291 : decode cX4_solved 291 = .ok (.iconst 1, 1) := by decide +kernel
theorem dX4_solved_292 : decode cX4_solved 292 = .ok (.goto 4, 3) := by decide +kernel
theorem dX4_solved_295 : decode cX4_solved 295 = .ok (.iconst 0, 1) := by decide +kernel
theorem dX4_solved_296 : decode cX4_solved 296 = .ok (.ireturn, 1) := by decide +kernel
set_option maxRecDepth 20000 in
theorem ggX4_leastFor_X4_solved : GoodIn wsX4_leastFor wsX4_solved := goodIn_r _ [5, 6, 7, 8, 9, 10, 11, 4, 12, 13, 14, 15, 16, 17, 18, 19, 20, 21, 22, 23, 24, 25, 26, 27, 28, 29, 30, 31, 32, 33, 34, 35, 36, 37, 38, 39, 40, 41, 42, 43, 44, 45, 46, 47, 48, 49, 50, 51, 52, 53, 54, 55, 56, 57, 58, 59, 60, 61, 62, 63, 64, 65, 66, 67, 68, 69, 70, 71, 72, 73, 74, 75] (by decide +kernel) (by decide +kernel)
set_option maxRecDepth 20000 in
theorem gX4_leastFor_X4_solved : GoodIn wsX4_leastFor (wsV RX4 149 RX4 yX4_solved wsX4_solved) := goodIn_app (goodIn_of _ (by decide +kernel)) ggX4_leastFor_X4_solved
theorem dX4_leastFor_0 : decode cX4_leastFor 0 = .ok (.iconst 0, 1) := by decide +kernel
theorem dX4_leastFor_1 : decode cX4_leastFor 1 = .ok (.istore_n 3, 1) := by decide +kernel
theorem dX4_leastFor_2 : decode cX4_leastFor 2 = .ok (.iload_n 3, 1) := by decide +kernel
theorem dX4_leastFor_3 : decode cX4_leastFor 3 = .ok (.iload_n 2, 1) := by decide +kernel
theorem dX4_leastFor_4 : decode cX4_leastFor 4 = .ok (.if_icmp .gt 20, 3) := by decide +kernel
theorem dX4_leastFor_7 : decode cX4_leastFor 7 = .ok (.aload_n 0, 1) := by decide +kernel
theorem dX4_leastFor_8 : decode cX4_leastFor 8 = .ok (.iload_n 1, 1) := by decide +kernel
theorem dX4_leastFor_9 : decode cX4_leastFor 9 = .ok (.iload_n 3, 1) := by decide +kernel
theorem dX4_leastFor_10 : decode cX4_leastFor 10 = .ok (.invokevirtual 149, 3) := by decide +kernel
theorem dX4_leastFor_13 : decode cX4_leastFor 13 = .ok (.ifCond .eq 5, 3) := by decide +kernel
theorem dX4_leastFor_16 : decode cX4_leastFor 16 = .ok (.iload_n 3, 1) := by decide +kernel
theorem dX4_leastFor_17 : decode cX4_leastFor 17 = .ok (.ireturn, 1) := by decide +kernel
theorem dX4_leastFor_18 : decode cX4_leastFor 18 = .ok (.iinc 3 1, 3) := by decide +kernel
theorem dX4_leastFor_21 : decode cX4_leastFor 21 = .ok (.goto (-19), 3) := by decide +kernel
theorem dX4_leastFor_24 : decode cX4_leastFor 24 = .ok (.iconst (-1), 1) := by decide +kernel
theorem dX4_leastFor_25 : decode cX4_leastFor 25 = .ok (.ireturn, 1) := by decide +kernel
set_option maxRecDepth 20000 in
theorem ggX4_least_X4_within : GoodIn wsX4_least wsX4_within := goodIn_r _ [6] (by decide +kernel) (by decide +kernel)
set_option maxRecDepth 20000 in
theorem gX4_least_X4_within : GoodIn wsX4_least (va_wsS RX4 96 yX4_within wsX4_within) := goodIn_app (goodIn_of _ (by decide +kernel)) ggX4_least_X4_within
set_option maxRecDepth 20000 in
theorem ggX4_least_X4_fail : GoodIn wsX4_least wsX4_fail := goodIn_r _ [10, 1, 56, 57, 58, 59, 60, 61, 62, 63, 64, 65, 66, 67, 68, 69, 70, 71, 72, 73, 74, 75, 76, 77, 78, 79, 80, 81, 82, 83, 84, 85, 86, 87, 88] (by decide +kernel) (by decide +kernel)
set_option maxRecDepth 20000 in
theorem gX4_least_X4_fail : GoodIn wsX4_least (wsV RX4 115 RX4 yX4_fail wsX4_fail) := goodIn_app (goodIn_of _ (by decide +kernel)) ggX4_least_X4_fail
set_option maxRecDepth 20000 in
theorem ggX4_least_X4_leastFor : GoodIn wsX4_least wsX4_leastFor := goodIn_r _ [14, 15, 16, 17, 5, 18, 19, 20, 21, 22, 23, 24, 25, 26, 27, 28, 29, 30, 31, 32, 33, 34, 35, 36, 37, 38, 39, 40, 41, 42, 43, 44, 45, 46, 47, 48, 49, 50, 51, 52, 53, 54, 55, 56, 57, 58, 59, 60, 61, 62, 63, 64, 65, 66, 67, 68, 69, 70, 71, 72, 73, 74, 75, 76, 77, 78, 79, 80, 81, 82, 83, 84, 85, 86, 87, 88] (by decide +kernel) (by decide +kernel)
set_option maxRecDepth 20000 in
theorem gX4_least_X4_leastFor : GoodIn wsX4_least (wsV RX4 152 RX4 yX4_leastFor wsX4_leastFor) := goodIn_app (goodIn_of _ (by decide +kernel)) ggX4_least_X4_leastFor
theorem dX4_least_0 : decode cX4_least 0 = .ok (.aload_n 0, 1) := by decide +kernel
theorem dX4_least_1 : decode cX4_least 1 = .ok (.iconst 0, 1) := by decide +kernel
theorem dX4_least_2 : decode cX4_least 2 = .ok (.putfield 93, 3) := by decide +kernel
theorem dX4_least_5 : decode cX4_least 5 = .ok (.iload_n 1, 1) := by decide +kernel
theorem dX4_least_6 : decode cX4_least 6 = .ok (.iconst 1, 1) := by decide +kernel
theorem dX4_least_7 : decode cX4_least 7 = .ok (.ldc 137, 2) := by decide +kernel
theorem dX4_least_9 : decode cX4_least 9 = .ok (.invokestatic 96, 3) := by decide +kernel
theorem dX4_least_12 : decode cX4_least 12 = .ok (.ifCond .eq 12, 3) := by decide +kernel
theorem dX4_least_15 : decode cX4_least 15 = .ok (.iload_n 2, 1) := by decide +kernel
theorem dX4_least_16 : decode cX4_least 16 = .ok (.iconst 0, 1) := by decide +kernel
theorem dX4_least_17 : decode cX4_least 17 = .ok (.iconst 4, 1) := by decide +kernel
theorem dX4_least_18 : decode cX4_least 18 = .ok (.invokestatic 96, 3) := by decide +kernel
theorem dX4_least_21 : decode cX4_least 21 = .ok (.ifCond .ne 9, 3) := by decide +kernel
theorem dX4_least_24 : decode cX4_least 24 = .ok (.aload_n 0, 1) := by decide +kernel
theorem dX4_least_25 : decode cX4_least 25 = .ok (.iconst 1, 1) := by decide +kernel
theorem dX4_least_26 : decode cX4_least 26 = .ok (.invokevirtual 115, 3) := by decide +kernel
theorem dX4_least_29 : decode cX4_least 29 = .ok (.ireturn, 1) := by decide +kernel
theorem dX4_least_30 : decode cX4_least 30 = .ok (.aload_n 0, 1) := by decide +kernel
theorem dX4_least_31 : decode cX4_least 31 = .ok (.iload_n 1, 1) := by decide +kernel
theorem dX4_least_32 : decode cX4_least 32 = .ok (.iload_n 2, 1) := by decide +kernel
theorem dX4_least_33 : decode cX4_least 33 = .ok (.invokevirtual 152, 3) := by decide +kernel
theorem dX4_least_36 : decode cX4_least 36 = .ok (.istore_n 3, 1) := by decide +kernel
theorem dX4_least_37 : decode cX4_least 37 = .ok (.iload_n 3, 1) := by decide +kernel
theorem dX4_least_38 : decode cX4_least 38 = .ok (.ifCond .ge 11, 3) := by decide +kernel
theorem dX4_least_41 : decode cX4_least 41 = .ok (.aload_n 0, 1) := by decide +kernel
theorem dX4_least_42 : decode cX4_least 42 = .ok (.iconst 2, 1) := by decide +kernel
theorem dX4_least_43 : decode cX4_least 43 = .ok (.invokevirtual 115, 3) := by decide +kernel
theorem dX4_least_46 : decode cX4_least 46 = .ok (.goto 4, 3) := by decide +kernel
theorem dX4_least_49 : decode cX4_least 49 = .ok (.iload_n 3, 1) := by decide +kernel
theorem dX4_least_50 : decode cX4_least 50 = .ok (.ireturn, 1) := by decide +kernel
set_option maxRecDepth 20000 in
theorem ggX4_partSolved_X4_part : GoodIn wsX4_partSolved wsX4_part := goodIn_r _ [5, 6, 7, 8, 9, 4, 10, 11, 12, 13, 14, 15, 16, 17, 18, 19, 20, 21, 22, 43, 44, 45, 46, 47, 48, 49, 50, 51, 52, 53, 54, 55, 56, 57, 58, 59, 60, 61, 62, 63, 64, 65, 66, 67, 68, 69, 70, 71, 72, 73, 74, 75] (by decide +kernel) (by decide +kernel)
set_option maxRecDepth 20000 in
theorem gX4_partSolved_X4_part : GoodIn wsX4_partSolved (wsV RX4 145 RX4 yX4_part wsX4_part) := goodIn_app (goodIn_of _ (by decide +kernel)) ggX4_partSolved_X4_part
set_option maxRecDepth 20000 in
theorem ggX4_partSolved_X4_solved : GoodIn wsX4_partSolved wsX4_solved := goodIn_r _ [26, 27, 28, 29, 30, 31, 32, 4, 33, 34, 35, 20, 21, 22, 36, 37, 38, 39, 40, 41, 42, 1, 2, 3, 5, 6, 7, 8, 9, 10, 11, 12, 13, 14, 15, 16, 17, 18, 19, 43, 44, 45, 46, 47, 48, 49, 50, 51, 52, 53, 54, 55, 56, 57, 58, 59, 60, 61, 62, 63, 64, 65, 66, 67, 68, 69, 70, 71, 72, 73, 74, 75] (by decide +kernel) (by decide +kernel)
set_option maxRecDepth 20000 in
theorem gX4_partSolved_X4_solved : GoodIn wsX4_partSolved (wsV RX4 149 RX4 yX4_solved wsX4_solved) := goodIn_app (goodIn_of _ (by decide +kernel)) ggX4_partSolved_X4_solved
theorem dX4_partSolved_0 : decode cX4_partSolved 0 = .ok (.aload_n 0, 1) := by decide +kernel
theorem dX4_partSolved_1 : decode cX4_partSolved 1 = .ok (.iload_n 1, 1) := by decide +kernel
theorem dX4_partSolved_2 : decode cX4_partSolved 2 = .ok (.iload_n 2, 1) := by decide +kernel
theorem dX4_partSolved_3 : decode cX4_partSolved 3 = .ok (.iload_n 3, 1) := by decide +kernel
theorem dX4_partSolved_4 : decode cX4_partSolved 4 = .ok (.invokevirtual 145, 3) := by decide +kernel
theorem dX4_partSolved_7 : decode cX4_partSolved 7 = .ok (.istore 5, 2) := by decide +kernel
theorem dX4_partSolved_9 : decode cX4_partSolved 9 = .ok (.iload 5, 2) := by decide +kernel
theorem dX4_partSolved_11 : decode cX4_partSolved 11 = .ok (.ifCond .eq 14, 3) := by decide +kernel
theorem dX4_partSolved_14 : decode cX4_partSolved 14 = .ok (.aload_n 0, 1) := by decide +kernel
theorem dX4_partSolved_15 : decode cX4_partSolved 15 = .ok (.iload 5, 2) := by decide +kernel
theorem dX4_partSolved_17 : decode cX4_partSolved 17 = .ok (.iload 4, 2) := by decide +kernel
theorem dX4_partSolved_19 : decode cX4_partSolved 19 = .ok (.invokevirtual 149, 3) := by decide +kernel
theorem dX4_partSolved_22 : decode cX4_partSolved 22 = .ok (.ifCond .eq 7, 3) := by decide +kernel
theorem dX4_partSolved_25 : decode cX4_partSolved 25 = .ok (.iconst 1, 1) := by decide +kernel
theorem dX4_partSolved_26 : decode cX4_partSolved 26 = .ok (.goto 4, 3) := by decide +kernel
theorem dX4_partSolved_29 : decode cX4_partSolved 29 = .ok (.iconst 0, 1) := by decide +kernel
theorem dX4_partSolved_30 : decode cX4_partSolved 30 = .ok (.ireturn, 1) := by decide +kernel
set_option maxRecDepth 20000 in
theorem ggX4_choose_X4_reached : GoodIn wsX4_choose wsX4_reached := goodIn_r _ [7, 8, 9, 10, 11, 6, 12, 49, 50, 51, 52, 53, 54, 55, 56, 57, 58, 59, 60, 61, 62, 63, 64, 65, 66, 67, 68, 69, 70, 71, 72, 73, 74, 75, 76, 77, 78, 79, 80, 81] (by decide +kernel) (by decide +kernel)
set_option maxRecDepth 20000 in
theorem gX4_choose_X4_reached : GoodIn wsX4_choose (wsV RX4 141 RX4 yX4_reached wsX4_reached) := goodIn_app (goodIn_of _ (by decide +kernel)) ggX4_choose_X4_reached
set_option maxRecDepth 20000 in
theorem ggX4_choose_X4_usable : GoodIn wsX4_choose wsX4_usable := goodIn_r _ [16, 17, 18, 19, 10, 11, 6, 12, 49, 50, 51, 52, 53, 54, 55, 56, 57, 58, 59, 60, 61, 62, 63, 64, 65, 66, 67, 68, 69, 70, 71, 72, 73, 74, 75, 76, 77, 78, 79, 80, 81] (by decide +kernel) (by decide +kernel)
set_option maxRecDepth 20000 in
theorem gX4_choose_X4_usable : GoodIn wsX4_choose (wsV RX4 138 RX4 yX4_usable wsX4_usable) := goodIn_app (goodIn_of _ (by decide +kernel)) ggX4_choose_X4_usable
set_option maxRecDepth 20000 in
theorem ggX4_choose_X4_partSolved : GoodIn wsX4_choose wsX4_partSolved := goodIn_r _ [23, 24, 25, 26, 6, 27, 28, 29, 30, 31, 32, 33, 34, 35, 36, 37, 38, 39, 40, 41, 10, 11, 12, 42, 43, 44, 45, 46, 47, 48, 3, 4, 5, 7, 8, 9, 13, 14, 15, 16, 17, 18, 19, 49, 50, 51, 52, 53, 54, 55, 56, 57, 58, 59, 60, 61, 62, 63, 64, 65, 66, 67, 68, 69, 70, 71, 72, 73, 74, 75, 76, 77, 78, 79, 80, 81] (by decide +kernel) (by decide +kernel)
set_option maxRecDepth 20000 in
theorem gX4_choose_X4_partSolved : GoodIn wsX4_choose (wsV RX4 155 RX4 yX4_partSolved wsX4_partSolved) := goodIn_app (goodIn_of _ (by decide +kernel)) ggX4_choose_X4_partSolved
set_option maxRecDepth 20000 in
theorem ggX4_choose_X4_part : GoodIn wsX4_choose wsX4_part := goodIn_r _ [27, 28, 29, 30, 31, 6, 32, 33, 34, 35, 36, 37, 38, 39, 40, 41, 10, 11, 12, 49, 50, 51, 52, 53, 54, 55, 56, 57, 58, 59, 60, 61, 62, 63, 64, 65, 66, 67, 68, 69, 70, 71, 72, 73, 74, 75, 76, 77, 78, 79, 80, 81] (by decide +kernel) (by decide +kernel)
set_option maxRecDepth 20000 in
theorem gX4_choose_X4_part : GoodIn wsX4_choose (wsV RX4 145 RX4 yX4_part wsX4_part) := goodIn_app (goodIn_of _ (by decide +kernel)) ggX4_choose_X4_part
theorem dX4_choose_0 : decode cX4_choose 0 = .ok (.aload_n 0, 1) := by decide +kernel
theorem dX4_choose_1 : decode cX4_choose 1 = .ok (.getfield 62, 3) := by decide +kernel
theorem dX4_choose_4 : decode cX4_choose 4 = .ok (.iload_n 1, 1) := by decide +kernel
theorem dX4_choose_5 : decode cX4_choose 5 = .ok (.iaload, 1) := by decide +kernel
theorem dX4_choose_6 : decode cX4_choose 6 = .ok (.istore_n 3, 1) := by decide +kernel
theorem dX4_choose_7 : decode cX4_choose 7 = .ok (.aload_n 0, 1) := by decide +kernel
theorem dX4_choose_8 : decode cX4_choose 8 = .ok (.getfield 65, 3) := by decide +kernel
theorem dX4_choose_11 : decode cX4_choose 11 = .ok (.iload_n 1, 1) := by decide +kernel
theorem dX4_choose_12 : decode cX4_choose 12 = .ok (.iconst (-1), 1) := by decide +kernel
theorem dX4_choose_13 : decode cX4_choose 13 = .ok (.iastore, 1) := by decide +kernel
theorem dX4_choose_14 : decode cX4_choose 14 = .ok (.aload_n 0, 1) := by decide +kernel
theorem dX4_choose_15 : decode cX4_choose 15 = .ok (.getfield 62, 3) := by decide +kernel
theorem dX4_choose_18 : decode cX4_choose 18 = .ok (.iconst 2, 1) := by decide +kernel
theorem dX4_choose_19 : decode cX4_choose 19 = .ok (.iload_n 1, 1) := by decide +kernel
theorem dX4_choose_20 : decode cX4_choose 20 = .ok (.imul, 1) := by decide +kernel
theorem dX4_choose_21 : decode cX4_choose 21 = .ok (.iconst 0, 1) := by decide +kernel
theorem dX4_choose_22 : decode cX4_choose 22 = .ok (.iastore, 1) := by decide +kernel
theorem dX4_choose_23 : decode cX4_choose 23 = .ok (.aload_n 0, 1) := by decide +kernel
theorem dX4_choose_24 : decode cX4_choose 24 = .ok (.getfield 62, 3) := by decide +kernel
theorem dX4_choose_27 : decode cX4_choose 27 = .ok (.iconst 2, 1) := by decide +kernel
theorem dX4_choose_28 : decode cX4_choose 28 = .ok (.iload_n 1, 1) := by decide +kernel
theorem dX4_choose_29 : decode cX4_choose 29 = .ok (.imul, 1) := by decide +kernel
theorem dX4_choose_30 : decode cX4_choose 30 = .ok (.iconst 1, 1) := by decide +kernel
theorem dX4_choose_31 : decode cX4_choose 31 = .ok (.iadd, 1) := by decide +kernel
theorem dX4_choose_32 : decode cX4_choose 32 = .ok (.iconst 0, 1) := by decide +kernel
theorem dX4_choose_33 : decode cX4_choose 33 = .ok (.iastore, 1) := by decide +kernel
theorem dX4_choose_34 : decode cX4_choose 34 = .ok (.iload_n 3, 1) := by decide +kernel
theorem dX4_choose_35 : decode cX4_choose 35 = .ok (.ifCond .eq 11, 3) := by decide +kernel
theorem dX4_choose_38 : decode cX4_choose 38 = .ok (.aload_n 0, 1) := by decide +kernel
theorem dX4_choose_39 : decode cX4_choose 39 = .ok (.iload_n 3, 1) := by decide +kernel
theorem dX4_choose_40 : decode cX4_choose 40 = .ok (.invokevirtual 141, 3) := by decide +kernel
theorem dX4_choose_43 : decode cX4_choose 43 = .ok (.ifCond .eq 4, 3) := by decide +kernel
theorem dX4_choose_46 : decode cX4_choose 46 = .ok (.return_, 1) := by decide +kernel
theorem dX4_choose_47 : decode cX4_choose 47 = .ok (.iconst 0, 1) := by decide +kernel
theorem dX4_choose_48 : decode cX4_choose 48 = .ok (.istore 4, 2) := by decide +kernel
theorem dX4_choose_50 : decode cX4_choose 50 = .ok (.aload_n 0, 1) := by decide +kernel
theorem dX4_choose_51 : decode cX4_choose 51 = .ok (.iload 4, 2) := by decide +kernel
theorem dX4_choose_53 : decode cX4_choose 53 = .ok (.iload_n 3, 1) := by decide +kernel
theorem dX4_choose_54 : decode cX4_choose 54 = .ok (.invokevirtual 138, 3) := by decide +kernel
theorem dX4_choose_57 : decode cX4_choose 57 = .ok (.ifCond .eq 31, 3) := by decide +kernel
theorem dX4_choose_60 : decode cX4_choose 60 = .ok (.aload_n 0, 1) := by decide +kernel
theorem dX4_choose_61 : decode cX4_choose 61 = .ok (.iload 4, 2) := by decide +kernel
theorem dX4_choose_63 : decode cX4_choose 63 = .ok (.iload_n 3, 1) := by decide +kernel
theorem dX4_choose_64 : decode cX4_choose 64 = .ok (.iconst 0, 1) := by decide +kernel
theorem dX4_choose_65 : decode cX4_choose 65 = .ok (.iload_n 2, 1) := by decide +kernel
theorem dX4_choose_66 : decode cX4_choose 66 = .ok (.iconst 1, 1) := by decide +kernel
theorem dX4_choose_67 : decode cX4_choose 67 = .ok (.isub, 1) := by decide +kernel
theorem dX4_choose_68 : decode cX4_choose 68 = .ok (.invokevirtual 155, 3) := by decide +kernel
theorem dX4_choose_71 : decode cX4_choose 71 = .ok (.ifCond .eq 17, 3) := by decide +kernel
theorem dX4_choose_74 : decode cX4_choose 74 = .ok (.aload_n 0, 1) := by decide +kernel
theorem dX4_choose_75 : decode cX4_choose 75 = .ok (.iload 4, 2) := by decide +kernel
theorem dX4_choose_77 : decode cX4_choose 77 = .ok (.iload_n 3, 1) := by decide +kernel
theorem dX4_choose_78 : decode cX4_choose 78 = .ok (.iconst 1, 1) := by decide +kernel
theorem dX4_choose_79 : decode cX4_choose 79 = .ok (.iload_n 2, 1) := by decide +kernel
theorem dX4_choose_80 : decode cX4_choose 80 = .ok (.iconst 1, 1) := by decide +kernel
theorem dX4_choose_81 : decode cX4_choose 81 = .ok (.isub, 1) := by decide +kernel
theorem dX4_choose_82 : decode cX4_choose 82 = .ok (.invokevirtual 155, 3) := by decide +kernel
theorem dX4_choose_85 : decode cX4_choose 85 = .ok (.ifCond .ne 9, 3) := by decide +kernel
theorem dX4_choose_88 : decode cX4_choose 88 = .ok (.iinc 4 1, 3) := by decide +kernel
theorem dX4_choose_91 : decode cX4_choose 91 = .ok (.goto (-41), 3) := by decide +kernel
theorem dX4_choose_94 : decode cX4_choose 94 = .ok (.aload_n 0, 1) := by decide +kernel
theorem dX4_choose_95 : decode cX4_choose 95 = .ok (.getfield 65, 3) := by decide +kernel
theorem dX4_choose_98 : decode cX4_choose 98 = .ok (.iload_n 1, 1) := by decide +kernel
theorem dX4_choose_99 : decode cX4_choose 99 = .ok (.iload 4, 2) := by decide +kernel
theorem dX4_choose_101 : decode cX4_choose 101 = .ok (.iastore, 1) := by decide +kernel
theorem dX4_choose_102 : decode cX4_choose 102 = .ok (.aload_n 0, 1) := by decide +kernel
theorem dX4_choose_103 : decode cX4_choose 103 = .ok (.getfield 62, 3) := by decide +kernel
theorem dX4_choose_106 : decode cX4_choose 106 = .ok (.iconst 2, 1) := by decide +kernel
theorem dX4_choose_107 : decode cX4_choose 107 = .ok (.iload_n 1, 1) := by decide +kernel
theorem dX4_choose_108 : decode cX4_choose 108 = .ok (.imul, 1) := by decide +kernel
theorem dX4_choose_109 : decode cX4_choose 109 = .ok (.aload_n 0, 1) := by decide +kernel
theorem dX4_choose_110 : decode cX4_choose 110 = .ok (.iload 4, 2) := by decide +kernel
theorem dX4_choose_112 : decode cX4_choose 112 = .ok (.iload_n 3, 1) := by decide +kernel
theorem dX4_choose_113 : decode cX4_choose 113 = .ok (.iconst 0, 1) := by decide +kernel
theorem dX4_choose_114 : decode cX4_choose 114 = .ok (.invokevirtual 145, 3) := by decide +kernel
theorem dX4_choose_117 : decode cX4_choose 117 = .ok (.iastore, 1) := by decide +kernel
theorem dX4_choose_118 : decode cX4_choose 118 = .ok (.aload_n 0, 1) := by decide +kernel
theorem dX4_choose_119 : decode cX4_choose 119 = .ok (.getfield 62, 3) := by decide +kernel
theorem dX4_choose_122 : decode cX4_choose 122 = .ok (.iconst 2, 1) := by decide +kernel
theorem dX4_choose_123 : decode cX4_choose 123 = .ok (.iload_n 1, 1) := by decide +kernel
theorem dX4_choose_124 : decode cX4_choose 124 = .ok (.imul, 1) := by decide +kernel
theorem dX4_choose_125 : decode cX4_choose 125 = .ok (.iconst 1, 1) := by decide +kernel
theorem dX4_choose_126 : decode cX4_choose 126 = .ok (.iadd, 1) := by decide +kernel
theorem dX4_choose_127 : decode cX4_choose 127 = .ok (.aload_n 0, 1) := by decide +kernel
theorem dX4_choose_128 : decode cX4_choose 128 = .ok (.iload 4, 2) := by decide +kernel
theorem dX4_choose_130 : decode cX4_choose 130 = .ok (.iload_n 3, 1) := by decide +kernel
theorem dX4_choose_131 : decode cX4_choose 131 = .ok (.iconst 1, 1) := by decide +kernel
theorem dX4_choose_132 : decode cX4_choose 132 = .ok (.invokevirtual 145, 3) := by decide +kernel
theorem dX4_choose_135 : decode cX4_choose 135 = .ok (.iastore, 1) := by decide +kernel
theorem dX4_choose_136 : decode cX4_choose 136 = .ok (.return_, 1) := by decide +kernel
theorem dX4_depthOf_0 : decode cX4_depthOf 0 = .ok (.iconst 0, 1) := by decide +kernel
theorem dX4_depthOf_1 : decode cX4_depthOf 1 = .ok (.istore_n 1, 1) := by decide +kernel
theorem dX4_depthOf_2 : decode cX4_depthOf 2 = .ok (.iload_n 0, 1) := by decide +kernel
theorem dX4_depthOf_3 : decode cX4_depthOf 3 = .ok (.istore_n 2, 1) := by decide +kernel
theorem dX4_depthOf_4 : decode cX4_depthOf 4 = .ok (.iload_n 2, 1) := by decide +kernel
theorem dX4_depthOf_5 : decode cX4_depthOf 5 = .ok (.iconst 1, 1) := by decide +kernel
theorem dX4_depthOf_6 : decode cX4_depthOf 6 = .ok (.if_icmp .le 13, 3) := by decide +kernel
theorem dX4_depthOf_9 : decode cX4_depthOf 9 = .ok (.iinc 1 1, 3) := by decide +kernel
theorem dX4_depthOf_12 : decode cX4_depthOf 12 = .ok (.iload_n 2, 1) := by decide +kernel
theorem dX4_depthOf_13 : decode cX4_depthOf 13 = .ok (.iconst 2, 1) := by decide +kernel
theorem dX4_depthOf_14 : decode cX4_depthOf 14 = .ok (.idiv, 1) := by decide +kernel
theorem dX4_depthOf_15 : decode cX4_depthOf 15 = .ok (.istore_n 2, 1) := by decide +kernel
theorem dX4_depthOf_16 : decode cX4_depthOf 16 = .ok (.goto (-12), 3) := by decide +kernel
theorem dX4_depthOf_19 : decode cX4_depthOf 19 = .ok (.iload_n 1, 1) := by decide +kernel
theorem dX4_depthOf_20 : decode cX4_depthOf 20 = .ok (.ireturn, 1) := by decide +kernel
set_option maxRecDepth 20000 in
theorem ggX4_equal_X4_classOf : GoodIn wsX4_equal wsX4_classOf := goodIn_r _ [7, 1, 8, 9, 10, 11, 12, 13, 14, 15, 16, 17, 18, 19, 20, 21, 22, 23, 24, 25, 26, 27, 28, 29, 30, 31, 32, 33, 34, 35, 36, 37, 38, 39, 40, 41] (by decide +kernel) (by decide +kernel)
set_option maxRecDepth 20000 in
theorem gX4_equal_X4_classOf : GoodIn wsX4_equal (wsV RX4 159 RX4 yX4_classOf wsX4_classOf) := goodIn_app (goodIn_of _ (by decide +kernel)) ggX4_equal_X4_classOf
theorem dX4_equal_0 : decode cX4_equal 0 = .ok (.aload_n 0, 1) := by decide +kernel
theorem dX4_equal_1 : decode cX4_equal 1 = .ok (.getfield 62, 3) := by decide +kernel
theorem dX4_equal_4 : decode cX4_equal 4 = .ok (.iload_n 1, 1) := by decide +kernel
theorem dX4_equal_5 : decode cX4_equal 5 = .ok (.iaload, 1) := by decide +kernel
theorem dX4_equal_6 : decode cX4_equal 6 = .ok (.ifCond .eq 12, 3) := by decide +kernel
theorem dX4_equal_9 : decode cX4_equal 9 = .ok (.aload_n 0, 1) := by decide +kernel
theorem dX4_equal_10 : decode cX4_equal 10 = .ok (.getfield 62, 3) := by decide +kernel
theorem dX4_equal_13 : decode cX4_equal 13 = .ok (.iload_n 2, 1) := by decide +kernel
theorem dX4_equal_14 : decode cX4_equal 14 = .ok (.iaload, 1) := by decide +kernel
theorem dX4_equal_15 : decode cX4_equal 15 = .ok (.ifCond .ne 24, 3) := by decide +kernel
theorem dX4_equal_18 : decode cX4_equal 18 = .ok (.aload_n 0, 1) := by decide +kernel
theorem dX4_equal_19 : decode cX4_equal 19 = .ok (.getfield 62, 3) := by decide +kernel
theorem dX4_equal_22 : decode cX4_equal 22 = .ok (.iload_n 1, 1) := by decide +kernel
theorem dX4_equal_23 : decode cX4_equal 23 = .ok (.iaload, 1) := by decide +kernel
theorem dX4_equal_24 : decode cX4_equal 24 = .ok (.aload_n 0, 1) := by decide +kernel
theorem dX4_equal_25 : decode cX4_equal 25 = .ok (.getfield 62, 3) := by decide +kernel
theorem dX4_equal_28 : decode cX4_equal 28 = .ok (.iload_n 2, 1) := by decide +kernel
theorem dX4_equal_29 : decode cX4_equal 29 = .ok (.iaload, 1) := by decide +kernel
theorem dX4_equal_30 : decode cX4_equal 30 = .ok (.if_icmp .ne 7, 3) := by decide +kernel
theorem dX4_equal_33 : decode cX4_equal 33 = .ok (.iconst 1, 1) := by decide +kernel
theorem dX4_equal_34 : decode cX4_equal 34 = .ok (.goto 4, 3) := by decide +kernel
theorem dX4_equal_37 : decode cX4_equal 37 = .ok (.iconst 0, 1) := by decide +kernel
theorem dX4_equal_38 : decode cX4_equal 38 = .ok (.ireturn, 1) := by decide +kernel
theorem dX4_equal_39 : decode cX4_equal 39 = .ok (.aload_n 0, 1) := by decide +kernel
theorem dX4_equal_40 : decode cX4_equal 40 = .ok (.getfield 65, 3) := by decide +kernel
theorem dX4_equal_43 : decode cX4_equal 43 = .ok (.iload_n 1, 1) := by decide +kernel
theorem dX4_equal_44 : decode cX4_equal 44 = .ok (.iaload, 1) := by decide +kernel
theorem dX4_equal_45 : decode cX4_equal 45 = .ok (.aload_n 0, 1) := by decide +kernel
theorem dX4_equal_46 : decode cX4_equal 46 = .ok (.getfield 65, 3) := by decide +kernel
theorem dX4_equal_49 : decode cX4_equal 49 = .ok (.iload_n 2, 1) := by decide +kernel
theorem dX4_equal_50 : decode cX4_equal 50 = .ok (.iaload, 1) := by decide +kernel
theorem dX4_equal_51 : decode cX4_equal 51 = .ok (.if_icmp .eq 5, 3) := by decide +kernel
theorem dX4_equal_54 : decode cX4_equal 54 = .ok (.iconst 0, 1) := by decide +kernel
theorem dX4_equal_55 : decode cX4_equal 55 = .ok (.ireturn, 1) := by decide +kernel
theorem dX4_equal_56 : decode cX4_equal 56 = .ok (.aload_n 0, 1) := by decide +kernel
theorem dX4_equal_57 : decode cX4_equal 57 = .ok (.getfield 65, 3) := by decide +kernel
theorem dX4_equal_60 : decode cX4_equal 60 = .ok (.iload_n 1, 1) := by decide +kernel
theorem dX4_equal_61 : decode cX4_equal 61 = .ok (.iaload, 1) := by decide +kernel
theorem dX4_equal_62 : decode cX4_equal 62 = .ok (.ifCond .lt 41, 3) := by decide +kernel
theorem dX4_equal_65 : decode cX4_equal 65 = .ok (.aload_n 0, 1) := by decide +kernel
theorem dX4_equal_66 : decode cX4_equal 66 = .ok (.iconst 2, 1) := by decide +kernel
theorem dX4_equal_67 : decode cX4_equal 67 = .ok (.iload_n 1, 1) := by decide +kernel
theorem dX4_equal_68 : decode cX4_equal 68 = .ok (.imul, 1) := by decide +kernel
theorem dX4_equal_69 : decode cX4_equal 69 = .ok (.invokevirtual 159, 3) := by decide +kernel
theorem dX4_equal_72 : decode cX4_equal 72 = .ok (.aload_n 0, 1) := by decide +kernel
theorem dX4_equal_73 : decode cX4_equal 73 = .ok (.iconst 2, 1) := by decide +kernel
theorem dX4_equal_74 : decode cX4_equal 74 = .ok (.iload_n 2, 1) := by decide +kernel
theorem dX4_equal_75 : decode cX4_equal 75 = .ok (.imul, 1) := by decide +kernel
theorem dX4_equal_76 : decode cX4_equal 76 = .ok (.invokevirtual 159, 3) := by decide +kernel
theorem dX4_equal_79 : decode cX4_equal 79 = .ok (.if_icmp .ne 28, 3) := by decide +kernel
theorem dX4_equal_82 : decode cX4_equal 82 = .ok (.aload_n 0, 1) := by decide +kernel
theorem dX4_equal_83 : decode cX4_equal 83 = .ok (.iconst 2, 1) := by decide +kernel
theorem dX4_equal_84 : decode cX4_equal 84 = .ok (.iload_n 1, 1) := by decide +kernel
theorem dX4_equal_85 : decode cX4_equal 85 = .ok (.imul, 1) := by decide +kernel
theorem dX4_equal_86 : decode cX4_equal 86 = .ok (.iconst 1, 1) := by decide +kernel
theorem dX4_equal_87 : decode cX4_equal 87 = .ok (.iadd, 1) := by decide +kernel
theorem dX4_equal_88 : decode cX4_equal 88 = .ok (.invokevirtual 159, 3) := by decide +kernel
theorem dX4_equal_91 : decode cX4_equal 91 = .ok (.aload_n 0, 1) := by decide +kernel
theorem dX4_equal_92 : decode cX4_equal 92 = .ok (.iconst 2, 1) := by decide +kernel
theorem dX4_equal_93 : decode cX4_equal 93 = .ok (.iload_n 2, 1) := by decide +kernel
theorem dX4_equal_94 : decode cX4_equal 94 = .ok (.imul, 1) := by decide +kernel
theorem dX4_equal_95 : decode cX4_equal 95 = .ok (.iconst 1, 1) := by decide +kernel
theorem dX4_equal_96 : decode cX4_equal 96 = .ok (.iadd, 1) := by decide +kernel
theorem dX4_equal_97 : decode cX4_equal 97 = .ok (.invokevirtual 159, 3) := by decide +kernel
theorem dX4_equal_100 : decode cX4_equal 100 = .ok (.if_icmp .ne 7, 3) := by decide +kernel
theorem dX4_equal_103 : decode cX4_equal 103 = .ok (.iconst 1, 1) := by decide +kernel
theorem dX4_equal_104 : decode cX4_equal 104 = .ok (.goto 4, 3) := by decide +kernel
theorem dX4_equal_107 : decode cX4_equal 107 = .ok (.iconst 0, 1) := by decide +kernel
theorem dX4_equal_108 : decode cX4_equal 108 = .ok (.ireturn, 1) := by decide +kernel
theorem dX4_classOf_0 : decode cX4_classOf 0 = .ok (.aload_n 0, 1) := by decide +kernel
theorem dX4_classOf_1 : decode cX4_classOf 1 = .ok (.getfield 62, 3) := by decide +kernel
theorem dX4_classOf_4 : decode cX4_classOf 4 = .ok (.iload_n 1, 1) := by decide +kernel
theorem dX4_classOf_5 : decode cX4_classOf 5 = .ok (.iaload, 1) := by decide +kernel
theorem dX4_classOf_6 : decode cX4_classOf 6 = .ok (.ifCond .ne 7, 3) := by decide +kernel
theorem dX4_classOf_9 : decode cX4_classOf 9 = .ok (.iconst 0, 1) := by decide +kernel
theorem dX4_classOf_10 : decode cX4_classOf 10 = .ok (.goto 9, 3) := by decide +kernel
theorem dX4_classOf_13 : decode cX4_classOf 13 = .ok (.aload_n 0, 1) := by decide +kernel
theorem dX4_classOf_14 : decode cX4_classOf 14 = .ok (.getfield 68, 3) := by decide +kernel
theorem dX4_classOf_17 : decode cX4_classOf 17 = .ok (.iload_n 1, 1) := by decide +kernel
theorem dX4_classOf_18 : decode cX4_classOf 18 = .ok (.iaload, 1) := by decide +kernel
theorem dX4_classOf_19 : decode cX4_classOf 19 = .ok (.ireturn, 1) := by decide +kernel
set_option maxRecDepth 20000 in
theorem ggX4_build_X4_depthOf : GoodIn wsX4_build wsX4_depthOf := goodIn_r _ [7] (by decide +kernel) (by decide +kernel)
set_option maxRecDepth 20000 in
theorem gX4_build_X4_depthOf : GoodIn wsX4_build (va_wsS RX4 162 yX4_depthOf wsX4_depthOf) := goodIn_app (goodIn_of _ (by decide +kernel)) ggX4_build_X4_depthOf
set_option maxRecDepth 20000 in
theorem ggX4_build_X4_choose : GoodIn wsX4_build wsX4_choose := goodIn_r _ [11, 1, 12, 13, 14, 15, 6, 16, 17, 18, 19, 20, 21, 22, 23, 24, 25, 26, 27, 28, 29, 30, 31, 32, 33, 34, 35, 36, 37, 38, 39, 40, 41, 42, 43, 44, 45, 46, 47, 48, 49, 50, 51, 52, 53, 54, 55, 56, 57, 75, 76, 77, 78, 79, 80, 81, 82, 83, 84, 85, 86, 87, 88, 89, 90, 91, 92, 93, 94, 95, 96, 97, 98, 99, 100, 101, 102, 103, 104, 105, 106, 107] (by decide +kernel) (by decide +kernel)
set_option maxRecDepth 20000 in
theorem gX4_build_X4_choose : GoodIn wsX4_build (wsV RX4 165 RX4 yX4_choose wsX4_choose) := goodIn_app (goodIn_of _ (by decide +kernel)) ggX4_build_X4_choose
set_option maxRecDepth 20000 in
theorem ggX4_build_X4_equal : GoodIn wsX4_build wsX4_equal := goodIn_r _ [61, 1, 12, 62, 63, 64, 6, 65, 3, 75, 76, 77, 78, 79, 80, 81, 82, 83, 84, 85, 86, 87, 88, 89, 90, 91, 92, 93, 94, 95, 96, 97, 98, 99, 100, 101, 102, 103, 104, 105, 106, 107] (by decide +kernel) (by decide +kernel)
set_option maxRecDepth 20000 in
theorem gX4_build_X4_equal : GoodIn wsX4_build (wsV RX4 169 RX4 yX4_equal wsX4_equal) := goodIn_app (goodIn_of _ (by decide +kernel)) ggX4_build_X4_equal
set_option maxRecDepth 20000 in
theorem ggX4_build_X4_number : GoodIn wsX4_build wsX4_number := goodIn_r _ [69, 70, 71, 3, 1, 2, 72, 12, 73, 74, 75, 76, 77, 78, 79, 80, 81, 82, 83, 84, 85, 86, 87, 88, 89, 90, 91, 92, 93, 94, 95, 96, 97, 98, 99, 100, 101, 102, 103, 104, 105, 106, 107] (by decide +kernel) (by decide +kernel)
set_option maxRecDepth 20000 in
theorem gX4_build_X4_number : GoodIn wsX4_build (wsV RX4 172 RX4 yX4_number wsX4_number) := goodIn_app (goodIn_of _ (by decide +kernel)) ggX4_build_X4_number
theorem dX4_build_0 : decode cX4_build 0 = .ok (.aload_n 0, 1) := by decide +kernel
theorem dX4_build_1 : decode cX4_build 1 = .ok (.getfield 62, 3) := by decide +kernel
theorem dX4_build_4 : decode cX4_build 4 = .ok (.iconst 1, 1) := by decide +kernel
theorem dX4_build_5 : decode cX4_build 5 = .ok (.iload_n 1, 1) := by decide +kernel
theorem dX4_build_6 : decode cX4_build 6 = .ok (.iastore, 1) := by decide +kernel
theorem dX4_build_7 : decode cX4_build 7 = .ok (.iconst 1, 1) := by decide +kernel
theorem dX4_build_8 : decode cX4_build 8 = .ok (.istore_n 3, 1) := by decide +kernel
theorem dX4_build_9 : decode cX4_build 9 = .ok (.iload_n 3, 1) := by decide +kernel
theorem dX4_build_10 : decode cX4_build 10 = .ok (.bipush 32, 2) := by decide +kernel
end
section
theorem dX4_build_12 : decode cX4_build 12 = .ok (.if_icmp .ge 56, 3) := by decide +kernel
theorem dX4_build_15 : decode cX4_build 15 = .ok (.iload_n 3, 1) := by decide +kernel
theorem dX4_build_16 : decode cX4_build 16 = .ok (.invokestatic 162, 3) := by decide +kernel
theorem dX4_build_19 : decode cX4_build 19 = .ok (.iload_n 2, 1) := by decide +kernel
theorem dX4_build_20 : decode cX4_build 20 = .ok (.if_icmp .le 10, 3) := by decide +kernel
theorem dX4_build_23 : decode cX4_build 23 = .ok (.aload_n 0, 1) := by decide +kernel
theorem dX4_build_24 : decode cX4_build 24 = .ok (.getfield 62, 3) := by decide +kernel
theorem dX4_build_27 : decode cX4_build 27 = .ok (.iload_n 3, 1) := by decide +kernel
theorem dX4_build_28 : decode cX4_build 28 = .ok (.iconst 0, 1) := by decide +kernel
theorem dX4_build_29 : decode cX4_build 29 = .ok (.iastore, 1) := by decide +kernel
theorem dX4_build_30 : decode cX4_build 30 = .ok (.iload_n 3, 1) := by decide +kernel
theorem dX4_build_31 : decode cX4_build 31 = .ok (.bipush 32, 2) := by decide +kernel
theorem dX4_build_33 : decode cX4_build 33 = .ok (.if_icmp .ge 22, 3) := by decide +kernel
theorem dX4_build_36 : decode cX4_build 36 = .ok (.iload_n 3, 1) := by decide +kernel
theorem dX4_build_37 : decode cX4_build 37 = .ok (.invokestatic 162, 3) := by decide +kernel
theorem dX4_build_40 : decode cX4_build 40 = .ok (.iload_n 2, 1) := by decide +kernel
theorem dX4_build_41 : decode cX4_build 41 = .ok (.if_icmp .gt 14, 3) := by decide +kernel
theorem dX4_build_44 : decode cX4_build 44 = .ok (.aload_n 0, 1) := by decide +kernel
theorem dX4_build_45 : decode cX4_build 45 = .ok (.iload_n 3, 1) := by decide +kernel
theorem dX4_build_46 : decode cX4_build 46 = .ok (.iload_n 2, 1) := by decide +kernel
theorem dX4_build_47 : decode cX4_build 47 = .ok (.iload_n 3, 1) := by decide +kernel
theorem dX4_build_48 : decode cX4_build 48 = .ok (.invokestatic 162, 3) := by decide +kernel
theorem dX4_build_51 : decode cX4_build 51 = .ok (.isub, 1) := by decide +kernel
theorem dX4_build_52 : decode cX4_build 52 = .ok (.invokevirtual 165, 3) := by decide +kernel
theorem dX4_build_55 : decode cX4_build 55 = .ok (.aload_n 0, 1) := by decide +kernel
theorem dX4_build_56 : decode cX4_build 56 = .ok (.getfield 71, 3) := by decide +kernel
theorem dX4_build_59 : decode cX4_build 59 = .ok (.iload_n 3, 1) := by decide +kernel
theorem dX4_build_60 : decode cX4_build 60 = .ok (.iconst (-1), 1) := by decide +kernel
theorem dX4_build_61 : decode cX4_build 61 = .ok (.iastore, 1) := by decide +kernel
theorem dX4_build_62 : decode cX4_build 62 = .ok (.iinc 3 1, 3) := by decide +kernel
theorem dX4_build_65 : decode cX4_build 65 = .ok (.goto (-56), 3) := by decide +kernel
theorem dX4_build_68 : decode cX4_build 68 = .ok (.bipush 31, 2) := by decide +kernel
theorem dX4_build_70 : decode cX4_build 70 = .ok (.istore_n 3, 1) := by decide +kernel
theorem dX4_build_71 : decode cX4_build 71 = .ok (.iload_n 3, 1) := by decide +kernel
theorem dX4_build_72 : decode cX4_build 72 = .ok (.ifCond .le 81, 3) := by decide +kernel
theorem dX4_build_75 : decode cX4_build 75 = .ok (.aload_n 0, 1) := by decide +kernel
theorem dX4_build_76 : decode cX4_build 76 = .ok (.getfield 68, 3) := by decide +kernel
theorem dX4_build_79 : decode cX4_build 79 = .ok (.iload_n 3, 1) := by decide +kernel
theorem dX4_build_80 : decode cX4_build 80 = .ok (.iload_n 3, 1) := by decide +kernel
theorem dX4_build_81 : decode cX4_build 81 = .ok (.iastore, 1) := by decide +kernel
theorem dX4_build_82 : decode cX4_build 82 = .ok (.bipush 31, 2) := by decide +kernel
theorem dX4_build_84 : decode cX4_build 84 = .ok (.istore 4, 2) := by decide +kernel
theorem dX4_build_86 : decode cX4_build 86 = .ok (.iload 4, 2) := by decide +kernel
theorem dX4_build_88 : decode cX4_build 88 = .ok (.iload_n 3, 1) := by decide +kernel
theorem dX4_build_89 : decode cX4_build 89 = .ok (.if_icmp .le 58, 3) := by decide +kernel
theorem dX4_build_92 : decode cX4_build 92 = .ok (.aload_n 0, 1) := by decide +kernel
theorem dX4_build_93 : decode cX4_build 93 = .ok (.getfield 62, 3) := by decide +kernel
theorem dX4_build_96 : decode cX4_build 96 = .ok (.iload_n 3, 1) := by decide +kernel
theorem dX4_build_97 : decode cX4_build 97 = .ok (.iaload, 1) := by decide +kernel
theorem dX4_build_98 : decode cX4_build 98 = .ok (.ifCond .le 43, 3) := by decide +kernel
theorem dX4_build_101 : decode cX4_build 101 = .ok (.aload_n 0, 1) := by decide +kernel
theorem dX4_build_102 : decode cX4_build 102 = .ok (.getfield 62, 3) := by decide +kernel
theorem dX4_build_105 : decode cX4_build 105 = .ok (.iload 4, 2) := by decide +kernel
theorem dX4_build_107 : decode cX4_build 107 = .ok (.iaload, 1) := by decide +kernel
theorem dX4_build_108 : decode cX4_build 108 = .ok (.ifCond .le 33, 3) := by decide +kernel
theorem dX4_build_111 : decode cX4_build 111 = .ok (.aload_n 0, 1) := by decide +kernel
theorem dX4_build_112 : decode cX4_build 112 = .ok (.getfield 68, 3) := by decide +kernel
theorem dX4_build_115 : decode cX4_build 115 = .ok (.iload 4, 2) := by decide +kernel
theorem dX4_build_117 : decode cX4_build 117 = .ok (.iaload, 1) := by decide +kernel
theorem dX4_build_118 : decode cX4_build 118 = .ok (.iload 4, 2) := by decide +kernel
theorem dX4_build_120 : decode cX4_build 120 = .ok (.if_icmp .ne 21, 3) := by decide +kernel
theorem dX4_build_123 : decode cX4_build 123 = .ok (.aload_n 0, 1) := by decide +kernel
theorem dX4_build_124 : decode cX4_build 124 = .ok (.iload_n 3, 1) := by decide +kernel
theorem dX4_build_125 : decode cX4_build 125 = .ok (.iload 4, 2) := by decide +kernel
theorem dX4_build_127 : decode cX4_build 127 = .ok (.invokevirtual 169, 3) := by decide +kernel
theorem dX4_build_130 : decode cX4_build 130 = .ok (.ifCond .eq 11, 3) := by decide +kernel
theorem dX4_build_133 : decode cX4_build 133 = .ok (.aload_n 0, 1) := by decide +kernel
theorem dX4_build_134 : decode cX4_build 134 = .ok (.getfield 68, 3) := by decide +kernel
theorem dX4_build_137 : decode cX4_build 137 = .ok (.iload_n 3, 1) := by decide +kernel
theorem dX4_build_138 : decode cX4_build 138 = .ok (.iload 4, 2) := by decide +kernel
theorem dX4_build_140 : decode cX4_build 140 = .ok (.iastore, 1) := by decide +kernel
theorem dX4_build_141 : decode cX4_build 141 = .ok (.iinc 4 (-1), 3) := by decide +kernel
theorem dX4_build_144 : decode cX4_build 144 = .ok (.goto (-58), 3) := by decide +kernel
theorem dX4_build_147 : decode cX4_build 147 = .ok (.iinc 3 (-1), 3) := by decide +kernel
theorem dX4_build_150 : decode cX4_build 150 = .ok (.goto (-79), 3) := by decide +kernel
theorem dX4_build_153 : decode cX4_build 153 = .ok (.aload_n 0, 1) := by decide +kernel
theorem dX4_build_154 : decode cX4_build 154 = .ok (.invokevirtual 172, 3) := by decide +kernel
theorem dX4_build_157 : decode cX4_build 157 = .ok (.return_, 1) := by decide +kernel
theorem dX4_number_0 : decode cX4_number 0 = .ok (.aload_n 0, 1) := by decide +kernel
theorem dX4_number_1 : decode cX4_number 1 = .ok (.iconst 0, 1) := by decide +kernel
theorem dX4_number_2 : decode cX4_number 2 = .ok (.putfield 109, 3) := by decide +kernel
theorem dX4_number_5 : decode cX4_number 5 = .ok (.iconst 1, 1) := by decide +kernel
theorem dX4_number_6 : decode cX4_number 6 = .ok (.istore_n 1, 1) := by decide +kernel
theorem dX4_number_7 : decode cX4_number 7 = .ok (.aload_n 0, 1) := by decide +kernel
theorem dX4_number_8 : decode cX4_number 8 = .ok (.getfield 74, 3) := by decide +kernel
theorem dX4_number_11 : decode cX4_number 11 = .ok (.iconst 0, 1) := by decide +kernel
theorem dX4_number_12 : decode cX4_number 12 = .ok (.iconst 1, 1) := by decide +kernel
theorem dX4_number_13 : decode cX4_number 13 = .ok (.iastore, 1) := by decide +kernel
theorem dX4_number_14 : decode cX4_number 14 = .ok (.iload_n 1, 1) := by decide +kernel
theorem dX4_number_15 : decode cX4_number 15 = .ok (.ifCond .le 120, 3) := by decide +kernel
theorem dX4_number_18 : decode cX4_number 18 = .ok (.iinc 1 (-1), 3) := by decide +kernel
theorem dX4_number_21 : decode cX4_number 21 = .ok (.aload_n 0, 1) := by decide +kernel
theorem dX4_number_22 : decode cX4_number 22 = .ok (.getfield 74, 3) := by decide +kernel
theorem dX4_number_25 : decode cX4_number 25 = .ok (.iload_n 1, 1) := by decide +kernel
theorem dX4_number_26 : decode cX4_number 26 = .ok (.iaload, 1) := by decide +kernel
theorem dX4_number_27 : decode cX4_number 27 = .ok (.istore_n 2, 1) := by decide +kernel
theorem dX4_number_28 : decode cX4_number 28 = .ok (.aload_n 0, 1) := by decide +kernel
theorem dX4_number_29 : decode cX4_number 29 = .ok (.getfield 68, 3) := by decide +kernel
theorem dX4_number_32 : decode cX4_number 32 = .ok (.iload_n 2, 1) := by decide +kernel
theorem dX4_number_33 : decode cX4_number 33 = .ok (.iaload, 1) := by decide +kernel
theorem dX4_number_34 : decode cX4_number 34 = .ok (.istore_n 3, 1) := by decide +kernel
theorem dX4_number_35 : decode cX4_number 35 = .ok (.aload_n 0, 1) := by decide +kernel
theorem dX4_number_36 : decode cX4_number 36 = .ok (.getfield 62, 3) := by decide +kernel
theorem dX4_number_39 : decode cX4_number 39 = .ok (.iload_n 2, 1) := by decide +kernel
theorem dX4_number_40 : decode cX4_number 40 = .ok (.iaload, 1) := by decide +kernel
theorem dX4_number_41 : decode cX4_number 41 = .ok (.ifCond .le 91, 3) := by decide +kernel
theorem dX4_number_44 : decode cX4_number 44 = .ok (.aload_n 0, 1) := by decide +kernel
theorem dX4_number_45 : decode cX4_number 45 = .ok (.getfield 71, 3) := by decide +kernel
theorem dX4_number_48 : decode cX4_number 48 = .ok (.iload_n 3, 1) := by decide +kernel
theorem dX4_number_49 : decode cX4_number 49 = .ok (.iaload, 1) := by decide +kernel
theorem dX4_number_50 : decode cX4_number 50 = .ok (.ifCond .ge 82, 3) := by decide +kernel
theorem dX4_number_53 : decode cX4_number 53 = .ok (.aload_n 0, 1) := by decide +kernel
theorem dX4_number_54 : decode cX4_number 54 = .ok (.getfield 71, 3) := by decide +kernel
theorem dX4_number_57 : decode cX4_number 57 = .ok (.iload_n 3, 1) := by decide +kernel
theorem dX4_number_58 : decode cX4_number 58 = .ok (.aload_n 0, 1) := by decide +kernel
theorem dX4_number_59 : decode cX4_number 59 = .ok (.getfield 109, 3) := by decide +kernel
theorem dX4_number_62 : decode cX4_number 62 = .ok (.iastore, 1) := by decide +kernel
theorem dX4_number_63 : decode cX4_number 63 = .ok (.aload_n 0, 1) := by decide +kernel
theorem dX4_number_64 : decode cX4_number 64 = .ok (.getfield 44, 3) := by decide +kernel
theorem dX4_number_67 : decode cX4_number 67 = .ok (.aload_n 0, 1) := by decide +kernel
theorem dX4_number_68 : decode cX4_number 68 = .ok (.getfield 109, 3) := by decide +kernel
theorem dX4_number_71 : decode cX4_number 71 = .ok (.aload_n 0, 1) := by decide +kernel
theorem dX4_number_72 : decode cX4_number 72 = .ok (.getfield 65, 3) := by decide +kernel
theorem dX4_number_75 : decode cX4_number 75 = .ok (.iload_n 2, 1) := by decide +kernel
theorem dX4_number_76 : decode cX4_number 76 = .ok (.iaload, 1) := by decide +kernel
theorem dX4_number_77 : decode cX4_number 77 = .ok (.iastore, 1) := by decide +kernel
theorem dX4_number_78 : decode cX4_number 78 = .ok (.aload_n 0, 1) := by decide +kernel
theorem dX4_number_79 : decode cX4_number 79 = .ok (.getfield 47, 3) := by decide +kernel
theorem dX4_number_82 : decode cX4_number 82 = .ok (.aload_n 0, 1) := by decide +kernel
theorem dX4_number_83 : decode cX4_number 83 = .ok (.getfield 109, 3) := by decide +kernel
theorem dX4_number_86 : decode cX4_number 86 = .ok (.iload_n 2, 1) := by decide +kernel
theorem dX4_number_87 : decode cX4_number 87 = .ok (.iastore, 1) := by decide +kernel
theorem dX4_number_88 : decode cX4_number 88 = .ok (.aload_n 0, 1) := by decide +kernel
theorem dX4_number_89 : decode cX4_number 89 = .ok (.dup, 1) := by decide +kernel
theorem dX4_number_90 : decode cX4_number 90 = .ok (.getfield 109, 3) := by decide +kernel
theorem dX4_number_93 : decode cX4_number 93 = .ok (.iconst 1, 1) := by decide +kernel
theorem dX4_number_94 : decode cX4_number 94 = .ok (.iadd, 1) := by decide +kernel
theorem dX4_number_95 : decode cX4_number 95 = .ok (.putfield 109, 3) := by decide +kernel
theorem dX4_number_98 : decode cX4_number 98 = .ok (.aload_n 0, 1) := by decide +kernel
theorem dX4_number_99 : decode cX4_number 99 = .ok (.getfield 65, 3) := by decide +kernel
theorem dX4_number_102 : decode cX4_number 102 = .ok (.iload_n 2, 1) := by decide +kernel
theorem dX4_number_103 : decode cX4_number 103 = .ok (.iaload, 1) := by decide +kernel
theorem dX4_number_104 : decode cX4_number 104 = .ok (.ifCond .lt 28, 3) := by decide +kernel
theorem dX4_number_107 : decode cX4_number 107 = .ok (.aload_n 0, 1) := by decide +kernel
theorem dX4_number_108 : decode cX4_number 108 = .ok (.getfield 74, 3) := by decide +kernel
theorem dX4_number_111 : decode cX4_number 111 = .ok (.iload_n 1, 1) := by decide +kernel
theorem dX4_number_112 : decode cX4_number 112 = .ok (.iconst 2, 1) := by decide +kernel
theorem dX4_number_113 : decode cX4_number 113 = .ok (.iload_n 2, 1) := by decide +kernel
theorem dX4_number_114 : decode cX4_number 114 = .ok (.imul, 1) := by decide +kernel
theorem dX4_number_115 : decode cX4_number 115 = .ok (.iconst 1, 1) := by decide +kernel
theorem dX4_number_116 : decode cX4_number 116 = .ok (.iadd, 1) := by decide +kernel
theorem dX4_number_117 : decode cX4_number 117 = .ok (.iastore, 1) := by decide +kernel
theorem dX4_number_118 : decode cX4_number 118 = .ok (.aload_n 0, 1) := by decide +kernel
theorem dX4_number_119 : decode cX4_number 119 = .ok (.getfield 74, 3) := by decide +kernel
theorem dX4_number_122 : decode cX4_number 122 = .ok (.iload_n 1, 1) := by decide +kernel
theorem dX4_number_123 : decode cX4_number 123 = .ok (.iconst 1, 1) := by decide +kernel
theorem dX4_number_124 : decode cX4_number 124 = .ok (.iadd, 1) := by decide +kernel
theorem dX4_number_125 : decode cX4_number 125 = .ok (.iconst 2, 1) := by decide +kernel
theorem dX4_number_126 : decode cX4_number 126 = .ok (.iload_n 2, 1) := by decide +kernel
theorem dX4_number_127 : decode cX4_number 127 = .ok (.imul, 1) := by decide +kernel
theorem dX4_number_128 : decode cX4_number 128 = .ok (.iastore, 1) := by decide +kernel
theorem dX4_number_129 : decode cX4_number 129 = .ok (.iinc 1 2, 3) := by decide +kernel
theorem dX4_number_132 : decode cX4_number 132 = .ok (.goto (-118), 3) := by decide +kernel
theorem dX4_number_135 : decode cX4_number 135 = .ok (.iconst 0, 1) := by decide +kernel
theorem dX4_number_136 : decode cX4_number 136 = .ok (.istore_n 2, 1) := by decide +kernel
theorem dX4_number_137 : decode cX4_number 137 = .ok (.iload_n 2, 1) := by decide +kernel
theorem dX4_number_138 : decode cX4_number 138 = .ok (.aload_n 0, 1) := by decide +kernel
theorem dX4_number_139 : decode cX4_number 139 = .ok (.getfield 109, 3) := by decide +kernel
theorem dX4_number_142 : decode cX4_number 142 = .ok (.if_icmp .ge 114, 3) := by decide +kernel
theorem dX4_number_145 : decode cX4_number 145 = .ok (.aload_n 0, 1) := by decide +kernel
theorem dX4_number_146 : decode cX4_number 146 = .ok (.getfield 47, 3) := by decide +kernel
theorem dX4_number_149 : decode cX4_number 149 = .ok (.iload_n 2, 1) := by decide +kernel
theorem dX4_number_150 : decode cX4_number 150 = .ok (.iaload, 1) := by decide +kernel
theorem dX4_number_151 : decode cX4_number 151 = .ok (.istore_n 3, 1) := by decide +kernel
theorem dX4_number_152 : decode cX4_number 152 = .ok (.aload_n 0, 1) := by decide +kernel
theorem dX4_number_153 : decode cX4_number 153 = .ok (.getfield 44, 3) := by decide +kernel
theorem dX4_number_156 : decode cX4_number 156 = .ok (.iload_n 2, 1) := by decide +kernel
theorem dX4_number_157 : decode cX4_number 157 = .ok (.iaload, 1) := by decide +kernel
theorem dX4_number_158 : decode cX4_number 158 = .ok (.ifCond .ge 7, 3) := by decide +kernel
theorem dX4_number_161 : decode cX4_number 161 = .ok (.iconst 1, 1) := by decide +kernel
theorem dX4_number_162 : decode cX4_number 162 = .ok (.goto 4, 3) := by decide +kernel
theorem dX4_number_165 : decode cX4_number 165 = .ok (.iconst 0, 1) := by decide +kernel
theorem dX4_number_166 : decode cX4_number 166 = .ok (.istore 4, 2) := by decide +kernel
theorem dX4_number_168 : decode cX4_number 168 = .ok (.aload_n 0, 1) := by decide +kernel
theorem dX4_number_169 : decode cX4_number 169 = .ok (.getfield 47, 3) := by decide +kernel
theorem dX4_number_172 : decode cX4_number 172 = .ok (.iload_n 2, 1) := by decide +kernel
theorem dX4_number_173 : decode cX4_number 173 = .ok (.iload 4, 2) := by decide +kernel
theorem dX4_number_175 : decode cX4_number 175 = .ok (.ifCond .ne 14, 3) := by decide +kernel
theorem dX4_number_178 : decode cX4_number 178 = .ok (.aload_n 0, 1) := by decide +kernel
theorem dX4_number_179 : decode cX4_number 179 = .ok (.getfield 62, 3) := by decide +kernel
theorem dX4_number_182 : decode cX4_number 182 = .ok (.iconst 2, 1) := by decide +kernel
theorem dX4_number_183 : decode cX4_number 183 = .ok (.iload_n 3, 1) := by decide +kernel
theorem dX4_number_184 : decode cX4_number 184 = .ok (.imul, 1) := by decide +kernel
theorem dX4_number_185 : decode cX4_number 185 = .ok (.iaload, 1) := by decide +kernel
theorem dX4_number_186 : decode cX4_number 186 = .ok (.ifCond .ne 7, 3) := by decide +kernel
theorem dX4_number_189 : decode cX4_number 189 = .ok (.iconst (-1), 1) := by decide +kernel
theorem dX4_number_190 : decode cX4_number 190 = .ok (.goto 16, 3) := by decide +kernel
theorem dX4_number_193 : decode cX4_number 193 = .ok (.aload_n 0, 1) := by decide +kernel
theorem dX4_number_194 : decode cX4_number 194 = .ok (.getfield 71, 3) := by decide +kernel
theorem dX4_number_197 : decode cX4_number 197 = .ok (.aload_n 0, 1) := by decide +kernel
theorem dX4_number_198 : decode cX4_number 198 = .ok (.getfield 68, 3) := by decide +kernel
theorem dX4_number_201 : decode cX4_number 201 = .ok (.iconst 2, 1) := by decide +kernel
theorem dX4_number_202 : decode cX4_number 202 = .ok (.iload_n 3, 1) := by decide +kernel
theorem dX4_number_203 : decode cX4_number 203 = .ok (.imul, 1) := by decide +kernel
theorem dX4_number_204 : decode cX4_number 204 = .ok (.iaload, 1) := by decide +kernel
theorem dX4_number_205 : decode cX4_number 205 = .ok (.iaload, 1) := by decide +kernel
theorem dX4_number_206 : decode cX4_number 206 = .ok (.iastore, 1) := by decide +kernel
theorem dX4_number_207 : decode cX4_number 207 = .ok (.aload_n 0, 1) := by decide +kernel
theorem dX4_number_208 : decode cX4_number 208 = .ok (.getfield 50, 3) := by decide +kernel
theorem dX4_number_211 : decode cX4_number 211 = .ok (.iload_n 2, 1) := by decide +kernel
theorem dX4_number_212 : decode cX4_number 212 = .ok (.iload 4, 2) := by decide +kernel
theorem dX4_number_214 : decode cX4_number 214 = .ok (.ifCond .ne 16, 3) := by decide +kernel
theorem dX4_number_217 : decode cX4_number 217 = .ok (.aload_n 0, 1) := by decide +kernel
theorem dX4_number_218 : decode cX4_number 218 = .ok (.getfield 62, 3) := by decide +kernel
theorem dX4_number_221 : decode cX4_number 221 = .ok (.iconst 2, 1) := by decide +kernel
theorem dX4_number_222 : decode cX4_number 222 = .ok (.iload_n 3, 1) := by decide +kernel
theorem dX4_number_223 : decode cX4_number 223 = .ok (.imul, 1) := by decide +kernel
theorem dX4_number_224 : decode cX4_number 224 = .ok (.iconst 1, 1) := by decide +kernel
theorem dX4_number_225 : decode cX4_number 225 = .ok (.iadd, 1) := by decide +kernel
theorem dX4_number_226 : decode cX4_number 226 = .ok (.iaload, 1) := by decide +kernel
theorem dX4_number_227 : decode cX4_number 227 = .ok (.ifCond .ne 7, 3) := by decide +kernel
theorem dX4_number_230 : decode cX4_number 230 = .ok (.iconst (-1), 1) := by decide +kernel
theorem dX4_number_231 : decode cX4_number 231 = .ok (.goto 18, 3) := by decide +kernel
theorem dX4_number_234 : decode cX4_number 234 = .ok (.aload_n 0, 1) := by decide +kernel
theorem dX4_number_235 : decode cX4_number 235 = .ok (.getfield 71, 3) := by decide +kernel
theorem dX4_number_238 : decode cX4_number 238 = .ok (.aload_n 0, 1) := by decide +kernel
theorem dX4_number_239 : decode cX4_number 239 = .ok (.getfield 68, 3) := by decide +kernel
theorem dX4_number_242 : decode cX4_number 242 = .ok (.iconst 2, 1) := by decide +kernel
theorem dX4_number_243 : decode cX4_number 243 = .ok (.iload_n 3, 1) := by decide +kernel
theorem dX4_number_244 : decode cX4_number 244 = .ok (.imul, 1) := by decide +kernel
theorem dX4_number_245 : decode cX4_number 245 = .ok (.iconst 1, 1) := by decide +kernel
theorem dX4_number_246 : decode cX4_number 246 = .ok (.iadd, 1) := by decide +kernel
theorem dX4_number_247 : decode cX4_number 247 = .ok (.iaload, 1) := by decide +kernel
theorem dX4_number_248 : decode cX4_number 248 = .ok (.iaload, 1) := by decide +kernel
theorem dX4_number_249 : decode cX4_number 249 = .ok (.iastore, 1) := by decide +kernel
theorem dX4_number_250 : decode cX4_number 250 = .ok (.iinc 2 1, 3) := by decide +kernel
theorem dX4_number_253 : decode cX4_number 253 = .ok (.goto (-116), 3) := by decide +kernel
theorem dX4_number_256 : decode cX4_number 256 = .ok (.return_, 1) := by decide +kernel
set_option maxRecDepth 20000 in
theorem ggX4_plan_X4_within : GoodIn wsX4_plan wsX4_within := goodIn_r _ [5] (by decide +kernel) (by decide +kernel)
set_option maxRecDepth 20000 in
theorem gX4_plan_X4_within : GoodIn wsX4_plan (va_wsS RX4 96 yX4_within wsX4_within) := goodIn_app (goodIn_of _ (by decide +kernel)) ggX4_plan_X4_within
set_option maxRecDepth 20000 in
theorem ggX4_plan_X4_fail : GoodIn wsX4_plan wsX4_fail := goodIn_r _ [9, 1, 98, 99, 100, 101, 102, 103, 104, 105, 106, 107, 108, 109, 110, 111, 112, 113, 114, 115, 116, 117, 118, 119, 120, 121, 122, 123, 124, 125, 126, 127, 128, 129, 130] (by decide +kernel) (by decide +kernel)
set_option maxRecDepth 20000 in
theorem gX4_plan_X4_fail : GoodIn wsX4_plan (wsV RX4 115 RX4 yX4_fail wsX4_fail) := goodIn_app (goodIn_of _ (by decide +kernel)) ggX4_plan_X4_fail
set_option maxRecDepth 20000 in
theorem ggX4_plan_X4_startBelief : GoodIn wsX4_plan wsX4_startBelief := goodIn_r _ [13, 14, 15, 16, 98, 99, 100, 101, 102, 103, 104, 105, 106, 107, 108, 109, 110, 111, 112, 113, 114, 115, 116, 117, 118, 119, 120, 121, 122, 123, 124, 125, 126, 127, 128, 129, 130] (by decide +kernel) (by decide +kernel)
set_option maxRecDepth 20000 in
theorem gX4_plan_X4_startBelief : GoodIn wsX4_plan (wsV RX4 126 RX4 yX4_startBelief wsX4_startBelief) := goodIn_app (goodIn_of _ (by decide +kernel)) ggX4_plan_X4_startBelief
set_option maxRecDepth 20000 in
theorem ggX4_plan_X4_leastFor : GoodIn wsX4_plan wsX4_leastFor := goodIn_r _ [20, 21, 22, 23, 4, 24, 25, 26, 27, 28, 29, 30, 31, 32, 33, 34, 35, 36, 37, 38, 39, 40, 41, 42, 43, 44, 45, 46, 47, 48, 49, 50, 51, 52, 53, 54, 55, 56, 57, 58, 59, 60, 61, 98, 99, 100, 101, 102, 103, 104, 105, 106, 107, 108, 109, 110, 111, 112, 113, 114, 115, 116, 117, 118, 119, 120, 121, 122, 123, 124, 125, 126, 127, 128, 129, 130] (by decide +kernel) (by decide +kernel)
set_option maxRecDepth 20000 in
theorem gX4_plan_X4_leastFor : GoodIn wsX4_plan (wsV RX4 152 RX4 yX4_leastFor wsX4_leastFor) := goodIn_app (goodIn_of _ (by decide +kernel)) ggX4_plan_X4_leastFor
set_option maxRecDepth 20000 in
theorem ggX4_plan_X4_build : GoodIn wsX4_plan wsX4_build := goodIn_r _ [65, 66, 67, 68, 69, 70, 4, 71, 72, 73, 74, 75, 76, 28, 29, 30, 31, 32, 33, 34, 35, 36, 37, 38, 39, 40, 41, 42, 43, 77, 78, 79, 80, 44, 45, 46, 47, 48, 49, 50, 51, 52, 53, 54, 55, 56, 57, 58, 59, 60, 61, 21, 22, 23, 24, 25, 26, 27, 81, 82, 83, 84, 85, 86, 87, 88, 89, 90, 91, 92, 93, 94, 95, 96, 97, 98, 99, 100, 101, 102, 103, 104, 105, 106, 107, 108, 109, 110, 111, 112, 113, 114, 115, 116, 117, 118, 119, 120, 121, 122, 123, 124, 125, 126, 127, 128, 129, 130] (by decide +kernel) (by decide +kernel)
set_option maxRecDepth 20000 in
theorem gX4_plan_X4_build : GoodIn wsX4_plan (wsV RX4 175 RX4 yX4_build wsX4_build) := goodIn_app (goodIn_of _ (by decide +kernel)) ggX4_plan_X4_build
theorem dX4_plan_0 : decode cX4_plan 0 = .ok (.aload_n 0, 1) := by decide +kernel
theorem dX4_plan_1 : decode cX4_plan 1 = .ok (.iconst 0, 1) := by decide +kernel
theorem dX4_plan_2 : decode cX4_plan 2 = .ok (.putfield 93, 3) := by decide +kernel
theorem dX4_plan_5 : decode cX4_plan 5 = .ok (.iload_n 1, 1) := by decide +kernel
theorem dX4_plan_6 : decode cX4_plan 6 = .ok (.iconst 0, 1) := by decide +kernel
theorem dX4_plan_7 : decode cX4_plan 7 = .ok (.iconst 4, 1) := by decide +kernel
theorem dX4_plan_8 : decode cX4_plan 8 = .ok (.invokestatic 96, 3) := by decide +kernel
theorem dX4_plan_11 : decode cX4_plan 11 = .ok (.ifCond .ne 9, 3) := by decide +kernel
theorem dX4_plan_14 : decode cX4_plan 14 = .ok (.aload_n 0, 1) := by decide +kernel
theorem dX4_plan_15 : decode cX4_plan 15 = .ok (.iconst 1, 1) := by decide +kernel
theorem dX4_plan_16 : decode cX4_plan 16 = .ok (.invokevirtual 115, 3) := by decide +kernel
theorem dX4_plan_19 : decode cX4_plan 19 = .ok (.ireturn, 1) := by decide +kernel
theorem dX4_plan_20 : decode cX4_plan 20 = .ok (.aload_n 0, 1) := by decide +kernel
theorem dX4_plan_21 : decode cX4_plan 21 = .ok (.invokevirtual 126, 3) := by decide +kernel
theorem dX4_plan_24 : decode cX4_plan 24 = .ok (.istore_n 2, 1) := by decide +kernel
theorem dX4_plan_25 : decode cX4_plan 25 = .ok (.iload_n 2, 1) := by decide +kernel
theorem dX4_plan_26 : decode cX4_plan 26 = .ok (.ifCond .ne 9, 3) := by decide +kernel
theorem dX4_plan_29 : decode cX4_plan 29 = .ok (.aload_n 0, 1) := by decide +kernel
theorem dX4_plan_30 : decode cX4_plan 30 = .ok (.iconst 2, 1) := by decide +kernel
theorem dX4_plan_31 : decode cX4_plan 31 = .ok (.invokevirtual 115, 3) := by decide +kernel
theorem dX4_plan_34 : decode cX4_plan 34 = .ok (.ireturn, 1) := by decide +kernel
theorem dX4_plan_35 : decode cX4_plan 35 = .ok (.aload_n 0, 1) := by decide +kernel
theorem dX4_plan_36 : decode cX4_plan 36 = .ok (.iload_n 2, 1) := by decide +kernel
theorem dX4_plan_37 : decode cX4_plan 37 = .ok (.iload_n 1, 1) := by decide +kernel
theorem dX4_plan_38 : decode cX4_plan 38 = .ok (.invokevirtual 152, 3) := by decide +kernel
theorem dX4_plan_41 : decode cX4_plan 41 = .ok (.istore_n 3, 1) := by decide +kernel
theorem dX4_plan_42 : decode cX4_plan 42 = .ok (.iload_n 3, 1) := by decide +kernel
theorem dX4_plan_43 : decode cX4_plan 43 = .ok (.ifCond .ge 9, 3) := by decide +kernel
theorem dX4_plan_46 : decode cX4_plan 46 = .ok (.aload_n 0, 1) := by decide +kernel
theorem dX4_plan_47 : decode cX4_plan 47 = .ok (.iconst 3, 1) := by decide +kernel
theorem dX4_plan_48 : decode cX4_plan 48 = .ok (.invokevirtual 115, 3) := by decide +kernel
theorem dX4_plan_51 : decode cX4_plan 51 = .ok (.ireturn, 1) := by decide +kernel
theorem dX4_plan_52 : decode cX4_plan 52 = .ok (.aload_n 0, 1) := by decide +kernel
theorem dX4_plan_53 : decode cX4_plan 53 = .ok (.iload_n 2, 1) := by decide +kernel
theorem dX4_plan_54 : decode cX4_plan 54 = .ok (.iload_n 3, 1) := by decide +kernel
theorem dX4_plan_55 : decode cX4_plan 55 = .ok (.invokevirtual 175, 3) := by decide +kernel
theorem dX4_plan_58 : decode cX4_plan 58 = .ok (.iload_n 3, 1) := by decide +kernel
theorem dX4_plan_59 : decode cX4_plan 59 = .ok (.ireturn, 1) := by decide +kernel
theorem dX4_nodes_0 : decode cX4_nodes 0 = .ok (.aload_n 0, 1) := by decide +kernel
theorem dX4_nodes_1 : decode cX4_nodes 1 = .ok (.iconst 0, 1) := by decide +kernel
theorem dX4_nodes_2 : decode cX4_nodes 2 = .ok (.putfield 93, 3) := by decide +kernel
theorem dX4_nodes_5 : decode cX4_nodes 5 = .ok (.aload_n 0, 1) := by decide +kernel
theorem dX4_nodes_6 : decode cX4_nodes 6 = .ok (.getfield 109, 3) := by decide +kernel
theorem dX4_nodes_9 : decode cX4_nodes 9 = .ok (.ireturn, 1) := by decide +kernel
set_option maxRecDepth 20000 in
theorem ggX4_node_X4_within : GoodIn wsX4_node wsX4_within := goodIn_r _ [9] (by decide +kernel) (by decide +kernel)
set_option maxRecDepth 20000 in
theorem gX4_node_X4_within : GoodIn wsX4_node (va_wsS RX4 96 yX4_within wsX4_within) := goodIn_app (goodIn_of _ (by decide +kernel)) ggX4_node_X4_within
set_option maxRecDepth 20000 in
theorem ggX4_node_X4_fail : GoodIn wsX4_node wsX4_fail := goodIn_r _ [13, 1, 14, 15, 16, 17, 18, 19, 20, 21, 22, 23, 24, 25, 26, 27, 28, 29, 30, 31, 32, 33, 34, 35, 36, 37, 38, 39, 40, 41, 42, 43, 44, 45, 46] (by decide +kernel) (by decide +kernel)
set_option maxRecDepth 20000 in
theorem gX4_node_X4_fail : GoodIn wsX4_node (wsV RX4 115 RX4 yX4_fail wsX4_fail) := goodIn_app (goodIn_of _ (by decide +kernel)) ggX4_node_X4_fail
theorem dX4_node_0 : decode cX4_node 0 = .ok (.aload_n 0, 1) := by decide +kernel
theorem dX4_node_1 : decode cX4_node 1 = .ok (.iconst 0, 1) := by decide +kernel
theorem dX4_node_2 : decode cX4_node 2 = .ok (.putfield 93, 3) := by decide +kernel
theorem dX4_node_5 : decode cX4_node 5 = .ok (.iload_n 1, 1) := by decide +kernel
theorem dX4_node_6 : decode cX4_node 6 = .ok (.iconst 0, 1) := by decide +kernel
theorem dX4_node_7 : decode cX4_node 7 = .ok (.aload_n 0, 1) := by decide +kernel
theorem dX4_node_8 : decode cX4_node 8 = .ok (.getfield 109, 3) := by decide +kernel
theorem dX4_node_11 : decode cX4_node 11 = .ok (.iconst 1, 1) := by decide +kernel
theorem dX4_node_12 : decode cX4_node 12 = .ok (.isub, 1) := by decide +kernel
theorem dX4_node_13 : decode cX4_node 13 = .ok (.invokestatic 96, 3) := by decide +kernel
theorem dX4_node_16 : decode cX4_node 16 = .ok (.ifCond .eq 12, 3) := by decide +kernel
theorem dX4_node_19 : decode cX4_node 19 = .ok (.iload_n 2, 1) := by decide +kernel
theorem dX4_node_20 : decode cX4_node 20 = .ok (.iconst 0, 1) := by decide +kernel
theorem dX4_node_21 : decode cX4_node 21 = .ok (.iconst 2, 1) := by decide +kernel
theorem dX4_node_22 : decode cX4_node 22 = .ok (.invokestatic 96, 3) := by decide +kernel
theorem dX4_node_25 : decode cX4_node 25 = .ok (.ifCond .ne 9, 3) := by decide +kernel
theorem dX4_node_28 : decode cX4_node 28 = .ok (.aload_n 0, 1) := by decide +kernel
theorem dX4_node_29 : decode cX4_node 29 = .ok (.iconst 1, 1) := by decide +kernel
theorem dX4_node_30 : decode cX4_node 30 = .ok (.invokevirtual 115, 3) := by decide +kernel
theorem dX4_node_33 : decode cX4_node 33 = .ok (.ireturn, 1) := by decide +kernel
theorem dX4_node_34 : decode cX4_node 34 = .ok (.iload_n 2, 1) := by decide +kernel
theorem dX4_node_35 : decode cX4_node 35 = .ok (.ifCond .ne 12, 3) := by decide +kernel
theorem dX4_node_38 : decode cX4_node 38 = .ok (.aload_n 0, 1) := by decide +kernel
theorem dX4_node_39 : decode cX4_node 39 = .ok (.getfield 44, 3) := by decide +kernel
theorem dX4_node_42 : decode cX4_node 42 = .ok (.iload_n 1, 1) := by decide +kernel
theorem dX4_node_43 : decode cX4_node 43 = .ok (.iaload, 1) := by decide +kernel
theorem dX4_node_44 : decode cX4_node 44 = .ok (.goto 23, 3) := by decide +kernel
theorem dX4_node_47 : decode cX4_node 47 = .ok (.iload_n 2, 1) := by decide +kernel
theorem dX4_node_48 : decode cX4_node 48 = .ok (.iconst 1, 1) := by decide +kernel
theorem dX4_node_49 : decode cX4_node 49 = .ok (.if_icmp .ne 12, 3) := by decide +kernel
theorem dX4_node_52 : decode cX4_node 52 = .ok (.aload_n 0, 1) := by decide +kernel
theorem dX4_node_53 : decode cX4_node 53 = .ok (.getfield 47, 3) := by decide +kernel
theorem dX4_node_56 : decode cX4_node 56 = .ok (.iload_n 1, 1) := by decide +kernel
theorem dX4_node_57 : decode cX4_node 57 = .ok (.iaload, 1) := by decide +kernel
theorem dX4_node_58 : decode cX4_node 58 = .ok (.goto 9, 3) := by decide +kernel
theorem dX4_node_61 : decode cX4_node 61 = .ok (.aload_n 0, 1) := by decide +kernel
theorem dX4_node_62 : decode cX4_node 62 = .ok (.getfield 50, 3) := by decide +kernel
theorem dX4_node_65 : decode cX4_node 65 = .ok (.iload_n 1, 1) := by decide +kernel
theorem dX4_node_66 : decode cX4_node 66 = .ok (.iaload, 1) := by decide +kernel
theorem dX4_node_67 : decode cX4_node 67 = .ok (.ireturn, 1) := by decide +kernel
set_option maxRecDepth 20000 in
theorem ggX4_edit_X4_within : GoodIn wsX4_edit wsX4_within := goodIn_r _ [8] (by decide +kernel) (by decide +kernel)
set_option maxRecDepth 20000 in
theorem gX4_edit_X4_within : GoodIn wsX4_edit (va_wsS RX4 96 yX4_within wsX4_within) := goodIn_app (goodIn_of _ (by decide +kernel)) ggX4_edit_X4_within
set_option maxRecDepth 20000 in
theorem ggX4_edit_X4_fail : GoodIn wsX4_edit wsX4_fail := goodIn_r _ [12, 1, 13, 14, 15, 16, 17, 18, 19, 20, 21, 22, 23, 24, 25, 26, 27, 28, 29, 30, 31, 32, 33, 34, 35, 36, 37, 38, 39, 40, 41, 42, 43, 44, 45] (by decide +kernel) (by decide +kernel)
set_option maxRecDepth 20000 in
theorem gX4_edit_X4_fail : GoodIn wsX4_edit (wsV RX4 115 RX4 yX4_fail wsX4_fail) := goodIn_app (goodIn_of _ (by decide +kernel)) ggX4_edit_X4_fail
theorem dX4_edit_0 : decode cX4_edit 0 = .ok (.aload_n 0, 1) := by decide +kernel
theorem dX4_edit_1 : decode cX4_edit 1 = .ok (.iconst 0, 1) := by decide +kernel
theorem dX4_edit_2 : decode cX4_edit 2 = .ok (.putfield 93, 3) := by decide +kernel
theorem dX4_edit_5 : decode cX4_edit 5 = .ok (.iload_n 1, 1) := by decide +kernel
theorem dX4_edit_6 : decode cX4_edit 6 = .ok (.iconst 0, 1) := by decide +kernel
theorem dX4_edit_7 : decode cX4_edit 7 = .ok (.aload_n 0, 1) := by decide +kernel
theorem dX4_edit_8 : decode cX4_edit 8 = .ok (.getfield 109, 3) := by decide +kernel
theorem dX4_edit_11 : decode cX4_edit 11 = .ok (.iconst 1, 1) := by decide +kernel
theorem dX4_edit_12 : decode cX4_edit 12 = .ok (.isub, 1) := by decide +kernel
theorem dX4_edit_13 : decode cX4_edit 13 = .ok (.invokestatic 96, 3) := by decide +kernel
theorem dX4_edit_16 : decode cX4_edit 16 = .ok (.ifCond .eq 13, 3) := by decide +kernel
theorem dX4_edit_19 : decode cX4_edit 19 = .ok (.iload_n 2, 1) := by decide +kernel
theorem dX4_edit_20 : decode cX4_edit 20 = .ok (.iconst 0, 1) := by decide +kernel
theorem dX4_edit_21 : decode cX4_edit 21 = .ok (.bipush 7, 2) := by decide +kernel
theorem dX4_edit_23 : decode cX4_edit 23 = .ok (.invokestatic 96, 3) := by decide +kernel
theorem dX4_edit_26 : decode cX4_edit 26 = .ok (.ifCond .ne 9, 3) := by decide +kernel
theorem dX4_edit_29 : decode cX4_edit 29 = .ok (.aload_n 0, 1) := by decide +kernel
theorem dX4_edit_30 : decode cX4_edit 30 = .ok (.iconst 1, 1) := by decide +kernel
theorem dX4_edit_31 : decode cX4_edit 31 = .ok (.invokevirtual 115, 3) := by decide +kernel
theorem dX4_edit_34 : decode cX4_edit 34 = .ok (.ireturn, 1) := by decide +kernel
theorem dX4_edit_35 : decode cX4_edit 35 = .ok (.aload_n 0, 1) := by decide +kernel
theorem dX4_edit_36 : decode cX4_edit 36 = .ok (.getfield 7, 3) := by decide +kernel
theorem dX4_edit_39 : decode cX4_edit 39 = .ok (.iload_n 2, 1) := by decide +kernel
theorem dX4_edit_40 : decode cX4_edit 40 = .ok (.baload, 1) := by decide +kernel
theorem dX4_edit_41 : decode cX4_edit 41 = .ok (.ifCond .ne 9, 3) := by decide +kernel
theorem dX4_edit_44 : decode cX4_edit 44 = .ok (.aload_n 0, 1) := by decide +kernel
theorem dX4_edit_45 : decode cX4_edit 45 = .ok (.iconst 2, 1) := by decide +kernel
theorem dX4_edit_46 : decode cX4_edit 46 = .ok (.invokevirtual 115, 3) := by decide +kernel
theorem dX4_edit_49 : decode cX4_edit 49 = .ok (.ireturn, 1) := by decide +kernel
theorem dX4_edit_50 : decode cX4_edit 50 = .ok (.aload_n 0, 1) := by decide +kernel
theorem dX4_edit_51 : decode cX4_edit 51 = .ok (.getfield 44, 3) := by decide +kernel
theorem dX4_edit_54 : decode cX4_edit 54 = .ok (.iload_n 1, 1) := by decide +kernel
theorem dX4_edit_55 : decode cX4_edit 55 = .ok (.iaload, 1) := by decide +kernel
theorem dX4_edit_56 : decode cX4_edit 56 = .ok (.ifCond .ge 9, 3) := by decide +kernel
theorem dX4_edit_59 : decode cX4_edit 59 = .ok (.aload_n 0, 1) := by decide +kernel
theorem dX4_edit_60 : decode cX4_edit 60 = .ok (.iconst 3, 1) := by decide +kernel
theorem dX4_edit_61 : decode cX4_edit 61 = .ok (.invokevirtual 115, 3) := by decide +kernel
theorem dX4_edit_64 : decode cX4_edit 64 = .ok (.ireturn, 1) := by decide +kernel
theorem dX4_edit_65 : decode cX4_edit 65 = .ok (.aload_n 0, 1) := by decide +kernel
theorem dX4_edit_66 : decode cX4_edit 66 = .ok (.getfield 44, 3) := by decide +kernel
theorem dX4_edit_69 : decode cX4_edit 69 = .ok (.iload_n 1, 1) := by decide +kernel
theorem dX4_edit_70 : decode cX4_edit 70 = .ok (.iaload, 1) := by decide +kernel
theorem dX4_edit_71 : decode cX4_edit 71 = .ok (.istore_n 3, 1) := by decide +kernel
theorem dX4_edit_72 : decode cX4_edit 72 = .ok (.aload_n 0, 1) := by decide +kernel
theorem dX4_edit_73 : decode cX4_edit 73 = .ok (.getfield 44, 3) := by decide +kernel
theorem dX4_edit_76 : decode cX4_edit 76 = .ok (.iload_n 1, 1) := by decide +kernel
theorem dX4_edit_77 : decode cX4_edit 77 = .ok (.iload_n 2, 1) := by decide +kernel
theorem dX4_edit_78 : decode cX4_edit 78 = .ok (.iastore, 1) := by decide +kernel
theorem dX4_edit_79 : decode cX4_edit 79 = .ok (.iload_n 3, 1) := by decide +kernel
theorem dX4_edit_80 : decode cX4_edit 80 = .ok (.ireturn, 1) := by decide +kernel
set_option maxRecDepth 20000 in
theorem ggX4_right_X4_fail : GoodIn wsX4_right wsX4_fail := goodIn_r _ [12, 1, 54, 55, 56, 57, 58, 59, 60, 61, 62, 63, 64, 65, 66, 67, 68, 69, 70, 71, 72, 73, 74, 75, 76, 77, 78, 79, 80, 81, 82, 83, 84, 85, 86] (by decide +kernel) (by decide +kernel)
set_option maxRecDepth 20000 in
theorem gX4_right_X4_fail : GoodIn wsX4_right (wsV RX4 115 RX4 yX4_fail wsX4_fail) := goodIn_app (goodIn_of _ (by decide +kernel)) ggX4_right_X4_fail
set_option maxRecDepth 20000 in
theorem ggX4_right_X4_startBelief : GoodIn wsX4_right wsX4_startBelief := goodIn_r _ [16, 17, 18, 19, 54, 55, 56, 57, 58, 59, 60, 61, 62, 63, 64, 65, 66, 67, 68, 69, 70, 71, 72, 73, 74, 75, 76, 77, 78, 79, 80, 81, 82, 83, 84, 85, 86] (by decide +kernel) (by decide +kernel)
set_option maxRecDepth 20000 in
theorem gX4_right_X4_startBelief : GoodIn wsX4_right (wsV RX4 126 RX4 yX4_startBelief wsX4_startBelief) := goodIn_app (goodIn_of _ (by decide +kernel)) ggX4_right_X4_startBelief
set_option maxRecDepth 20000 in
theorem ggX4_right_X4_reached : GoodIn wsX4_right wsX4_reached := goodIn_r _ [23, 24, 25, 26, 27, 11, 28, 54, 55, 56, 57, 58, 59, 60, 61, 62, 63, 64, 65, 66, 67, 68, 69, 70, 71, 72, 73, 74, 75, 76, 77, 78, 79, 80, 81, 82, 83, 84, 85, 86] (by decide +kernel) (by decide +kernel)
set_option maxRecDepth 20000 in
theorem gX4_right_X4_reached : GoodIn wsX4_right (wsV RX4 141 RX4 yX4_reached wsX4_reached) := goodIn_app (goodIn_of _ (by decide +kernel)) ggX4_right_X4_reached
set_option maxRecDepth 20000 in
theorem ggX4_right_X4_usable : GoodIn wsX4_right wsX4_usable := goodIn_r _ [32, 33, 34, 35, 26, 27, 11, 28, 54, 55, 56, 57, 58, 59, 60, 61, 62, 63, 64, 65, 66, 67, 68, 69, 70, 71, 72, 73, 74, 75, 76, 77, 78, 79, 80, 81, 82, 83, 84, 85, 86] (by decide +kernel) (by decide +kernel)
set_option maxRecDepth 20000 in
theorem gX4_right_X4_usable : GoodIn wsX4_right (wsV RX4 138 RX4 yX4_usable wsX4_usable) := goodIn_app (goodIn_of _ (by decide +kernel)) ggX4_right_X4_usable
set_option maxRecDepth 20000 in
theorem ggX4_right_X4_part : GoodIn wsX4_right wsX4_part := goodIn_r _ [39, 40, 41, 42, 43, 11, 44, 45, 46, 47, 48, 49, 50, 51, 52, 53, 26, 27, 28, 54, 55, 56, 57, 58, 59, 60, 61, 62, 63, 64, 65, 66, 67, 68, 69, 70, 71, 72, 73, 74, 75, 76, 77, 78, 79, 80, 81, 82, 83, 84, 85, 86] (by decide +kernel) (by decide +kernel)
set_option maxRecDepth 20000 in
theorem gX4_right_X4_part : GoodIn wsX4_right (wsV RX4 145 RX4 yX4_part wsX4_part) := goodIn_app (goodIn_of _ (by decide +kernel)) ggX4_right_X4_part
theorem dX4_right_0 : decode cX4_right 0 = .ok (.aload_n 0, 1) := by decide +kernel
theorem dX4_right_1 : decode cX4_right 1 = .ok (.iconst 0, 1) := by decide +kernel
theorem dX4_right_2 : decode cX4_right 2 = .ok (.putfield 93, 3) := by decide +kernel
theorem dX4_right_5 : decode cX4_right 5 = .ok (.aload_n 0, 1) := by decide +kernel
theorem dX4_right_6 : decode cX4_right 6 = .ok (.getfield 109, 3) := by decide +kernel
theorem dX4_right_9 : decode cX4_right 9 = .ok (.ifCond .ne 17, 3) := by decide +kernel
theorem dX4_right_12 : decode cX4_right 12 = .ok (.aload_n 0, 1) := by decide +kernel
theorem dX4_right_13 : decode cX4_right 13 = .ok (.iconst 1, 1) := by decide +kernel
theorem dX4_right_14 : decode cX4_right 14 = .ok (.invokevirtual 115, 3) := by decide +kernel
theorem dX4_right_17 : decode cX4_right 17 = .ok (.ifCond .le 7, 3) := by decide +kernel
theorem dX4_right_20 : decode cX4_right 20 = .ok (.iconst 1, 1) := by decide +kernel
theorem dX4_right_21 : decode cX4_right 21 = .ok (.goto 4, 3) := by decide +kernel
theorem dX4_right_24 : decode cX4_right 24 = .ok (.iconst 0, 1) := by decide +kernel
theorem dX4_right_25 : decode cX4_right 25 = .ok (.ireturn, 1) := by decide +kernel
theorem dX4_right_26 : decode cX4_right 26 = .ok (.aload_n 0, 1) := by decide +kernel
theorem dX4_right_27 : decode cX4_right 27 = .ok (.invokevirtual 126, 3) := by decide +kernel
theorem dX4_right_30 : decode cX4_right 30 = .ok (.ifCond .ne 7, 3) := by decide +kernel
theorem dX4_right_33 : decode cX4_right 33 = .ok (.iconst 0, 1) := by decide +kernel
theorem dX4_right_34 : decode cX4_right 34 = .ok (.goto 4, 3) := by decide +kernel
theorem dX4_right_37 : decode cX4_right 37 = .ok (.iconst 1, 1) := by decide +kernel
theorem dX4_right_38 : decode cX4_right 38 = .ok (.istore_n 1, 1) := by decide +kernel
theorem dX4_right_39 : decode cX4_right 39 = .ok (.aload_n 0, 1) := by decide +kernel
theorem dX4_right_40 : decode cX4_right 40 = .ok (.getfield 74, 3) := by decide +kernel
theorem dX4_right_43 : decode cX4_right 43 = .ok (.iconst 0, 1) := by decide +kernel
theorem dX4_right_44 : decode cX4_right 44 = .ok (.iconst 0, 1) := by decide +kernel
theorem dX4_right_45 : decode cX4_right 45 = .ok (.iastore, 1) := by decide +kernel
theorem dX4_right_46 : decode cX4_right 46 = .ok (.aload_n 0, 1) := by decide +kernel
theorem dX4_right_47 : decode cX4_right 47 = .ok (.getfield 77, 3) := by decide +kernel
theorem dX4_right_50 : decode cX4_right 50 = .ok (.iconst 0, 1) := by decide +kernel
theorem dX4_right_51 : decode cX4_right 51 = .ok (.aload_n 0, 1) := by decide +kernel
theorem dX4_right_52 : decode cX4_right 52 = .ok (.invokevirtual 126, 3) := by decide +kernel
theorem dX4_right_55 : decode cX4_right 55 = .ok (.iastore, 1) := by decide +kernel
theorem dX4_right_56 : decode cX4_right 56 = .ok (.iconst 1, 1) := by decide +kernel
theorem dX4_right_57 : decode cX4_right 57 = .ok (.istore_n 2, 1) := by decide +kernel
theorem dX4_right_58 : decode cX4_right 58 = .ok (.iload_n 1, 1) := by decide +kernel
theorem dX4_right_59 : decode cX4_right 59 = .ok (.ifCond .le 161, 3) := by decide +kernel
theorem dX4_right_62 : decode cX4_right 62 = .ok (.iload_n 2, 1) := by decide +kernel
theorem dX4_right_63 : decode cX4_right 63 = .ok (.ifCond .eq 157, 3) := by decide +kernel
theorem dX4_right_66 : decode cX4_right 66 = .ok (.iinc 1 (-1), 3) := by decide +kernel
theorem dX4_right_69 : decode cX4_right 69 = .ok (.aload_n 0, 1) := by decide +kernel
theorem dX4_right_70 : decode cX4_right 70 = .ok (.getfield 74, 3) := by decide +kernel
theorem dX4_right_73 : decode cX4_right 73 = .ok (.iload_n 1, 1) := by decide +kernel
theorem dX4_right_74 : decode cX4_right 74 = .ok (.iaload, 1) := by decide +kernel
theorem dX4_right_75 : decode cX4_right 75 = .ok (.istore_n 3, 1) := by decide +kernel
theorem dX4_right_76 : decode cX4_right 76 = .ok (.aload_n 0, 1) := by decide +kernel
theorem dX4_right_77 : decode cX4_right 77 = .ok (.getfield 77, 3) := by decide +kernel
theorem dX4_right_80 : decode cX4_right 80 = .ok (.iload_n 1, 1) := by decide +kernel
theorem dX4_right_81 : decode cX4_right 81 = .ok (.iaload, 1) := by decide +kernel
theorem dX4_right_82 : decode cX4_right 82 = .ok (.istore 4, 2) := by decide +kernel
theorem dX4_right_84 : decode cX4_right 84 = .ok (.aload_n 0, 1) := by decide +kernel
theorem dX4_right_85 : decode cX4_right 85 = .ok (.getfield 44, 3) := by decide +kernel
theorem dX4_right_88 : decode cX4_right 88 = .ok (.iload_n 3, 1) := by decide +kernel
theorem dX4_right_89 : decode cX4_right 89 = .ok (.iaload, 1) := by decide +kernel
theorem dX4_right_90 : decode cX4_right 90 = .ok (.istore 5, 2) := by decide +kernel
theorem dX4_right_92 : decode cX4_right 92 = .ok (.iload 5, 2) := by decide +kernel
theorem dX4_right_94 : decode cX4_right 94 = .ok (.ifCond .ge 12, 3) := by decide +kernel
theorem dX4_right_97 : decode cX4_right 97 = .ok (.aload_n 0, 1) := by decide +kernel
theorem dX4_right_98 : decode cX4_right 98 = .ok (.iload 4, 2) := by decide +kernel
theorem dX4_right_100 : decode cX4_right 100 = .ok (.invokevirtual 141, 3) := by decide +kernel
theorem dX4_right_103 : decode cX4_right 103 = .ok (.goto 11, 3) := by decide +kernel
theorem dX4_right_106 : decode cX4_right 106 = .ok (.aload_n 0, 1) := by decide +kernel
theorem dX4_right_107 : decode cX4_right 107 = .ok (.iload 5, 2) := by decide +kernel
theorem dX4_right_109 : decode cX4_right 109 = .ok (.iload 4, 2) := by decide +kernel
theorem dX4_right_111 : decode cX4_right 111 = .ok (.invokevirtual 138, 3) := by decide +kernel
theorem dX4_right_114 : decode cX4_right 114 = .ok (.istore_n 2, 1) := by decide +kernel
theorem dX4_right_115 : decode cX4_right 115 = .ok (.iconst 0, 1) := by decide +kernel
theorem dX4_right_116 : decode cX4_right 116 = .ok (.istore 6, 2) := by decide +kernel
theorem dX4_right_118 : decode cX4_right 118 = .ok (.iload 6, 2) := by decide +kernel
theorem dX4_right_120 : decode cX4_right 120 = .ok (.iconst 2, 1) := by decide +kernel
theorem dX4_right_121 : decode cX4_right 121 = .ok (.if_icmp .ge 96, 3) := by decide +kernel
theorem dX4_right_124 : decode cX4_right 124 = .ok (.iload_n 2, 1) := by decide +kernel
theorem dX4_right_125 : decode cX4_right 125 = .ok (.ifCond .eq 92, 3) := by decide +kernel
theorem dX4_right_128 : decode cX4_right 128 = .ok (.iload 5, 2) := by decide +kernel
theorem dX4_right_130 : decode cX4_right 130 = .ok (.ifCond .lt 87, 3) := by decide +kernel
theorem dX4_right_133 : decode cX4_right 133 = .ok (.aload_n 0, 1) := by decide +kernel
theorem dX4_right_134 : decode cX4_right 134 = .ok (.iload 5, 2) := by decide +kernel
theorem dX4_right_136 : decode cX4_right 136 = .ok (.iload 4, 2) := by decide +kernel
theorem dX4_right_138 : decode cX4_right 138 = .ok (.iload 6, 2) := by decide +kernel
theorem dX4_right_140 : decode cX4_right 140 = .ok (.invokevirtual 145, 3) := by decide +kernel
theorem dX4_right_143 : decode cX4_right 143 = .ok (.istore 7, 2) := by decide +kernel
theorem dX4_right_145 : decode cX4_right 145 = .ok (.iload 6, 2) := by decide +kernel
theorem dX4_right_147 : decode cX4_right 147 = .ok (.ifCond .ne 12, 3) := by decide +kernel
theorem dX4_right_150 : decode cX4_right 150 = .ok (.aload_n 0, 1) := by decide +kernel
theorem dX4_right_151 : decode cX4_right 151 = .ok (.getfield 47, 3) := by decide +kernel
theorem dX4_right_154 : decode cX4_right 154 = .ok (.iload_n 3, 1) := by decide +kernel
theorem dX4_right_155 : decode cX4_right 155 = .ok (.iaload, 1) := by decide +kernel
theorem dX4_right_156 : decode cX4_right 156 = .ok (.goto 9, 3) := by decide +kernel
theorem dX4_right_159 : decode cX4_right 159 = .ok (.aload_n 0, 1) := by decide +kernel
theorem dX4_right_160 : decode cX4_right 160 = .ok (.getfield 50, 3) := by decide +kernel
theorem dX4_right_163 : decode cX4_right 163 = .ok (.iload_n 3, 1) := by decide +kernel
theorem dX4_right_164 : decode cX4_right 164 = .ok (.iaload, 1) := by decide +kernel
theorem dX4_right_165 : decode cX4_right 165 = .ok (.istore 8, 2) := by decide +kernel
theorem dX4_right_167 : decode cX4_right 167 = .ok (.iload 7, 2) := by decide +kernel
theorem dX4_right_169 : decode cX4_right 169 = .ok (.ifCond .eq 8, 3) := by decide +kernel
theorem dX4_right_172 : decode cX4_right 172 = .ok (.iload 8, 2) := by decide +kernel
theorem dX4_right_174 : decode cX4_right 174 = .ok (.ifCond .lt 7, 3) := by decide +kernel
theorem dX4_right_177 : decode cX4_right 177 = .ok (.iconst 1, 1) := by decide +kernel
theorem dX4_right_178 : decode cX4_right 178 = .ok (.goto 4, 3) := by decide +kernel
theorem dX4_right_181 : decode cX4_right 181 = .ok (.iconst 0, 1) := by decide +kernel
theorem dX4_right_182 : decode cX4_right 182 = .ok (.istore_n 2, 1) := by decide +kernel
theorem dX4_right_183 : decode cX4_right 183 = .ok (.iload 7, 2) := by decide +kernel
theorem dX4_right_185 : decode cX4_right 185 = .ok (.ifCond .le 26, 3) := by decide +kernel
theorem dX4_right_188 : decode cX4_right 188 = .ok (.iload_n 2, 1) := by decide +kernel
theorem dX4_right_189 : decode cX4_right 189 = .ok (.ifCond .eq 22, 3) := by decide +kernel
theorem dX4_right_192 : decode cX4_right 192 = .ok (.aload_n 0, 1) := by decide +kernel
theorem dX4_right_193 : decode cX4_right 193 = .ok (.getfield 74, 3) := by decide +kernel
theorem dX4_right_196 : decode cX4_right 196 = .ok (.iload_n 1, 1) := by decide +kernel
theorem dX4_right_197 : decode cX4_right 197 = .ok (.iload 8, 2) := by decide +kernel
theorem dX4_right_199 : decode cX4_right 199 = .ok (.iastore, 1) := by decide +kernel
theorem dX4_right_200 : decode cX4_right 200 = .ok (.aload_n 0, 1) := by decide +kernel
theorem dX4_right_201 : decode cX4_right 201 = .ok (.getfield 77, 3) := by decide +kernel
theorem dX4_right_204 : decode cX4_right 204 = .ok (.iload_n 1, 1) := by decide +kernel
theorem dX4_right_205 : decode cX4_right 205 = .ok (.iload 7, 2) := by decide +kernel
theorem dX4_right_207 : decode cX4_right 207 = .ok (.iastore, 1) := by decide +kernel
theorem dX4_right_208 : decode cX4_right 208 = .ok (.iinc 1 1, 3) := by decide +kernel
theorem dX4_right_211 : decode cX4_right 211 = .ok (.iinc 6 1, 3) := by decide +kernel
theorem dX4_right_214 : decode cX4_right 214 = .ok (.goto (-96), 3) := by decide +kernel
theorem dX4_right_217 : decode cX4_right 217 = .ok (.goto (-159), 3) := by decide +kernel
theorem dX4_right_220 : decode cX4_right 220 = .ok (.iload_n 2, 1) := by decide +kernel
theorem dX4_right_221 : decode cX4_right 221 = .ok (.ireturn, 1) := by decide +kernel
set_option maxRecDepth 20000 in
theorem ggX4_hide_X4_within : GoodIn wsX4_hide wsX4_within := goodIn_r _ [6] (by decide +kernel) (by decide +kernel)
set_option maxRecDepth 20000 in
theorem gX4_hide_X4_within : GoodIn wsX4_hide (va_wsS RX4 96 yX4_within wsX4_within) := goodIn_app (goodIn_of _ (by decide +kernel)) ggX4_hide_X4_within
set_option maxRecDepth 20000 in
theorem ggX4_hide_X4_fail : GoodIn wsX4_hide wsX4_fail := goodIn_r _ [10, 1, 18, 19, 20, 21, 22, 23, 24, 25, 26, 27, 28, 29, 30, 31, 32, 33, 34, 35, 36, 37, 38, 39, 40, 41, 42, 43, 44, 45, 46, 47, 48, 49, 50] (by decide +kernel) (by decide +kernel)
set_option maxRecDepth 20000 in
theorem gX4_hide_X4_fail : GoodIn wsX4_hide (wsV RX4 115 RX4 yX4_fail wsX4_fail) := goodIn_app (goodIn_of _ (by decide +kernel)) ggX4_hide_X4_fail
set_option maxRecDepth 20000 in
theorem ggX4_hide_X4_startBelief : GoodIn wsX4_hide wsX4_startBelief := goodIn_r _ [14, 15, 16, 17, 18, 19, 20, 21, 22, 23, 24, 25, 26, 27, 28, 29, 30, 31, 32, 33, 34, 35, 36, 37, 38, 39, 40, 41, 42, 43, 44, 45, 46, 47, 48, 49, 50] (by decide +kernel) (by decide +kernel)
set_option maxRecDepth 20000 in
theorem gX4_hide_X4_startBelief : GoodIn wsX4_hide (wsV RX4 126 RX4 yX4_startBelief wsX4_startBelief) := goodIn_app (goodIn_of _ (by decide +kernel)) ggX4_hide_X4_startBelief
theorem dX4_hide_0 : decode cX4_hide 0 = .ok (.aload_n 0, 1) := by decide +kernel
theorem dX4_hide_1 : decode cX4_hide 1 = .ok (.iconst 0, 1) := by decide +kernel
theorem dX4_hide_2 : decode cX4_hide 2 = .ok (.putfield 93, 3) := by decide +kernel
theorem dX4_hide_5 : decode cX4_hide 5 = .ok (.iload_n 1, 1) := by decide +kernel
theorem dX4_hide_6 : decode cX4_hide 6 = .ok (.iconst 0, 1) := by decide +kernel
theorem dX4_hide_7 : decode cX4_hide 7 = .ok (.bipush 15, 2) := by decide +kernel
theorem dX4_hide_9 : decode cX4_hide 9 = .ok (.invokestatic 96, 3) := by decide +kernel
theorem dX4_hide_12 : decode cX4_hide 12 = .ok (.ifCond .ne 17, 3) := by decide +kernel
theorem dX4_hide_15 : decode cX4_hide 15 = .ok (.aload_n 0, 1) := by decide +kernel
theorem dX4_hide_16 : decode cX4_hide 16 = .ok (.iconst 1, 1) := by decide +kernel
theorem dX4_hide_17 : decode cX4_hide 17 = .ok (.invokevirtual 115, 3) := by decide +kernel
theorem dX4_hide_20 : decode cX4_hide 20 = .ok (.ifCond .le 7, 3) := by decide +kernel
theorem dX4_hide_23 : decode cX4_hide 23 = .ok (.iconst 1, 1) := by decide +kernel
theorem dX4_hide_24 : decode cX4_hide 24 = .ok (.goto 4, 3) := by decide +kernel
theorem dX4_hide_27 : decode cX4_hide 27 = .ok (.iconst 0, 1) := by decide +kernel
theorem dX4_hide_28 : decode cX4_hide 28 = .ok (.ireturn, 1) := by decide +kernel
theorem dX4_hide_29 : decode cX4_hide 29 = .ok (.aload_n 0, 1) := by decide +kernel
theorem dX4_hide_30 : decode cX4_hide 30 = .ok (.iload_n 1, 1) := by decide +kernel
theorem dX4_hide_31 : decode cX4_hide 31 = .ok (.putfield 80, 3) := by decide +kernel
theorem dX4_hide_34 : decode cX4_hide 34 = .ok (.aload_n 0, 1) := by decide +kernel
theorem dX4_hide_35 : decode cX4_hide 35 = .ok (.invokevirtual 126, 3) := by decide +kernel
theorem dX4_hide_38 : decode cX4_hide 38 = .ok (.iload_n 1, 1) := by decide +kernel
theorem dX4_hide_39 : decode cX4_hide 39 = .ok (.ishr, 1) := by decide +kernel
theorem dX4_hide_40 : decode cX4_hide 40 = .ok (.iconst 1, 1) := by decide +kernel
theorem dX4_hide_41 : decode cX4_hide 41 = .ok (.iand, 1) := by decide +kernel
theorem dX4_hide_42 : decode cX4_hide 42 = .ok (.iconst 1, 1) := by decide +kernel
theorem dX4_hide_43 : decode cX4_hide 43 = .ok (.if_icmp .ne 7, 3) := by decide +kernel
theorem dX4_hide_46 : decode cX4_hide 46 = .ok (.iconst 1, 1) := by decide +kernel
theorem dX4_hide_47 : decode cX4_hide 47 = .ok (.goto 4, 3) := by decide +kernel
theorem dX4_hide_50 : decode cX4_hide 50 = .ok (.iconst 0, 1) := by decide +kernel
theorem dX4_hide_51 : decode cX4_hide 51 = .ok (.ireturn, 1) := by decide +kernel
set_option maxRecDepth 20000 in
theorem ggX4_execute_X4_fail : GoodIn wsX4_execute wsX4_fail := goodIn_r _ [19, 1, 32, 33, 34, 35, 36, 37, 38, 39, 40, 41, 42, 43, 44, 45, 46, 47, 48, 49, 50, 51, 52, 53, 54, 55, 56, 57, 58, 59, 60, 61, 62, 63, 64] (by decide +kernel) (by decide +kernel)
set_option maxRecDepth 20000 in
theorem gX4_execute_X4_fail : GoodIn wsX4_execute (wsV RX4 115 RX4 yX4_fail wsX4_fail) := goodIn_app (goodIn_of _ (by decide +kernel)) ggX4_execute_X4_fail
set_option maxRecDepth 20000 in
theorem ggX4_execute_X4_holds : GoodIn wsX4_execute wsX4_holds := goodIn_r _ [22] (by decide +kernel) (by decide +kernel)
set_option maxRecDepth 20000 in
theorem gX4_execute_X4_holds : GoodIn wsX4_execute (va_wsS RX4 123 yX4_holds wsX4_holds) := goodIn_app (goodIn_of _ (by decide +kernel)) ggX4_execute_X4_holds
set_option maxRecDepth 20000 in
theorem ggX4_execute_X4_next : GoodIn wsX4_execute wsX4_next := goodIn_r _ [26, 27, 28, 29, 30, 31, 20, 21, 18, 22, 32, 33, 34, 35, 36, 37, 38, 39, 40, 41, 42, 43, 44, 45, 46, 47, 48, 49, 50, 51, 52, 53, 54, 55, 56, 57, 58, 59, 60, 61, 62, 63, 64] (by decide +kernel) (by decide +kernel)
set_option maxRecDepth 20000 in
theorem gX4_execute_X4_next : GoodIn wsX4_execute (wsV RX4 130 RX4 yX4_next wsX4_next) := goodIn_app (goodIn_of _ (by decide +kernel)) ggX4_execute_X4_next
theorem dX4_execute_0 : decode cX4_execute 0 = .ok (.aload_n 0, 1) := by decide +kernel
theorem dX4_execute_1 : decode cX4_execute 1 = .ok (.iconst 0, 1) := by decide +kernel
theorem dX4_execute_2 : decode cX4_execute 2 = .ok (.putfield 93, 3) := by decide +kernel
theorem dX4_execute_5 : decode cX4_execute 5 = .ok (.aload_n 0, 1) := by decide +kernel
theorem dX4_execute_6 : decode cX4_execute 6 = .ok (.getfield 109, 3) := by decide +kernel
theorem dX4_execute_9 : decode cX4_execute 9 = .ok (.ifCond .eq 10, 3) := by decide +kernel
theorem dX4_execute_12 : decode cX4_execute 12 = .ok (.aload_n 0, 1) := by decide +kernel
theorem dX4_execute_13 : decode cX4_execute 13 = .ok (.getfield 80, 3) := by decide +kernel
theorem dX4_execute_16 : decode cX4_execute 16 = .ok (.ifCond .ge 17, 3) := by decide +kernel
theorem dX4_execute_19 : decode cX4_execute 19 = .ok (.aload_n 0, 1) := by decide +kernel
theorem dX4_execute_20 : decode cX4_execute 20 = .ok (.iconst 1, 1) := by decide +kernel
theorem dX4_execute_21 : decode cX4_execute 21 = .ok (.invokevirtual 115, 3) := by decide +kernel
theorem dX4_execute_24 : decode cX4_execute 24 = .ok (.ifCond .le 7, 3) := by decide +kernel
theorem dX4_execute_27 : decode cX4_execute 27 = .ok (.iconst 1, 1) := by decide +kernel
theorem dX4_execute_28 : decode cX4_execute 28 = .ok (.goto 4, 3) := by decide +kernel
theorem dX4_execute_31 : decode cX4_execute 31 = .ok (.iconst 0, 1) := by decide +kernel
theorem dX4_execute_32 : decode cX4_execute 32 = .ok (.ireturn, 1) := by decide +kernel
theorem dX4_execute_33 : decode cX4_execute 33 = .ok (.aload_n 0, 1) := by decide +kernel
theorem dX4_execute_34 : decode cX4_execute 34 = .ok (.iconst 0, 1) := by decide +kernel
theorem dX4_execute_35 : decode cX4_execute 35 = .ok (.putfield 112, 3) := by decide +kernel
theorem dX4_execute_38 : decode cX4_execute 38 = .ok (.aload_n 0, 1) := by decide +kernel
theorem dX4_execute_39 : decode cX4_execute 39 = .ok (.getfield 80, 3) := by decide +kernel
theorem dX4_execute_42 : decode cX4_execute 42 = .ok (.istore_n 1, 1) := by decide +kernel
theorem dX4_execute_43 : decode cX4_execute 43 = .ok (.iconst 0, 1) := by decide +kernel
theorem dX4_execute_44 : decode cX4_execute 44 = .ok (.istore_n 2, 1) := by decide +kernel
theorem dX4_execute_45 : decode cX4_execute 45 = .ok (.iload_n 2, 1) := by decide +kernel
theorem dX4_execute_46 : decode cX4_execute 46 = .ok (.ifCond .lt 130, 3) := by decide +kernel
theorem dX4_execute_49 : decode cX4_execute 49 = .ok (.aload_n 0, 1) := by decide +kernel
theorem dX4_execute_50 : decode cX4_execute 50 = .ok (.getfield 44, 3) := by decide +kernel
theorem dX4_execute_53 : decode cX4_execute 53 = .ok (.iload_n 2, 1) := by decide +kernel
theorem dX4_execute_54 : decode cX4_execute 54 = .ok (.iaload, 1) := by decide +kernel
theorem dX4_execute_55 : decode cX4_execute 55 = .ok (.ifCond .lt 121, 3) := by decide +kernel
theorem dX4_execute_58 : decode cX4_execute 58 = .ok (.aload_n 0, 1) := by decide +kernel
theorem dX4_execute_59 : decode cX4_execute 59 = .ok (.getfield 44, 3) := by decide +kernel
theorem dX4_execute_62 : decode cX4_execute 62 = .ok (.iload_n 2, 1) := by decide +kernel
theorem dX4_execute_63 : decode cX4_execute 63 = .ok (.iaload, 1) := by decide +kernel
theorem dX4_execute_64 : decode cX4_execute 64 = .ok (.istore_n 3, 1) := by decide +kernel
theorem dX4_execute_65 : decode cX4_execute 65 = .ok (.aload_n 0, 1) := by decide +kernel
theorem dX4_execute_66 : decode cX4_execute 66 = .ok (.getfield 7, 3) := by decide +kernel
theorem dX4_execute_69 : decode cX4_execute 69 = .ok (.iload_n 3, 1) := by decide +kernel
theorem dX4_execute_70 : decode cX4_execute 70 = .ok (.baload, 1) := by decide +kernel
theorem dX4_execute_71 : decode cX4_execute 71 = .ok (.ifCond .eq 22, 3) := by decide +kernel
theorem dX4_execute_74 : decode cX4_execute 74 = .ok (.aload_n 0, 1) := by decide +kernel
theorem dX4_execute_75 : decode cX4_execute 75 = .ok (.getfield 13, 3) := by decide +kernel
theorem dX4_execute_78 : decode cX4_execute 78 = .ok (.iload_n 3, 1) := by decide +kernel
theorem dX4_execute_79 : decode cX4_execute 79 = .ok (.iaload, 1) := by decide +kernel
theorem dX4_execute_80 : decode cX4_execute 80 = .ok (.aload_n 0, 1) := by decide +kernel
theorem dX4_execute_81 : decode cX4_execute 81 = .ok (.getfield 17, 3) := by decide +kernel
theorem dX4_execute_84 : decode cX4_execute 84 = .ok (.iload_n 3, 1) := by decide +kernel
theorem dX4_execute_85 : decode cX4_execute 85 = .ok (.iaload, 1) := by decide +kernel
theorem dX4_execute_86 : decode cX4_execute 86 = .ok (.iload_n 1, 1) := by decide +kernel
theorem dX4_execute_87 : decode cX4_execute 87 = .ok (.invokestatic 123, 3) := by decide +kernel
theorem dX4_execute_90 : decode cX4_execute 90 = .ok (.ifCond .ne 5, 3) := by decide +kernel
theorem dX4_execute_93 : decode cX4_execute 93 = .ok (.iconst 0, 1) := by decide +kernel
theorem dX4_execute_94 : decode cX4_execute 94 = .ok (.ireturn, 1) := by decide +kernel
theorem dX4_execute_95 : decode cX4_execute 95 = .ok (.aload_n 0, 1) := by decide +kernel
theorem dX4_execute_96 : decode cX4_execute 96 = .ok (.iload_n 3, 1) := by decide +kernel
theorem dX4_execute_97 : decode cX4_execute 97 = .ok (.iload_n 1, 1) := by decide +kernel
theorem dX4_execute_98 : decode cX4_execute 98 = .ok (.invokevirtual 130, 3) := by decide +kernel
theorem dX4_execute_101 : decode cX4_execute 101 = .ok (.istore_n 1, 1) := by decide +kernel
theorem dX4_execute_102 : decode cX4_execute 102 = .ok (.aload_n 0, 1) := by decide +kernel
theorem dX4_execute_103 : decode cX4_execute 103 = .ok (.getfield 84, 3) := by decide +kernel
theorem dX4_execute_106 : decode cX4_execute 106 = .ok (.aload_n 0, 1) := by decide +kernel
theorem dX4_execute_107 : decode cX4_execute 107 = .ok (.getfield 112, 3) := by decide +kernel
theorem dX4_execute_110 : decode cX4_execute 110 = .ok (.iload_n 1, 1) := by decide +kernel
theorem dX4_execute_111 : decode cX4_execute 111 = .ok (.iastore, 1) := by decide +kernel
theorem dX4_execute_112 : decode cX4_execute 112 = .ok (.aload_n 0, 1) := by decide +kernel
theorem dX4_execute_113 : decode cX4_execute 113 = .ok (.dup, 1) := by decide +kernel
theorem dX4_execute_114 : decode cX4_execute 114 = .ok (.getfield 112, 3) := by decide +kernel
theorem dX4_execute_117 : decode cX4_execute 117 = .ok (.iconst 1, 1) := by decide +kernel
theorem dX4_execute_118 : decode cX4_execute 118 = .ok (.iadd, 1) := by decide +kernel
theorem dX4_execute_119 : decode cX4_execute 119 = .ok (.putfield 112, 3) := by decide +kernel
theorem dX4_execute_122 : decode cX4_execute 122 = .ok (.aload_n 0, 1) := by decide +kernel
theorem dX4_execute_123 : decode cX4_execute 123 = .ok (.getfield 20, 3) := by decide +kernel
theorem dX4_execute_126 : decode cX4_execute 126 = .ok (.iload_n 3, 1) := by decide +kernel
theorem dX4_execute_127 : decode cX4_execute 127 = .ok (.iaload, 1) := by decide +kernel
theorem dX4_execute_128 : decode cX4_execute 128 = .ok (.ifCond .lt 21, 3) := by decide +kernel
theorem dX4_execute_131 : decode cX4_execute 131 = .ok (.iload_n 1, 1) := by decide +kernel
theorem dX4_execute_132 : decode cX4_execute 132 = .ok (.aload_n 0, 1) := by decide +kernel
theorem dX4_execute_133 : decode cX4_execute 133 = .ok (.getfield 20, 3) := by decide +kernel
theorem dX4_execute_136 : decode cX4_execute 136 = .ok (.iload_n 3, 1) := by decide +kernel
theorem dX4_execute_137 : decode cX4_execute 137 = .ok (.iaload, 1) := by decide +kernel
theorem dX4_execute_138 : decode cX4_execute 138 = .ok (.ishr, 1) := by decide +kernel
theorem dX4_execute_139 : decode cX4_execute 139 = .ok (.iconst 1, 1) := by decide +kernel
theorem dX4_execute_140 : decode cX4_execute 140 = .ok (.iand, 1) := by decide +kernel
theorem dX4_execute_141 : decode cX4_execute 141 = .ok (.iconst 1, 1) := by decide +kernel
theorem dX4_execute_142 : decode cX4_execute 142 = .ok (.if_icmp .ne 7, 3) := by decide +kernel
theorem dX4_execute_145 : decode cX4_execute 145 = .ok (.iconst 1, 1) := by decide +kernel
theorem dX4_execute_146 : decode cX4_execute 146 = .ok (.goto 4, 3) := by decide +kernel
theorem dX4_execute_149 : decode cX4_execute 149 = .ok (.iconst 0, 1) := by decide +kernel
theorem dX4_execute_150 : decode cX4_execute 150 = .ok (.istore 4, 2) := by decide +kernel
theorem dX4_execute_152 : decode cX4_execute 152 = .ok (.iload 4, 2) := by decide +kernel
theorem dX4_execute_154 : decode cX4_execute 154 = .ok (.ifCond .eq 12, 3) := by decide +kernel
theorem dX4_execute_157 : decode cX4_execute 157 = .ok (.aload_n 0, 1) := by decide +kernel
theorem dX4_execute_158 : decode cX4_execute 158 = .ok (.getfield 50, 3) := by decide +kernel
theorem dX4_execute_161 : decode cX4_execute 161 = .ok (.iload_n 2, 1) := by decide +kernel
theorem dX4_execute_162 : decode cX4_execute 162 = .ok (.iaload, 1) := by decide +kernel
theorem dX4_execute_163 : decode cX4_execute 163 = .ok (.goto 9, 3) := by decide +kernel
theorem dX4_execute_166 : decode cX4_execute 166 = .ok (.aload_n 0, 1) := by decide +kernel
theorem dX4_execute_167 : decode cX4_execute 167 = .ok (.getfield 47, 3) := by decide +kernel
theorem dX4_execute_170 : decode cX4_execute 170 = .ok (.iload_n 2, 1) := by decide +kernel
theorem dX4_execute_171 : decode cX4_execute 171 = .ok (.iaload, 1) := by decide +kernel
theorem dX4_execute_172 : decode cX4_execute 172 = .ok (.istore_n 2, 1) := by decide +kernel
theorem dX4_execute_173 : decode cX4_execute 173 = .ok (.goto (-128), 3) := by decide +kernel
theorem dX4_execute_176 : decode cX4_execute 176 = .ok (.iload_n 2, 1) := by decide +kernel
theorem dX4_execute_177 : decode cX4_execute 177 = .ok (.ifCond .lt 22, 3) := by decide +kernel
theorem dX4_execute_180 : decode cX4_execute 180 = .ok (.aload_n 0, 1) := by decide +kernel
theorem dX4_execute_181 : decode cX4_execute 181 = .ok (.getfield 103, 3) := by decide +kernel
theorem dX4_execute_184 : decode cX4_execute 184 = .ok (.aload_n 0, 1) := by decide +kernel
theorem dX4_execute_185 : decode cX4_execute 185 = .ok (.getfield 106, 3) := by decide +kernel
theorem dX4_execute_188 : decode cX4_execute 188 = .ok (.iload_n 1, 1) := by decide +kernel
theorem dX4_execute_189 : decode cX4_execute 189 = .ok (.invokestatic 123, 3) := by decide +kernel
theorem dX4_execute_192 : decode cX4_execute 192 = .ok (.ifCond .eq 7, 3) := by decide +kernel
theorem dX4_execute_195 : decode cX4_execute 195 = .ok (.iconst 1, 1) := by decide +kernel
theorem dX4_execute_196 : decode cX4_execute 196 = .ok (.goto 4, 3) := by decide +kernel
theorem dX4_execute_199 : decode cX4_execute 199 = .ok (.iconst 0, 1) := by decide +kernel
theorem dX4_execute_200 : decode cX4_execute 200 = .ok (.ireturn, 1) := by decide +kernel
theorem dX4_made_0 : decode cX4_made 0 = .ok (.aload_n 0, 1) := by decide +kernel
theorem dX4_made_1 : decode cX4_made 1 = .ok (.iconst 0, 1) := by decide +kernel
theorem dX4_made_2 : decode cX4_made 2 = .ok (.putfield 93, 3) := by decide +kernel
theorem dX4_made_5 : decode cX4_made 5 = .ok (.aload_n 0, 1) := by decide +kernel
theorem dX4_made_6 : decode cX4_made 6 = .ok (.getfield 112, 3) := by decide +kernel
theorem dX4_made_9 : decode cX4_made 9 = .ok (.ireturn, 1) := by decide +kernel
set_option maxRecDepth 20000 in
theorem ggX4_trace_X4_within : GoodIn wsX4_trace wsX4_within := goodIn_r _ [7] (by decide +kernel) (by decide +kernel)
set_option maxRecDepth 20000 in
theorem gX4_trace_X4_within : GoodIn wsX4_trace (va_wsS RX4 96 yX4_within wsX4_within) := goodIn_app (goodIn_of _ (by decide +kernel)) ggX4_trace_X4_within
set_option maxRecDepth 20000 in
theorem ggX4_trace_X4_fail : GoodIn wsX4_trace wsX4_fail := goodIn_r _ [11, 1, 12, 13, 14, 15, 16, 17, 18, 19, 20, 21, 22, 23, 24, 25, 26, 27, 28, 29, 30, 31, 32, 33, 34, 35, 36, 37, 38, 39, 40, 41, 42, 43, 44] (by decide +kernel) (by decide +kernel)
set_option maxRecDepth 20000 in
theorem gX4_trace_X4_fail : GoodIn wsX4_trace (wsV RX4 115 RX4 yX4_fail wsX4_fail) := goodIn_app (goodIn_of _ (by decide +kernel)) ggX4_trace_X4_fail
theorem dX4_trace_0 : decode cX4_trace 0 = .ok (.aload_n 0, 1) := by decide +kernel
theorem dX4_trace_1 : decode cX4_trace 1 = .ok (.iconst 0, 1) := by decide +kernel
theorem dX4_trace_2 : decode cX4_trace 2 = .ok (.putfield 93, 3) := by decide +kernel
theorem dX4_trace_5 : decode cX4_trace 5 = .ok (.iload_n 1, 1) := by decide +kernel
theorem dX4_trace_6 : decode cX4_trace 6 = .ok (.iconst 0, 1) := by decide +kernel
theorem dX4_trace_7 : decode cX4_trace 7 = .ok (.aload_n 0, 1) := by decide +kernel
theorem dX4_trace_8 : decode cX4_trace 8 = .ok (.getfield 112, 3) := by decide +kernel
theorem dX4_trace_11 : decode cX4_trace 11 = .ok (.iconst 1, 1) := by decide +kernel
theorem dX4_trace_12 : decode cX4_trace 12 = .ok (.isub, 1) := by decide +kernel
theorem dX4_trace_13 : decode cX4_trace 13 = .ok (.invokestatic 96, 3) := by decide +kernel
theorem dX4_trace_16 : decode cX4_trace 16 = .ok (.ifCond .eq 12, 3) := by decide +kernel
theorem dX4_trace_19 : decode cX4_trace 19 = .ok (.aload_n 0, 1) := by decide +kernel
theorem dX4_trace_20 : decode cX4_trace 20 = .ok (.getfield 84, 3) := by decide +kernel
theorem dX4_trace_23 : decode cX4_trace 23 = .ok (.iload_n 1, 1) := by decide +kernel
theorem dX4_trace_24 : decode cX4_trace 24 = .ok (.iaload, 1) := by decide +kernel
theorem dX4_trace_25 : decode cX4_trace 25 = .ok (.goto 8, 3) := by decide +kernel
theorem dX4_trace_28 : decode cX4_trace 28 = .ok (.aload_n 0, 1) := by decide +kernel
theorem dX4_trace_29 : decode cX4_trace 29 = .ok (.iconst 1, 1) := by decide +kernel
theorem dX4_trace_30 : decode cX4_trace 30 = .ok (.invokevirtual 115, 3) := by decide +kernel
theorem dX4_trace_33 : decode cX4_trace 33 = .ok (.ireturn, 1) := by decide +kernel
set_option maxRecDepth 20000 in
theorem ggX4_make_X4_next : GoodIn wsX4_make wsX4_next := goodIn_r _ [8, 9, 10, 11, 12, 13, 14, 15, 7, 16, 17, 18, 19, 20, 21, 22, 23, 24, 25, 26, 27, 28, 29, 30, 31, 32, 33, 34, 35, 36, 37, 38, 39, 40, 41, 42, 43, 44, 45, 46, 47, 48, 49] (by decide +kernel) (by decide +kernel)
set_option maxRecDepth 20000 in
theorem gX4_make_X4_next : GoodIn wsX4_make (wsV RX4 130 RX4 yX4_next wsX4_next) := goodIn_app (goodIn_of _ (by decide +kernel)) ggX4_make_X4_next
theorem dX4_make_0 : decode cX4_make 0 = .ok (.iconst 0, 1) := by decide +kernel
theorem dX4_make_1 : decode cX4_make 1 = .ok (.istore_n 3, 1) := by decide +kernel
theorem dX4_make_2 : decode cX4_make 2 = .ok (.iload_n 3, 1) := by decide +kernel
theorem dX4_make_3 : decode cX4_make 3 = .ok (.bipush 16, 2) := by decide +kernel
theorem dX4_make_5 : decode cX4_make 5 = .ok (.if_icmp .ge 38, 3) := by decide +kernel
theorem dX4_make_8 : decode cX4_make 8 = .ok (.aload_n 0, 1) := by decide +kernel
theorem dX4_make_9 : decode cX4_make 9 = .ok (.getfield 87, 3) := by decide +kernel
theorem dX4_make_12 : decode cX4_make 12 = .ok (.bipush 16, 2) := by decide +kernel
theorem dX4_make_14 : decode cX4_make 14 = .ok (.iload_n 2, 1) := by decide +kernel
theorem dX4_make_15 : decode cX4_make 15 = .ok (.iconst 1, 1) := by decide +kernel
theorem dX4_make_16 : decode cX4_make 16 = .ok (.iadd, 1) := by decide +kernel
theorem dX4_make_17 : decode cX4_make 17 = .ok (.imul, 1) := by decide +kernel
theorem dX4_make_18 : decode cX4_make 18 = .ok (.iload_n 3, 1) := by decide +kernel
theorem dX4_make_19 : decode cX4_make 19 = .ok (.iadd, 1) := by decide +kernel
theorem dX4_make_20 : decode cX4_make 20 = .ok (.aload_n 0, 1) := by decide +kernel
theorem dX4_make_21 : decode cX4_make 21 = .ok (.iload_n 1, 1) := by decide +kernel
theorem dX4_make_22 : decode cX4_make 22 = .ok (.aload_n 0, 1) := by decide +kernel
theorem dX4_make_23 : decode cX4_make 23 = .ok (.getfield 87, 3) := by decide +kernel
theorem dX4_make_26 : decode cX4_make 26 = .ok (.bipush 16, 2) := by decide +kernel
theorem dX4_make_28 : decode cX4_make 28 = .ok (.iload_n 2, 1) := by decide +kernel
theorem dX4_make_29 : decode cX4_make 29 = .ok (.imul, 1) := by decide +kernel
theorem dX4_make_30 : decode cX4_make 30 = .ok (.iload_n 3, 1) := by decide +kernel
theorem dX4_make_31 : decode cX4_make 31 = .ok (.iadd, 1) := by decide +kernel
theorem dX4_make_32 : decode cX4_make 32 = .ok (.iaload, 1) := by decide +kernel
theorem dX4_make_33 : decode cX4_make 33 = .ok (.invokevirtual 130, 3) := by decide +kernel
theorem dX4_make_36 : decode cX4_make 36 = .ok (.iastore, 1) := by decide +kernel
theorem dX4_make_37 : decode cX4_make 37 = .ok (.iinc 3 1, 3) := by decide +kernel
theorem dX4_make_40 : decode cX4_make 40 = .ok (.goto (-38), 3) := by decide +kernel
theorem dX4_make_43 : decode cX4_make 43 = .ok (.iconst 0, 1) := by decide +kernel
theorem dX4_make_44 : decode cX4_make 44 = .ok (.istore_n 3, 1) := by decide +kernel
theorem dX4_make_45 : decode cX4_make 45 = .ok (.iload_n 3, 1) := by decide +kernel
theorem dX4_make_46 : decode cX4_make 46 = .ok (.bipush 16, 2) := by decide +kernel
theorem dX4_make_48 : decode cX4_make 48 = .ok (.if_icmp .ge 103, 3) := by decide +kernel
theorem dX4_make_51 : decode cX4_make 51 = .ok (.aload_n 0, 1) := by decide +kernel
theorem dX4_make_52 : decode cX4_make 52 = .ok (.getfield 20, 3) := by decide +kernel
theorem dX4_make_55 : decode cX4_make 55 = .ok (.iload_n 1, 1) := by decide +kernel
theorem dX4_make_56 : decode cX4_make 56 = .ok (.iaload, 1) := by decide +kernel
theorem dX4_make_57 : decode cX4_make 57 = .ok (.ifCond .lt 94, 3) := by decide +kernel
theorem dX4_make_60 : decode cX4_make 60 = .ok (.iconst 0, 1) := by decide +kernel
theorem dX4_make_61 : decode cX4_make 61 = .ok (.istore 4, 2) := by decide +kernel
theorem dX4_make_63 : decode cX4_make 63 = .ok (.iload 4, 2) := by decide +kernel
theorem dX4_make_65 : decode cX4_make 65 = .ok (.bipush 16, 2) := by decide +kernel
theorem dX4_make_67 : decode cX4_make 67 = .ok (.if_icmp .ge 78, 3) := by decide +kernel
theorem dX4_make_70 : decode cX4_make 70 = .ok (.aload_n 0, 1) := by decide +kernel
theorem dX4_make_71 : decode cX4_make 71 = .ok (.getfield 87, 3) := by decide +kernel
theorem dX4_make_74 : decode cX4_make 74 = .ok (.bipush 16, 2) := by decide +kernel
theorem dX4_make_76 : decode cX4_make 76 = .ok (.iload_n 2, 1) := by decide +kernel
theorem dX4_make_77 : decode cX4_make 77 = .ok (.iconst 1, 1) := by decide +kernel
theorem dX4_make_78 : decode cX4_make 78 = .ok (.iadd, 1) := by decide +kernel
theorem dX4_make_79 : decode cX4_make 79 = .ok (.imul, 1) := by decide +kernel
theorem dX4_make_80 : decode cX4_make 80 = .ok (.iload_n 3, 1) := by decide +kernel
theorem dX4_make_81 : decode cX4_make 81 = .ok (.iadd, 1) := by decide +kernel
theorem dX4_make_82 : decode cX4_make 82 = .ok (.iaload, 1) := by decide +kernel
theorem dX4_make_83 : decode cX4_make 83 = .ok (.aload_n 0, 1) := by decide +kernel
theorem dX4_make_84 : decode cX4_make 84 = .ok (.getfield 20, 3) := by decide +kernel
theorem dX4_make_87 : decode cX4_make 87 = .ok (.iload_n 1, 1) := by decide +kernel
theorem dX4_make_88 : decode cX4_make 88 = .ok (.iaload, 1) := by decide +kernel
theorem dX4_make_89 : decode cX4_make 89 = .ok (.ishr, 1) := by decide +kernel
theorem dX4_make_90 : decode cX4_make 90 = .ok (.iconst 1, 1) := by decide +kernel
theorem dX4_make_91 : decode cX4_make 91 = .ok (.iand, 1) := by decide +kernel
theorem dX4_make_92 : decode cX4_make 92 = .ok (.istore 5, 2) := by decide +kernel
theorem dX4_make_94 : decode cX4_make 94 = .ok (.aload_n 0, 1) := by decide +kernel
theorem dX4_make_95 : decode cX4_make 95 = .ok (.getfield 87, 3) := by decide +kernel
theorem dX4_make_98 : decode cX4_make 98 = .ok (.bipush 16, 2) := by decide +kernel
theorem dX4_make_100 : decode cX4_make 100 = .ok (.iload_n 2, 1) := by decide +kernel
theorem dX4_make_101 : decode cX4_make 101 = .ok (.iconst 1, 1) := by decide +kernel
theorem dX4_make_102 : decode cX4_make 102 = .ok (.iadd, 1) := by decide +kernel
theorem dX4_make_103 : decode cX4_make 103 = .ok (.imul, 1) := by decide +kernel
theorem dX4_make_104 : decode cX4_make 104 = .ok (.iload 4, 2) := by decide +kernel
theorem dX4_make_106 : decode cX4_make 106 = .ok (.iadd, 1) := by decide +kernel
theorem dX4_make_107 : decode cX4_make 107 = .ok (.iaload, 1) := by decide +kernel
theorem dX4_make_108 : decode cX4_make 108 = .ok (.aload_n 0, 1) := by decide +kernel
theorem dX4_make_109 : decode cX4_make 109 = .ok (.getfield 20, 3) := by decide +kernel
theorem dX4_make_112 : decode cX4_make 112 = .ok (.iload_n 1, 1) := by decide +kernel
theorem dX4_make_113 : decode cX4_make 113 = .ok (.iaload, 1) := by decide +kernel
theorem dX4_make_114 : decode cX4_make 114 = .ok (.ishr, 1) := by decide +kernel
theorem dX4_make_115 : decode cX4_make 115 = .ok (.iconst 1, 1) := by decide +kernel
theorem dX4_make_116 : decode cX4_make 116 = .ok (.iand, 1) := by decide +kernel
theorem dX4_make_117 : decode cX4_make 117 = .ok (.istore 6, 2) := by decide +kernel
theorem dX4_make_119 : decode cX4_make 119 = .ok (.iload 5, 2) := by decide +kernel
theorem dX4_make_121 : decode cX4_make 121 = .ok (.iload 6, 2) := by decide +kernel
theorem dX4_make_123 : decode cX4_make 123 = .ok (.if_icmp .eq 16, 3) := by decide +kernel
theorem dX4_make_126 : decode cX4_make 126 = .ok (.aload_n 0, 1) := by decide +kernel
theorem dX4_make_127 : decode cX4_make 127 = .ok (.getfield 90, 3) := by decide +kernel
theorem dX4_make_130 : decode cX4_make 130 = .ok (.iload_n 3, 1) := by decide +kernel
theorem dX4_make_131 : decode cX4_make 131 = .ok (.dup2, 1) := by decide +kernel
theorem dX4_make_132 : decode cX4_make 132 = .ok (.iaload, 1) := by decide +kernel
theorem dX4_make_133 : decode cX4_make 133 = .ok (.iconst 1, 1) := by decide +kernel
theorem dX4_make_134 : decode cX4_make 134 = .ok (.iload 4, 2) := by decide +kernel
theorem dX4_make_136 : decode cX4_make 136 = .ok (.ishl, 1) := by decide +kernel
theorem dX4_make_137 : decode cX4_make 137 = .ok (.ior, 1) := by decide +kernel
theorem dX4_make_138 : decode cX4_make 138 = .ok (.iastore, 1) := by decide +kernel
theorem dX4_make_139 : decode cX4_make 139 = .ok (.iinc 4 1, 3) := by decide +kernel
theorem dX4_make_142 : decode cX4_make 142 = .ok (.goto (-79), 3) := by decide +kernel
theorem dX4_make_145 : decode cX4_make 145 = .ok (.iinc 3 1, 3) := by decide +kernel
theorem dX4_make_148 : decode cX4_make 148 = .ok (.goto (-103), 3) := by decide +kernel
theorem dX4_make_151 : decode cX4_make 151 = .ok (.return_, 1) := by decide +kernel
theorem dX4_beliefAt_0 : decode cX4_beliefAt 0 = .ok (.iconst 0, 1) := by decide +kernel
theorem dX4_beliefAt_1 : decode cX4_beliefAt 1 = .ok (.istore_n 3, 1) := by decide +kernel
theorem dX4_beliefAt_2 : decode cX4_beliefAt 2 = .ok (.iconst 0, 1) := by decide +kernel
theorem dX4_beliefAt_3 : decode cX4_beliefAt 3 = .ok (.istore 4, 2) := by decide +kernel
theorem dX4_beliefAt_5 : decode cX4_beliefAt 5 = .ok (.iload 4, 2) := by decide +kernel
theorem dX4_beliefAt_7 : decode cX4_beliefAt 7 = .ok (.bipush 16, 2) := by decide +kernel
theorem dX4_beliefAt_9 : decode cX4_beliefAt 9 = .ok (.if_icmp .ge 40, 3) := by decide +kernel
theorem dX4_beliefAt_12 : decode cX4_beliefAt 12 = .ok (.iload_n 3, 1) := by decide +kernel
theorem dX4_beliefAt_13 : decode cX4_beliefAt 13 = .ok (.iload_n 1, 1) := by decide +kernel
theorem dX4_beliefAt_14 : decode cX4_beliefAt 14 = .ok (.iload 4, 2) := by decide +kernel
theorem dX4_beliefAt_16 : decode cX4_beliefAt 16 = .ok (.ishr, 1) := by decide +kernel
theorem dX4_beliefAt_17 : decode cX4_beliefAt 17 = .ok (.iconst 1, 1) := by decide +kernel
theorem dX4_beliefAt_18 : decode cX4_beliefAt 18 = .ok (.iand, 1) := by decide +kernel
theorem dX4_beliefAt_19 : decode cX4_beliefAt 19 = .ok (.iconst 1, 1) := by decide +kernel
theorem dX4_beliefAt_20 : decode cX4_beliefAt 20 = .ok (.if_icmp .ne 20, 3) := by decide +kernel
theorem dX4_beliefAt_23 : decode cX4_beliefAt 23 = .ok (.iconst 1, 1) := by decide +kernel
theorem dX4_beliefAt_24 : decode cX4_beliefAt 24 = .ok (.aload_n 0, 1) := by decide +kernel
theorem dX4_beliefAt_25 : decode cX4_beliefAt 25 = .ok (.getfield 87, 3) := by decide +kernel
theorem dX4_beliefAt_28 : decode cX4_beliefAt 28 = .ok (.bipush 16, 2) := by decide +kernel
theorem dX4_beliefAt_30 : decode cX4_beliefAt 30 = .ok (.iload_n 2, 1) := by decide +kernel
theorem dX4_beliefAt_31 : decode cX4_beliefAt 31 = .ok (.imul, 1) := by decide +kernel
theorem dX4_beliefAt_32 : decode cX4_beliefAt 32 = .ok (.iload 4, 2) := by decide +kernel
theorem dX4_beliefAt_34 : decode cX4_beliefAt 34 = .ok (.iadd, 1) := by decide +kernel
theorem dX4_beliefAt_35 : decode cX4_beliefAt 35 = .ok (.iaload, 1) := by decide +kernel
theorem dX4_beliefAt_36 : decode cX4_beliefAt 36 = .ok (.ishl, 1) := by decide +kernel
theorem dX4_beliefAt_37 : decode cX4_beliefAt 37 = .ok (.goto 4, 3) := by decide +kernel
theorem dX4_beliefAt_40 : decode cX4_beliefAt 40 = .ok (.iconst 0, 1) := by decide +kernel
theorem dX4_beliefAt_41 : decode cX4_beliefAt 41 = .ok (.ior, 1) := by decide +kernel
theorem dX4_beliefAt_42 : decode cX4_beliefAt 42 = .ok (.istore_n 3, 1) := by decide +kernel
theorem dX4_beliefAt_43 : decode cX4_beliefAt 43 = .ok (.iinc 4 1, 3) := by decide +kernel
theorem dX4_beliefAt_46 : decode cX4_beliefAt 46 = .ok (.goto (-41), 3) := by decide +kernel
theorem dX4_beliefAt_49 : decode cX4_beliefAt 49 = .ok (.iload_n 3, 1) := by decide +kernel
theorem dX4_beliefAt_50 : decode cX4_beliefAt 50 = .ok (.ireturn, 1) := by decide +kernel
set_option maxRecDepth 20000 in
theorem ggX4_twins_X4_startBelief : GoodIn wsX4_twins wsX4_startBelief := goodIn_r _ [8, 9, 10, 11, 44, 45, 46, 47, 48, 49, 50, 51, 52, 53, 54, 55, 56, 57, 58, 59, 60, 61, 62, 63, 64, 65, 66, 67, 68, 69, 70, 71, 72, 73, 74, 75, 76] (by decide +kernel) (by decide +kernel)
set_option maxRecDepth 20000 in
theorem gX4_twins_X4_startBelief : GoodIn wsX4_twins (wsV RX4 126 RX4 yX4_startBelief wsX4_startBelief) := goodIn_app (goodIn_of _ (by decide +kernel)) ggX4_twins_X4_startBelief
set_option maxRecDepth 20000 in
theorem ggX4_twins_X4_beliefAt : GoodIn wsX4_twins wsX4_beliefAt := goodIn_r _ [15, 3, 44, 45, 46, 47, 48, 49, 50, 51, 52, 53, 54, 55, 56, 57, 58, 59, 60, 61, 62, 63, 64, 65, 66, 67, 68, 69, 70, 71, 72, 73, 74, 75, 76] (by decide +kernel) (by decide +kernel)
set_option maxRecDepth 20000 in
theorem gX4_twins_X4_beliefAt : GoodIn wsX4_twins (wsV RX4 178 RX4 yX4_beliefAt wsX4_beliefAt) := goodIn_app (goodIn_of _ (by decide +kernel)) ggX4_twins_X4_beliefAt
set_option maxRecDepth 20000 in
theorem ggX4_twins_X4_usable : GoodIn wsX4_twins wsX4_usable := goodIn_r _ [19, 20, 21, 22, 23, 24, 7, 25, 44, 45, 46, 47, 48, 49, 50, 51, 52, 53, 54, 55, 56, 57, 58, 59, 60, 61, 62, 63, 64, 65, 66, 67, 68, 69, 70, 71, 72, 73, 74, 75, 76] (by decide +kernel) (by decide +kernel)
set_option maxRecDepth 20000 in
theorem gX4_twins_X4_usable : GoodIn wsX4_twins (wsV RX4 138 RX4 yX4_usable wsX4_usable) := goodIn_app (goodIn_of _ (by decide +kernel)) ggX4_twins_X4_usable
set_option maxRecDepth 20000 in
theorem ggX4_twins_X4_make : GoodIn wsX4_twins wsX4_make := goodIn_r _ [29, 3, 30, 2, 31, 32, 33, 7, 34, 35, 36, 37, 38, 39, 23, 24, 25, 44, 45, 46, 47, 48, 49, 50, 51, 52, 53, 54, 55, 56, 57, 58, 59, 60, 61, 62, 63, 64, 65, 66, 67, 68, 69, 70, 71, 72, 73, 74, 75, 76] (by decide +kernel) (by decide +kernel)
set_option maxRecDepth 20000 in
theorem gX4_twins_X4_make : GoodIn wsX4_twins (wsV RX4 181 RX4 yX4_make wsX4_make) := goodIn_app (goodIn_of _ (by decide +kernel)) ggX4_twins_X4_make
set_option maxRecDepth 20000 in
theorem ggX4_twins_X4_fail : GoodIn wsX4_twins wsX4_fail := goodIn_r _ [43, 1, 44, 45, 46, 47, 48, 49, 50, 51, 52, 53, 54, 55, 56, 57, 58, 59, 60, 61, 62, 63, 64, 65, 66, 67, 68, 69, 70, 71, 72, 73, 74, 75, 76] (by decide +kernel) (by decide +kernel)
set_option maxRecDepth 20000 in
theorem gX4_twins_X4_fail : GoodIn wsX4_twins (wsV RX4 115 RX4 yX4_fail wsX4_fail) := goodIn_app (goodIn_of _ (by decide +kernel)) ggX4_twins_X4_fail
theorem dX4_twins_0 : decode cX4_twins 0 = .ok (.aload_n 0, 1) := by decide +kernel
theorem dX4_twins_1 : decode cX4_twins 1 = .ok (.iconst 0, 1) := by decide +kernel
theorem dX4_twins_2 : decode cX4_twins 2 = .ok (.putfield 93, 3) := by decide +kernel
theorem dX4_twins_5 : decode cX4_twins 5 = .ok (.aload_n 0, 1) := by decide +kernel
theorem dX4_twins_6 : decode cX4_twins 6 = .ok (.invokevirtual 126, 3) := by decide +kernel
theorem dX4_twins_9 : decode cX4_twins 9 = .ok (.istore_n 1, 1) := by decide +kernel
theorem dX4_twins_10 : decode cX4_twins 10 = .ok (.iconst 0, 1) := by decide +kernel
theorem dX4_twins_11 : decode cX4_twins 11 = .ok (.istore_n 2, 1) := by decide +kernel
theorem dX4_twins_12 : decode cX4_twins 12 = .ok (.iload_n 2, 1) := by decide +kernel
theorem dX4_twins_13 : decode cX4_twins 13 = .ok (.bipush 16, 2) := by decide +kernel
theorem dX4_twins_15 : decode cX4_twins 15 = .ok (.if_icmp .ge 23, 3) := by decide +kernel
theorem dX4_twins_18 : decode cX4_twins 18 = .ok (.aload_n 0, 1) := by decide +kernel
theorem dX4_twins_19 : decode cX4_twins 19 = .ok (.getfield 90, 3) := by decide +kernel
theorem dX4_twins_22 : decode cX4_twins 22 = .ok (.iload_n 2, 1) := by decide +kernel
theorem dX4_twins_23 : decode cX4_twins 23 = .ok (.iconst 0, 1) := by decide +kernel
theorem dX4_twins_24 : decode cX4_twins 24 = .ok (.iastore, 1) := by decide +kernel
theorem dX4_twins_25 : decode cX4_twins 25 = .ok (.aload_n 0, 1) := by decide +kernel
theorem dX4_twins_26 : decode cX4_twins 26 = .ok (.getfield 87, 3) := by decide +kernel
theorem dX4_twins_29 : decode cX4_twins 29 = .ok (.iload_n 2, 1) := by decide +kernel
theorem dX4_twins_30 : decode cX4_twins 30 = .ok (.iload_n 2, 1) := by decide +kernel
theorem dX4_twins_31 : decode cX4_twins 31 = .ok (.iastore, 1) := by decide +kernel
theorem dX4_twins_32 : decode cX4_twins 32 = .ok (.iinc 2 1, 3) := by decide +kernel
theorem dX4_twins_35 : decode cX4_twins 35 = .ok (.goto (-23), 3) := by decide +kernel
theorem dX4_twins_38 : decode cX4_twins 38 = .ok (.iconst 0, 1) := by decide +kernel
theorem dX4_twins_39 : decode cX4_twins 39 = .ok (.istore_n 2, 1) := by decide +kernel
theorem dX4_twins_40 : decode cX4_twins 40 = .ok (.iload_n 2, 1) := by decide +kernel
theorem dX4_twins_41 : decode cX4_twins 41 = .ok (.sipush 729, 3) := by decide +kernel
theorem dX4_twins_44 : decode cX4_twins 44 = .ok (.if_icmp .ge 105, 3) := by decide +kernel
theorem dX4_twins_47 : decode cX4_twins 47 = .ok (.iconst 1, 1) := by decide +kernel
theorem dX4_twins_48 : decode cX4_twins 48 = .ok (.istore_n 3, 1) := by decide +kernel
theorem dX4_twins_49 : decode cX4_twins 49 = .ok (.iconst 0, 1) := by decide +kernel
theorem dX4_twins_50 : decode cX4_twins 50 = .ok (.istore 4, 2) := by decide +kernel
theorem dX4_twins_52 : decode cX4_twins 52 = .ok (.iload 4, 2) := by decide +kernel
theorem dX4_twins_54 : decode cX4_twins 54 = .ok (.iconst 3, 1) := by decide +kernel
theorem dX4_twins_55 : decode cX4_twins 55 = .ok (.if_icmp .ge 88, 3) := by decide +kernel
theorem dX4_twins_58 : decode cX4_twins 58 = .ok (.iload_n 3, 1) := by decide +kernel
theorem dX4_twins_59 : decode cX4_twins 59 = .ok (.ifCond .eq 84, 3) := by decide +kernel
theorem dX4_twins_62 : decode cX4_twins 62 = .ok (.iload 4, 2) := by decide +kernel
theorem dX4_twins_64 : decode cX4_twins 64 = .ok (.ifCond .ne 10, 3) := by decide +kernel
theorem dX4_twins_67 : decode cX4_twins 67 = .ok (.iload_n 2, 1) := by decide +kernel
theorem dX4_twins_68 : decode cX4_twins 68 = .ok (.bipush 81, 2) := by decide +kernel
theorem dX4_twins_70 : decode cX4_twins 70 = .ok (.idiv, 1) := by decide +kernel
theorem dX4_twins_71 : decode cX4_twins 71 = .ok (.goto 23, 3) := by decide +kernel
theorem dX4_twins_74 : decode cX4_twins 74 = .ok (.iload 4, 2) := by decide +kernel
theorem dX4_twins_76 : decode cX4_twins 76 = .ok (.iconst 1, 1) := by decide +kernel
theorem dX4_twins_77 : decode cX4_twins 77 = .ok (.if_icmp .ne 13, 3) := by decide +kernel
theorem dX4_twins_80 : decode cX4_twins 80 = .ok (.iload_n 2, 1) := by decide +kernel
theorem dX4_twins_81 : decode cX4_twins 81 = .ok (.bipush 9, 2) := by decide +kernel
theorem dX4_twins_83 : decode cX4_twins 83 = .ok (.idiv, 1) := by decide +kernel
theorem dX4_twins_84 : decode cX4_twins 84 = .ok (.bipush 9, 2) := by decide +kernel
theorem dX4_twins_86 : decode cX4_twins 86 = .ok (.irem, 1) := by decide +kernel
theorem dX4_twins_87 : decode cX4_twins 87 = .ok (.goto 7, 3) := by decide +kernel
theorem dX4_twins_90 : decode cX4_twins 90 = .ok (.iload_n 2, 1) := by decide +kernel
theorem dX4_twins_91 : decode cX4_twins 91 = .ok (.bipush 9, 2) := by decide +kernel
theorem dX4_twins_93 : decode cX4_twins 93 = .ok (.irem, 1) := by decide +kernel
theorem dX4_twins_94 : decode cX4_twins 94 = .ok (.istore 5, 2) := by decide +kernel
theorem dX4_twins_96 : decode cX4_twins 96 = .ok (.iload 5, 2) := by decide +kernel
theorem dX4_twins_98 : decode cX4_twins 98 = .ok (.bipush 8, 2) := by decide +kernel
theorem dX4_twins_100 : decode cX4_twins 100 = .ok (.if_icmp .ge 23, 3) := by decide +kernel
theorem dX4_twins_103 : decode cX4_twins 103 = .ok (.aload_n 0, 1) := by decide +kernel
theorem dX4_twins_104 : decode cX4_twins 104 = .ok (.iload 5, 2) := by decide +kernel
theorem dX4_twins_106 : decode cX4_twins 106 = .ok (.aload_n 0, 1) := by decide +kernel
theorem dX4_twins_107 : decode cX4_twins 107 = .ok (.iload_n 1, 1) := by decide +kernel
theorem dX4_twins_108 : decode cX4_twins 108 = .ok (.iload 4, 2) := by decide +kernel
theorem dX4_twins_110 : decode cX4_twins 110 = .ok (.invokevirtual 178, 3) := by decide +kernel
theorem dX4_twins_113 : decode cX4_twins 113 = .ok (.invokevirtual 138, 3) := by decide +kernel
theorem dX4_twins_116 : decode cX4_twins 116 = .ok (.ifCond .eq 7, 3) := by decide +kernel
theorem dX4_twins_119 : decode cX4_twins 119 = .ok (.iconst 1, 1) := by decide +kernel
theorem dX4_twins_120 : decode cX4_twins 120 = .ok (.goto 4, 3) := by decide +kernel
theorem dX4_twins_123 : decode cX4_twins 123 = .ok (.iconst 0, 1) := by decide +kernel
theorem dX4_twins_124 : decode cX4_twins 124 = .ok (.istore_n 3, 1) := by decide +kernel
theorem dX4_twins_125 : decode cX4_twins 125 = .ok (.iload_n 3, 1) := by decide +kernel
theorem dX4_twins_126 : decode cX4_twins 126 = .ok (.ifCond .eq 11, 3) := by decide +kernel
theorem dX4_twins_129 : decode cX4_twins 129 = .ok (.aload_n 0, 1) := by decide +kernel
theorem dX4_twins_130 : decode cX4_twins 130 = .ok (.iload 5, 2) := by decide +kernel
theorem dX4_twins_132 : decode cX4_twins 132 = .ok (.iload 4, 2) := by decide +kernel
theorem dX4_twins_134 : decode cX4_twins 134 = .ok (.invokevirtual 181, 3) := by decide +kernel
theorem dX4_twins_137 : decode cX4_twins 137 = .ok (.iinc 4 1, 3) := by decide +kernel
theorem dX4_twins_140 : decode cX4_twins 140 = .ok (.goto (-88), 3) := by decide +kernel
theorem dX4_twins_143 : decode cX4_twins 143 = .ok (.iinc 2 1, 3) := by decide +kernel
theorem dX4_twins_146 : decode cX4_twins 146 = .ok (.goto (-106), 3) := by decide +kernel
theorem dX4_twins_149 : decode cX4_twins 149 = .ok (.iconst 0, 1) := by decide +kernel
theorem dX4_twins_150 : decode cX4_twins 150 = .ok (.istore_n 2, 1) := by decide +kernel
theorem dX4_twins_151 : decode cX4_twins 151 = .ok (.iload_n 2, 1) := by decide +kernel
theorem dX4_twins_152 : decode cX4_twins 152 = .ok (.bipush 16, 2) := by decide +kernel
theorem dX4_twins_154 : decode cX4_twins 154 = .ok (.if_icmp .ge 63, 3) := by decide +kernel
theorem dX4_twins_157 : decode cX4_twins 157 = .ok (.iload_n 2, 1) := by decide +kernel
theorem dX4_twins_158 : decode cX4_twins 158 = .ok (.iconst 1, 1) := by decide +kernel
theorem dX4_twins_159 : decode cX4_twins 159 = .ok (.iadd, 1) := by decide +kernel
theorem dX4_twins_160 : decode cX4_twins 160 = .ok (.istore_n 3, 1) := by decide +kernel
theorem dX4_twins_161 : decode cX4_twins 161 = .ok (.iload_n 3, 1) := by decide +kernel
theorem dX4_twins_162 : decode cX4_twins 162 = .ok (.bipush 16, 2) := by decide +kernel
theorem dX4_twins_164 : decode cX4_twins 164 = .ok (.if_icmp .ge 47, 3) := by decide +kernel
theorem dX4_twins_167 : decode cX4_twins 167 = .ok (.iload_n 1, 1) := by decide +kernel
theorem dX4_twins_168 : decode cX4_twins 168 = .ok (.iload_n 2, 1) := by decide +kernel
theorem dX4_twins_169 : decode cX4_twins 169 = .ok (.ishr, 1) := by decide +kernel
theorem dX4_twins_170 : decode cX4_twins 170 = .ok (.iconst 1, 1) := by decide +kernel
theorem dX4_twins_171 : decode cX4_twins 171 = .ok (.iand, 1) := by decide +kernel
theorem dX4_twins_172 : decode cX4_twins 172 = .ok (.iconst 1, 1) := by decide +kernel
theorem dX4_twins_173 : decode cX4_twins 173 = .ok (.if_icmp .ne 32, 3) := by decide +kernel
theorem dX4_twins_176 : decode cX4_twins 176 = .ok (.iload_n 1, 1) := by decide +kernel
theorem dX4_twins_177 : decode cX4_twins 177 = .ok (.iload_n 3, 1) := by decide +kernel
theorem dX4_twins_178 : decode cX4_twins 178 = .ok (.ishr, 1) := by decide +kernel
theorem dX4_twins_179 : decode cX4_twins 179 = .ok (.iconst 1, 1) := by decide +kernel
theorem dX4_twins_180 : decode cX4_twins 180 = .ok (.iand, 1) := by decide +kernel
theorem dX4_twins_181 : decode cX4_twins 181 = .ok (.iconst 1, 1) := by decide +kernel
theorem dX4_twins_182 : decode cX4_twins 182 = .ok (.if_icmp .ne 23, 3) := by decide +kernel
theorem dX4_twins_185 : decode cX4_twins 185 = .ok (.aload_n 0, 1) := by decide +kernel
theorem dX4_twins_186 : decode cX4_twins 186 = .ok (.getfield 90, 3) := by decide +kernel
theorem dX4_twins_189 : decode cX4_twins 189 = .ok (.iload_n 2, 1) := by decide +kernel
theorem dX4_twins_190 : decode cX4_twins 190 = .ok (.iaload, 1) := by decide +kernel
theorem dX4_twins_191 : decode cX4_twins 191 = .ok (.iload_n 3, 1) := by decide +kernel
theorem dX4_twins_192 : decode cX4_twins 192 = .ok (.ishr, 1) := by decide +kernel
theorem dX4_twins_193 : decode cX4_twins 193 = .ok (.iconst 1, 1) := by decide +kernel
theorem dX4_twins_194 : decode cX4_twins 194 = .ok (.iand, 1) := by decide +kernel
theorem dX4_twins_195 : decode cX4_twins 195 = .ok (.ifCond .ne 10, 3) := by decide +kernel
theorem dX4_twins_198 : decode cX4_twins 198 = .ok (.bipush 16, 2) := by decide +kernel
theorem dX4_twins_200 : decode cX4_twins 200 = .ok (.iload_n 2, 1) := by decide +kernel
theorem dX4_twins_201 : decode cX4_twins 201 = .ok (.imul, 1) := by decide +kernel
theorem dX4_twins_202 : decode cX4_twins 202 = .ok (.iload_n 3, 1) := by decide +kernel
theorem dX4_twins_203 : decode cX4_twins 203 = .ok (.iadd, 1) := by decide +kernel
theorem dX4_twins_204 : decode cX4_twins 204 = .ok (.ireturn, 1) := by decide +kernel
theorem dX4_twins_205 : decode cX4_twins 205 = .ok (.iinc 3 1, 3) := by decide +kernel
theorem dX4_twins_208 : decode cX4_twins 208 = .ok (.goto (-47), 3) := by decide +kernel
theorem dX4_twins_211 : decode cX4_twins 211 = .ok (.iinc 2 1, 3) := by decide +kernel
theorem dX4_twins_214 : decode cX4_twins 214 = .ok (.goto (-63), 3) := by decide +kernel
theorem dX4_twins_217 : decode cX4_twins 217 = .ok (.aload_n 0, 1) := by decide +kernel
theorem dX4_twins_218 : decode cX4_twins 218 = .ok (.iconst 1, 1) := by decide +kernel
theorem dX4_twins_219 : decode cX4_twins 219 = .ok (.invokevirtual 115, 3) := by decide +kernel
theorem dX4_twins_222 : decode cX4_twins 222 = .ok (.ireturn, 1) := by decide +kernel
theorem dJ6_bitCount_0f7a4_0 : decode cJ6_bitCount_0f7a4 0 = .ok (.iload_n 0, 1) := by decide +kernel
theorem dJ6_bitCount_0f7a4_1 : decode cJ6_bitCount_0f7a4 1 = .ok (.iload_n 0, 1) := by decide +kernel
theorem dJ6_bitCount_0f7a4_2 : decode cJ6_bitCount_0f7a4 2 = .ok (.iconst 1, 1) := by decide +kernel
theorem dJ6_bitCount_0f7a4_3 : decode cJ6_bitCount_0f7a4 3 = .ok (.iushr, 1) := by decide +kernel
theorem dJ6_bitCount_0f7a4_4 : decode cJ6_bitCount_0f7a4 4 = .ok (.ldc_w 265, 3) := by decide +kernel
theorem dJ6_bitCount_0f7a4_7 : decode cJ6_bitCount_0f7a4 7 = .ok (.iand, 1) := by decide +kernel
theorem dJ6_bitCount_0f7a4_8 : decode cJ6_bitCount_0f7a4 8 = .ok (.isub, 1) := by decide +kernel
theorem dJ6_bitCount_0f7a4_9 : decode cJ6_bitCount_0f7a4 9 = .ok (.istore_n 0, 1) := by decide +kernel
theorem dJ6_bitCount_0f7a4_10 : decode cJ6_bitCount_0f7a4 10 = .ok (.iload_n 0, 1) := by decide +kernel
theorem dJ6_bitCount_0f7a4_11 : decode cJ6_bitCount_0f7a4 11 = .ok (.ldc_w 266, 3) := by decide +kernel
theorem dJ6_bitCount_0f7a4_14 : decode cJ6_bitCount_0f7a4 14 = .ok (.iand, 1) := by decide +kernel
theorem dJ6_bitCount_0f7a4_15 : decode cJ6_bitCount_0f7a4 15 = .ok (.iload_n 0, 1) := by decide +kernel
theorem dJ6_bitCount_0f7a4_16 : decode cJ6_bitCount_0f7a4 16 = .ok (.iconst 2, 1) := by decide +kernel
theorem dJ6_bitCount_0f7a4_17 : decode cJ6_bitCount_0f7a4 17 = .ok (.iushr, 1) := by decide +kernel
theorem dJ6_bitCount_0f7a4_18 : decode cJ6_bitCount_0f7a4 18 = .ok (.ldc_w 266, 3) := by decide +kernel
theorem dJ6_bitCount_0f7a4_21 : decode cJ6_bitCount_0f7a4 21 = .ok (.iand, 1) := by decide +kernel
theorem dJ6_bitCount_0f7a4_22 : decode cJ6_bitCount_0f7a4 22 = .ok (.iadd, 1) := by decide +kernel
theorem dJ6_bitCount_0f7a4_23 : decode cJ6_bitCount_0f7a4 23 = .ok (.istore_n 0, 1) := by decide +kernel
theorem dJ6_bitCount_0f7a4_24 : decode cJ6_bitCount_0f7a4 24 = .ok (.iload_n 0, 1) := by decide +kernel
theorem dJ6_bitCount_0f7a4_25 : decode cJ6_bitCount_0f7a4 25 = .ok (.iload_n 0, 1) := by decide +kernel
theorem dJ6_bitCount_0f7a4_26 : decode cJ6_bitCount_0f7a4 26 = .ok (.iconst 4, 1) := by decide +kernel
theorem dJ6_bitCount_0f7a4_27 : decode cJ6_bitCount_0f7a4 27 = .ok (.iushr, 1) := by decide +kernel
theorem dJ6_bitCount_0f7a4_28 : decode cJ6_bitCount_0f7a4 28 = .ok (.iadd, 1) := by decide +kernel
theorem dJ6_bitCount_0f7a4_29 : decode cJ6_bitCount_0f7a4 29 = .ok (.ldc_w 267, 3) := by decide +kernel
theorem dJ6_bitCount_0f7a4_32 : decode cJ6_bitCount_0f7a4 32 = .ok (.iand, 1) := by decide +kernel
theorem dJ6_bitCount_0f7a4_33 : decode cJ6_bitCount_0f7a4 33 = .ok (.istore_n 0, 1) := by decide +kernel
theorem dJ6_bitCount_0f7a4_34 : decode cJ6_bitCount_0f7a4 34 = .ok (.iload_n 0, 1) := by decide +kernel
theorem dJ6_bitCount_0f7a4_35 : decode cJ6_bitCount_0f7a4 35 = .ok (.iload_n 0, 1) := by decide +kernel
theorem dJ6_bitCount_0f7a4_36 : decode cJ6_bitCount_0f7a4 36 = .ok (.bipush 8, 2) := by decide +kernel
theorem dJ6_bitCount_0f7a4_38 : decode cJ6_bitCount_0f7a4 38 = .ok (.iushr, 1) := by decide +kernel
theorem dJ6_bitCount_0f7a4_39 : decode cJ6_bitCount_0f7a4 39 = .ok (.iadd, 1) := by decide +kernel
theorem dJ6_bitCount_0f7a4_40 : decode cJ6_bitCount_0f7a4 40 = .ok (.istore_n 0, 1) := by decide +kernel
theorem dJ6_bitCount_0f7a4_41 : decode cJ6_bitCount_0f7a4 41 = .ok (.iload_n 0, 1) := by decide +kernel
theorem dJ6_bitCount_0f7a4_42 : decode cJ6_bitCount_0f7a4 42 = .ok (.iload_n 0, 1) := by decide +kernel
theorem dJ6_bitCount_0f7a4_43 : decode cJ6_bitCount_0f7a4 43 = .ok (.bipush 16, 2) := by decide +kernel
theorem dJ6_bitCount_0f7a4_45 : decode cJ6_bitCount_0f7a4 45 = .ok (.iushr, 1) := by decide +kernel
theorem dJ6_bitCount_0f7a4_46 : decode cJ6_bitCount_0f7a4 46 = .ok (.iadd, 1) := by decide +kernel
theorem dJ6_bitCount_0f7a4_47 : decode cJ6_bitCount_0f7a4 47 = .ok (.istore_n 0, 1) := by decide +kernel
theorem dJ6_bitCount_0f7a4_48 : decode cJ6_bitCount_0f7a4 48 = .ok (.iload_n 0, 1) := by decide +kernel
theorem dJ6_bitCount_0f7a4_49 : decode cJ6_bitCount_0f7a4 49 = .ok (.bipush 63, 2) := by decide +kernel
theorem dJ6_bitCount_0f7a4_51 : decode cJ6_bitCount_0f7a4 51 = .ok (.iand, 1) := by decide +kernel
theorem dJ6_bitCount_0f7a4_52 : decode cJ6_bitCount_0f7a4 52 = .ok (.ireturn, 1) := by decide +kernel
set_option maxRecDepth 20000 in
theorem ggL_action_X3_action : GoodIn wsL_action wsX3_action := goodIn_ca (goodIn_ca (goodIn_r _ [7, 8, 9, 10, 11, 12, 13, 6, 14, 15, 16, 17, 18, 19, 20, 21, 22, 23, 24, 25, 26, 27, 28, 29, 30, 31, 32, 33, 34, 35, 36, 37, 38, 39, 40, 41, 42, 43, 44, 45, 46] (by decide +kernel) (by decide +kernel)) (goodIn_sub (fun _ h => List.mem_cons_of_mem _ (List.mem_append_left _ (List.mem_append_right _ h))) (by decide +kernel))) (goodIn_sub (fun _ h => List.mem_cons_of_mem _ (List.mem_append_right _ h)) (by decide +kernel))
set_option maxRecDepth 20000 in
theorem gL_action_X3_action : GoodIn wsL_action (wsV RL 7 RX3 yX3_action wsX3_action) := goodIn_app (goodIn_of _ (by decide +kernel)) ggL_action_X3_action
theorem dL_action_0 : decode cL_action 0 = .ok (.aload 5, 2) := by decide +kernel
theorem dL_action_2 : decode cL_action 2 = .ok (.iconst 0, 1) := by decide +kernel
theorem dL_action_3 : decode cL_action 3 = .ok (.aload_n 0, 1) := by decide +kernel
theorem dL_action_4 : decode cL_action 4 = .ok (.iload_n 1, 1) := by decide +kernel
theorem dL_action_5 : decode cL_action 5 = .ok (.iload_n 2, 1) := by decide +kernel
theorem dL_action_6 : decode cL_action 6 = .ok (.iload_n 3, 1) := by decide +kernel
theorem dL_action_7 : decode cL_action 7 = .ok (.iload 4, 2) := by decide +kernel
theorem dL_action_9 : decode cL_action 9 = .ok (.invokevirtual 7, 3) := by decide +kernel
theorem dL_action_12 : decode cL_action 12 = .ok (.ifCond .eq 7, 3) := by decide +kernel
theorem dL_action_15 : decode cL_action 15 = .ok (.lconst 1, 1) := by decide +kernel
theorem dL_action_16 : decode cL_action 16 = .ok (.goto 4, 3) := by decide +kernel
theorem dL_action_19 : decode cL_action 19 = .ok (.lconst 0, 1) := by decide +kernel
theorem dL_action_20 : decode cL_action 20 = .ok (.lastore, 1) := by decide +kernel
theorem dL_action_21 : decode cL_action 21 = .ok (.goto 11, 3) := by decide +kernel
theorem dL_action_24 : decode cL_action 24 = .ok (.astore 6, 2) := by decide +kernel
theorem dL_action_26 : decode cL_action 26 = .ok (.iconst 1, 1) := by decide +kernel
theorem dL_action_27 : decode cL_action 27 = .ok (.ireturn, 1) := by decide +kernel
theorem dL_action_28 : decode cL_action 28 = .ok (.astore 6, 2) := by decide +kernel
theorem dL_action_30 : decode cL_action 30 = .ok (.iconst 2, 1) := by decide +kernel
theorem dL_action_31 : decode cL_action 31 = .ok (.ireturn, 1) := by decide +kernel
theorem dL_action_32 : decode cL_action 32 = .ok (.iconst 0, 1) := by decide +kernel
theorem dL_action_33 : decode cL_action 33 = .ok (.ireturn, 1) := by decide +kernel
set_option maxRecDepth 20000 in
theorem ggL_effect_X3_effect : GoodIn wsL_effect wsX3_effect := goodIn_ca (goodIn_ca (goodIn_ca (goodIn_ca (goodIn_r _ [9, 10, 11, 12, 13, 14, 15, 16, 8, 17, 18, 19, 20, 21, 22, 23, 24, 25, 26, 27, 28, 29, 30, 31, 32, 33, 34, 35, 36, 37, 38, 39, 40, 41, 42, 43, 44, 45, 46, 47, 48, 49, 50, 51, 52, 53, 54] (by decide +kernel) (by decide +kernel)) (goodIn_sub (fun _ h => List.mem_cons_of_mem _ (List.mem_append_left _ (List.mem_append_left _ (List.mem_append_left _ (List.mem_append_right _ h))))) (by decide +kernel))) (goodIn_sub (fun _ h => List.mem_cons_of_mem _ (List.mem_append_left _ (List.mem_append_left _ (List.mem_append_right _ h)))) (by decide +kernel))) (goodIn_sub (fun _ h => List.mem_cons_of_mem _ (List.mem_append_left _ (List.mem_append_right _ h))) (by decide +kernel))) (goodIn_sub (fun _ h => List.mem_cons_of_mem _ (List.mem_append_right _ h)) (by decide +kernel))
set_option maxRecDepth 20000 in
theorem gL_effect_X3_effect : GoodIn wsL_effect (wsV RL 17 RX3 yX3_effect wsX3_effect) := goodIn_app (goodIn_of _ (by decide +kernel)) ggL_effect_X3_effect
theorem dL_effect_0 : decode cL_effect 0 = .ok (.aload 6, 2) := by decide +kernel
theorem dL_effect_2 : decode cL_effect 2 = .ok (.iconst 0, 1) := by decide +kernel
theorem dL_effect_3 : decode cL_effect 3 = .ok (.aload_n 0, 1) := by decide +kernel
theorem dL_effect_4 : decode cL_effect 4 = .ok (.iload_n 1, 1) := by decide +kernel
theorem dL_effect_5 : decode cL_effect 5 = .ok (.iload_n 2, 1) := by decide +kernel
theorem dL_effect_6 : decode cL_effect 6 = .ok (.iload_n 3, 1) := by decide +kernel
theorem dL_effect_7 : decode cL_effect 7 = .ok (.iload 4, 2) := by decide +kernel
theorem dL_effect_9 : decode cL_effect 9 = .ok (.iload 5, 2) := by decide +kernel
theorem dL_effect_11 : decode cL_effect 11 = .ok (.invokevirtual 17, 3) := by decide +kernel
theorem dL_effect_14 : decode cL_effect 14 = .ok (.i2l, 1) := by decide +kernel
theorem dL_effect_15 : decode cL_effect 15 = .ok (.lastore, 1) := by decide +kernel
theorem dL_effect_16 : decode cL_effect 16 = .ok (.goto 19, 3) := by decide +kernel
theorem dL_effect_19 : decode cL_effect 19 = .ok (.astore 7, 2) := by decide +kernel
theorem dL_effect_21 : decode cL_effect 21 = .ok (.iconst 1, 1) := by decide +kernel
theorem dL_effect_22 : decode cL_effect 22 = .ok (.ireturn, 1) := by decide +kernel
theorem dL_effect_23 : decode cL_effect 23 = .ok (.astore 7, 2) := by decide +kernel
theorem dL_effect_25 : decode cL_effect 25 = .ok (.iconst 2, 1) := by decide +kernel
theorem dL_effect_26 : decode cL_effect 26 = .ok (.ireturn, 1) := by decide +kernel
theorem dL_effect_27 : decode cL_effect 27 = .ok (.astore 7, 2) := by decide +kernel
theorem dL_effect_29 : decode cL_effect 29 = .ok (.iconst 3, 1) := by decide +kernel
theorem dL_effect_30 : decode cL_effect 30 = .ok (.ireturn, 1) := by decide +kernel
theorem dL_effect_31 : decode cL_effect 31 = .ok (.astore 7, 2) := by decide +kernel
theorem dL_effect_33 : decode cL_effect 33 = .ok (.iconst 4, 1) := by decide +kernel
theorem dL_effect_34 : decode cL_effect 34 = .ok (.ireturn, 1) := by decide +kernel
theorem dL_effect_35 : decode cL_effect 35 = .ok (.iconst 0, 1) := by decide +kernel
theorem dL_effect_36 : decode cL_effect 36 = .ok (.ireturn, 1) := by decide +kernel
set_option maxRecDepth 20000 in
theorem ggL_clause_X3_clause : GoodIn wsL_clause wsX3_clause := goodIn_ca (goodIn_ca (goodIn_r _ [7, 8, 9, 10, 11, 12, 13, 6, 14, 15, 16, 17, 18, 19, 20, 21, 22, 23, 24, 25, 26, 27, 28] (by decide +kernel) (by decide +kernel)) (goodIn_sub (fun _ h => List.mem_cons_of_mem _ (List.mem_append_left _ (List.mem_append_right _ h))) (by decide +kernel))) (goodIn_sub (fun _ h => List.mem_cons_of_mem _ (List.mem_append_right _ h)) (by decide +kernel))
set_option maxRecDepth 20000 in
theorem gL_clause_X3_clause : GoodIn wsL_clause (wsV RL 25 RX3 yX3_clause wsX3_clause) := goodIn_app (goodIn_of _ (by decide +kernel)) ggL_clause_X3_clause
theorem dL_clause_0 : decode cL_clause 0 = .ok (.aload_n 3, 1) := by decide +kernel
theorem dL_clause_1 : decode cL_clause 1 = .ok (.iconst 0, 1) := by decide +kernel
theorem dL_clause_2 : decode cL_clause 2 = .ok (.aload_n 0, 1) := by decide +kernel
theorem dL_clause_3 : decode cL_clause 3 = .ok (.iload_n 1, 1) := by decide +kernel
theorem dL_clause_4 : decode cL_clause 4 = .ok (.iload_n 2, 1) := by decide +kernel
theorem dL_clause_5 : decode cL_clause 5 = .ok (.invokevirtual 25, 3) := by decide +kernel
theorem dL_clause_8 : decode cL_clause 8 = .ok (.i2l, 1) := by decide +kernel
theorem dL_clause_9 : decode cL_clause 9 = .ok (.lastore, 1) := by decide +kernel
theorem dL_clause_10 : decode cL_clause 10 = .ok (.goto 11, 3) := by decide +kernel
theorem dL_clause_13 : decode cL_clause 13 = .ok (.astore 4, 2) := by decide +kernel
theorem dL_clause_15 : decode cL_clause 15 = .ok (.iconst 1, 1) := by decide +kernel
theorem dL_clause_16 : decode cL_clause 16 = .ok (.ireturn, 1) := by decide +kernel
theorem dL_clause_17 : decode cL_clause 17 = .ok (.astore 4, 2) := by decide +kernel
theorem dL_clause_19 : decode cL_clause 19 = .ok (.iconst 2, 1) := by decide +kernel
theorem dL_clause_20 : decode cL_clause 20 = .ok (.ireturn, 1) := by decide +kernel
theorem dL_clause_21 : decode cL_clause 21 = .ok (.iconst 0, 1) := by decide +kernel
theorem dL_clause_22 : decode cL_clause 22 = .ok (.ireturn, 1) := by decide +kernel
set_option maxRecDepth 20000 in
theorem ggL_goal_X3_goal : GoodIn wsL_goal wsX3_goal := goodIn_ca (goodIn_r _ [6, 7, 8, 9, 5, 10, 11, 12, 13, 14, 15, 16, 17, 18, 19, 20, 21, 22, 23, 24, 25, 26, 27, 28, 29, 30, 31] (by decide +kernel) (by decide +kernel)) (goodIn_sub (fun _ h => List.mem_cons_of_mem _ (List.mem_append_right _ h)) (by decide +kernel))
set_option maxRecDepth 20000 in
theorem gL_goal_X3_goal : GoodIn wsL_goal (wsV RL 29 RX3 yX3_goal wsX3_goal) := goodIn_app (goodIn_of _ (by decide +kernel)) ggL_goal_X3_goal
theorem dL_goal_0 : decode cL_goal 0 = .ok (.aload_n 3, 1) := by decide +kernel
theorem dL_goal_1 : decode cL_goal 1 = .ok (.iconst 0, 1) := by decide +kernel
theorem dL_goal_2 : decode cL_goal 2 = .ok (.aload_n 0, 1) := by decide +kernel
theorem dL_goal_3 : decode cL_goal 3 = .ok (.iload_n 1, 1) := by decide +kernel
theorem dL_goal_4 : decode cL_goal 4 = .ok (.iload_n 2, 1) := by decide +kernel
theorem dL_goal_5 : decode cL_goal 5 = .ok (.invokevirtual 29, 3) := by decide +kernel
theorem dL_goal_8 : decode cL_goal 8 = .ok (.i2l, 1) := by decide +kernel
theorem dL_goal_9 : decode cL_goal 9 = .ok (.lastore, 1) := by decide +kernel
theorem dL_goal_10 : decode cL_goal 10 = .ok (.goto 7, 3) := by decide +kernel
theorem dL_goal_13 : decode cL_goal 13 = .ok (.astore 4, 2) := by decide +kernel
theorem dL_goal_15 : decode cL_goal 15 = .ok (.iconst 1, 1) := by decide +kernel
theorem dL_goal_16 : decode cL_goal 16 = .ok (.ireturn, 1) := by decide +kernel
theorem dL_goal_17 : decode cL_goal 17 = .ok (.iconst 0, 1) := by decide +kernel
theorem dL_goal_18 : decode cL_goal 18 = .ok (.ireturn, 1) := by decide +kernel
set_option maxRecDepth 20000 in
theorem ggL_behind_X3_behind : GoodIn wsL_behind wsX3_behind := goodIn_ca (goodIn_ca (goodIn_ca (goodIn_ca (goodIn_r _ [9, 10, 11, 12, 13, 14, 15, 16, 17, 8, 18, 19, 20, 21, 22, 23, 24, 25, 26, 27, 28, 29, 30, 31, 32, 33, 34, 35, 36, 37, 38, 39, 40, 41, 42, 43, 44, 45, 46, 47, 48, 49, 50, 51, 52, 53, 54] (by decide +kernel) (by decide +kernel)) (goodIn_sub (fun _ h => List.mem_cons_of_mem _ (List.mem_append_left _ (List.mem_append_left _ (List.mem_append_left _ (List.mem_append_right _ h))))) (by decide +kernel))) (goodIn_sub (fun _ h => List.mem_cons_of_mem _ (List.mem_append_left _ (List.mem_append_left _ (List.mem_append_right _ h)))) (by decide +kernel))) (goodIn_sub (fun _ h => List.mem_cons_of_mem _ (List.mem_append_left _ (List.mem_append_right _ h))) (by decide +kernel))) (goodIn_sub (fun _ h => List.mem_cons_of_mem _ (List.mem_append_right _ h)) (by decide +kernel))
set_option maxRecDepth 20000 in
theorem gL_behind_X3_behind : GoodIn wsL_behind (wsV RL 32 RX3 yX3_behind wsX3_behind) := goodIn_app (goodIn_of _ (by decide +kernel)) ggL_behind_X3_behind
theorem dL_behind_0 : decode cL_behind 0 = .ok (.aload_n 3, 1) := by decide +kernel
theorem dL_behind_1 : decode cL_behind 1 = .ok (.iconst 0, 1) := by decide +kernel
theorem dL_behind_2 : decode cL_behind 2 = .ok (.aload_n 0, 1) := by decide +kernel
theorem dL_behind_3 : decode cL_behind 3 = .ok (.iload_n 1, 1) := by decide +kernel
theorem dL_behind_4 : decode cL_behind 4 = .ok (.iload_n 2, 1) := by decide +kernel
theorem dL_behind_5 : decode cL_behind 5 = .ok (.invokevirtual 32, 3) := by decide +kernel
theorem dL_behind_8 : decode cL_behind 8 = .ok (.i2l, 1) := by decide +kernel
theorem dL_behind_9 : decode cL_behind 9 = .ok (.lastore, 1) := by decide +kernel
theorem dL_behind_10 : decode cL_behind 10 = .ok (.goto 19, 3) := by decide +kernel
theorem dL_behind_13 : decode cL_behind 13 = .ok (.astore 4, 2) := by decide +kernel
theorem dL_behind_15 : decode cL_behind 15 = .ok (.iconst 1, 1) := by decide +kernel
theorem dL_behind_16 : decode cL_behind 16 = .ok (.ireturn, 1) := by decide +kernel
theorem dL_behind_17 : decode cL_behind 17 = .ok (.astore 4, 2) := by decide +kernel
theorem dL_behind_19 : decode cL_behind 19 = .ok (.iconst 2, 1) := by decide +kernel
theorem dL_behind_20 : decode cL_behind 20 = .ok (.ireturn, 1) := by decide +kernel
theorem dL_behind_21 : decode cL_behind 21 = .ok (.astore 4, 2) := by decide +kernel
theorem dL_behind_23 : decode cL_behind 23 = .ok (.iconst 3, 1) := by decide +kernel
theorem dL_behind_24 : decode cL_behind 24 = .ok (.ireturn, 1) := by decide +kernel
theorem dL_behind_25 : decode cL_behind 25 = .ok (.astore 4, 2) := by decide +kernel
theorem dL_behind_27 : decode cL_behind 27 = .ok (.iconst 4, 1) := by decide +kernel
theorem dL_behind_28 : decode cL_behind 28 = .ok (.ireturn, 1) := by decide +kernel
theorem dL_behind_29 : decode cL_behind 29 = .ok (.iconst 0, 1) := by decide +kernel
theorem dL_behind_30 : decode cL_behind 30 = .ok (.ireturn, 1) := by decide +kernel
set_option maxRecDepth 20000 in
theorem ggL_least_X3_least : GoodIn wsL_least wsX3_least := goodIn_ca (goodIn_ca (goodIn_r _ [7, 8, 9, 10, 11, 12, 6, 13, 14, 15, 16, 17, 18, 19, 20, 21, 22, 23, 24, 25, 26, 27, 28, 29, 30, 31, 32, 33, 34, 35, 36, 37, 38, 39, 40, 41, 42, 43, 44, 45, 46, 47, 48, 49, 50, 51, 52, 53, 54, 55, 56, 57, 58, 59, 60, 61, 62, 63, 64, 65, 66, 67, 68, 69, 70, 71, 72, 73] (by decide +kernel) (by decide +kernel)) (goodIn_sub (fun _ h => List.mem_cons_of_mem _ (List.mem_append_left _ (List.mem_append_right _ h))) (by decide +kernel))) (goodIn_sub (fun _ h => List.mem_cons_of_mem _ (List.mem_append_right _ h)) (by decide +kernel))
set_option maxRecDepth 20000 in
theorem gL_least_X3_least : GoodIn wsL_least (wsV RL 37 RX3 yX3_least wsX3_least) := goodIn_app (goodIn_of _ (by decide +kernel)) ggL_least_X3_least
theorem dL_least_0 : decode cL_least 0 = .ok (.aload_n 3, 1) := by decide +kernel
theorem dL_least_1 : decode cL_least 1 = .ok (.iconst 0, 1) := by decide +kernel
theorem dL_least_2 : decode cL_least 2 = .ok (.aload_n 0, 1) := by decide +kernel
theorem dL_least_3 : decode cL_least 3 = .ok (.iload_n 1, 1) := by decide +kernel
theorem dL_least_4 : decode cL_least 4 = .ok (.iload_n 2, 1) := by decide +kernel
theorem dL_least_5 : decode cL_least 5 = .ok (.invokevirtual 37, 3) := by decide +kernel
theorem dL_least_8 : decode cL_least 8 = .ok (.i2l, 1) := by decide +kernel
theorem dL_least_9 : decode cL_least 9 = .ok (.lastore, 1) := by decide +kernel
theorem dL_least_10 : decode cL_least 10 = .ok (.goto 11, 3) := by decide +kernel
theorem dL_least_13 : decode cL_least 13 = .ok (.astore 4, 2) := by decide +kernel
theorem dL_least_15 : decode cL_least 15 = .ok (.iconst 1, 1) := by decide +kernel
theorem dL_least_16 : decode cL_least 16 = .ok (.ireturn, 1) := by decide +kernel
theorem dL_least_17 : decode cL_least 17 = .ok (.astore 4, 2) := by decide +kernel
theorem dL_least_19 : decode cL_least 19 = .ok (.iconst 2, 1) := by decide +kernel
theorem dL_least_20 : decode cL_least 20 = .ok (.ireturn, 1) := by decide +kernel
theorem dL_least_21 : decode cL_least 21 = .ok (.iconst 0, 1) := by decide +kernel
theorem dL_least_22 : decode cL_least 22 = .ok (.ireturn, 1) := by decide +kernel
set_option maxRecDepth 20000 in
theorem ggL_plan_X3_plan : GoodIn wsL_plan wsX3_plan := goodIn_ca (goodIn_ca (goodIn_ca (goodIn_r _ [8, 9, 10, 11, 12, 13, 14, 7, 15, 16, 17, 18, 19, 20, 21, 22, 23, 24, 25, 26, 27, 28, 29, 30, 31, 32, 33, 34, 35, 36, 37, 38, 39, 40, 41, 42, 43, 44, 45, 46, 47, 48, 49, 50, 51, 52, 53, 54, 55, 56, 57, 58, 59, 60, 61, 62, 63, 64, 65, 66, 67, 68, 69, 70, 71, 72, 73, 74, 75, 76, 77, 78, 79, 80, 81, 82, 83, 84, 85, 86, 87, 88, 89, 90, 91, 92, 93, 94, 95, 96, 97, 98, 99, 100, 101, 102, 103, 104, 105, 106, 107, 108, 109, 110] (by decide +kernel) (by decide +kernel)) (goodIn_sub (fun _ h => List.mem_cons_of_mem _ (List.mem_append_left _ (List.mem_append_left _ (List.mem_append_right _ h)))) (by decide +kernel))) (goodIn_sub (fun _ h => List.mem_cons_of_mem _ (List.mem_append_left _ (List.mem_append_right _ h))) (by decide +kernel))) (goodIn_sub (fun _ h => List.mem_cons_of_mem _ (List.mem_append_right _ h)) (by decide +kernel))
set_option maxRecDepth 20000 in
theorem gL_plan_X3_plan : GoodIn wsL_plan (wsV RL 40 RX3 yX3_plan wsX3_plan) := goodIn_app (goodIn_of _ (by decide +kernel)) ggL_plan_X3_plan
theorem dL_plan_0 : decode cL_plan 0 = .ok (.aload_n 2, 1) := by decide +kernel
theorem dL_plan_1 : decode cL_plan 1 = .ok (.iconst 0, 1) := by decide +kernel
theorem dL_plan_2 : decode cL_plan 2 = .ok (.aload_n 0, 1) := by decide +kernel
theorem dL_plan_3 : decode cL_plan 3 = .ok (.iload_n 1, 1) := by decide +kernel
theorem dL_plan_4 : decode cL_plan 4 = .ok (.invokevirtual 40, 3) := by decide +kernel
theorem dL_plan_7 : decode cL_plan 7 = .ok (.i2l, 1) := by decide +kernel
theorem dL_plan_8 : decode cL_plan 8 = .ok (.lastore, 1) := by decide +kernel
theorem dL_plan_9 : decode cL_plan 9 = .ok (.goto 12, 3) := by decide +kernel
theorem dL_plan_12 : decode cL_plan 12 = .ok (.astore_n 3, 1) := by decide +kernel
theorem dL_plan_13 : decode cL_plan 13 = .ok (.iconst 1, 1) := by decide +kernel
theorem dL_plan_14 : decode cL_plan 14 = .ok (.ireturn, 1) := by decide +kernel
theorem dL_plan_15 : decode cL_plan 15 = .ok (.astore_n 3, 1) := by decide +kernel
theorem dL_plan_16 : decode cL_plan 16 = .ok (.iconst 2, 1) := by decide +kernel
theorem dL_plan_17 : decode cL_plan 17 = .ok (.ireturn, 1) := by decide +kernel
theorem dL_plan_18 : decode cL_plan 18 = .ok (.astore_n 3, 1) := by decide +kernel
theorem dL_plan_19 : decode cL_plan 19 = .ok (.iconst 3, 1) := by decide +kernel
theorem dL_plan_20 : decode cL_plan 20 = .ok (.ireturn, 1) := by decide +kernel
theorem dL_plan_21 : decode cL_plan 21 = .ok (.iconst 0, 1) := by decide +kernel
theorem dL_plan_22 : decode cL_plan 22 = .ok (.ireturn, 1) := by decide +kernel
set_option maxRecDepth 20000 in
theorem ggL_node_X3_node : GoodIn wsL_node wsX3_node := goodIn_ca (goodIn_r _ [6, 7, 8, 9, 10, 11, 12, 5, 13, 14, 15, 16, 17, 18, 19, 20, 21, 22, 23, 24, 25, 26, 27, 28, 29, 30] (by decide +kernel) (by decide +kernel)) (goodIn_sub (fun _ h => List.mem_cons_of_mem _ (List.mem_append_right _ h)) (by decide +kernel))
set_option maxRecDepth 20000 in
theorem gL_node_X3_node : GoodIn wsL_node (wsV RL 44 RX3 yX3_node wsX3_node) := goodIn_app (goodIn_of _ (by decide +kernel)) ggL_node_X3_node
theorem dL_node_0 : decode cL_node 0 = .ok (.aload_n 3, 1) := by decide +kernel
theorem dL_node_1 : decode cL_node 1 = .ok (.iconst 0, 1) := by decide +kernel
theorem dL_node_2 : decode cL_node 2 = .ok (.aload_n 0, 1) := by decide +kernel
theorem dL_node_3 : decode cL_node 3 = .ok (.iload_n 1, 1) := by decide +kernel
theorem dL_node_4 : decode cL_node 4 = .ok (.iload_n 2, 1) := by decide +kernel
theorem dL_node_5 : decode cL_node 5 = .ok (.invokevirtual 44, 3) := by decide +kernel
theorem dL_node_8 : decode cL_node 8 = .ok (.i2l, 1) := by decide +kernel
theorem dL_node_9 : decode cL_node 9 = .ok (.lastore, 1) := by decide +kernel
theorem dL_node_10 : decode cL_node 10 = .ok (.goto 7, 3) := by decide +kernel
theorem dL_node_13 : decode cL_node 13 = .ok (.astore 4, 2) := by decide +kernel
theorem dL_node_15 : decode cL_node 15 = .ok (.iconst 1, 1) := by decide +kernel
theorem dL_node_16 : decode cL_node 16 = .ok (.ireturn, 1) := by decide +kernel
theorem dL_node_17 : decode cL_node 17 = .ok (.iconst 0, 1) := by decide +kernel
theorem dL_node_18 : decode cL_node 18 = .ok (.ireturn, 1) := by decide +kernel
set_option maxRecDepth 20000 in
theorem ggL_edit_X3_edit : GoodIn wsL_edit wsX3_edit := goodIn_ca (goodIn_ca (goodIn_ca (goodIn_r _ [8, 9, 10, 11, 12, 13, 14, 7, 15, 16, 17, 18, 19, 20, 21, 22, 23, 24, 25, 26, 27, 28, 29, 30, 31, 32, 33, 34, 35, 36, 37, 38, 39, 40, 41, 42, 43, 44, 45, 46, 47, 48, 49, 50, 51, 52, 53] (by decide +kernel) (by decide +kernel)) (goodIn_sub (fun _ h => List.mem_cons_of_mem _ (List.mem_append_left _ (List.mem_append_left _ (List.mem_append_right _ h)))) (by decide +kernel))) (goodIn_sub (fun _ h => List.mem_cons_of_mem _ (List.mem_append_left _ (List.mem_append_right _ h))) (by decide +kernel))) (goodIn_sub (fun _ h => List.mem_cons_of_mem _ (List.mem_append_right _ h)) (by decide +kernel))
set_option maxRecDepth 20000 in
theorem gL_edit_X3_edit : GoodIn wsL_edit (wsV RL 47 RX3 yX3_edit wsX3_edit) := goodIn_app (goodIn_of _ (by decide +kernel)) ggL_edit_X3_edit
theorem dL_edit_0 : decode cL_edit 0 = .ok (.aload_n 3, 1) := by decide +kernel
theorem dL_edit_1 : decode cL_edit 1 = .ok (.iconst 0, 1) := by decide +kernel
theorem dL_edit_2 : decode cL_edit 2 = .ok (.aload_n 0, 1) := by decide +kernel
theorem dL_edit_3 : decode cL_edit 3 = .ok (.iload_n 1, 1) := by decide +kernel
theorem dL_edit_4 : decode cL_edit 4 = .ok (.iload_n 2, 1) := by decide +kernel
theorem dL_edit_5 : decode cL_edit 5 = .ok (.invokevirtual 47, 3) := by decide +kernel
theorem dL_edit_8 : decode cL_edit 8 = .ok (.i2l, 1) := by decide +kernel
theorem dL_edit_9 : decode cL_edit 9 = .ok (.lastore, 1) := by decide +kernel
theorem dL_edit_10 : decode cL_edit 10 = .ok (.goto 15, 3) := by decide +kernel
theorem dL_edit_13 : decode cL_edit 13 = .ok (.astore 4, 2) := by decide +kernel
theorem dL_edit_15 : decode cL_edit 15 = .ok (.iconst 1, 1) := by decide +kernel
theorem dL_edit_16 : decode cL_edit 16 = .ok (.ireturn, 1) := by decide +kernel
theorem dL_edit_17 : decode cL_edit 17 = .ok (.astore 4, 2) := by decide +kernel
theorem dL_edit_19 : decode cL_edit 19 = .ok (.iconst 2, 1) := by decide +kernel
theorem dL_edit_20 : decode cL_edit 20 = .ok (.ireturn, 1) := by decide +kernel
theorem dL_edit_21 : decode cL_edit 21 = .ok (.astore 4, 2) := by decide +kernel
theorem dL_edit_23 : decode cL_edit 23 = .ok (.iconst 3, 1) := by decide +kernel
theorem dL_edit_24 : decode cL_edit 24 = .ok (.ireturn, 1) := by decide +kernel
theorem dL_edit_25 : decode cL_edit 25 = .ok (.iconst 0, 1) := by decide +kernel
theorem dL_edit_26 : decode cL_edit 26 = .ok (.ireturn, 1) := by decide +kernel
set_option maxRecDepth 20000 in
theorem ggL_right_X3_right : GoodIn wsL_right wsX3_right := goodIn_ca (goodIn_r _ [6, 7, 8, 9, 10, 5, 11, 12, 13, 14, 15, 16, 17, 18, 19, 20, 21, 22, 23, 24, 25, 26, 27, 28, 29, 30, 31, 32, 33, 34, 35, 36, 37, 38, 39, 40, 41, 42, 43, 44, 45, 46, 47, 48, 49, 50, 51, 52, 53, 54, 55, 56, 57, 58, 59, 60, 61, 62, 63, 64, 65] (by decide +kernel) (by decide +kernel)) (goodIn_sub (fun _ h => List.mem_cons_of_mem _ (List.mem_append_right _ h)) (by decide +kernel))
set_option maxRecDepth 20000 in
theorem gL_right_X3_right : GoodIn wsL_right (wsV RL 50 RX3 yX3_right wsX3_right) := goodIn_app (goodIn_of _ (by decide +kernel)) ggL_right_X3_right
theorem dL_right_0 : decode cL_right 0 = .ok (.aload_n 1, 1) := by decide +kernel
theorem dL_right_1 : decode cL_right 1 = .ok (.iconst 0, 1) := by decide +kernel
theorem dL_right_2 : decode cL_right 2 = .ok (.aload_n 0, 1) := by decide +kernel
theorem dL_right_3 : decode cL_right 3 = .ok (.invokevirtual 50, 3) := by decide +kernel
theorem dL_right_6 : decode cL_right 6 = .ok (.ifCond .eq 7, 3) := by decide +kernel
theorem dL_right_9 : decode cL_right 9 = .ok (.lconst 1, 1) := by decide +kernel
theorem dL_right_10 : decode cL_right 10 = .ok (.goto 4, 3) := by decide +kernel
theorem dL_right_13 : decode cL_right 13 = .ok (.lconst 0, 1) := by decide +kernel
theorem dL_right_14 : decode cL_right 14 = .ok (.lastore, 1) := by decide +kernel
theorem dL_right_15 : decode cL_right 15 = .ok (.goto 6, 3) := by decide +kernel
theorem dL_right_18 : decode cL_right 18 = .ok (.astore_n 2, 1) := by decide +kernel
theorem dL_right_19 : decode cL_right 19 = .ok (.iconst 1, 1) := by decide +kernel
theorem dL_right_20 : decode cL_right 20 = .ok (.ireturn, 1) := by decide +kernel
theorem dL_right_21 : decode cL_right 21 = .ok (.iconst 0, 1) := by decide +kernel
theorem dL_right_22 : decode cL_right 22 = .ok (.ireturn, 1) := by decide +kernel
set_option maxRecDepth 20000 in
theorem ggL_hide_X3_hide : GoodIn wsL_hide wsX3_hide := goodIn_ca (goodIn_r _ [6, 7, 8, 9, 10, 11, 12, 5, 13, 14, 15, 16, 17, 18, 19, 20, 21, 22] (by decide +kernel) (by decide +kernel)) (goodIn_sub (fun _ h => List.mem_cons_of_mem _ (List.mem_append_right _ h)) (by decide +kernel))
set_option maxRecDepth 20000 in
theorem gL_hide_X3_hide : GoodIn wsL_hide (wsV RL 54 RX3 yX3_hide wsX3_hide) := goodIn_app (goodIn_of _ (by decide +kernel)) ggL_hide_X3_hide
theorem dL_hide_0 : decode cL_hide 0 = .ok (.aload_n 2, 1) := by decide +kernel
theorem dL_hide_1 : decode cL_hide 1 = .ok (.iconst 0, 1) := by decide +kernel
theorem dL_hide_2 : decode cL_hide 2 = .ok (.aload_n 0, 1) := by decide +kernel
theorem dL_hide_3 : decode cL_hide 3 = .ok (.iload_n 1, 1) := by decide +kernel
theorem dL_hide_4 : decode cL_hide 4 = .ok (.invokevirtual 54, 3) := by decide +kernel
theorem dL_hide_7 : decode cL_hide 7 = .ok (.ifCond .eq 7, 3) := by decide +kernel
theorem dL_hide_10 : decode cL_hide 10 = .ok (.lconst 1, 1) := by decide +kernel
theorem dL_hide_11 : decode cL_hide 11 = .ok (.goto 4, 3) := by decide +kernel
theorem dL_hide_14 : decode cL_hide 14 = .ok (.lconst 0, 1) := by decide +kernel
theorem dL_hide_15 : decode cL_hide 15 = .ok (.lastore, 1) := by decide +kernel
theorem dL_hide_16 : decode cL_hide 16 = .ok (.goto 6, 3) := by decide +kernel
theorem dL_hide_19 : decode cL_hide 19 = .ok (.astore_n 3, 1) := by decide +kernel
theorem dL_hide_20 : decode cL_hide 20 = .ok (.iconst 1, 1) := by decide +kernel
theorem dL_hide_21 : decode cL_hide 21 = .ok (.ireturn, 1) := by decide +kernel
theorem dL_hide_22 : decode cL_hide 22 = .ok (.iconst 0, 1) := by decide +kernel
theorem dL_hide_23 : decode cL_hide 23 = .ok (.ireturn, 1) := by decide +kernel
set_option maxRecDepth 20000 in
theorem ggL_execute_X3_execute : GoodIn wsL_execute wsX3_execute := goodIn_ca (goodIn_r _ [6, 7, 8, 9, 10, 11, 12, 5, 13, 14, 15, 16, 17, 18, 19, 20, 21, 22, 23, 24, 25, 26, 27, 28, 29, 30, 31, 32, 33, 34, 35, 36, 37, 38, 39, 40, 41, 42, 43, 44, 45, 46, 47, 48, 49, 50, 51, 52, 53, 54, 55, 56, 57, 58, 59] (by decide +kernel) (by decide +kernel)) (goodIn_sub (fun _ h => List.mem_cons_of_mem _ (List.mem_append_right _ h)) (by decide +kernel))
set_option maxRecDepth 20000 in
theorem gL_execute_X3_execute : GoodIn wsL_execute (wsV RL 58 RX3 yX3_execute wsX3_execute) := goodIn_app (goodIn_of _ (by decide +kernel)) ggL_execute_X3_execute
theorem dL_execute_0 : decode cL_execute 0 = .ok (.aload_n 1, 1) := by decide +kernel
theorem dL_execute_1 : decode cL_execute 1 = .ok (.iconst 0, 1) := by decide +kernel
theorem dL_execute_2 : decode cL_execute 2 = .ok (.aload_n 0, 1) := by decide +kernel
theorem dL_execute_3 : decode cL_execute 3 = .ok (.invokevirtual 58, 3) := by decide +kernel
theorem dL_execute_6 : decode cL_execute 6 = .ok (.ifCond .eq 7, 3) := by decide +kernel
theorem dL_execute_9 : decode cL_execute 9 = .ok (.lconst 1, 1) := by decide +kernel
theorem dL_execute_10 : decode cL_execute 10 = .ok (.goto 4, 3) := by decide +kernel
theorem dL_execute_13 : decode cL_execute 13 = .ok (.lconst 0, 1) := by decide +kernel
theorem dL_execute_14 : decode cL_execute 14 = .ok (.lastore, 1) := by decide +kernel
theorem dL_execute_15 : decode cL_execute 15 = .ok (.goto 6, 3) := by decide +kernel
theorem dL_execute_18 : decode cL_execute 18 = .ok (.astore_n 2, 1) := by decide +kernel
theorem dL_execute_19 : decode cL_execute 19 = .ok (.iconst 1, 1) := by decide +kernel
theorem dL_execute_20 : decode cL_execute 20 = .ok (.ireturn, 1) := by decide +kernel
theorem dL_execute_21 : decode cL_execute 21 = .ok (.iconst 0, 1) := by decide +kernel
theorem dL_execute_22 : decode cL_execute 22 = .ok (.ireturn, 1) := by decide +kernel
set_option maxRecDepth 20000 in
theorem ggL_trace_X3_trace : GoodIn wsL_trace wsX3_trace := goodIn_ca (goodIn_r _ [6, 7, 8, 9, 10, 11, 12, 13, 14, 15, 16, 17, 18, 19] (by decide +kernel) (by decide +kernel)) (goodIn_sub (fun _ h => List.mem_cons_of_mem _ (List.mem_append_right _ h)) (by decide +kernel))
set_option maxRecDepth 20000 in
theorem gL_trace_X3_trace : GoodIn wsL_trace (wsV RL 61 RX3 yX3_trace wsX3_trace) := goodIn_app (goodIn_of _ (by decide +kernel)) ggL_trace_X3_trace
theorem dL_trace_0 : decode cL_trace 0 = .ok (.aload_n 2, 1) := by decide +kernel
theorem dL_trace_1 : decode cL_trace 1 = .ok (.iconst 0, 1) := by decide +kernel
theorem dL_trace_2 : decode cL_trace 2 = .ok (.aload_n 0, 1) := by decide +kernel
theorem dL_trace_3 : decode cL_trace 3 = .ok (.iload_n 1, 1) := by decide +kernel
theorem dL_trace_4 : decode cL_trace 4 = .ok (.invokevirtual 61, 3) := by decide +kernel
theorem dL_trace_7 : decode cL_trace 7 = .ok (.i2l, 1) := by decide +kernel
theorem dL_trace_8 : decode cL_trace 8 = .ok (.lastore, 1) := by decide +kernel
theorem dL_trace_9 : decode cL_trace 9 = .ok (.goto 6, 3) := by decide +kernel
theorem dL_trace_12 : decode cL_trace 12 = .ok (.astore_n 3, 1) := by decide +kernel
theorem dL_trace_13 : decode cL_trace 13 = .ok (.iconst 1, 1) := by decide +kernel
theorem dL_trace_14 : decode cL_trace 14 = .ok (.ireturn, 1) := by decide +kernel
theorem dL_trace_15 : decode cL_trace 15 = .ok (.iconst 0, 1) := by decide +kernel
theorem dL_trace_16 : decode cL_trace 16 = .ok (.ireturn, 1) := by decide +kernel
set_option maxRecDepth 20000 in
theorem ggL_twins_X3_twins : GoodIn wsL_twins wsX3_twins := goodIn_ca (goodIn_r _ [6, 7, 8, 9, 10, 11, 12, 13, 14, 15, 16, 17, 18, 19, 20, 21, 5, 22, 23, 24, 25, 26, 27, 28, 29, 30, 31, 32, 33, 34, 35, 36, 37, 38, 39, 40, 41, 42, 43, 44, 45, 46, 47, 48, 49, 50, 51, 52, 53, 54, 55, 56, 57, 58, 59, 60, 61, 62, 63, 64, 65, 66, 67] (by decide +kernel) (by decide +kernel)) (goodIn_sub (fun _ h => List.mem_cons_of_mem _ (List.mem_append_right _ h)) (by decide +kernel))
set_option maxRecDepth 20000 in
theorem gL_twins_X3_twins : GoodIn wsL_twins (wsV RL 64 RX3 yX3_twins wsX3_twins) := goodIn_app (goodIn_of _ (by decide +kernel)) ggL_twins_X3_twins
theorem dL_twins_0 : decode cL_twins 0 = .ok (.aload_n 1, 1) := by decide +kernel
theorem dL_twins_1 : decode cL_twins 1 = .ok (.iconst 0, 1) := by decide +kernel
theorem dL_twins_2 : decode cL_twins 2 = .ok (.aload_n 0, 1) := by decide +kernel
theorem dL_twins_3 : decode cL_twins 3 = .ok (.invokevirtual 64, 3) := by decide +kernel
theorem dL_twins_6 : decode cL_twins 6 = .ok (.i2l, 1) := by decide +kernel
theorem dL_twins_7 : decode cL_twins 7 = .ok (.lastore, 1) := by decide +kernel
theorem dL_twins_8 : decode cL_twins 8 = .ok (.goto 6, 3) := by decide +kernel
theorem dL_twins_11 : decode cL_twins 11 = .ok (.astore_n 2, 1) := by decide +kernel
theorem dL_twins_12 : decode cL_twins 12 = .ok (.iconst 1, 1) := by decide +kernel
theorem dL_twins_13 : decode cL_twins 13 = .ok (.ireturn, 1) := by decide +kernel
theorem dL_twins_14 : decode cL_twins 14 = .ok (.iconst 0, 1) := by decide +kernel
theorem dL_twins_15 : decode cL_twins 15 = .ok (.ireturn, 1) := by decide +kernel
set_option maxRecDepth 20000 in
theorem ggL_law_X3_init : GoodIn wsL_law wsX3_init := goodIn_r _ [9, 10, 11, 12, 13, 14, 15, 16, 17, 18, 19, 20, 21, 22, 23, 24, 25, 26, 27, 28, 29, 30, 31, 32, 33, 34, 35, 36, 37, 38, 39, 40, 41, 42, 2, 43, 44, 45, 46, 47, 48, 49, 50, 51, 52, 53, 54, 521, 522, 523, 524, 525, 526, 527, 528, 529, 563, 564, 565, 566, 567, 568, 569, 570, 571, 572] (by decide +kernel) (by decide +kernel)
set_option maxRecDepth 20000 in
theorem gL_law_X3_init : GoodIn wsL_law (wsX3_init) := ggL_law_X3_init
set_option maxRecDepth 20000 in
theorem ggL_law_X4_init : GoodIn wsL_law wsX4_init := goodIn_r _ [57, 58, 11, 12, 59, 60, 23, 61, 62, 63, 64, 65, 66, 67, 68, 69, 70, 71, 72, 73, 74, 75, 76, 77, 78, 79, 80, 81, 82, 83, 84, 85, 86, 530, 531, 532, 533, 534, 535, 536, 537, 538, 539, 540, 541, 542, 543, 544, 545, 546, 547, 548, 549, 550, 551, 552, 553, 554, 555, 556, 557, 558, 559, 560, 561, 562] (by decide +kernel) (by decide +kernel)
set_option maxRecDepth 20000 in
theorem gL_law_X4_init : GoodIn wsL_law (wsX4_init) := ggL_law_X4_init
set_option maxRecDepth 20000 in
theorem ggL_law_X3_clear : GoodIn wsL_law wsX3_clear := goodIn_r _ [90, 14, 40, 41, 42, 2, 43, 18, 44, 45, 46, 47, 48, 49, 50, 51, 52, 17, 53, 54, 521, 522, 523, 524, 525, 526, 527, 528, 529, 568, 569, 570, 571, 572, 563, 564] (by decide +kernel) (by decide +kernel)
set_option maxRecDepth 20000 in
theorem gL_law_X3_clear : GoodIn wsL_law (wsV RL 72 RX3 yX3_clear wsX3_clear) := goodIn_app (goodIn_of _ (by decide +kernel)) ggL_law_X3_clear
set_option maxRecDepth 20000 in
theorem ggL_law_X4_clear : GoodIn wsL_law wsX4_clear := goodIn_r _ [94, 95, 60, 96, 97, 98, 99, 83, 100, 530, 531, 532, 533, 534, 535, 536, 537, 538, 539, 540, 541, 542, 543, 544, 545, 546, 547, 548, 549, 550, 551, 552, 553, 554, 555, 556, 557, 558, 559, 560, 561, 562] (by decide +kernel) (by decide +kernel)
set_option maxRecDepth 20000 in
theorem gL_law_X4_clear : GoodIn wsL_law (wsV RL 75 RX4 yX4_clear wsX4_clear) := goodIn_app (goodIn_of _ (by decide +kernel)) ggL_law_X4_clear
set_option maxRecDepth 20000 in
theorem ggL_law_L_action : GoodIn wsL_law wsL_action := goodIn_ca (goodIn_ca (goodIn_r _ [104, 105, 106, 107, 108, 109, 2, 110, 111, 112, 14, 113, 114, 115, 116, 117, 118, 119, 120, 121, 122, 123, 124, 125, 126, 127, 26, 128, 129, 130, 131, 132, 39, 521, 522, 523, 524, 525, 526, 527, 528, 529, 568, 569, 570, 571, 572] (by decide +kernel) (by decide +kernel)) (goodIn_sub (fun _ h => List.mem_append_left _ (List.mem_append_left _ (List.mem_append_left _ (List.mem_append_left _ (List.mem_append_right _ h))))) (by decide +kernel))) (goodIn_sub (fun _ h => List.mem_append_left _ (List.mem_append_left _ (List.mem_append_left _ (List.mem_append_right _ h)))) (by decide +kernel))
set_option maxRecDepth 20000 in
theorem gL_law_L_action : GoodIn wsL_law (va_wsS RL 76 yL_action wsL_action) := goodIn_app (goodIn_of _ (by decide +kernel)) ggL_law_L_action
set_option maxRecDepth 20000 in
theorem ggL_law_X4_action : GoodIn wsL_law wsX4_action := goodIn_r _ [136, 95, 60, 61, 62, 63, 64, 137, 138, 5, 139, 140, 141, 142, 143, 144, 145, 146, 530, 531, 532, 533, 534, 535, 536, 537, 538, 539, 540, 541, 542, 543, 544, 545, 546, 547, 548, 549, 550, 551, 552, 553, 554, 555, 556, 557, 558, 559, 560, 561, 562] (by decide +kernel) (by decide +kernel)
set_option maxRecDepth 20000 in
theorem gL_law_X4_action : GoodIn wsL_law (wsV RL 81 RX4 yX4_action wsX4_action) := goodIn_app (goodIn_of _ (by decide +kernel)) ggL_law_X4_action
set_option maxRecDepth 20000 in
theorem ggL_law_X4_thrown : GoodIn wsL_law wsX4_thrown := goodIn_r _ [150, 95, 530, 531, 532, 533, 534, 535, 536, 537, 538, 539, 540, 541, 542, 543, 544, 545, 546, 547, 548, 549, 550, 551, 552, 553, 554, 555, 556, 557, 558, 559, 560, 561, 562] (by decide +kernel) (by decide +kernel)
set_option maxRecDepth 20000 in
theorem gL_law_X4_thrown : GoodIn wsL_law (wsV RL 82 RX4 yX4_thrown wsX4_thrown) := goodIn_app (goodIn_of _ (by decide +kernel)) ggL_law_X4_thrown
set_option maxRecDepth 20000 in
theorem ggL_law_L_effect : GoodIn wsL_law wsL_effect := goodIn_ca (goodIn_ca (goodIn_ca (goodIn_ca (goodIn_r _ [153, 105, 154, 106, 155, 156, 157, 158, 2, 159, 111, 112, 160, 161, 14, 114, 115, 116, 117, 118, 162, 163, 164, 165, 166, 167, 119, 120, 121, 122, 123, 124, 168, 169, 170, 26, 171, 39, 132, 172, 173, 521, 522, 523, 524, 525, 526, 527, 528, 529, 568, 569, 570, 571, 572] (by decide +kernel) (by decide +kernel)) (goodIn_sub (fun _ h => List.mem_append_left _ (List.mem_append_left _ (List.mem_append_left _ (List.mem_append_left _ (List.mem_append_right _ h))))) (by decide +kernel))) (goodIn_sub (fun _ h => List.mem_append_left _ (List.mem_append_left _ (List.mem_append_right _ h))) (by decide +kernel))) (goodIn_sub (fun _ h => List.mem_append_left _ (List.mem_append_left _ (List.mem_append_left _ (List.mem_append_right _ h)))) (by decide +kernel))) (goodIn_sub (fun _ h => List.mem_append_left _ (List.mem_append_right _ h)) (by decide +kernel))
set_option maxRecDepth 20000 in
theorem gL_law_L_effect : GoodIn wsL_law (va_wsS RL 85 yL_effect wsL_effect) := goodIn_app (goodIn_of _ (by decide +kernel)) ggL_law_L_effect
set_option maxRecDepth 20000 in
theorem ggL_law_X4_effect : GoodIn wsL_law wsX4_effect := goodIn_r _ [177, 95, 60, 64, 65, 66, 67, 68, 137, 138, 5, 139, 140, 141, 142, 143, 144, 145, 146, 530, 531, 532, 533, 534, 535, 536, 537, 538, 539, 540, 541, 542, 543, 544, 545, 546, 547, 548, 549, 550, 551, 552, 553, 554, 555, 556, 557, 558, 559, 560, 561, 562] (by decide +kernel) (by decide +kernel)
set_option maxRecDepth 20000 in
theorem gL_law_X4_effect : GoodIn wsL_law (wsV RL 88 RX4 yX4_effect wsX4_effect) := goodIn_app (goodIn_of _ (by decide +kernel)) ggL_law_X4_effect
set_option maxRecDepth 20000 in
theorem ggL_law_L_clause : GoodIn wsL_law wsL_clause := goodIn_ca (goodIn_ca (goodIn_r _ [180, 106, 155, 181, 182, 183, 2, 184, 160, 161, 44, 46, 119, 120, 121, 111, 112, 185, 186, 187, 521, 522, 523, 524, 525, 526, 527, 528, 529] (by decide +kernel) (by decide +kernel)) (goodIn_sub (fun _ h => List.mem_append_left _ (List.mem_append_left _ (List.mem_append_right _ h))) (by decide +kernel))) (goodIn_sub (fun _ h => List.mem_append_left _ (List.mem_append_left _ (List.mem_append_left _ (List.mem_append_left _ (List.mem_append_right _ h))))) (by decide +kernel))
set_option maxRecDepth 20000 in
theorem gL_law_L_clause : GoodIn wsL_law (va_wsS RL 89 yL_clause wsL_clause) := goodIn_app (goodIn_of _ (by decide +kernel)) ggL_law_L_clause
set_option maxRecDepth 20000 in
theorem ggL_law_X4_clause : GoodIn wsL_law wsX4_clause := goodIn_r _ [191, 95, 96, 69, 70, 144, 145, 5, 146, 137, 138, 139, 140, 141, 142, 143, 530, 531, 532, 533, 534, 535, 536, 537, 538, 539, 540, 541, 542, 543, 544, 545, 546, 547, 548, 549, 550, 551, 552, 553, 554, 555, 556, 557, 558, 559, 560, 561, 562] (by decide +kernel) (by decide +kernel)
set_option maxRecDepth 20000 in
theorem gL_law_X4_clause : GoodIn wsL_law (wsV RL 92 RX4 yX4_clause wsX4_clause) := goodIn_app (goodIn_of _ (by decide +kernel)) ggL_law_X4_clause
set_option maxRecDepth 20000 in
theorem ggL_law_L_goal : GoodIn wsL_law wsL_goal := goodIn_ca (goodIn_r _ [194, 106, 195, 196, 197, 2, 198, 47, 119, 120, 121, 111, 112, 122, 123, 124, 199, 200, 201, 202, 203, 204, 205, 521, 522, 523, 524, 525, 526, 527, 528, 529] (by decide +kernel) (by decide +kernel)) (goodIn_sub (fun _ h => List.mem_append_left _ (List.mem_append_left _ (List.mem_append_left _ (List.mem_append_left _ (List.mem_append_right _ h))))) (by decide +kernel))
set_option maxRecDepth 20000 in
theorem gL_law_L_goal : GoodIn wsL_law (va_wsS RL 93 yL_goal wsL_goal) := goodIn_app (goodIn_of _ (by decide +kernel)) ggL_law_L_goal
set_option maxRecDepth 20000 in
theorem ggL_law_X4_goal : GoodIn wsL_law wsX4_goal := goodIn_r _ [209, 95, 97, 98, 144, 145, 5, 146, 137, 138, 139, 140, 141, 142, 143, 210, 211, 212, 530, 531, 532, 533, 534, 535, 536, 537, 538, 539, 540, 541, 542, 543, 544, 545, 546, 547, 548, 549, 550, 551, 552, 553, 554, 555, 556, 557, 558, 559, 560, 561, 562] (by decide +kernel) (by decide +kernel)
set_option maxRecDepth 20000 in
theorem gL_law_X4_goal : GoodIn wsL_law (wsV RL 95 RX4 yX4_goal wsX4_goal) := goodIn_app (goodIn_of _ (by decide +kernel)) ggL_law_X4_goal
set_option maxRecDepth 20000 in
theorem ggL_law_X3_start : GoodIn wsL_law wsX3_start := goodIn_r _ [216, 46, 521, 522, 523, 524, 525, 526, 527, 528, 529] (by decide +kernel) (by decide +kernel)
set_option maxRecDepth 20000 in
theorem gL_law_X3_start : GoodIn wsL_law (wsV RL 96 RX3 yX3_start wsX3_start) := goodIn_app (goodIn_of _ (by decide +kernel)) ggL_law_X3_start
set_option maxRecDepth 20000 in
theorem ggL_law_X4_start : GoodIn wsL_law wsX4_start := goodIn_r _ [220, 95, 221, 222, 223, 5, 224, 96, 69, 70, 530, 531, 532, 533, 534, 535, 536, 537, 538, 539, 540, 541, 542, 543, 544, 545, 546, 547, 548, 549, 550, 551, 552, 553, 554, 555, 556, 557, 558, 559, 560, 561, 562] (by decide +kernel) (by decide +kernel)
set_option maxRecDepth 20000 in
theorem gL_law_X4_start : GoodIn wsL_law (wsV RL 99 RX4 yX4_start wsX4_start) := goodIn_app (goodIn_of _ (by decide +kernel)) ggL_law_X4_start
set_option maxRecDepth 20000 in
theorem ggL_law_L_behind : GoodIn wsL_law wsL_behind := goodIn_ca (goodIn_ca (goodIn_ca (goodIn_ca (goodIn_r _ [227, 105, 154, 106, 228, 229, 230, 231, 2, 232, 111, 112, 233, 234, 45, 14, 114, 115, 116, 117, 118, 162, 163, 164, 165, 166, 167, 235, 236, 237, 26, 238, 129, 130, 239, 240, 241, 242, 39, 172, 173, 521, 522, 523, 524, 525, 526, 527, 528, 529, 568, 569, 570, 571, 572] (by decide +kernel) (by decide +kernel)) (goodIn_sub (fun _ h => List.mem_append_left _ (List.mem_append_left _ (List.mem_append_left _ (List.mem_append_left _ (List.mem_append_right _ h))))) (by decide +kernel))) (goodIn_sub (fun _ h => List.mem_append_right _ h) (by decide +kernel))) (goodIn_sub (fun _ h => List.mem_append_left _ (List.mem_append_left _ (List.mem_append_left _ (List.mem_append_right _ h)))) (by decide +kernel))) (goodIn_sub (fun _ h => List.mem_append_left _ (List.mem_append_right _ h)) (by decide +kernel))
set_option maxRecDepth 20000 in
theorem gL_law_L_behind : GoodIn wsL_law (va_wsS RL 100 yL_behind wsL_behind) := goodIn_app (goodIn_of _ (by decide +kernel)) ggL_law_L_behind
set_option maxRecDepth 20000 in
theorem ggL_law_X4_behind : GoodIn wsL_law wsX4_behind := goodIn_r _ [246, 95, 60, 247, 137, 138, 5, 139, 140, 141, 142, 143, 248, 249, 250, 251, 61, 62, 210, 211, 212, 252, 253, 254, 255, 256, 257, 258, 259, 64, 67, 68, 66, 65, 530, 531, 532, 533, 534, 535, 536, 537, 538, 539, 540, 541, 542, 543, 544, 545, 546, 547, 548, 549, 550, 551, 552, 553, 554, 555, 556, 557, 558, 559, 560, 561, 562] (by decide +kernel) (by decide +kernel)
set_option maxRecDepth 20000 in
theorem gL_law_X4_behind : GoodIn wsL_law (wsV RL 102 RX4 yX4_behind wsX4_behind) := goodIn_app (goodIn_of _ (by decide +kernel)) ggL_law_X4_behind
set_option maxRecDepth 20000 in
theorem ggL_law_L_least : GoodIn wsL_law wsL_least := goodIn_ca (goodIn_ca (goodIn_r _ [262, 106, 154, 263, 264, 265, 2, 266, 111, 112, 45, 267, 268, 269, 270, 271, 272, 273, 274, 275, 276, 277, 278, 279, 280, 281, 47, 282, 283, 284, 285, 14, 235, 236, 237, 26, 238, 129, 130, 286, 287, 288, 289, 239, 240, 241, 242, 39, 172, 173, 290, 291, 292, 293, 131, 294, 295, 296, 166, 167, 521, 522, 523, 524, 525, 526, 527, 528, 529, 568, 569, 570, 571, 572] (by decide +kernel) (by decide +kernel)) (goodIn_sub (fun _ h => List.mem_append_left _ (List.mem_append_left _ (List.mem_append_left _ (List.mem_append_left _ (List.mem_append_right _ h))))) (by decide +kernel))) (goodIn_sub (fun _ h => List.mem_append_left _ (List.mem_append_right _ h)) (by decide +kernel))
set_option maxRecDepth 20000 in
theorem gL_law_L_least : GoodIn wsL_law (va_wsS RL 103 yL_least wsL_least) := goodIn_app (goodIn_of _ (by decide +kernel)) ggL_law_L_least
set_option maxRecDepth 20000 in
theorem ggL_law_X4_least : GoodIn wsL_law wsX4_least := goodIn_r _ [300, 95, 247, 137, 138, 5, 139, 140, 141, 142, 143, 301, 302, 303, 304, 305, 306, 307, 308, 74, 75, 76, 309, 310, 311, 312, 97, 98, 210, 211, 212, 248, 249, 250, 251, 60, 61, 62, 313, 314, 315, 316, 63, 252, 253, 254, 255, 256, 257, 258, 259, 64, 67, 68, 66, 65, 530, 531, 532, 533, 534, 535, 536, 537, 538, 539, 540, 541, 542, 543, 544, 545, 546, 547, 548, 549, 550, 551, 552, 553, 554, 555, 556, 557, 558, 559, 560, 561, 562] (by decide +kernel) (by decide +kernel)
set_option maxRecDepth 20000 in
theorem gL_law_X4_least : GoodIn wsL_law (wsV RL 105 RX4 yX4_least wsX4_least) := goodIn_app (goodIn_of _ (by decide +kernel)) ggL_law_X4_least
set_option maxRecDepth 20000 in
theorem ggL_law_L_plan : GoodIn wsL_law wsL_plan := goodIn_ca (goodIn_ca (goodIn_ca (goodIn_r _ [319, 106, 155, 154, 320, 321, 322, 2, 323, 160, 161, 46, 18, 267, 268, 269, 111, 112, 270, 271, 272, 273, 274, 275, 276, 277, 278, 279, 280, 281, 47, 282, 283, 284, 285, 14, 235, 236, 237, 26, 238, 129, 130, 286, 287, 288, 289, 239, 240, 241, 242, 39, 172, 173, 290, 291, 292, 293, 131, 294, 295, 296, 166, 167, 50, 51, 52, 17, 53, 54, 324, 325, 326, 327, 328, 329, 330, 331, 332, 333, 334, 335, 30, 336, 337, 338, 339, 340, 341, 342, 343, 344, 345, 346, 347, 521, 522, 523, 524, 525, 526, 527, 528, 529, 568, 569, 570, 571, 572, 563, 564] (by decide +kernel) (by decide +kernel)) (goodIn_sub (fun _ h => List.mem_append_left _ (List.mem_append_left _ (List.mem_append_right _ h))) (by decide +kernel))) (goodIn_sub (fun _ h => List.mem_append_left _ (List.mem_append_left _ (List.mem_append_left _ (List.mem_append_left _ (List.mem_append_right _ h))))) (by decide +kernel))) (goodIn_sub (fun _ h => List.mem_append_left _ (List.mem_append_right _ h)) (by decide +kernel))
set_option maxRecDepth 20000 in
theorem gL_law_L_plan : GoodIn wsL_law (va_wsS RL 106 yL_plan wsL_plan) := goodIn_app (goodIn_of _ (by decide +kernel)) ggL_law_L_plan
set_option maxRecDepth 20000 in
theorem ggL_law_X4_plan : GoodIn wsL_law wsX4_plan := goodIn_r _ [351, 95, 137, 138, 5, 139, 140, 141, 142, 143, 221, 222, 223, 224, 96, 69, 70, 301, 302, 303, 304, 305, 306, 307, 308, 74, 75, 76, 309, 310, 311, 312, 97, 98, 210, 211, 212, 248, 249, 250, 251, 60, 61, 62, 313, 314, 315, 316, 63, 252, 253, 254, 255, 256, 257, 258, 259, 64, 67, 68, 66, 65, 352, 353, 354, 355, 77, 80, 79, 356, 357, 358, 359, 360, 361, 362, 78, 363, 364, 365, 366, 367, 368, 369, 370, 371, 372, 373, 374, 375, 376, 377, 378, 99, 81, 71, 72, 73, 530, 531, 532, 533, 534, 535, 536, 537, 538, 539, 540, 541, 542, 543, 544, 545, 546, 547, 548, 549, 550, 551, 552, 553, 554, 555, 556, 557, 558, 559, 560, 561, 562] (by decide +kernel) (by decide +kernel)
set_option maxRecDepth 20000 in
theorem gL_law_X4_plan : GoodIn wsL_law (wsV RL 109 RX4 yX4_plan wsX4_plan) := goodIn_app (goodIn_of _ (by decide +kernel)) ggL_law_X4_plan
set_option maxRecDepth 20000 in
theorem ggL_law_X3_nodes : GoodIn wsL_law wsX3_nodes := goodIn_r _ [382, 18, 521, 522, 523, 524, 525, 526, 527, 528, 529, 563, 564] (by decide +kernel) (by decide +kernel)
set_option maxRecDepth 20000 in
theorem gL_law_X3_nodes : GoodIn wsL_law (wsV RL 110 RX3 yX3_nodes wsX3_nodes) := goodIn_app (goodIn_of _ (by decide +kernel)) ggL_law_X3_nodes
set_option maxRecDepth 20000 in
theorem ggL_law_X4_nodes : GoodIn wsL_law wsX4_nodes := goodIn_r _ [386, 95, 99, 530, 531, 532, 533, 534, 535, 536, 537, 538, 539, 540, 541, 542, 543, 544, 545, 546, 547, 548, 549, 550, 551, 552, 553, 554, 555, 556, 557, 558, 559, 560, 561, 562] (by decide +kernel) (by decide +kernel)
set_option maxRecDepth 20000 in
theorem gL_law_X4_nodes : GoodIn wsL_law (wsV RL 113 RX4 yX4_nodes wsX4_nodes) := goodIn_app (goodIn_of _ (by decide +kernel)) ggL_law_X4_nodes
set_option maxRecDepth 20000 in
theorem ggL_law_L_node : GoodIn wsL_law wsL_node := goodIn_ca (goodIn_r _ [389, 105, 390, 391, 392, 2, 393, 117, 118, 18, 394, 395, 396, 397, 398, 341, 342, 17, 343, 30, 521, 522, 523, 524, 525, 526, 527, 528, 529, 563, 564] (by decide +kernel) (by decide +kernel)) (goodIn_sub (fun _ h => List.mem_append_left _ (List.mem_append_left _ (List.mem_append_left _ (List.mem_append_right _ h)))) (by decide +kernel))
set_option maxRecDepth 20000 in
theorem gL_law_L_node : GoodIn wsL_law (va_wsS RL 114 yL_node wsL_node) := goodIn_app (goodIn_of _ (by decide +kernel)) ggL_law_L_node
set_option maxRecDepth 20000 in
theorem ggL_law_X4_node : GoodIn wsL_law wsX4_node := goodIn_r _ [402, 95, 99, 71, 72, 73, 137, 138, 5, 139, 140, 141, 142, 143, 530, 531, 532, 533, 534, 535, 536, 537, 538, 539, 540, 541, 542, 543, 544, 545, 546, 547, 548, 549, 550, 551, 552, 553, 554, 555, 556, 557, 558, 559, 560, 561, 562] (by decide +kernel) (by decide +kernel)
set_option maxRecDepth 20000 in
theorem gL_law_X4_node : GoodIn wsL_law (wsV RL 116 RX4 yX4_node wsX4_node) := goodIn_app (goodIn_of _ (by decide +kernel)) ggL_law_X4_node
set_option maxRecDepth 20000 in
theorem ggL_law_L_edit : GoodIn wsL_law wsL_edit := goodIn_ca (goodIn_ca (goodIn_ca (goodIn_r _ [405, 105, 154, 228, 406, 407, 408, 2, 409, 233, 234, 18, 394, 395, 396, 397, 117, 118, 114, 115, 116, 162, 163, 164, 165, 166, 167, 14, 398, 341, 342, 17, 343, 30, 410, 333, 334, 335, 521, 522, 523, 524, 525, 526, 527, 528, 529, 563, 564, 568, 569, 570, 571, 572] (by decide +kernel) (by decide +kernel)) (goodIn_sub (fun _ h => List.mem_append_right _ h) (by decide +kernel))) (goodIn_sub (fun _ h => List.mem_append_left _ (List.mem_append_left _ (List.mem_append_left _ (List.mem_append_right _ h)))) (by decide +kernel))) (goodIn_sub (fun _ h => List.mem_append_left _ (List.mem_append_right _ h)) (by decide +kernel))
set_option maxRecDepth 20000 in
theorem gL_law_L_edit : GoodIn wsL_law (va_wsS RL 117 yL_edit wsL_edit) := goodIn_app (goodIn_of _ (by decide +kernel)) ggL_law_L_edit
set_option maxRecDepth 20000 in
theorem ggL_law_X4_edit : GoodIn wsL_law wsX4_edit := goodIn_r _ [414, 95, 99, 60, 71, 137, 138, 5, 139, 140, 141, 142, 143, 530, 531, 532, 533, 534, 535, 536, 537, 538, 539, 540, 541, 542, 543, 544, 545, 546, 547, 548, 549, 550, 551, 552, 553, 554, 555, 556, 557, 558, 559, 560, 561, 562] (by decide +kernel) (by decide +kernel)
set_option maxRecDepth 20000 in
theorem gL_law_X4_edit : GoodIn wsL_law (wsV RL 119 RX4 yX4_edit wsX4_edit) := goodIn_app (goodIn_of _ (by decide +kernel)) ggL_law_X4_edit
set_option maxRecDepth 20000 in
theorem ggL_law_L_right : GoodIn wsL_law wsL_right := goodIn_ca (goodIn_r _ [417, 155, 418, 419, 420, 2, 421, 46, 422, 423, 424, 425, 160, 161, 18, 426, 427, 428, 429, 14, 398, 341, 342, 17, 343, 30, 278, 279, 280, 281, 47, 235, 236, 237, 26, 238, 129, 130, 239, 240, 241, 242, 39, 172, 173, 290, 291, 292, 293, 131, 521, 522, 523, 524, 525, 526, 527, 528, 529, 563, 564, 568, 569, 570, 571, 572] (by decide +kernel) (by decide +kernel)) (goodIn_sub (fun _ h => List.mem_append_left _ (List.mem_append_left _ (List.mem_append_right _ h))) (by decide +kernel))
set_option maxRecDepth 20000 in
theorem gL_law_L_right : GoodIn wsL_law (va_wsS RL 120 yL_right wsL_right) := goodIn_app (goodIn_of _ (by decide +kernel)) ggL_law_L_right
set_option maxRecDepth 20000 in
theorem ggL_law_X4_right : GoodIn wsL_law wsX4_right := goodIn_r _ [433, 95, 99, 81, 82, 71, 72, 73, 140, 141, 142, 5, 143, 221, 222, 223, 224, 96, 69, 70, 309, 310, 311, 312, 97, 98, 210, 211, 212, 248, 249, 250, 251, 60, 61, 62, 313, 314, 315, 316, 63, 252, 253, 254, 255, 256, 257, 258, 259, 64, 67, 68, 66, 65, 530, 531, 532, 533, 534, 535, 536, 537, 538, 539, 540, 541, 542, 543, 544, 545, 546, 547, 548, 549, 550, 551, 552, 553, 554, 555, 556, 557, 558, 559, 560, 561, 562] (by decide +kernel) (by decide +kernel)
set_option maxRecDepth 20000 in
theorem gL_law_X4_right : GoodIn wsL_law (wsV RL 123 RX4 yX4_right wsX4_right) := goodIn_app (goodIn_of _ (by decide +kernel)) ggL_law_X4_right
set_option maxRecDepth 20000 in
theorem ggL_law_L_hide : GoodIn wsL_law wsL_hide := goodIn_ca (goodIn_r _ [436, 106, 437, 438, 439, 2, 440, 111, 112, 48, 46, 441, 172, 173, 521, 522, 523, 524, 525, 526, 527, 528, 529] (by decide +kernel) (by decide +kernel)) (goodIn_sub (fun _ h => List.mem_append_left _ (List.mem_append_left _ (List.mem_append_left _ (List.mem_append_left _ (List.mem_append_right _ h))))) (by decide +kernel))
set_option maxRecDepth 20000 in
theorem gL_law_L_hide : GoodIn wsL_law (va_wsS RL 124 yL_hide wsL_hide) := goodIn_app (goodIn_of _ (by decide +kernel)) ggL_law_L_hide
set_option maxRecDepth 20000 in
theorem ggL_law_X4_hide : GoodIn wsL_law wsX4_hide := goodIn_r _ [445, 95, 83, 137, 138, 5, 139, 140, 141, 142, 143, 221, 222, 223, 224, 96, 69, 70, 530, 531, 532, 533, 534, 535, 536, 537, 538, 539, 540, 541, 542, 543, 544, 545, 546, 547, 548, 549, 550, 551, 552, 553, 554, 555, 556, 557, 558, 559, 560, 561, 562] (by decide +kernel) (by decide +kernel)
end
section
set_option maxRecDepth 20000 in
theorem gL_law_X4_hide : GoodIn wsL_law (wsV RL 126 RX4 yX4_hide wsX4_hide) := goodIn_app (goodIn_of _ (by decide +kernel)) ggL_law_X4_hide
set_option maxRecDepth 20000 in
theorem ggL_law_L_execute : GoodIn wsL_law wsL_execute := goodIn_ca (goodIn_r _ [448, 155, 449, 450, 451, 2, 452, 160, 161, 48, 422, 423, 424, 425, 18, 453, 454, 455, 456, 49, 14, 24, 47, 398, 341, 342, 17, 343, 30, 235, 236, 237, 26, 238, 129, 130, 457, 458, 459, 460, 131, 172, 173, 441, 521, 522, 523, 524, 525, 526, 527, 528, 529, 563, 564, 568, 569, 570, 571, 572] (by decide +kernel) (by decide +kernel)) (goodIn_sub (fun _ h => List.mem_append_left _ (List.mem_append_left _ (List.mem_append_right _ h))) (by decide +kernel))
set_option maxRecDepth 20000 in
theorem gL_law_L_execute : GoodIn wsL_law (va_wsS RL 127 yL_execute wsL_execute) := goodIn_app (goodIn_of _ (by decide +kernel)) ggL_law_L_execute
set_option maxRecDepth 20000 in
theorem ggL_law_X4_execute : GoodIn wsL_law wsX4_execute := goodIn_r _ [464, 95, 99, 83, 100, 71, 60, 61, 62, 84, 63, 73, 72, 97, 98, 140, 141, 142, 5, 143, 210, 211, 212, 256, 257, 258, 259, 64, 67, 68, 66, 65, 530, 531, 532, 533, 534, 535, 536, 537, 538, 539, 540, 541, 542, 543, 544, 545, 546, 547, 548, 549, 550, 551, 552, 553, 554, 555, 556, 557, 558, 559, 560, 561, 562] (by decide +kernel) (by decide +kernel)
set_option maxRecDepth 20000 in
theorem gL_law_X4_execute : GoodIn wsL_law (wsV RL 129 RX4 yX4_execute wsX4_execute) := goodIn_app (goodIn_of _ (by decide +kernel)) ggL_law_X4_execute
set_option maxRecDepth 20000 in
theorem ggL_law_X3_made : GoodIn wsL_law wsX3_made := goodIn_r _ [468, 49, 521, 522, 523, 524, 525, 526, 527, 528, 529] (by decide +kernel) (by decide +kernel)
set_option maxRecDepth 20000 in
theorem gL_law_X3_made : GoodIn wsL_law (wsV RL 130 RX3 yX3_made wsX3_made) := goodIn_app (goodIn_of _ (by decide +kernel)) ggL_law_X3_made
set_option maxRecDepth 20000 in
theorem ggL_law_X4_made : GoodIn wsL_law wsX4_made := goodIn_r _ [472, 95, 100, 530, 531, 532, 533, 534, 535, 536, 537, 538, 539, 540, 541, 542, 543, 544, 545, 546, 547, 548, 549, 550, 551, 552, 553, 554, 555, 556, 557, 558, 559, 560, 561, 562] (by decide +kernel) (by decide +kernel)
set_option maxRecDepth 20000 in
theorem gL_law_X4_made : GoodIn wsL_law (wsV RL 133 RX4 yX4_made wsX4_made) := goodIn_app (goodIn_of _ (by decide +kernel)) ggL_law_X4_made
set_option maxRecDepth 20000 in
theorem ggL_law_L_trace : GoodIn wsL_law wsL_trace := goodIn_ca (goodIn_r _ [475, 105, 476, 477, 478, 2, 479, 117, 118, 49, 24, 521, 522, 523, 524, 525, 526, 527, 528, 529] (by decide +kernel) (by decide +kernel)) (goodIn_sub (fun _ h => List.mem_append_left _ (List.mem_append_left _ (List.mem_append_left _ (List.mem_append_right _ h)))) (by decide +kernel))
set_option maxRecDepth 20000 in
theorem gL_law_L_trace : GoodIn wsL_law (va_wsS RL 134 yL_trace wsL_trace) := goodIn_app (goodIn_of _ (by decide +kernel)) ggL_law_L_trace
set_option maxRecDepth 20000 in
theorem ggL_law_X4_trace : GoodIn wsL_law wsX4_trace := goodIn_r _ [483, 95, 100, 84, 137, 138, 5, 139, 140, 141, 142, 143, 530, 531, 532, 533, 534, 535, 536, 537, 538, 539, 540, 541, 542, 543, 544, 545, 546, 547, 548, 549, 550, 551, 552, 553, 554, 555, 556, 557, 558, 559, 560, 561, 562] (by decide +kernel) (by decide +kernel)
set_option maxRecDepth 20000 in
theorem gL_law_X4_trace : GoodIn wsL_law (wsV RL 136 RX4 yX4_trace wsX4_trace) := goodIn_app (goodIn_of _ (by decide +kernel)) ggL_law_X4_trace
set_option maxRecDepth 20000 in
theorem ggL_law_L_twins : GoodIn wsL_law wsL_twins := goodIn_ca (goodIn_r _ [486, 154, 487, 488, 489, 2, 490, 166, 167, 22, 46, 491, 492, 493, 21, 494, 495, 34, 35, 496, 497, 498, 499, 14, 235, 236, 237, 26, 238, 129, 130, 500, 501, 502, 503, 504, 458, 459, 460, 131, 172, 173, 239, 240, 241, 242, 39, 505, 506, 507, 508, 521, 522, 523, 524, 525, 526, 527, 528, 529, 565, 566, 567, 568, 569, 570, 571, 572] (by decide +kernel) (by decide +kernel)) (goodIn_sub (fun _ h => List.mem_append_left _ (List.mem_append_right _ h)) (by decide +kernel))
set_option maxRecDepth 20000 in
theorem gL_law_L_twins : GoodIn wsL_law (va_wsS RL 137 yL_twins wsL_twins) := goodIn_app (goodIn_of _ (by decide +kernel)) ggL_law_L_twins
set_option maxRecDepth 20000 in
theorem ggL_law_X4_twins : GoodIn wsL_law wsX4_twins := goodIn_r _ [512, 95, 86, 85, 221, 222, 223, 5, 224, 96, 69, 70, 513, 514, 515, 516, 248, 249, 250, 251, 60, 61, 62, 210, 211, 212, 517, 518, 519, 520, 63, 256, 257, 258, 259, 64, 67, 68, 66, 65, 140, 141, 142, 143, 530, 531, 532, 533, 534, 535, 536, 537, 538, 539, 540, 541, 542, 543, 544, 545, 546, 547, 548, 549, 550, 551, 552, 553, 554, 555, 556, 557, 558, 559, 560, 561, 562] (by decide +kernel) (by decide +kernel)
set_option maxRecDepth 20000 in
theorem gL_law_X4_twins : GoodIn wsL_law (wsV RL 139 RX4 yX4_twins wsX4_twins) := goodIn_app (goodIn_of _ (by decide +kernel)) ggL_law_X4_twins
theorem dL_law_0 : decode cL_law 0 = .ok (.new 8, 3) := by decide +kernel
theorem dL_law_3 : decode cL_law 3 = .ok (.dup, 1) := by decide +kernel
theorem dL_law_4 : decode cL_law 4 = .ok (.invokespecial 68, 3) := by decide +kernel
theorem dL_law_7 : decode cL_law 7 = .ok (.astore_n 1, 1) := by decide +kernel
theorem dL_law_8 : decode cL_law 8 = .ok (.new 69, 3) := by decide +kernel
theorem dL_law_11 : decode cL_law 11 = .ok (.dup, 1) := by decide +kernel
theorem dL_law_12 : decode cL_law 12 = .ok (.invokespecial 71, 3) := by decide +kernel
theorem dL_law_15 : decode cL_law 15 = .ok (.astore_n 2, 1) := by decide +kernel
theorem dL_law_16 : decode cL_law 16 = .ok (.iconst 1, 1) := by decide +kernel
theorem dL_law_17 : decode cL_law 17 = .ok (.newarray .long, 2) := by decide +kernel
theorem dL_law_19 : decode cL_law 19 = .ok (.astore_n 3, 1) := by decide +kernel
theorem dL_law_20 : decode cL_law 20 = .ok (.iconst 0, 1) := by decide +kernel
theorem dL_law_21 : decode cL_law 21 = .ok (.istore 4, 2) := by decide +kernel
theorem dL_law_23 : decode cL_law 23 = .ok (.iload 4, 2) := by decide +kernel
theorem dL_law_25 : decode cL_law 25 = .ok (.aload_n 0, 1) := by decide +kernel
theorem dL_law_26 : decode cL_law 26 = .ok (.arraylength, 1) := by decide +kernel
theorem dL_law_27 : decode cL_law 27 = .ok (.bipush 6, 2) := by decide +kernel
theorem dL_law_29 : decode cL_law 29 = .ok (.isub, 1) := by decide +kernel
theorem dL_law_30 : decode cL_law 30 = .ok (.if_icmp .gt 1104, 3) := by decide +kernel
theorem dL_law_33 : decode cL_law 33 = .ok (.aload_n 0, 1) := by decide +kernel
theorem dL_law_34 : decode cL_law 34 = .ok (.iload 4, 2) := by decide +kernel
theorem dL_law_36 : decode cL_law 36 = .ok (.iaload, 1) := by decide +kernel
theorem dL_law_37 : decode cL_law 37 = .ok (.bipush 31, 2) := by decide +kernel
theorem dL_law_39 : decode cL_law 39 = .ok (.iand, 1) := by decide +kernel
theorem dL_law_40 : decode cL_law 40 = .ok (.tableswitch 1088 0 17 #[88, 101, 200, 320, 388, 456, 469, 537, 605, 661, 674, 742, 810, 861, 924, 975, 988, 1044], 88) := by decide +kernel
theorem dL_law_128 : decode cL_law 128 = .ok (.aload_n 1, 1) := by decide +kernel
theorem dL_law_129 : decode cL_law 129 = .ok (.invokevirtual 72, 3) := by decide +kernel
theorem dL_law_132 : decode cL_law 132 = .ok (.aload_n 2, 1) := by decide +kernel
theorem dL_law_133 : decode cL_law 133 = .ok (.invokevirtual 75, 3) := by decide +kernel
theorem dL_law_136 : decode cL_law 136 = .ok (.if_icmp .eq 992, 3) := by decide +kernel
theorem dL_law_139 : decode cL_law 139 = .ok (.iconst 0, 1) := by decide +kernel
theorem dL_law_140 : decode cL_law 140 = .ok (.ireturn, 1) := by decide +kernel
theorem dL_law_141 : decode cL_law 141 = .ok (.aload_n 1, 1) := by decide +kernel
theorem dL_law_142 : decode cL_law 142 = .ok (.aload_n 0, 1) := by decide +kernel
theorem dL_law_143 : decode cL_law 143 = .ok (.iload 4, 2) := by decide +kernel
theorem dL_law_145 : decode cL_law 145 = .ok (.iconst 1, 1) := by decide +kernel
theorem dL_law_146 : decode cL_law 146 = .ok (.iadd, 1) := by decide +kernel
theorem dL_law_147 : decode cL_law 147 = .ok (.iaload, 1) := by decide +kernel
theorem dL_law_148 : decode cL_law 148 = .ok (.aload_n 0, 1) := by decide +kernel
theorem dL_law_149 : decode cL_law 149 = .ok (.iload 4, 2) := by decide +kernel
theorem dL_law_151 : decode cL_law 151 = .ok (.iconst 2, 1) := by decide +kernel
theorem dL_law_152 : decode cL_law 152 = .ok (.iadd, 1) := by decide +kernel
theorem dL_law_153 : decode cL_law 153 = .ok (.iaload, 1) := by decide +kernel
theorem dL_law_154 : decode cL_law 154 = .ok (.aload_n 0, 1) := by decide +kernel
theorem dL_law_155 : decode cL_law 155 = .ok (.iload 4, 2) := by decide +kernel
theorem dL_law_157 : decode cL_law 157 = .ok (.iconst 3, 1) := by decide +kernel
theorem dL_law_158 : decode cL_law 158 = .ok (.iadd, 1) := by decide +kernel
theorem dL_law_159 : decode cL_law 159 = .ok (.iaload, 1) := by decide +kernel
theorem dL_law_160 : decode cL_law 160 = .ok (.aload_n 0, 1) := by decide +kernel
theorem dL_law_161 : decode cL_law 161 = .ok (.iload 4, 2) := by decide +kernel
theorem dL_law_163 : decode cL_law 163 = .ok (.iconst 4, 1) := by decide +kernel
theorem dL_law_164 : decode cL_law 164 = .ok (.iadd, 1) := by decide +kernel
theorem dL_law_165 : decode cL_law 165 = .ok (.iaload, 1) := by decide +kernel
theorem dL_law_166 : decode cL_law 166 = .ok (.aload_n 3, 1) := by decide +kernel
theorem dL_law_167 : decode cL_law 167 = .ok (.invokestatic 76, 3) := by decide +kernel
theorem dL_law_170 : decode cL_law 170 = .ok (.istore 5, 2) := by decide +kernel
theorem dL_law_172 : decode cL_law 172 = .ok (.aload_n 2, 1) := by decide +kernel
theorem dL_law_173 : decode cL_law 173 = .ok (.aload_n 0, 1) := by decide +kernel
theorem dL_law_174 : decode cL_law 174 = .ok (.iload 4, 2) := by decide +kernel
theorem dL_law_176 : decode cL_law 176 = .ok (.iconst 1, 1) := by decide +kernel
theorem dL_law_177 : decode cL_law 177 = .ok (.iadd, 1) := by decide +kernel
theorem dL_law_178 : decode cL_law 178 = .ok (.iaload, 1) := by decide +kernel
theorem dL_law_179 : decode cL_law 179 = .ok (.aload_n 0, 1) := by decide +kernel
theorem dL_law_180 : decode cL_law 180 = .ok (.iload 4, 2) := by decide +kernel
theorem dL_law_182 : decode cL_law 182 = .ok (.iconst 2, 1) := by decide +kernel
theorem dL_law_183 : decode cL_law 183 = .ok (.iadd, 1) := by decide +kernel
theorem dL_law_184 : decode cL_law 184 = .ok (.iaload, 1) := by decide +kernel
theorem dL_law_185 : decode cL_law 185 = .ok (.aload_n 0, 1) := by decide +kernel
theorem dL_law_186 : decode cL_law 186 = .ok (.iload 4, 2) := by decide +kernel
theorem dL_law_188 : decode cL_law 188 = .ok (.iconst 3, 1) := by decide +kernel
theorem dL_law_189 : decode cL_law 189 = .ok (.iadd, 1) := by decide +kernel
theorem dL_law_190 : decode cL_law 190 = .ok (.iaload, 1) := by decide +kernel
theorem dL_law_191 : decode cL_law 191 = .ok (.aload_n 0, 1) := by decide +kernel
theorem dL_law_192 : decode cL_law 192 = .ok (.iload 4, 2) := by decide +kernel
theorem dL_law_194 : decode cL_law 194 = .ok (.iconst 4, 1) := by decide +kernel
theorem dL_law_195 : decode cL_law 195 = .ok (.iadd, 1) := by decide +kernel
theorem dL_law_196 : decode cL_law 196 = .ok (.iaload, 1) := by decide +kernel
theorem dL_law_197 : decode cL_law 197 = .ok (.invokevirtual 81, 3) := by decide +kernel
theorem dL_law_200 : decode cL_law 200 = .ok (.istore 6, 2) := by decide +kernel
theorem dL_law_202 : decode cL_law 202 = .ok (.aload_n 2, 1) := by decide +kernel
theorem dL_law_203 : decode cL_law 203 = .ok (.invokevirtual 82, 3) := by decide +kernel
theorem dL_law_206 : decode cL_law 206 = .ok (.iload 5, 2) := by decide +kernel
theorem dL_law_208 : decode cL_law 208 = .ok (.if_icmp .eq 5, 3) := by decide +kernel
theorem dL_law_211 : decode cL_law 211 = .ok (.iconst 0, 1) := by decide +kernel
theorem dL_law_212 : decode cL_law 212 = .ok (.ireturn, 1) := by decide +kernel
theorem dL_law_213 : decode cL_law 213 = .ok (.iload 5, 2) := by decide +kernel
theorem dL_law_215 : decode cL_law 215 = .ok (.ifCond .ne 22, 3) := by decide +kernel
theorem dL_law_218 : decode cL_law 218 = .ok (.aload_n 3, 1) := by decide +kernel
theorem dL_law_219 : decode cL_law 219 = .ok (.iconst 0, 1) := by decide +kernel
theorem dL_law_220 : decode cL_law 220 = .ok (.laload, 1) := by decide +kernel
theorem dL_law_221 : decode cL_law 221 = .ok (.iload 6, 2) := by decide +kernel
theorem dL_law_223 : decode cL_law 223 = .ok (.ifCond .eq 7, 3) := by decide +kernel
theorem dL_law_226 : decode cL_law 226 = .ok (.lconst 1, 1) := by decide +kernel
theorem dL_law_227 : decode cL_law 227 = .ok (.goto 4, 3) := by decide +kernel
theorem dL_law_230 : decode cL_law 230 = .ok (.lconst 0, 1) := by decide +kernel
theorem dL_law_231 : decode cL_law 231 = .ok (.lcmp, 1) := by decide +kernel
theorem dL_law_232 : decode cL_law 232 = .ok (.ifCond .eq 5, 3) := by decide +kernel
theorem dL_law_235 : decode cL_law 235 = .ok (.iconst 0, 1) := by decide +kernel
theorem dL_law_236 : decode cL_law 236 = .ok (.ireturn, 1) := by decide +kernel
theorem dL_law_237 : decode cL_law 237 = .ok (.goto 891, 3) := by decide +kernel
theorem dL_law_240 : decode cL_law 240 = .ok (.aload_n 1, 1) := by decide +kernel
theorem dL_law_241 : decode cL_law 241 = .ok (.aload_n 0, 1) := by decide +kernel
theorem dL_law_242 : decode cL_law 242 = .ok (.iload 4, 2) := by decide +kernel
theorem dL_law_244 : decode cL_law 244 = .ok (.iconst 1, 1) := by decide +kernel
theorem dL_law_245 : decode cL_law 245 = .ok (.iadd, 1) := by decide +kernel
theorem dL_law_246 : decode cL_law 246 = .ok (.iaload, 1) := by decide +kernel
theorem dL_law_247 : decode cL_law 247 = .ok (.aload_n 0, 1) := by decide +kernel
theorem dL_law_248 : decode cL_law 248 = .ok (.iload 4, 2) := by decide +kernel
theorem dL_law_250 : decode cL_law 250 = .ok (.iconst 2, 1) := by decide +kernel
theorem dL_law_251 : decode cL_law 251 = .ok (.iadd, 1) := by decide +kernel
theorem dL_law_252 : decode cL_law 252 = .ok (.iaload, 1) := by decide +kernel
theorem dL_law_253 : decode cL_law 253 = .ok (.aload_n 0, 1) := by decide +kernel
theorem dL_law_254 : decode cL_law 254 = .ok (.iload 4, 2) := by decide +kernel
theorem dL_law_256 : decode cL_law 256 = .ok (.iconst 3, 1) := by decide +kernel
theorem dL_law_257 : decode cL_law 257 = .ok (.iadd, 1) := by decide +kernel
theorem dL_law_258 : decode cL_law 258 = .ok (.iaload, 1) := by decide +kernel
theorem dL_law_259 : decode cL_law 259 = .ok (.ifCond .eq 7, 3) := by decide +kernel
theorem dL_law_262 : decode cL_law 262 = .ok (.iconst 1, 1) := by decide +kernel
theorem dL_law_263 : decode cL_law 263 = .ok (.goto 4, 3) := by decide +kernel
theorem dL_law_266 : decode cL_law 266 = .ok (.iconst 0, 1) := by decide +kernel
theorem dL_law_267 : decode cL_law 267 = .ok (.aload_n 0, 1) := by decide +kernel
theorem dL_law_268 : decode cL_law 268 = .ok (.iload 4, 2) := by decide +kernel
theorem dL_law_270 : decode cL_law 270 = .ok (.iconst 4, 1) := by decide +kernel
theorem dL_law_271 : decode cL_law 271 = .ok (.iadd, 1) := by decide +kernel
theorem dL_law_272 : decode cL_law 272 = .ok (.iaload, 1) := by decide +kernel
theorem dL_law_273 : decode cL_law 273 = .ok (.aload_n 0, 1) := by decide +kernel
theorem dL_law_274 : decode cL_law 274 = .ok (.iload 4, 2) := by decide +kernel
theorem dL_law_276 : decode cL_law 276 = .ok (.iconst 5, 1) := by decide +kernel
theorem dL_law_277 : decode cL_law 277 = .ok (.iadd, 1) := by decide +kernel
theorem dL_law_278 : decode cL_law 278 = .ok (.iaload, 1) := by decide +kernel
theorem dL_law_279 : decode cL_law 279 = .ok (.aload_n 3, 1) := by decide +kernel
theorem dL_law_280 : decode cL_law 280 = .ok (.invokestatic 85, 3) := by decide +kernel
theorem dL_law_283 : decode cL_law 283 = .ok (.istore 5, 2) := by decide +kernel
theorem dL_law_285 : decode cL_law 285 = .ok (.aload_n 2, 1) := by decide +kernel
theorem dL_law_286 : decode cL_law 286 = .ok (.aload_n 0, 1) := by decide +kernel
theorem dL_law_287 : decode cL_law 287 = .ok (.iload 4, 2) := by decide +kernel
theorem dL_law_289 : decode cL_law 289 = .ok (.iconst 1, 1) := by decide +kernel
theorem dL_law_290 : decode cL_law 290 = .ok (.iadd, 1) := by decide +kernel
theorem dL_law_291 : decode cL_law 291 = .ok (.iaload, 1) := by decide +kernel
theorem dL_law_292 : decode cL_law 292 = .ok (.aload_n 0, 1) := by decide +kernel
theorem dL_law_293 : decode cL_law 293 = .ok (.iload 4, 2) := by decide +kernel
theorem dL_law_295 : decode cL_law 295 = .ok (.iconst 2, 1) := by decide +kernel
theorem dL_law_296 : decode cL_law 296 = .ok (.iadd, 1) := by decide +kernel
theorem dL_law_297 : decode cL_law 297 = .ok (.iaload, 1) := by decide +kernel
theorem dL_law_298 : decode cL_law 298 = .ok (.aload_n 0, 1) := by decide +kernel
theorem dL_law_299 : decode cL_law 299 = .ok (.iload 4, 2) := by decide +kernel
theorem dL_law_301 : decode cL_law 301 = .ok (.iconst 3, 1) := by decide +kernel
theorem dL_law_302 : decode cL_law 302 = .ok (.iadd, 1) := by decide +kernel
theorem dL_law_303 : decode cL_law 303 = .ok (.iaload, 1) := by decide +kernel
theorem dL_law_304 : decode cL_law 304 = .ok (.ifCond .eq 7, 3) := by decide +kernel
theorem dL_law_307 : decode cL_law 307 = .ok (.iconst 1, 1) := by decide +kernel
theorem dL_law_308 : decode cL_law 308 = .ok (.goto 4, 3) := by decide +kernel
theorem dL_law_311 : decode cL_law 311 = .ok (.iconst 0, 1) := by decide +kernel
theorem dL_law_312 : decode cL_law 312 = .ok (.aload_n 0, 1) := by decide +kernel
theorem dL_law_313 : decode cL_law 313 = .ok (.iload 4, 2) := by decide +kernel
theorem dL_law_315 : decode cL_law 315 = .ok (.iconst 4, 1) := by decide +kernel
theorem dL_law_316 : decode cL_law 316 = .ok (.iadd, 1) := by decide +kernel
theorem dL_law_317 : decode cL_law 317 = .ok (.iaload, 1) := by decide +kernel
theorem dL_law_318 : decode cL_law 318 = .ok (.aload_n 0, 1) := by decide +kernel
theorem dL_law_319 : decode cL_law 319 = .ok (.iload 4, 2) := by decide +kernel
theorem dL_law_321 : decode cL_law 321 = .ok (.iconst 5, 1) := by decide +kernel
theorem dL_law_322 : decode cL_law 322 = .ok (.iadd, 1) := by decide +kernel
theorem dL_law_323 : decode cL_law 323 = .ok (.iaload, 1) := by decide +kernel
theorem dL_law_324 : decode cL_law 324 = .ok (.invokevirtual 88, 3) := by decide +kernel
theorem dL_law_327 : decode cL_law 327 = .ok (.istore 6, 2) := by decide +kernel
theorem dL_law_329 : decode cL_law 329 = .ok (.aload_n 2, 1) := by decide +kernel
theorem dL_law_330 : decode cL_law 330 = .ok (.invokevirtual 82, 3) := by decide +kernel
theorem dL_law_333 : decode cL_law 333 = .ok (.iload 5, 2) := by decide +kernel
theorem dL_law_335 : decode cL_law 335 = .ok (.if_icmp .eq 5, 3) := by decide +kernel
theorem dL_law_338 : decode cL_law 338 = .ok (.iconst 0, 1) := by decide +kernel
theorem dL_law_339 : decode cL_law 339 = .ok (.ireturn, 1) := by decide +kernel
theorem dL_law_340 : decode cL_law 340 = .ok (.iload 5, 2) := by decide +kernel
theorem dL_law_342 : decode cL_law 342 = .ok (.ifCond .ne 15, 3) := by decide +kernel
theorem dL_law_345 : decode cL_law 345 = .ok (.aload_n 3, 1) := by decide +kernel
theorem dL_law_346 : decode cL_law 346 = .ok (.iconst 0, 1) := by decide +kernel
theorem dL_law_347 : decode cL_law 347 = .ok (.laload, 1) := by decide +kernel
theorem dL_law_348 : decode cL_law 348 = .ok (.iload 6, 2) := by decide +kernel
theorem dL_law_350 : decode cL_law 350 = .ok (.i2l, 1) := by decide +kernel
theorem dL_law_351 : decode cL_law 351 = .ok (.lcmp, 1) := by decide +kernel
theorem dL_law_352 : decode cL_law 352 = .ok (.ifCond .eq 5, 3) := by decide +kernel
theorem dL_law_355 : decode cL_law 355 = .ok (.iconst 0, 1) := by decide +kernel
theorem dL_law_356 : decode cL_law 356 = .ok (.ireturn, 1) := by decide +kernel
theorem dL_law_357 : decode cL_law 357 = .ok (.goto 771, 3) := by decide +kernel
theorem dL_law_360 : decode cL_law 360 = .ok (.aload_n 1, 1) := by decide +kernel
theorem dL_law_361 : decode cL_law 361 = .ok (.aload_n 0, 1) := by decide +kernel
theorem dL_law_362 : decode cL_law 362 = .ok (.iload 4, 2) := by decide +kernel
theorem dL_law_364 : decode cL_law 364 = .ok (.iconst 1, 1) := by decide +kernel
theorem dL_law_365 : decode cL_law 365 = .ok (.iadd, 1) := by decide +kernel
theorem dL_law_366 : decode cL_law 366 = .ok (.iaload, 1) := by decide +kernel
theorem dL_law_367 : decode cL_law 367 = .ok (.aload_n 0, 1) := by decide +kernel
theorem dL_law_368 : decode cL_law 368 = .ok (.iload 4, 2) := by decide +kernel
theorem dL_law_370 : decode cL_law 370 = .ok (.iconst 2, 1) := by decide +kernel
theorem dL_law_371 : decode cL_law 371 = .ok (.iadd, 1) := by decide +kernel
theorem dL_law_372 : decode cL_law 372 = .ok (.iaload, 1) := by decide +kernel
theorem dL_law_373 : decode cL_law 373 = .ok (.aload_n 3, 1) := by decide +kernel
theorem dL_law_374 : decode cL_law 374 = .ok (.invokestatic 89, 3) := by decide +kernel
theorem dL_law_377 : decode cL_law 377 = .ok (.istore 5, 2) := by decide +kernel
theorem dL_law_379 : decode cL_law 379 = .ok (.aload_n 2, 1) := by decide +kernel
theorem dL_law_380 : decode cL_law 380 = .ok (.aload_n 0, 1) := by decide +kernel
theorem dL_law_381 : decode cL_law 381 = .ok (.iload 4, 2) := by decide +kernel
theorem dL_law_383 : decode cL_law 383 = .ok (.iconst 1, 1) := by decide +kernel
theorem dL_law_384 : decode cL_law 384 = .ok (.iadd, 1) := by decide +kernel
theorem dL_law_385 : decode cL_law 385 = .ok (.iaload, 1) := by decide +kernel
theorem dL_law_386 : decode cL_law 386 = .ok (.aload_n 0, 1) := by decide +kernel
theorem dL_law_387 : decode cL_law 387 = .ok (.iload 4, 2) := by decide +kernel
theorem dL_law_389 : decode cL_law 389 = .ok (.iconst 2, 1) := by decide +kernel
theorem dL_law_390 : decode cL_law 390 = .ok (.iadd, 1) := by decide +kernel
theorem dL_law_391 : decode cL_law 391 = .ok (.iaload, 1) := by decide +kernel
theorem dL_law_392 : decode cL_law 392 = .ok (.invokevirtual 92, 3) := by decide +kernel
theorem dL_law_395 : decode cL_law 395 = .ok (.istore 6, 2) := by decide +kernel
theorem dL_law_397 : decode cL_law 397 = .ok (.aload_n 2, 1) := by decide +kernel
theorem dL_law_398 : decode cL_law 398 = .ok (.invokevirtual 82, 3) := by decide +kernel
theorem dL_law_401 : decode cL_law 401 = .ok (.iload 5, 2) := by decide +kernel
theorem dL_law_403 : decode cL_law 403 = .ok (.if_icmp .eq 5, 3) := by decide +kernel
theorem dL_law_406 : decode cL_law 406 = .ok (.iconst 0, 1) := by decide +kernel
theorem dL_law_407 : decode cL_law 407 = .ok (.ireturn, 1) := by decide +kernel
theorem dL_law_408 : decode cL_law 408 = .ok (.iload 5, 2) := by decide +kernel
theorem dL_law_410 : decode cL_law 410 = .ok (.ifCond .ne 15, 3) := by decide +kernel
theorem dL_law_413 : decode cL_law 413 = .ok (.aload_n 3, 1) := by decide +kernel
theorem dL_law_414 : decode cL_law 414 = .ok (.iconst 0, 1) := by decide +kernel
theorem dL_law_415 : decode cL_law 415 = .ok (.laload, 1) := by decide +kernel
theorem dL_law_416 : decode cL_law 416 = .ok (.iload 6, 2) := by decide +kernel
theorem dL_law_418 : decode cL_law 418 = .ok (.i2l, 1) := by decide +kernel
theorem dL_law_419 : decode cL_law 419 = .ok (.lcmp, 1) := by decide +kernel
theorem dL_law_420 : decode cL_law 420 = .ok (.ifCond .eq 5, 3) := by decide +kernel
theorem dL_law_423 : decode cL_law 423 = .ok (.iconst 0, 1) := by decide +kernel
theorem dL_law_424 : decode cL_law 424 = .ok (.ireturn, 1) := by decide +kernel
theorem dL_law_425 : decode cL_law 425 = .ok (.goto 703, 3) := by decide +kernel
theorem dL_law_428 : decode cL_law 428 = .ok (.aload_n 1, 1) := by decide +kernel
theorem dL_law_429 : decode cL_law 429 = .ok (.aload_n 0, 1) := by decide +kernel
theorem dL_law_430 : decode cL_law 430 = .ok (.iload 4, 2) := by decide +kernel
theorem dL_law_432 : decode cL_law 432 = .ok (.iconst 1, 1) := by decide +kernel
theorem dL_law_433 : decode cL_law 433 = .ok (.iadd, 1) := by decide +kernel
theorem dL_law_434 : decode cL_law 434 = .ok (.iaload, 1) := by decide +kernel
theorem dL_law_435 : decode cL_law 435 = .ok (.aload_n 0, 1) := by decide +kernel
theorem dL_law_436 : decode cL_law 436 = .ok (.iload 4, 2) := by decide +kernel
theorem dL_law_438 : decode cL_law 438 = .ok (.iconst 2, 1) := by decide +kernel
theorem dL_law_439 : decode cL_law 439 = .ok (.iadd, 1) := by decide +kernel
theorem dL_law_440 : decode cL_law 440 = .ok (.iaload, 1) := by decide +kernel
theorem dL_law_441 : decode cL_law 441 = .ok (.aload_n 3, 1) := by decide +kernel
theorem dL_law_442 : decode cL_law 442 = .ok (.invokestatic 93, 3) := by decide +kernel
theorem dL_law_445 : decode cL_law 445 = .ok (.istore 5, 2) := by decide +kernel
theorem dL_law_447 : decode cL_law 447 = .ok (.aload_n 2, 1) := by decide +kernel
theorem dL_law_448 : decode cL_law 448 = .ok (.aload_n 0, 1) := by decide +kernel
theorem dL_law_449 : decode cL_law 449 = .ok (.iload 4, 2) := by decide +kernel
theorem dL_law_451 : decode cL_law 451 = .ok (.iconst 1, 1) := by decide +kernel
theorem dL_law_452 : decode cL_law 452 = .ok (.iadd, 1) := by decide +kernel
theorem dL_law_453 : decode cL_law 453 = .ok (.iaload, 1) := by decide +kernel
theorem dL_law_454 : decode cL_law 454 = .ok (.aload_n 0, 1) := by decide +kernel
theorem dL_law_455 : decode cL_law 455 = .ok (.iload 4, 2) := by decide +kernel
theorem dL_law_457 : decode cL_law 457 = .ok (.iconst 2, 1) := by decide +kernel
theorem dL_law_458 : decode cL_law 458 = .ok (.iadd, 1) := by decide +kernel
theorem dL_law_459 : decode cL_law 459 = .ok (.iaload, 1) := by decide +kernel
theorem dL_law_460 : decode cL_law 460 = .ok (.invokevirtual 95, 3) := by decide +kernel
theorem dL_law_463 : decode cL_law 463 = .ok (.istore 6, 2) := by decide +kernel
theorem dL_law_465 : decode cL_law 465 = .ok (.aload_n 2, 1) := by decide +kernel
theorem dL_law_466 : decode cL_law 466 = .ok (.invokevirtual 82, 3) := by decide +kernel
theorem dL_law_469 : decode cL_law 469 = .ok (.iload 5, 2) := by decide +kernel
theorem dL_law_471 : decode cL_law 471 = .ok (.if_icmp .eq 5, 3) := by decide +kernel
theorem dL_law_474 : decode cL_law 474 = .ok (.iconst 0, 1) := by decide +kernel
theorem dL_law_475 : decode cL_law 475 = .ok (.ireturn, 1) := by decide +kernel
theorem dL_law_476 : decode cL_law 476 = .ok (.iload 5, 2) := by decide +kernel
theorem dL_law_478 : decode cL_law 478 = .ok (.ifCond .ne 15, 3) := by decide +kernel
theorem dL_law_481 : decode cL_law 481 = .ok (.aload_n 3, 1) := by decide +kernel
theorem dL_law_482 : decode cL_law 482 = .ok (.iconst 0, 1) := by decide +kernel
theorem dL_law_483 : decode cL_law 483 = .ok (.laload, 1) := by decide +kernel
theorem dL_law_484 : decode cL_law 484 = .ok (.iload 6, 2) := by decide +kernel
theorem dL_law_486 : decode cL_law 486 = .ok (.i2l, 1) := by decide +kernel
theorem dL_law_487 : decode cL_law 487 = .ok (.lcmp, 1) := by decide +kernel
theorem dL_law_488 : decode cL_law 488 = .ok (.ifCond .eq 5, 3) := by decide +kernel
theorem dL_law_491 : decode cL_law 491 = .ok (.iconst 0, 1) := by decide +kernel
theorem dL_law_492 : decode cL_law 492 = .ok (.ireturn, 1) := by decide +kernel
theorem dL_law_493 : decode cL_law 493 = .ok (.goto 635, 3) := by decide +kernel
theorem dL_law_496 : decode cL_law 496 = .ok (.aload_n 1, 1) := by decide +kernel
theorem dL_law_497 : decode cL_law 497 = .ok (.invokevirtual 96, 3) := by decide +kernel
theorem dL_law_500 : decode cL_law 500 = .ok (.aload_n 2, 1) := by decide +kernel
theorem dL_law_501 : decode cL_law 501 = .ok (.invokevirtual 99, 3) := by decide +kernel
theorem dL_law_504 : decode cL_law 504 = .ok (.if_icmp .eq 624, 3) := by decide +kernel
theorem dL_law_507 : decode cL_law 507 = .ok (.iconst 0, 1) := by decide +kernel
theorem dL_law_508 : decode cL_law 508 = .ok (.ireturn, 1) := by decide +kernel
theorem dL_law_509 : decode cL_law 509 = .ok (.aload_n 1, 1) := by decide +kernel
theorem dL_law_510 : decode cL_law 510 = .ok (.aload_n 0, 1) := by decide +kernel
theorem dL_law_511 : decode cL_law 511 = .ok (.iload 4, 2) := by decide +kernel
theorem dL_law_513 : decode cL_law 513 = .ok (.iconst 1, 1) := by decide +kernel
theorem dL_law_514 : decode cL_law 514 = .ok (.iadd, 1) := by decide +kernel
theorem dL_law_515 : decode cL_law 515 = .ok (.iaload, 1) := by decide +kernel
theorem dL_law_516 : decode cL_law 516 = .ok (.aload_n 0, 1) := by decide +kernel
theorem dL_law_517 : decode cL_law 517 = .ok (.iload 4, 2) := by decide +kernel
theorem dL_law_519 : decode cL_law 519 = .ok (.iconst 2, 1) := by decide +kernel
theorem dL_law_520 : decode cL_law 520 = .ok (.iadd, 1) := by decide +kernel
theorem dL_law_521 : decode cL_law 521 = .ok (.iaload, 1) := by decide +kernel
theorem dL_law_522 : decode cL_law 522 = .ok (.aload_n 3, 1) := by decide +kernel
theorem dL_law_523 : decode cL_law 523 = .ok (.invokestatic 100, 3) := by decide +kernel
theorem dL_law_526 : decode cL_law 526 = .ok (.istore 5, 2) := by decide +kernel
theorem dL_law_528 : decode cL_law 528 = .ok (.aload_n 2, 1) := by decide +kernel
theorem dL_law_529 : decode cL_law 529 = .ok (.aload_n 0, 1) := by decide +kernel
theorem dL_law_530 : decode cL_law 530 = .ok (.iload 4, 2) := by decide +kernel
theorem dL_law_532 : decode cL_law 532 = .ok (.iconst 1, 1) := by decide +kernel
theorem dL_law_533 : decode cL_law 533 = .ok (.iadd, 1) := by decide +kernel
theorem dL_law_534 : decode cL_law 534 = .ok (.iaload, 1) := by decide +kernel
theorem dL_law_535 : decode cL_law 535 = .ok (.aload_n 0, 1) := by decide +kernel
theorem dL_law_536 : decode cL_law 536 = .ok (.iload 4, 2) := by decide +kernel
theorem dL_law_538 : decode cL_law 538 = .ok (.iconst 2, 1) := by decide +kernel
theorem dL_law_539 : decode cL_law 539 = .ok (.iadd, 1) := by decide +kernel
theorem dL_law_540 : decode cL_law 540 = .ok (.iaload, 1) := by decide +kernel
theorem dL_law_541 : decode cL_law 541 = .ok (.invokevirtual 102, 3) := by decide +kernel
theorem dL_law_544 : decode cL_law 544 = .ok (.istore 6, 2) := by decide +kernel
theorem dL_law_546 : decode cL_law 546 = .ok (.aload_n 2, 1) := by decide +kernel
theorem dL_law_547 : decode cL_law 547 = .ok (.invokevirtual 82, 3) := by decide +kernel
theorem dL_law_550 : decode cL_law 550 = .ok (.iload 5, 2) := by decide +kernel
theorem dL_law_552 : decode cL_law 552 = .ok (.if_icmp .eq 5, 3) := by decide +kernel
theorem dL_law_555 : decode cL_law 555 = .ok (.iconst 0, 1) := by decide +kernel
theorem dL_law_556 : decode cL_law 556 = .ok (.ireturn, 1) := by decide +kernel
theorem dL_law_557 : decode cL_law 557 = .ok (.iload 5, 2) := by decide +kernel
theorem dL_law_559 : decode cL_law 559 = .ok (.ifCond .ne 15, 3) := by decide +kernel
theorem dL_law_562 : decode cL_law 562 = .ok (.aload_n 3, 1) := by decide +kernel
theorem dL_law_563 : decode cL_law 563 = .ok (.iconst 0, 1) := by decide +kernel
theorem dL_law_564 : decode cL_law 564 = .ok (.laload, 1) := by decide +kernel
theorem dL_law_565 : decode cL_law 565 = .ok (.iload 6, 2) := by decide +kernel
theorem dL_law_567 : decode cL_law 567 = .ok (.i2l, 1) := by decide +kernel
theorem dL_law_568 : decode cL_law 568 = .ok (.lcmp, 1) := by decide +kernel
theorem dL_law_569 : decode cL_law 569 = .ok (.ifCond .eq 5, 3) := by decide +kernel
theorem dL_law_572 : decode cL_law 572 = .ok (.iconst 0, 1) := by decide +kernel
theorem dL_law_573 : decode cL_law 573 = .ok (.ireturn, 1) := by decide +kernel
theorem dL_law_574 : decode cL_law 574 = .ok (.goto 554, 3) := by decide +kernel
theorem dL_law_577 : decode cL_law 577 = .ok (.aload_n 1, 1) := by decide +kernel
theorem dL_law_578 : decode cL_law 578 = .ok (.aload_n 0, 1) := by decide +kernel
theorem dL_law_579 : decode cL_law 579 = .ok (.iload 4, 2) := by decide +kernel
theorem dL_law_581 : decode cL_law 581 = .ok (.iconst 1, 1) := by decide +kernel
theorem dL_law_582 : decode cL_law 582 = .ok (.iadd, 1) := by decide +kernel
theorem dL_law_583 : decode cL_law 583 = .ok (.iaload, 1) := by decide +kernel
theorem dL_law_584 : decode cL_law 584 = .ok (.aload_n 0, 1) := by decide +kernel
theorem dL_law_585 : decode cL_law 585 = .ok (.iload 4, 2) := by decide +kernel
theorem dL_law_587 : decode cL_law 587 = .ok (.iconst 2, 1) := by decide +kernel
theorem dL_law_588 : decode cL_law 588 = .ok (.iadd, 1) := by decide +kernel
theorem dL_law_589 : decode cL_law 589 = .ok (.iaload, 1) := by decide +kernel
theorem dL_law_590 : decode cL_law 590 = .ok (.aload_n 3, 1) := by decide +kernel
theorem dL_law_591 : decode cL_law 591 = .ok (.invokestatic 103, 3) := by decide +kernel
theorem dL_law_594 : decode cL_law 594 = .ok (.istore 5, 2) := by decide +kernel
theorem dL_law_596 : decode cL_law 596 = .ok (.aload_n 2, 1) := by decide +kernel
theorem dL_law_597 : decode cL_law 597 = .ok (.aload_n 0, 1) := by decide +kernel
theorem dL_law_598 : decode cL_law 598 = .ok (.iload 4, 2) := by decide +kernel
theorem dL_law_600 : decode cL_law 600 = .ok (.iconst 1, 1) := by decide +kernel
theorem dL_law_601 : decode cL_law 601 = .ok (.iadd, 1) := by decide +kernel
theorem dL_law_602 : decode cL_law 602 = .ok (.iaload, 1) := by decide +kernel
theorem dL_law_603 : decode cL_law 603 = .ok (.aload_n 0, 1) := by decide +kernel
theorem dL_law_604 : decode cL_law 604 = .ok (.iload 4, 2) := by decide +kernel
theorem dL_law_606 : decode cL_law 606 = .ok (.iconst 2, 1) := by decide +kernel
theorem dL_law_607 : decode cL_law 607 = .ok (.iadd, 1) := by decide +kernel
theorem dL_law_608 : decode cL_law 608 = .ok (.iaload, 1) := by decide +kernel
theorem dL_law_609 : decode cL_law 609 = .ok (.invokevirtual 105, 3) := by decide +kernel
theorem dL_law_612 : decode cL_law 612 = .ok (.istore 6, 2) := by decide +kernel
theorem dL_law_614 : decode cL_law 614 = .ok (.aload_n 2, 1) := by decide +kernel
theorem dL_law_615 : decode cL_law 615 = .ok (.invokevirtual 82, 3) := by decide +kernel
theorem dL_law_618 : decode cL_law 618 = .ok (.iload 5, 2) := by decide +kernel
theorem dL_law_620 : decode cL_law 620 = .ok (.if_icmp .eq 5, 3) := by decide +kernel
theorem dL_law_623 : decode cL_law 623 = .ok (.iconst 0, 1) := by decide +kernel
theorem dL_law_624 : decode cL_law 624 = .ok (.ireturn, 1) := by decide +kernel
theorem dL_law_625 : decode cL_law 625 = .ok (.iload 5, 2) := by decide +kernel
theorem dL_law_627 : decode cL_law 627 = .ok (.ifCond .ne 15, 3) := by decide +kernel
theorem dL_law_630 : decode cL_law 630 = .ok (.aload_n 3, 1) := by decide +kernel
theorem dL_law_631 : decode cL_law 631 = .ok (.iconst 0, 1) := by decide +kernel
theorem dL_law_632 : decode cL_law 632 = .ok (.laload, 1) := by decide +kernel
theorem dL_law_633 : decode cL_law 633 = .ok (.iload 6, 2) := by decide +kernel
theorem dL_law_635 : decode cL_law 635 = .ok (.i2l, 1) := by decide +kernel
theorem dL_law_636 : decode cL_law 636 = .ok (.lcmp, 1) := by decide +kernel
theorem dL_law_637 : decode cL_law 637 = .ok (.ifCond .eq 5, 3) := by decide +kernel
theorem dL_law_640 : decode cL_law 640 = .ok (.iconst 0, 1) := by decide +kernel
theorem dL_law_641 : decode cL_law 641 = .ok (.ireturn, 1) := by decide +kernel
theorem dL_law_642 : decode cL_law 642 = .ok (.goto 486, 3) := by decide +kernel
theorem dL_law_645 : decode cL_law 645 = .ok (.aload_n 1, 1) := by decide +kernel
theorem dL_law_646 : decode cL_law 646 = .ok (.aload_n 0, 1) := by decide +kernel
theorem dL_law_647 : decode cL_law 647 = .ok (.iload 4, 2) := by decide +kernel
theorem dL_law_649 : decode cL_law 649 = .ok (.iconst 1, 1) := by decide +kernel
theorem dL_law_650 : decode cL_law 650 = .ok (.iadd, 1) := by decide +kernel
theorem dL_law_651 : decode cL_law 651 = .ok (.iaload, 1) := by decide +kernel
theorem dL_law_652 : decode cL_law 652 = .ok (.aload_n 3, 1) := by decide +kernel
theorem dL_law_653 : decode cL_law 653 = .ok (.invokestatic 106, 3) := by decide +kernel
theorem dL_law_656 : decode cL_law 656 = .ok (.istore 5, 2) := by decide +kernel
theorem dL_law_658 : decode cL_law 658 = .ok (.aload_n 2, 1) := by decide +kernel
theorem dL_law_659 : decode cL_law 659 = .ok (.aload_n 0, 1) := by decide +kernel
theorem dL_law_660 : decode cL_law 660 = .ok (.iload 4, 2) := by decide +kernel
theorem dL_law_662 : decode cL_law 662 = .ok (.iconst 1, 1) := by decide +kernel
theorem dL_law_663 : decode cL_law 663 = .ok (.iadd, 1) := by decide +kernel
theorem dL_law_664 : decode cL_law 664 = .ok (.iaload, 1) := by decide +kernel
theorem dL_law_665 : decode cL_law 665 = .ok (.invokevirtual 109, 3) := by decide +kernel
theorem dL_law_668 : decode cL_law 668 = .ok (.istore 6, 2) := by decide +kernel
theorem dL_law_670 : decode cL_law 670 = .ok (.aload_n 2, 1) := by decide +kernel
theorem dL_law_671 : decode cL_law 671 = .ok (.invokevirtual 82, 3) := by decide +kernel
theorem dL_law_674 : decode cL_law 674 = .ok (.iload 5, 2) := by decide +kernel
theorem dL_law_676 : decode cL_law 676 = .ok (.if_icmp .eq 5, 3) := by decide +kernel
theorem dL_law_679 : decode cL_law 679 = .ok (.iconst 0, 1) := by decide +kernel
theorem dL_law_680 : decode cL_law 680 = .ok (.ireturn, 1) := by decide +kernel
theorem dL_law_681 : decode cL_law 681 = .ok (.iload 5, 2) := by decide +kernel
theorem dL_law_683 : decode cL_law 683 = .ok (.ifCond .ne 15, 3) := by decide +kernel
theorem dL_law_686 : decode cL_law 686 = .ok (.aload_n 3, 1) := by decide +kernel
theorem dL_law_687 : decode cL_law 687 = .ok (.iconst 0, 1) := by decide +kernel
theorem dL_law_688 : decode cL_law 688 = .ok (.laload, 1) := by decide +kernel
theorem dL_law_689 : decode cL_law 689 = .ok (.iload 6, 2) := by decide +kernel
theorem dL_law_691 : decode cL_law 691 = .ok (.i2l, 1) := by decide +kernel
theorem dL_law_692 : decode cL_law 692 = .ok (.lcmp, 1) := by decide +kernel
theorem dL_law_693 : decode cL_law 693 = .ok (.ifCond .eq 5, 3) := by decide +kernel
theorem dL_law_696 : decode cL_law 696 = .ok (.iconst 0, 1) := by decide +kernel
theorem dL_law_697 : decode cL_law 697 = .ok (.ireturn, 1) := by decide +kernel
theorem dL_law_698 : decode cL_law 698 = .ok (.goto 430, 3) := by decide +kernel
theorem dL_law_701 : decode cL_law 701 = .ok (.aload_n 1, 1) := by decide +kernel
theorem dL_law_702 : decode cL_law 702 = .ok (.invokevirtual 110, 3) := by decide +kernel
theorem dL_law_705 : decode cL_law 705 = .ok (.aload_n 2, 1) := by decide +kernel
theorem dL_law_706 : decode cL_law 706 = .ok (.invokevirtual 113, 3) := by decide +kernel
theorem dL_law_709 : decode cL_law 709 = .ok (.if_icmp .eq 419, 3) := by decide +kernel
theorem dL_law_712 : decode cL_law 712 = .ok (.iconst 0, 1) := by decide +kernel
theorem dL_law_713 : decode cL_law 713 = .ok (.ireturn, 1) := by decide +kernel
theorem dL_law_714 : decode cL_law 714 = .ok (.aload_n 1, 1) := by decide +kernel
theorem dL_law_715 : decode cL_law 715 = .ok (.aload_n 0, 1) := by decide +kernel
theorem dL_law_716 : decode cL_law 716 = .ok (.iload 4, 2) := by decide +kernel
theorem dL_law_718 : decode cL_law 718 = .ok (.iconst 1, 1) := by decide +kernel
theorem dL_law_719 : decode cL_law 719 = .ok (.iadd, 1) := by decide +kernel
theorem dL_law_720 : decode cL_law 720 = .ok (.iaload, 1) := by decide +kernel
theorem dL_law_721 : decode cL_law 721 = .ok (.aload_n 0, 1) := by decide +kernel
theorem dL_law_722 : decode cL_law 722 = .ok (.iload 4, 2) := by decide +kernel
theorem dL_law_724 : decode cL_law 724 = .ok (.iconst 2, 1) := by decide +kernel
theorem dL_law_725 : decode cL_law 725 = .ok (.iadd, 1) := by decide +kernel
theorem dL_law_726 : decode cL_law 726 = .ok (.iaload, 1) := by decide +kernel
theorem dL_law_727 : decode cL_law 727 = .ok (.aload_n 3, 1) := by decide +kernel
theorem dL_law_728 : decode cL_law 728 = .ok (.invokestatic 114, 3) := by decide +kernel
theorem dL_law_731 : decode cL_law 731 = .ok (.istore 5, 2) := by decide +kernel
theorem dL_law_733 : decode cL_law 733 = .ok (.aload_n 2, 1) := by decide +kernel
theorem dL_law_734 : decode cL_law 734 = .ok (.aload_n 0, 1) := by decide +kernel
theorem dL_law_735 : decode cL_law 735 = .ok (.iload 4, 2) := by decide +kernel
theorem dL_law_737 : decode cL_law 737 = .ok (.iconst 1, 1) := by decide +kernel
theorem dL_law_738 : decode cL_law 738 = .ok (.iadd, 1) := by decide +kernel
theorem dL_law_739 : decode cL_law 739 = .ok (.iaload, 1) := by decide +kernel
theorem dL_law_740 : decode cL_law 740 = .ok (.aload_n 0, 1) := by decide +kernel
theorem dL_law_741 : decode cL_law 741 = .ok (.iload 4, 2) := by decide +kernel
theorem dL_law_743 : decode cL_law 743 = .ok (.iconst 2, 1) := by decide +kernel
theorem dL_law_744 : decode cL_law 744 = .ok (.iadd, 1) := by decide +kernel
theorem dL_law_745 : decode cL_law 745 = .ok (.iaload, 1) := by decide +kernel
theorem dL_law_746 : decode cL_law 746 = .ok (.invokevirtual 116, 3) := by decide +kernel
theorem dL_law_749 : decode cL_law 749 = .ok (.istore 6, 2) := by decide +kernel
theorem dL_law_751 : decode cL_law 751 = .ok (.aload_n 2, 1) := by decide +kernel
theorem dL_law_752 : decode cL_law 752 = .ok (.invokevirtual 82, 3) := by decide +kernel
theorem dL_law_755 : decode cL_law 755 = .ok (.iload 5, 2) := by decide +kernel
theorem dL_law_757 : decode cL_law 757 = .ok (.if_icmp .eq 5, 3) := by decide +kernel
theorem dL_law_760 : decode cL_law 760 = .ok (.iconst 0, 1) := by decide +kernel
theorem dL_law_761 : decode cL_law 761 = .ok (.ireturn, 1) := by decide +kernel
theorem dL_law_762 : decode cL_law 762 = .ok (.iload 5, 2) := by decide +kernel
theorem dL_law_764 : decode cL_law 764 = .ok (.ifCond .ne 15, 3) := by decide +kernel
theorem dL_law_767 : decode cL_law 767 = .ok (.aload_n 3, 1) := by decide +kernel
theorem dL_law_768 : decode cL_law 768 = .ok (.iconst 0, 1) := by decide +kernel
theorem dL_law_769 : decode cL_law 769 = .ok (.laload, 1) := by decide +kernel
theorem dL_law_770 : decode cL_law 770 = .ok (.iload 6, 2) := by decide +kernel
theorem dL_law_772 : decode cL_law 772 = .ok (.i2l, 1) := by decide +kernel
theorem dL_law_773 : decode cL_law 773 = .ok (.lcmp, 1) := by decide +kernel
theorem dL_law_774 : decode cL_law 774 = .ok (.ifCond .eq 5, 3) := by decide +kernel
theorem dL_law_777 : decode cL_law 777 = .ok (.iconst 0, 1) := by decide +kernel
theorem dL_law_778 : decode cL_law 778 = .ok (.ireturn, 1) := by decide +kernel
theorem dL_law_779 : decode cL_law 779 = .ok (.goto 349, 3) := by decide +kernel
theorem dL_law_782 : decode cL_law 782 = .ok (.aload_n 1, 1) := by decide +kernel
theorem dL_law_783 : decode cL_law 783 = .ok (.aload_n 0, 1) := by decide +kernel
theorem dL_law_784 : decode cL_law 784 = .ok (.iload 4, 2) := by decide +kernel
theorem dL_law_786 : decode cL_law 786 = .ok (.iconst 1, 1) := by decide +kernel
theorem dL_law_787 : decode cL_law 787 = .ok (.iadd, 1) := by decide +kernel
theorem dL_law_788 : decode cL_law 788 = .ok (.iaload, 1) := by decide +kernel
theorem dL_law_789 : decode cL_law 789 = .ok (.aload_n 0, 1) := by decide +kernel
theorem dL_law_790 : decode cL_law 790 = .ok (.iload 4, 2) := by decide +kernel
theorem dL_law_792 : decode cL_law 792 = .ok (.iconst 2, 1) := by decide +kernel
theorem dL_law_793 : decode cL_law 793 = .ok (.iadd, 1) := by decide +kernel
theorem dL_law_794 : decode cL_law 794 = .ok (.iaload, 1) := by decide +kernel
theorem dL_law_795 : decode cL_law 795 = .ok (.aload_n 3, 1) := by decide +kernel
theorem dL_law_796 : decode cL_law 796 = .ok (.invokestatic 117, 3) := by decide +kernel
theorem dL_law_799 : decode cL_law 799 = .ok (.istore 5, 2) := by decide +kernel
theorem dL_law_801 : decode cL_law 801 = .ok (.aload_n 2, 1) := by decide +kernel
theorem dL_law_802 : decode cL_law 802 = .ok (.aload_n 0, 1) := by decide +kernel
theorem dL_law_803 : decode cL_law 803 = .ok (.iload 4, 2) := by decide +kernel
theorem dL_law_805 : decode cL_law 805 = .ok (.iconst 1, 1) := by decide +kernel
theorem dL_law_806 : decode cL_law 806 = .ok (.iadd, 1) := by decide +kernel
theorem dL_law_807 : decode cL_law 807 = .ok (.iaload, 1) := by decide +kernel
theorem dL_law_808 : decode cL_law 808 = .ok (.aload_n 0, 1) := by decide +kernel
theorem dL_law_809 : decode cL_law 809 = .ok (.iload 4, 2) := by decide +kernel
theorem dL_law_811 : decode cL_law 811 = .ok (.iconst 2, 1) := by decide +kernel
theorem dL_law_812 : decode cL_law 812 = .ok (.iadd, 1) := by decide +kernel
theorem dL_law_813 : decode cL_law 813 = .ok (.iaload, 1) := by decide +kernel
theorem dL_law_814 : decode cL_law 814 = .ok (.invokevirtual 119, 3) := by decide +kernel
theorem dL_law_817 : decode cL_law 817 = .ok (.istore 6, 2) := by decide +kernel
theorem dL_law_819 : decode cL_law 819 = .ok (.aload_n 2, 1) := by decide +kernel
theorem dL_law_820 : decode cL_law 820 = .ok (.invokevirtual 82, 3) := by decide +kernel
theorem dL_law_823 : decode cL_law 823 = .ok (.iload 5, 2) := by decide +kernel
theorem dL_law_825 : decode cL_law 825 = .ok (.if_icmp .eq 5, 3) := by decide +kernel
theorem dL_law_828 : decode cL_law 828 = .ok (.iconst 0, 1) := by decide +kernel
theorem dL_law_829 : decode cL_law 829 = .ok (.ireturn, 1) := by decide +kernel
theorem dL_law_830 : decode cL_law 830 = .ok (.iload 5, 2) := by decide +kernel
theorem dL_law_832 : decode cL_law 832 = .ok (.ifCond .ne 15, 3) := by decide +kernel
theorem dL_law_835 : decode cL_law 835 = .ok (.aload_n 3, 1) := by decide +kernel
theorem dL_law_836 : decode cL_law 836 = .ok (.iconst 0, 1) := by decide +kernel
theorem dL_law_837 : decode cL_law 837 = .ok (.laload, 1) := by decide +kernel
theorem dL_law_838 : decode cL_law 838 = .ok (.iload 6, 2) := by decide +kernel
theorem dL_law_840 : decode cL_law 840 = .ok (.i2l, 1) := by decide +kernel
theorem dL_law_841 : decode cL_law 841 = .ok (.lcmp, 1) := by decide +kernel
theorem dL_law_842 : decode cL_law 842 = .ok (.ifCond .eq 5, 3) := by decide +kernel
theorem dL_law_845 : decode cL_law 845 = .ok (.iconst 0, 1) := by decide +kernel
theorem dL_law_846 : decode cL_law 846 = .ok (.ireturn, 1) := by decide +kernel
theorem dL_law_847 : decode cL_law 847 = .ok (.goto 281, 3) := by decide +kernel
theorem dL_law_850 : decode cL_law 850 = .ok (.aload_n 1, 1) := by decide +kernel
theorem dL_law_851 : decode cL_law 851 = .ok (.aload_n 3, 1) := by decide +kernel
theorem dL_law_852 : decode cL_law 852 = .ok (.invokestatic 120, 3) := by decide +kernel
theorem dL_law_855 : decode cL_law 855 = .ok (.istore 5, 2) := by decide +kernel
theorem dL_law_857 : decode cL_law 857 = .ok (.aload_n 2, 1) := by decide +kernel
theorem dL_law_858 : decode cL_law 858 = .ok (.invokevirtual 123, 3) := by decide +kernel
theorem dL_law_861 : decode cL_law 861 = .ok (.istore 6, 2) := by decide +kernel
theorem dL_law_863 : decode cL_law 863 = .ok (.aload_n 2, 1) := by decide +kernel
theorem dL_law_864 : decode cL_law 864 = .ok (.invokevirtual 82, 3) := by decide +kernel
theorem dL_law_867 : decode cL_law 867 = .ok (.iload 5, 2) := by decide +kernel
theorem dL_law_869 : decode cL_law 869 = .ok (.if_icmp .eq 5, 3) := by decide +kernel
theorem dL_law_872 : decode cL_law 872 = .ok (.iconst 0, 1) := by decide +kernel
theorem dL_law_873 : decode cL_law 873 = .ok (.ireturn, 1) := by decide +kernel
theorem dL_law_874 : decode cL_law 874 = .ok (.iload 5, 2) := by decide +kernel
theorem dL_law_876 : decode cL_law 876 = .ok (.ifCond .ne 22, 3) := by decide +kernel
theorem dL_law_879 : decode cL_law 879 = .ok (.aload_n 3, 1) := by decide +kernel
theorem dL_law_880 : decode cL_law 880 = .ok (.iconst 0, 1) := by decide +kernel
theorem dL_law_881 : decode cL_law 881 = .ok (.laload, 1) := by decide +kernel
theorem dL_law_882 : decode cL_law 882 = .ok (.iload 6, 2) := by decide +kernel
theorem dL_law_884 : decode cL_law 884 = .ok (.ifCond .eq 7, 3) := by decide +kernel
theorem dL_law_887 : decode cL_law 887 = .ok (.lconst 1, 1) := by decide +kernel
theorem dL_law_888 : decode cL_law 888 = .ok (.goto 4, 3) := by decide +kernel
theorem dL_law_891 : decode cL_law 891 = .ok (.lconst 0, 1) := by decide +kernel
theorem dL_law_892 : decode cL_law 892 = .ok (.lcmp, 1) := by decide +kernel
theorem dL_law_893 : decode cL_law 893 = .ok (.ifCond .eq 5, 3) := by decide +kernel
theorem dL_law_896 : decode cL_law 896 = .ok (.iconst 0, 1) := by decide +kernel
theorem dL_law_897 : decode cL_law 897 = .ok (.ireturn, 1) := by decide +kernel
theorem dL_law_898 : decode cL_law 898 = .ok (.goto 230, 3) := by decide +kernel
theorem dL_law_901 : decode cL_law 901 = .ok (.aload_n 1, 1) := by decide +kernel
theorem dL_law_902 : decode cL_law 902 = .ok (.aload_n 0, 1) := by decide +kernel
theorem dL_law_903 : decode cL_law 903 = .ok (.iload 4, 2) := by decide +kernel
theorem dL_law_905 : decode cL_law 905 = .ok (.iconst 1, 1) := by decide +kernel
theorem dL_law_906 : decode cL_law 906 = .ok (.iadd, 1) := by decide +kernel
theorem dL_law_907 : decode cL_law 907 = .ok (.iaload, 1) := by decide +kernel
theorem dL_law_908 : decode cL_law 908 = .ok (.aload_n 3, 1) := by decide +kernel
theorem dL_law_909 : decode cL_law 909 = .ok (.invokestatic 124, 3) := by decide +kernel
theorem dL_law_912 : decode cL_law 912 = .ok (.istore 5, 2) := by decide +kernel
theorem dL_law_914 : decode cL_law 914 = .ok (.aload_n 2, 1) := by decide +kernel
theorem dL_law_915 : decode cL_law 915 = .ok (.aload_n 0, 1) := by decide +kernel
theorem dL_law_916 : decode cL_law 916 = .ok (.iload 4, 2) := by decide +kernel
theorem dL_law_918 : decode cL_law 918 = .ok (.iconst 1, 1) := by decide +kernel
theorem dL_law_919 : decode cL_law 919 = .ok (.iadd, 1) := by decide +kernel
theorem dL_law_920 : decode cL_law 920 = .ok (.iaload, 1) := by decide +kernel
theorem dL_law_921 : decode cL_law 921 = .ok (.invokevirtual 126, 3) := by decide +kernel
theorem dL_law_924 : decode cL_law 924 = .ok (.istore 6, 2) := by decide +kernel
theorem dL_law_926 : decode cL_law 926 = .ok (.aload_n 2, 1) := by decide +kernel
theorem dL_law_927 : decode cL_law 927 = .ok (.invokevirtual 82, 3) := by decide +kernel
theorem dL_law_930 : decode cL_law 930 = .ok (.iload 5, 2) := by decide +kernel
theorem dL_law_932 : decode cL_law 932 = .ok (.if_icmp .eq 5, 3) := by decide +kernel
theorem dL_law_935 : decode cL_law 935 = .ok (.iconst 0, 1) := by decide +kernel
theorem dL_law_936 : decode cL_law 936 = .ok (.ireturn, 1) := by decide +kernel
theorem dL_law_937 : decode cL_law 937 = .ok (.iload 5, 2) := by decide +kernel
theorem dL_law_939 : decode cL_law 939 = .ok (.ifCond .ne 22, 3) := by decide +kernel
theorem dL_law_942 : decode cL_law 942 = .ok (.aload_n 3, 1) := by decide +kernel
theorem dL_law_943 : decode cL_law 943 = .ok (.iconst 0, 1) := by decide +kernel
theorem dL_law_944 : decode cL_law 944 = .ok (.laload, 1) := by decide +kernel
theorem dL_law_945 : decode cL_law 945 = .ok (.iload 6, 2) := by decide +kernel
theorem dL_law_947 : decode cL_law 947 = .ok (.ifCond .eq 7, 3) := by decide +kernel
theorem dL_law_950 : decode cL_law 950 = .ok (.lconst 1, 1) := by decide +kernel
theorem dL_law_951 : decode cL_law 951 = .ok (.goto 4, 3) := by decide +kernel
theorem dL_law_954 : decode cL_law 954 = .ok (.lconst 0, 1) := by decide +kernel
theorem dL_law_955 : decode cL_law 955 = .ok (.lcmp, 1) := by decide +kernel
theorem dL_law_956 : decode cL_law 956 = .ok (.ifCond .eq 5, 3) := by decide +kernel
theorem dL_law_959 : decode cL_law 959 = .ok (.iconst 0, 1) := by decide +kernel
theorem dL_law_960 : decode cL_law 960 = .ok (.ireturn, 1) := by decide +kernel
theorem dL_law_961 : decode cL_law 961 = .ok (.goto 167, 3) := by decide +kernel
theorem dL_law_964 : decode cL_law 964 = .ok (.aload_n 1, 1) := by decide +kernel
theorem dL_law_965 : decode cL_law 965 = .ok (.aload_n 3, 1) := by decide +kernel
theorem dL_law_966 : decode cL_law 966 = .ok (.invokestatic 127, 3) := by decide +kernel
theorem dL_law_969 : decode cL_law 969 = .ok (.istore 5, 2) := by decide +kernel
theorem dL_law_971 : decode cL_law 971 = .ok (.aload_n 2, 1) := by decide +kernel
theorem dL_law_972 : decode cL_law 972 = .ok (.invokevirtual 129, 3) := by decide +kernel
theorem dL_law_975 : decode cL_law 975 = .ok (.istore 6, 2) := by decide +kernel
theorem dL_law_977 : decode cL_law 977 = .ok (.aload_n 2, 1) := by decide +kernel
theorem dL_law_978 : decode cL_law 978 = .ok (.invokevirtual 82, 3) := by decide +kernel
theorem dL_law_981 : decode cL_law 981 = .ok (.iload 5, 2) := by decide +kernel
theorem dL_law_983 : decode cL_law 983 = .ok (.if_icmp .eq 5, 3) := by decide +kernel
theorem dL_law_986 : decode cL_law 986 = .ok (.iconst 0, 1) := by decide +kernel
theorem dL_law_987 : decode cL_law 987 = .ok (.ireturn, 1) := by decide +kernel
theorem dL_law_988 : decode cL_law 988 = .ok (.iload 5, 2) := by decide +kernel
theorem dL_law_990 : decode cL_law 990 = .ok (.ifCond .ne 22, 3) := by decide +kernel
theorem dL_law_993 : decode cL_law 993 = .ok (.aload_n 3, 1) := by decide +kernel
theorem dL_law_994 : decode cL_law 994 = .ok (.iconst 0, 1) := by decide +kernel
theorem dL_law_995 : decode cL_law 995 = .ok (.laload, 1) := by decide +kernel
theorem dL_law_996 : decode cL_law 996 = .ok (.iload 6, 2) := by decide +kernel
theorem dL_law_998 : decode cL_law 998 = .ok (.ifCond .eq 7, 3) := by decide +kernel
theorem dL_law_1001 : decode cL_law 1001 = .ok (.lconst 1, 1) := by decide +kernel
theorem dL_law_1002 : decode cL_law 1002 = .ok (.goto 4, 3) := by decide +kernel
theorem dL_law_1005 : decode cL_law 1005 = .ok (.lconst 0, 1) := by decide +kernel
theorem dL_law_1006 : decode cL_law 1006 = .ok (.lcmp, 1) := by decide +kernel
theorem dL_law_1007 : decode cL_law 1007 = .ok (.ifCond .eq 5, 3) := by decide +kernel
theorem dL_law_1010 : decode cL_law 1010 = .ok (.iconst 0, 1) := by decide +kernel
theorem dL_law_1011 : decode cL_law 1011 = .ok (.ireturn, 1) := by decide +kernel
theorem dL_law_1012 : decode cL_law 1012 = .ok (.goto 116, 3) := by decide +kernel
theorem dL_law_1015 : decode cL_law 1015 = .ok (.aload_n 1, 1) := by decide +kernel
theorem dL_law_1016 : decode cL_law 1016 = .ok (.invokevirtual 130, 3) := by decide +kernel
theorem dL_law_1019 : decode cL_law 1019 = .ok (.aload_n 2, 1) := by decide +kernel
theorem dL_law_1020 : decode cL_law 1020 = .ok (.invokevirtual 133, 3) := by decide +kernel
theorem dL_law_1023 : decode cL_law 1023 = .ok (.if_icmp .eq 105, 3) := by decide +kernel
theorem dL_law_1026 : decode cL_law 1026 = .ok (.iconst 0, 1) := by decide +kernel
theorem dL_law_1027 : decode cL_law 1027 = .ok (.ireturn, 1) := by decide +kernel
theorem dL_law_1028 : decode cL_law 1028 = .ok (.aload_n 1, 1) := by decide +kernel
theorem dL_law_1029 : decode cL_law 1029 = .ok (.aload_n 0, 1) := by decide +kernel
theorem dL_law_1030 : decode cL_law 1030 = .ok (.iload 4, 2) := by decide +kernel
theorem dL_law_1032 : decode cL_law 1032 = .ok (.iconst 1, 1) := by decide +kernel
theorem dL_law_1033 : decode cL_law 1033 = .ok (.iadd, 1) := by decide +kernel
theorem dL_law_1034 : decode cL_law 1034 = .ok (.iaload, 1) := by decide +kernel
theorem dL_law_1035 : decode cL_law 1035 = .ok (.aload_n 3, 1) := by decide +kernel
theorem dL_law_1036 : decode cL_law 1036 = .ok (.invokestatic 134, 3) := by decide +kernel
theorem dL_law_1039 : decode cL_law 1039 = .ok (.istore 5, 2) := by decide +kernel
theorem dL_law_1041 : decode cL_law 1041 = .ok (.aload_n 2, 1) := by decide +kernel
theorem dL_law_1042 : decode cL_law 1042 = .ok (.aload_n 0, 1) := by decide +kernel
theorem dL_law_1043 : decode cL_law 1043 = .ok (.iload 4, 2) := by decide +kernel
theorem dL_law_1045 : decode cL_law 1045 = .ok (.iconst 1, 1) := by decide +kernel
theorem dL_law_1046 : decode cL_law 1046 = .ok (.iadd, 1) := by decide +kernel
theorem dL_law_1047 : decode cL_law 1047 = .ok (.iaload, 1) := by decide +kernel
theorem dL_law_1048 : decode cL_law 1048 = .ok (.invokevirtual 136, 3) := by decide +kernel
theorem dL_law_1051 : decode cL_law 1051 = .ok (.istore 6, 2) := by decide +kernel
theorem dL_law_1053 : decode cL_law 1053 = .ok (.aload_n 2, 1) := by decide +kernel
theorem dL_law_1054 : decode cL_law 1054 = .ok (.invokevirtual 82, 3) := by decide +kernel
theorem dL_law_1057 : decode cL_law 1057 = .ok (.iload 5, 2) := by decide +kernel
theorem dL_law_1059 : decode cL_law 1059 = .ok (.if_icmp .eq 5, 3) := by decide +kernel
theorem dL_law_1062 : decode cL_law 1062 = .ok (.iconst 0, 1) := by decide +kernel
theorem dL_law_1063 : decode cL_law 1063 = .ok (.ireturn, 1) := by decide +kernel
theorem dL_law_1064 : decode cL_law 1064 = .ok (.iload 5, 2) := by decide +kernel
theorem dL_law_1066 : decode cL_law 1066 = .ok (.ifCond .ne 15, 3) := by decide +kernel
theorem dL_law_1069 : decode cL_law 1069 = .ok (.aload_n 3, 1) := by decide +kernel
theorem dL_law_1070 : decode cL_law 1070 = .ok (.iconst 0, 1) := by decide +kernel
theorem dL_law_1071 : decode cL_law 1071 = .ok (.laload, 1) := by decide +kernel
theorem dL_law_1072 : decode cL_law 1072 = .ok (.iload 6, 2) := by decide +kernel
theorem dL_law_1074 : decode cL_law 1074 = .ok (.i2l, 1) := by decide +kernel
theorem dL_law_1075 : decode cL_law 1075 = .ok (.lcmp, 1) := by decide +kernel
theorem dL_law_1076 : decode cL_law 1076 = .ok (.ifCond .eq 5, 3) := by decide +kernel
theorem dL_law_1079 : decode cL_law 1079 = .ok (.iconst 0, 1) := by decide +kernel
theorem dL_law_1080 : decode cL_law 1080 = .ok (.ireturn, 1) := by decide +kernel
theorem dL_law_1081 : decode cL_law 1081 = .ok (.goto 47, 3) := by decide +kernel
theorem dL_law_1084 : decode cL_law 1084 = .ok (.aload_n 1, 1) := by decide +kernel
theorem dL_law_1085 : decode cL_law 1085 = .ok (.aload_n 3, 1) := by decide +kernel
theorem dL_law_1086 : decode cL_law 1086 = .ok (.invokestatic 137, 3) := by decide +kernel
theorem dL_law_1089 : decode cL_law 1089 = .ok (.istore 5, 2) := by decide +kernel
theorem dL_law_1091 : decode cL_law 1091 = .ok (.aload_n 2, 1) := by decide +kernel
theorem dL_law_1092 : decode cL_law 1092 = .ok (.invokevirtual 139, 3) := by decide +kernel
theorem dL_law_1095 : decode cL_law 1095 = .ok (.istore 6, 2) := by decide +kernel
theorem dL_law_1097 : decode cL_law 1097 = .ok (.aload_n 2, 1) := by decide +kernel
theorem dL_law_1098 : decode cL_law 1098 = .ok (.invokevirtual 82, 3) := by decide +kernel
theorem dL_law_1101 : decode cL_law 1101 = .ok (.iload 5, 2) := by decide +kernel
theorem dL_law_1103 : decode cL_law 1103 = .ok (.if_icmp .eq 5, 3) := by decide +kernel
theorem dL_law_1106 : decode cL_law 1106 = .ok (.iconst 0, 1) := by decide +kernel
theorem dL_law_1107 : decode cL_law 1107 = .ok (.ireturn, 1) := by decide +kernel
theorem dL_law_1108 : decode cL_law 1108 = .ok (.iload 5, 2) := by decide +kernel
theorem dL_law_1110 : decode cL_law 1110 = .ok (.ifCond .ne 15, 3) := by decide +kernel
theorem dL_law_1113 : decode cL_law 1113 = .ok (.aload_n 3, 1) := by decide +kernel
theorem dL_law_1114 : decode cL_law 1114 = .ok (.iconst 0, 1) := by decide +kernel
theorem dL_law_1115 : decode cL_law 1115 = .ok (.laload, 1) := by decide +kernel
theorem dL_law_1116 : decode cL_law 1116 = .ok (.iload 6, 2) := by decide +kernel
theorem dL_law_1118 : decode cL_law 1118 = .ok (.i2l, 1) := by decide +kernel
theorem dL_law_1119 : decode cL_law 1119 = .ok (.lcmp, 1) := by decide +kernel
theorem dL_law_1120 : decode cL_law 1120 = .ok (.ifCond .eq 5, 3) := by decide +kernel
theorem dL_law_1123 : decode cL_law 1123 = .ok (.iconst 0, 1) := by decide +kernel
theorem dL_law_1124 : decode cL_law 1124 = .ok (.ireturn, 1) := by decide +kernel
theorem dL_law_1125 : decode cL_law 1125 = .ok (.goto 3, 3) := by decide +kernel
theorem dL_law_1128 : decode cL_law 1128 = .ok (.iinc 4 6, 3) := by decide +kernel
theorem dL_law_1131 : decode cL_law 1131 = .ok (.goto (-1108), 3) := by decide +kernel
theorem dL_law_1134 : decode cL_law 1134 = .ok (.iconst 1, 1) := by decide +kernel
theorem dL_law_1135 : decode cL_law 1135 = .ok (.ireturn, 1) := by decide +kernel
abbrev vwCl : List vw_C := [(RX0, TX0, 5), (RX1, TX1, 3), (RX2, TX2, 2), (RX3, TX3, 9), (RX4, TX4, 33)]
end
section
/-! ===== Int32 by its bits: bt x i ===== -/
def bt (x : Int32) (i : Nat) : Bool := x.toBitVec.getLsbD i
theorem b_ext {x y : Int32} (h : ∀ i, i < 32 → bt x i = bt y i) : x = y := Int32.toBitVec_inj.mp (BitVec.eq_of_getLsbD_eq (fun i hi => h i hi))
theorem b_or (x y : Int32) (i : Nat) : bt (x ||| y) i = (bt x i || bt y i) := by unfold bt; rw [Int32.toBitVec_or, BitVec.getLsbD_or]
theorem b_and (x y : Int32) (i : Nat) : bt (x &&& y) i = (bt x i && bt y i) := by unfold bt; rw [Int32.toBitVec_and, BitVec.getLsbD_and]
theorem b_xor (x y : Int32) (i : Nat) : bt (x ^^^ y) i = (bt x i ^^ bt y i) := by unfold bt; rw [Int32.toBitVec_xor, BitVec.getLsbD_xor]
theorem b_big {x : Int32} {i : Nat} (h : 32 ≤ i) : bt x i = false := BitVec.getLsbD_of_ge _ _ h
theorem b_255 (i : Nat) : bt 255 i = decide (i < 8) := by
  rcases Nat.lt_or_ge i 32 with h | h
  · exact (by decide +kernel : ∀ i, i < 32 → bt 255 i = decide (i < 8)) i h
  · rw [b_big h, decide_eq_false (by omega)]
theorem b_65535 (i : Nat) : bt 65535 i = decide (i < 16) := by
  rcases Nat.lt_or_ge i 32 with h | h
  · exact (by decide +kernel : ∀ i, i < 32 → bt 65535 i = decide (i < 16)) i h
  · rw [b_big h, decide_eq_false (by omega)]
theorem b_m1 : ∀ i, i < 32 → bt (-1) i = true := by decide +kernel
theorem b_0 (i : Nat) : bt 0 i = false := BitVec.getLsbD_zero
theorem s_l : ∀ n, n < 32 → ((nI n &&& 31).toBitVec.smod 32).toNat = n := by decide +kernel
theorem s_u : ∀ n, n < 32 → (((nI n).toUInt32 &&& Int32.toUInt32 31).toBitVec % 32).toNat = n := by decide +kernel
theorem b_shl (n : Nat) (hn : n < 32) (x : Int32) {i : Nat} (hi : i < 32) : bt (x <<< (nI n &&& 31)) i = (decide (n ≤ i) && bt x (i - n)) := by
  unfold bt
  rw [Int32.toBitVec_shiftLeft]
  show (x.toBitVec <<< ((nI n &&& 31).toBitVec.smod 32).toNat).getLsbD i = _
  rw [s_l n hn, BitVec.getLsbD_shiftLeft]
  rcases Nat.lt_or_ge i n with h | h
  · simp [h, Nat.not_le.mpr h]
  · simp [hi, h, Nat.not_lt.mpr h]
theorem b_ushr (n : Nat) (hn : n < 32) (x : Int32) (i : Nat) : bt ((x.toUInt32 >>> ((nI n).toUInt32 &&& Int32.toUInt32 31)).toInt32) i = bt x (n + i) := by
  show (x.toUInt32 >>> ((nI n).toUInt32 &&& Int32.toUInt32 31)).toBitVec.getLsbD i = x.toUInt32.toBitVec.getLsbD (n + i)
  rw [UInt32.toBitVec_shiftRight]
  show (x.toUInt32.toBitVec >>> (((nI n).toUInt32 &&& Int32.toUInt32 31).toBitVec % 32).toNat).getLsbD i = _
  rw [s_u n hn, BitVec.getLsbD_ushiftRight]
theorem b_sshr (n : Nat) (hn : n < 32) (x : Int32) {i : Nat} (hi : i < 32) : bt (x >>> (nI n &&& 31)) i = if n + i < 32 then bt x (n + i) else bt x 31 := by
  unfold bt
  rw [Int32.toBitVec_shiftRight]
  show (x.toBitVec.sshiftRight ((nI n &&& 31).toBitVec.smod 32).toNat).getLsbD i = _
  rw [s_l n hn, BitVec.getLsbD_sshiftRight, BitVec.msb_eq_getLsbD_last]
  simp [hi]
theorem b_shl8 (x : Int32) {i : Nat} (hi : i < 32) : bt (x <<< ((8 : Int32) &&& 31)) i = (decide (8 ≤ i) && bt x (i - 8)) := b_shl 8 (by omega) x hi
theorem b_shl16 (x : Int32) {i : Nat} (hi : i < 32) : bt (x <<< ((16 : Int32) &&& 31)) i = (decide (16 ≤ i) && bt x (i - 16)) := b_shl 16 (by omega) x hi
theorem b_shl24 (x : Int32) {i : Nat} (hi : i < 32) : bt (x <<< ((24 : Int32) &&& 31)) i = (decide (24 ≤ i) && bt x (i - 24)) := b_shl 24 (by omega) x hi
theorem b_sshr8 (x : Int32) {i : Nat} (hi : i < 32) : bt (x >>> ((8 : Int32) &&& 31)) i = if 8 + i < 32 then bt x (8 + i) else bt x 31 := b_sshr 8 (by omega) x hi

/-! ===== sets of the 16 states as numbers ===== -/
theorem b_shr1 {n : Nat} (hn : n < 32) (x : Int32) : (x >>> (nI n &&& 31)) &&& 1 = if bt x n = true then 1 else 0 := by
  apply b_ext
  intro i hi
  rw [b_and]
  have h1 : bt 1 i = decide (i = 0) := (by decide +kernel : ∀ i, i < 32 → bt 1 i = decide (i = 0)) i hi
  rw [h1, b_sshr n hn x hi]
  by_cases h0 : i = 0
  · subst h0
    simp only [Nat.add_zero, if_pos hn, decide_true, Bool.and_true]
    cases bt x n <;> decide
  · rw [decide_eq_false h0, Bool.and_false]
    cases bt x n
    · exact (b_0 i).symm
    · rw [if_pos rfl, h1, decide_eq_false h0]
theorem b_one {n : Nat} (hn : n < 32) {i : Nat} (hi : i < 32) : bt ((1 : Int32) <<< (nI n &&& 31)) i = decide (i = n) := by
  rw [b_shl n hn 1 hi]
  have h1 : ∀ k, k < 32 → bt 1 k = decide (k = 0) := by decide +kernel
  rw [h1 (i - n) (by omega)]
  by_cases h : i = n
  · subst h; simp
  · by_cases h2 : n ≤ i
    · rw [decide_eq_true h2, decide_eq_false (show ¬ i - n = 0 by omega), decide_eq_false h]; rfl
    · rw [decide_eq_false h2, decide_eq_false h]; rfl
theorem b_not (x : Int32) {i : Nat} (hi : i < 32) : bt (x ^^^ (-1)) i = !bt x i := by
  rw [b_xor, b_m1 i hi]; cases bt x i <;> rfl
/-- the set of those numbers below n that f takes, as a loop lays it -/
def mkN (f : Nat → Bool) : Nat → Int32
  | 0 => 0
  | n + 1 => if f n = true then mkN f n ||| ((1 : Int32) <<< (nI n &&& 31)) else mkN f n
abbrev mk (f : Nat → Bool) : Int32 := mkN f 16
theorem bt_mkN (f : Nat → Bool) : ∀ n, n ≤ 32 → ∀ i, bt (mkN f n) i = (decide (i < n) && f i) := by
  intro n
  induction n with
  | zero => intro _ i; simp [mkN, b_0]
  | succ n ih =>
    intro hn i
    by_cases hi : i < 32
    · unfold mkN
      split
      · rename_i hf
        rw [b_or, ih (by omega) i, b_one (by omega) hi]
        by_cases h : i = n
        · subst h; simp [hf]
        · simp only [decide_eq_false h, Bool.or_false]
          by_cases h2 : i < n
          · simp [h2, Nat.lt_succ_of_lt h2]
          · simp [h2, show ¬ i < n + 1 by omega]
      · rename_i hf
        rw [ih (by omega) i]
        by_cases h : i = n
        · subst h; simp at hf; simp [hf]
        · by_cases h2 : i < n
          · simp [h2, Nat.lt_succ_of_lt h2]
          · simp [h2, show ¬ i < n + 1 by omega]
    · rw [b_big (by omega), decide_eq_false (by omega)]; rfl
theorem bt_mk (f : Nat → Bool) (i : Nat) : bt (mk f) i = (decide (i < 16) && f i) := bt_mkN f 16 (by decide) i
theorem bt_mk' (f : Nat → Bool) {i : Nat} (h : i < 16) : bt (mk f) i = f i := by rw [bt_mk, decide_eq_true h]; rfl
theorem mkN_congr {f g : Nat → Bool} : ∀ n, (∀ i, i < n → f i = g i) → mkN f n = mkN g n := by
  intro n
  induction n with
  | zero => intro _; rfl
  | succ n ih => intro h; unfold mkN; rw [ih (fun i hi => h i (by omega)), h n (by omega)]
theorem mk_congr {f g : Nat → Bool} (h : ∀ i, i < 16 → f i = g i) : mk f = mk g := mkN_congr 16 h
/-- no bit beyond the 16 -/
def is16 (x : Int32) : Prop := ∀ i, 16 ≤ i → bt x i = false
theorem is16_mk (f : Nat → Bool) : is16 (mk f) := fun i hi => by rw [bt_mk, decide_eq_false (by omega)]; rfl
theorem ext16 {x y : Int32} (hx : is16 x) (hy : is16 y) (h : ∀ i, i < 16 → bt x i = bt y i) : x = y := b_ext fun i _ => by
  by_cases hi : i < 16
  · exact h i hi
  · rw [hx i (by omega), hy i (by omega)]
theorem mk_bt {x : Int32} (h : is16 x) : mk (bt x) = x := ext16 (is16_mk _) h fun i hi => bt_mk' _ hi
theorem is16_0 : is16 0 := fun i _ => b_0 i
theorem is16_and {x : Int32} (y : Int32) (h : is16 x) : is16 (x &&& y) := fun i hi => by rw [b_and, h i hi]; rfl
theorem is16_all : is16 65535 := fun i hi => by rw [b_65535, decide_eq_false (by omega)]
theorem eq0_16 {x : Int32} (h : is16 x) : x = 0 ↔ ∀ i, i < 16 → bt x i = false := ⟨fun e i _ => by rw [e]; exact b_0 i, fun q => ext16 h is16_0 fun i hi => by rw [q i hi, b_0]⟩
/-- a number 0 .. 65535 has no bit beyond the 16 -/
theorem is16_rng {x : Int32} (h0 : ¬ x < 0) (h1 : ¬ 65535 < x) : is16 x := by
  obtain ⟨j, hj, rfl⟩ := nI_of h0
  have hj2 : j < 65536 := by
    rcases Nat.lt_or_ge j 65536 with q | q
    · exact q
    · exact absurd (nI_lt (a := 65535) (b := j) (by omega) hj) h1
  intro i hi
  unfold bt
  show (BitVec.ofNat 32 j).getLsbD i = false
  rw [BitVec.getLsbD_ofNat, Nat.testBit_lt_two_pow (Nat.lt_of_lt_of_le hj2 (show 2 ^ 16 ≤ 2 ^ i from Nat.pow_le_pow_right (by decide) hi)), Bool.and_false]
/-- boolean answers -/
def b2i (b : Bool) : Int32 := if b = true then 1 else 0
theorem b2i_nar (b : Bool) : narrow .boolean (.int (b2i b)) = .int (b2i b) := by cases b <;> rfl
theorem b2i_0 {b : Bool} : b2i b = 0 ↔ b = false := by cases b <;> decide
theorem b2i_n0 {b : Bool} : ¬ b2i b = 0 ↔ b = true := by cases b <;> decide
theorem nI_lt16 {x : Int32} {j : Nat} (h : x = nI j) (n : Nat) (hn : n < 2 ^ 31) (hj : j < 2 ^ 31) : (nI n ≤ x) ↔ n ≤ j := by rw [h]; exact nI_leI hn hj
end
section

/-! ===== the class's world: 24 cells at the addresses A 0 .. A 23 ===== -/
def hfL (A : Nat → Nat) (cI cQ : ClassId) (cl st go hi ma ct : Int32) (tc : Nat → Int32) (be : Int32) (co ap tr : Nat → Int32) (ac nx : Nat → Nat → Int32) : va_W :=
  [(A 0, .inr (3, [.ref (A 1), .ref (A 2), .ref (A 4), .ref (A 7), .int cl, .int st, .int go, .int hi, .int ma])),
   (A 1, .inl (cQ, 8, .inr (.inr (.inr (.inr (fun a => some (A (8 + a)))))))),
   (A 2, .inr (2, [.ref (A 3), .int ct])),
   (A 3, .inl (cI, 93, .inl tc)),
   (A 4, .inr (1, [.ref (A 5), .ref (A 6), .int be])),
   (A 5, .inl (cI, 64, .inl co)),
   (A 6, .inl (cI, 16, .inl ap)),
   (A 7, .inl (cI, 4, .inl tr))] ++
  (List.range 8).map (fun a => (A (8 + a), .inr (0, [.int (ac a 0), .int (ac a 1), .int (ac a 2), .int (ac a 3), .ref (A (16 + a))]))) ++
  (List.range 8).map (fun a => (A (16 + a), .inl (cI, 16, .inl (nx a))))
abbrev HS : Type := (Int32 × Int32 × Int32 × Int32 × Int32) × (Int32 × (Nat → Int32)) × (Int32 × (Nat → Int32) × (Nat → Int32)) × (Nat → Int32) × (Nat → Nat → Int32) × (Nat → Nat → Int32)
abbrev hfW (A : Nat → Nat) (cI cQ : ClassId) (σ : HS) : va_W :=
  hfL A cI cQ σ.1.1 σ.1.2.1 σ.1.2.2.1 σ.1.2.2.2.1 σ.1.2.2.2.2 σ.2.1.1 σ.2.1.2 σ.2.2.1.1 σ.2.2.1.2.1 σ.2.2.1.2.2 σ.2.2.2.1 σ.2.2.2.2.1 σ.2.2.2.2.2
abbrev hfT (cI cQ : ClassId) : List (ClassId × FieldType) := [(cI, .int), (cQ, .object "HiddenFacts$Action")]
def up2 (f : Nat → Nat → Int32) (a k : Nat) (v : Int32) : Nat → Nat → Int32 := fun b j => if b = a then (if j = k then v else f b j) else f b j
theorem lt8 {P : Nat → Prop} (h0 : P 0) (h1 : P 1) (h2 : P 2) (h3 : P 3) (h4 : P 4) (h5 : P 5) (h6 : P 6) (h7 : P 7) {a : Nat} (ha : a < 8) : P a := by
  match a, ha with
  | 0, _ => exact h0
  | 1, _ => exact h1
  | 2, _ => exact h2
  | 3, _ => exact h3
  | 4, _ => exact h4
  | 5, _ => exact h5
  | 6, _ => exact h6
  | 7, _ => exact h7
section HFL
variable {A : Nat → Nat} {cI cQ : ClassId} {cl st go hi ma ct : Int32} {tc : Nat → Int32} {be : Int32} {co ap tr : Nat → Int32} {ac nx : Nat → Nat → Int32}
theorem hf_act {a : Nat} (ha : a < 8) : (hfL A cI cQ cl st go hi ma ct tc be co ap tr ac nx)[8 + a]? = some (A (8 + a), .inr (0, [.int (ac a 0), .int (ac a 1), .int (ac a 2), .int (ac a 3), .ref (A (16 + a))])) :=
  lt8 (P := fun a => (hfL A cI cQ cl st go hi ma ct tc be co ap tr ac nx)[8 + a]? = some (A (8 + a), .inr (0, [.int (ac a 0), .int (ac a 1), .int (ac a 2), .int (ac a 3), .ref (A (16 + a))]))) rfl rfl rfl rfl rfl rfl rfl rfl ha
theorem hf_nxt {a : Nat} (ha : a < 8) : (hfL A cI cQ cl st go hi ma ct tc be co ap tr ac nx)[16 + a]? = some (A (16 + a), .inl (cI, 16, .inl (nx a))) :=
  lt8 (P := fun a => (hfL A cI cQ cl st go hi ma ct tc be co ap tr ac nx)[16 + a]? = some (A (16 + a), .inl (cI, 16, .inl (nx a)))) rfl rfl rfl rfl rfl rfl rfl rfl ha
theorem hf_setN {a : Nat} (ha : a < 8) (f : Nat → Int32) : (hfL A cI cQ cl st go hi ma ct tc be co ap tr ac nx).set (16 + a) (A (16 + a), .inl (cI, 16, .inl f)) = hfL A cI cQ cl st go hi ma ct tc be co ap tr ac (va_up nx a f) :=
  lt8 (P := fun a => (hfL A cI cQ cl st go hi ma ct tc be co ap tr ac nx).set (16 + a) (A (16 + a), .inl (cI, 16, .inl f)) = hfL A cI cQ cl st go hi ma ct tc be co ap tr ac (va_up nx a f)) rfl rfl rfl rfl rfl rfl rfl rfl ha
theorem hf_setA (k : Nat) (hk : k < 4) {a : Nat} (ha : a < 8) (v : Int32) : (hfL A cI cQ cl st go hi ma ct tc be co ap tr ac nx).set (8 + a) (A (8 + a), .inr (0, ([.int (ac a 0), .int (ac a 1), .int (ac a 2), .int (ac a 3), .ref (A (16 + a))] : List Value).set k (.int v))) = hfL A cI cQ cl st go hi ma ct tc be co ap tr (up2 ac a k v) nx := by
  match k, hk with
  | 0, _ => exact lt8 (P := fun a => (hfL A cI cQ cl st go hi ma ct tc be co ap tr ac nx).set (8 + a) (A (8 + a), .inr (0, ([.int (ac a 0), .int (ac a 1), .int (ac a 2), .int (ac a 3), .ref (A (16 + a))] : List Value).set 0 (.int v))) = hfL A cI cQ cl st go hi ma ct tc be co ap tr (up2 ac a 0 v) nx) rfl rfl rfl rfl rfl rfl rfl rfl ha
  | 1, _ => exact lt8 (P := fun a => (hfL A cI cQ cl st go hi ma ct tc be co ap tr ac nx).set (8 + a) (A (8 + a), .inr (0, ([.int (ac a 0), .int (ac a 1), .int (ac a 2), .int (ac a 3), .ref (A (16 + a))] : List Value).set 1 (.int v))) = hfL A cI cQ cl st go hi ma ct tc be co ap tr (up2 ac a 1 v) nx) rfl rfl rfl rfl rfl rfl rfl rfl ha
  | 2, _ => exact lt8 (P := fun a => (hfL A cI cQ cl st go hi ma ct tc be co ap tr ac nx).set (8 + a) (A (8 + a), .inr (0, ([.int (ac a 0), .int (ac a 1), .int (ac a 2), .int (ac a 3), .ref (A (16 + a))] : List Value).set 2 (.int v))) = hfL A cI cQ cl st go hi ma ct tc be co ap tr (up2 ac a 2 v) nx) rfl rfl rfl rfl rfl rfl rfl rfl ha
  | 3, _ => exact lt8 (P := fun a => (hfL A cI cQ cl st go hi ma ct tc be co ap tr ac nx).set (8 + a) (A (8 + a), .inr (0, ([.int (ac a 0), .int (ac a 1), .int (ac a 2), .int (ac a 3), .ref (A (16 + a))] : List Value).set 3 (.int v))) = hfL A cI cQ cl st go hi ma ct tc be co ap tr (up2 ac a 3 v) nx) rfl rfl rfl rfl rfl rfl rfl rfl ha
end HFL
/-- words of the tables that don't ride in a method's own list: links among nest mates, declared constructors, casts -/
def XB : List Cond := [.methodLinkNest RX3 17 yX2_init RX3, .fieldLinkNest RX3 138 RX2 "count" "I" RX3, .methodLinkNest RX3 24 yX1_init RX3, .methodLinkNest RX3 33 yX0_init RX3, .fieldLinkNest RX3 37 RX0 "there" "Z" RX3,
  .fieldLinkNest RX3 71 RX0 "effects" "I" RX3, .fieldLinkNest RX1 22 RX0 "next" "[I" RX3, .fieldLinkNest RX3 238 RX0 "next" "[I" RX3, .methodLinkNest RX0 29 yX3_isIn RX3, .methodLinkNest RX1 31 yX3_isIn RX3,
  .declares (Bundle.initS "java/lang/RuntimeException"), .declares (Bundle.initS "java/lang/Exception"), .declares (Bundle.initS "java/lang/Throwable"),
  .castable "java/lang/IndexOutOfBoundsException" "java/lang/IndexOutOfBoundsException", .castable "java/lang/IllegalArgumentException" "java/lang/IllegalArgumentException", .castable "java/lang/IllegalStateException" "java/lang/IllegalStateException", .castable "java/lang/UnsupportedOperationException" "java/lang/UnsupportedOperationException", .castable "java/util/NoSuchElementException" "java/util/NoSuchElementException"]
def XS : List (Nat × String) := [(199, "no such number of an action"), (203, "not bits of the facts"), (51, "no such fact to sense"), (201, "the action is not there"), (69, "no such fact"), (77, "the action has all its effects"), (87, "all clauses are there"), (105, "no belief"), (113, "the action is not usable in the belief"), (119, "no belief, or the empty one"), (205, "no such depth"), (207, "the belief is not solved"), (130, "the start belief is empty"), (209, "no such node"), (146, "a node has no such part"), (152, "a leaf has no action"), (211, "there is no plan"), (164, "no such state"), (173, "no state is hidden"), (182, "no such action was made"), (196, "all states can be told apart")]
def KX (dC : Nat → ClassId) (dI : Nat → Nat → Nat) (cI cQ : ClassId) (U : State) : Prop := va_K (dC, dI) vwCl (hfT cI cQ) U ∧ (∀ w ∈ XB, va_Nw w U) ∧ ∀ q ∈ XS, ∃ sa : Nat, vk_R RX3 q.1 q.2 sa U
theorem KX.warm {dC : Nat → ClassId} {dI : Nat → Nat → Nat} {cI cQ : ClassId} {s U : State} (hW : s.WarmedH U.vm) (h : KX dC dI cI cQ s) : KX dC dI cI cQ U := by
  refine ⟨va_K.moved hW.alike h.1, fun w hw => ?_, fun q hq => ?_⟩
  · have h1 := h.2.1 w hw
    simp only [XB, List.mem_cons, List.not_mem_nil, or_false] at hw
    rcases hw with rfl | rfl | rfl | rfl | rfl | rfl | rfl | rfl | rfl | rfl | rfl | rfl | rfl | rfl | rfl | rfl | rfl | rfl <;>
      first | exact va_Nw.warmM hW h1 | exact va_Nw.warmF hW h1 | exact va_Nw.warmD hW h1 | exact va_Nw.warmC hW h1
  · obtain ⟨sa, h1⟩ := h.2.2 q hq
    exact ⟨sa, vk_R.warm hW h1⟩
theorem KX.same {dC : Nat → ClassId} {dI : Nat → Nat → Nat} {cI cQ : ClassId} {s : State} (h : KX dC dI cI cQ s) (g : JFrame) (mk : MethodId) (a : Array Value) : KX dC dI cI cQ (s.calling g mk a) :=
  KX.warm (U := s.calling g mk a) (State.WarmedH.refl s) h
/-- the world as a callee that only reads sees it -/
def hfP (dC : Nat → ClassId) (dI : Nat → Nat → Nat) (A : Nat → Nat) (cI cQ : ClassId) (σ : HS) (U : State) : Prop := va_P (dC, dI) vwCl (hfW A cI cQ σ) U.heap ∧ KX dC dI cI cQ U
/-- the world as a callee that writes sees it -/
def hfF (dC : Nat → ClassId) (dI : Nat → Nat → Nat) (A : Nat → Nat) (cI cQ : ClassId) (sz : Nat) (σ : HS) (U : State) : Prop := U.heap.size = sz ∧ va_P (dC, dI) vwCl (hfW A cI cQ σ) U.heap ∧ KX dC dI cI cQ U ∧ va_D (fun _ => True) (hfW A cI cQ σ)
/-- and as it leaves it -/
def hfB (dC : Nat → ClassId) (dI : Nat → Nat → Nat) (A : Nat → Nat) (cI cQ : ClassId) (V : Nat → Prop) (σ : HS) (t : State) : Prop := va_P (dC, dI) vwCl (hfW A cI cQ σ) t.heap ∧ va_D V (hfW A cI cQ σ)
theorem bl_T {av : List Value} : FrameBlind (va_Pc av (fun _ => True)) := fun _ _ _ _ q => q
theorem bl_K {av : List Value} {dC : Nat → ClassId} {dI : Nat → Nat → Nat} {cI cQ : ClassId} : FrameBlind (va_Pc av (KX dC dI cI cQ)) := fun a U g mk q => ⟨q.1, q.2.same g mk a⟩
theorem bl_P {av : List Value} {dC : Nat → ClassId} {dI : Nat → Nat → Nat} {A : Nat → Nat} {cI cQ : ClassId} {σ : HS} : FrameBlind (va_Pc av (hfP dC dI A cI cQ σ)) := fun a U g mk q => ⟨q.1, q.2.1, q.2.2.same g mk a⟩
theorem bl_F {av : List Value} {dC : Nat → ClassId} {dI : Nat → Nat → Nat} {A : Nat → Nat} {cI cQ : ClassId} {sz : Nat} {σ : HS} : FrameBlind (va_Pc av (hfF dC dI A cI cQ sz σ)) := fun a U g mk q => ⟨q.1, q.2.1, q.2.2.1, q.2.2.2.1.same g mk a, q.2.2.2.2⟩
/-- the addresses of the world don't hang on what it holds -/
theorem hfA_eq {A : Nat → Nat} {cI cQ : ClassId} {σ τ : HS} {sz : Nat} : va_A (hfW A cI cQ σ) sz = va_A (hfW A cI cQ τ) sz := by
  have key : ∀ (σ τ : HS) (k q : Nat) (e : va_E), (hfW A cI cQ σ)[k]? = some (q, e) → ∃ e', (hfW A cI cQ τ)[k]? = some (q, e') := by
    intro σ τ k q e h
    have hl : ∀ σ : HS, (hfW A cI cQ σ).map Prod.fst = [A 0, A 1, A 2, A 3, A 4, A 5, A 6, A 7, A 8, A 9, A 10, A 11, A 12, A 13, A 14, A 15, A 16, A 17, A 18, A 19, A 20, A 21, A 22, A 23] := fun _ => rfl
    have h1 : ((hfW A cI cQ σ).map Prod.fst)[k]? = some q := by rw [List.getElem?_map, h]; rfl
    rw [hl σ, ← hl τ, List.getElem?_map] at h1
    cases h2 : (hfW A cI cQ τ)[k]? with
    | none => rw [h2] at h1; cases h1
    | some x => obtain ⟨q2, e2⟩ := x; rw [h2] at h1; cases h1; exact ⟨e2, rfl⟩
  funext q
  apply propext
  constructor
  · rintro (⟨k, e, h⟩ | h)
    · obtain ⟨e', h'⟩ := key σ τ k q e h; exact Or.inl ⟨k, e', h'⟩
    · exact Or.inr h
  · rintro (⟨k, e, h⟩ | h)
    · obtain ⟨e', h'⟩ := key τ σ k q e h; exact Or.inl ⟨k, e', h'⟩
    · exact Or.inr h
end
section
/-! ===== loops: at the head with k rounds done; the back edge gives the next round ===== -/
section WL
variable {p : Program} {l : Launch} {e : Env} {R : Room} {s : State} {m : MethodId} {args : Array Value} {below : List Frame} {meth : Method} {c : Code} {H : Heap} {locs : List Loc} {cells slots : Nat} {Q : State → Prop}
/-- the heap stays -/
theorem w_loopP {pc : Nat} {st : List Value} (N : Nat) (I : Nat → Array Slot → Prop)
    (hs : ∀ (k : Nat) (ls : Array Slot), k ≤ N → I k ls → (∀ ls' : Array Slot, I (k + 1) ls' → k < N → W p l e R s m args below meth c H locs cells slots Q (F0 m pc ls' st)) → W p l e R s m args below meth c H locs cells slots Q (F0 m pc ls st)) :
    ∀ (k : Nat), k ≤ N → ∀ ls : Array Slot, I k ls → W p l e R s m args below meth c H locs cells slots Q (F0 m pc ls st) := by
  have key : ∀ (n k : Nat), k ≤ N → N ≤ k + n → ∀ ls : Array Slot, I k ls → W p l e R s m args below meth c H locs cells slots Q (F0 m pc ls st) := by
    intro n
    induction n with
    | zero => intro k h1 h2 ls hI; exact hs k ls h1 hI (fun _ _ h => absurd h (by omega))
    | succ n ih => intro k h1 h2 ls hI; exact hs k ls h1 hI (fun ls' hI' h => ih (k + 1) h (by omega) ls' hI')
  intro k hk ls hI
  exact key N k hk (by omega) ls hI
/-- the heap may change -/
theorem w_loopH {pc : Nat} {st : List Value} (N : Nat) (I : Nat → Array Slot → Heap → List Loc → Prop)
    (hs : ∀ (k : Nat) (ls : Array Slot) (H : Heap) (locs : List Loc), k ≤ N → I k ls H locs → (∀ (ls' : Array Slot) (H' : Heap) (locs' : List Loc), I (k + 1) ls' H' locs' → k < N → W p l e R s m args below meth c H' locs' cells slots Q (F0 m pc ls' st)) → W p l e R s m args below meth c H locs cells slots Q (F0 m pc ls st)) :
    ∀ (k : Nat), k ≤ N → ∀ (ls : Array Slot) (H : Heap) (locs : List Loc), I k ls H locs → W p l e R s m args below meth c H locs cells slots Q (F0 m pc ls st) := by
  have key : ∀ (n k : Nat), k ≤ N → N ≤ k + n → ∀ (ls : Array Slot) (H : Heap) (locs : List Loc), I k ls H locs → W p l e R s m args below meth c H locs cells slots Q (F0 m pc ls st) := by
    intro n
    induction n with
    | zero => intro k h1 h2 ls H locs hI; exact hs k ls H locs h1 hI (fun _ _ _ _ h => absurd h (by omega))
    | succ n ih => intro k h1 h2 ls H locs hI; exact hs k ls H locs h1 hI (fun ls' H' locs' hI' h => ih (k + 1) h (by omega) ls' H' locs' hI')
  intro k hk ls H locs hI
  exact key N k hk (by omega) ls H locs hI
end WL
theorem mkN_t {f : Nat → Bool} {n : Nat} (h : f n = true) : mkN f (n + 1) = mkN f n ||| ((1 : Int32) <<< (nI n &&& 31)) := by rw [mkN, if_pos h]
theorem mkN_f {f : Nat → Bool} {n : Nat} (h : f n = false) : mkN f (n + 1) = mkN f n := by rw [mkN, if_neg (by rw [h]; decide)]
/-- a counter against a bound -/
theorem ctr_ge {k N : Nat} {x : Int32} (hx : x = nI N) (hN : N < 2 ^ 31) (hk : k ≤ N) (h : x ≤ nI k) : k = N := by
  rw [hx] at h
  have := (nI_leI hN (by omega)).mp h
  omega
theorem ctr_lt {k N : Nat} {x : Int32} (hx : x = nI N) (hN : N < 2 ^ 31) (hk : k ≤ N) (h : ¬ x ≤ nI k) : k < N := by
  rw [hx] at h
  exact Nat.lt_of_not_le fun q => h ((nI_leI hN (by omega)).mpr q)
end
section
set_option maxHeartbeats 4000000 in
set_option maxRecDepth 100000 in
/-- isIn(state, belief): that bit of the belief -/
theorem c_X3_isIn (l : Launch) {k : Nat} (hk : k < 32) (b : Int32) : Met l yX3_isIn wsX3_isIn ({ frames := 0, cells := 0, slots := 0, locals := 0 }) (va_Pc [.int (nI k), .int b] (fun _ => True)) (vp_Si (fun r => r = b2i (bt b k))) 0 0 (fun _ => False) := by
  refine Met.ofW (cc := cX3_isIn) (maxL := 2) (ret := (some .boolean)) (by decide) rfl ?_
  intro p e s m args below meth c s₁ B hml hv
  obtain ⟨rfl, -⟩ := hv
  have hx := B.exec
  have hb := B.bytes
  have hr := B.returns
  have hts := atoms_spec (ws := wsX3_isIn) B.pre
  have hown : s.vm.findClass RX3 = some m.cls := findClass_of_methodNamed B.named
  have hlocks := B.notSynchronized
  have hl := lv_entry ([.int (nI k), .int b]) (n := 2) (Nat.le_of_ble_eq_true rfl)
  rw [lg_entry_eq]
  generalize (lg_sl ([.int (nI k), .int b]) ++ List.replicate (2 - (lg_sl ([.int (nI k), .int b])).length) Slot.unset).toArray = ls at hl ⊢
  have hl : lv_has ls 2 [(0, .int (nI k)), (1, .int b)] := hl
  refine lv_iload_n hx hb dX3_isIn_0 rfl (lv_at hl 1 rfl) ?_
  refine lv_iload_n hx hb dX3_isIn_1 rfl (lv_at hl 0 rfl) ?_
  refine lv_ishr hx hb dX3_isIn_2 ?_
  refine lv_iconst (v := 1) hx hb dX3_isIn_3 (by decide) ?_
  refine lv_iand hx hb dX3_isIn_4 ?_
  refine lv_if_eq (tgt := 12) hx hb dX3_isIn_5 (by decide) (fun c5_0 => ?_) (fun c5_0 => ?_)
  · skip
    refine lv_iconst (v := 0) hx hb dX3_isIn_12 (by decide) ?_
    exact W.zret (v := 0) hx hb hr rfl (fun t ht hW => ⟨0, rfl, by rw [b_shr1 hk] at c5_0; cases hq : bt b k <;> simp [hq, b2i] at c5_0 ⊢, ht⟩) (fun q h => nomatch h) dX3_isIn_13
  · skip
    refine lv_iconst (v := 1) hx hb dX3_isIn_8 (by decide) ?_
    refine lv_goto (tgt := 13) hx hb dX3_isIn_9 (by decide) ?_
    exact W.zret (v := 1) hx hb hr rfl (fun t ht hW => ⟨1, rfl, by rw [b_shr1 hk] at c5_0; cases hq : bt b k <;> simp [hq, b2i] at c5_0 ⊢, ht⟩) (fun q h => nomatch h) dX3_isIn_13
set_option maxHeartbeats 4000000 in
set_option maxRecDepth 100000 in
/-- demanded(mask, value): the states in which the demand holds -/
theorem c_X3_demanded (l : Launch) (p0 p1 : Int32) : Met l yX3_demanded wsX3_demanded ({ frames := 0, cells := 0, slots := 0, locals := 0 }) (va_Pc [.int p0, .int p1] (fun _ => True)) (vp_Si (fun r => r = mk (fun k => decide ((nI k &&& p0) = (p1 &&& p0))))) 0 0 (fun _ => False) := by
  refine Met.ofW (cc := cX3_demanded) (maxL := 4) (ret := (some .int)) (by decide) rfl ?_
  intro p e s m args below meth c s₁ B hml hv
  obtain ⟨rfl, -⟩ := hv
  have hx := B.exec
  have hb := B.bytes
  have hr := B.returns
  have hts := atoms_spec (ws := wsX3_demanded) B.pre
  have hown : s.vm.findClass RX3 = some m.cls := findClass_of_methodNamed B.named
  have hlocks := B.notSynchronized
  have hl := lv_entry ([.int p0, .int p1]) (n := 4) (Nat.le_of_ble_eq_true rfl)
  rw [lg_entry_eq]
  generalize (lg_sl ([.int p0, .int p1]) ++ List.replicate (4 - (lg_sl ([.int p0, .int p1])).length) Slot.unset).toArray = ls at hl ⊢
  have hl : lv_has ls 4 [(0, .int p0), (1, .int p1)] := hl
  refine lv_iconst (v := 0) hx hb dX3_demanded_0 (by decide) ?_
  refine lv_istore_n (lv' := [(2, .int 0), (0, .int p0), (1, .int p1)]) hx hb dX3_demanded_1 rfl hl (by decide) rfl (fun ls hl => ?_)
  refine lv_iconst (v := 0) hx hb dX3_demanded_2 (by decide) ?_
  refine lv_istore_n (lv' := [(3, .int 0), (2, .int 0), (0, .int p0), (1, .int p1)]) hx hb dX3_demanded_3 rfl hl (by decide) rfl (fun ls hl => ?_)
  refine w_loopP (pc := 4) 16 (fun k ls => lv_has ls 4 [(0, .int p0), (1, .int p1), (2, .int (mkN (fun k => decide ((nI k &&& p0) = (p1 &&& p0))) k)), (3, .int (nI k))]) ?_ 0 (Nat.zero_le _) ls (lv_sub hl [2, 3, 1, 0] rfl)
  clear hl ls
  intro k ls hk hl ih
  refine lv_iload_n hx hb dX3_demanded_4 rfl (lv_at hl 3 rfl) ?_
  refine lv_bipush (v := 16) hx hb dX3_demanded_5 (by decide) ?_
  refine lv_icmp_ge (tgt := 31) hx hb dX3_demanded_7 (by decide) (fun c7_0 => ?_) (fun c7_0 => ?_)
  · skip
    obtain rfl := ctr_ge (N := 16) rfl (by decide) hk c7_0
    refine lv_iload_n hx hb dX3_demanded_31 rfl (lv_at hl 2 rfl) ?_
    exact W.iret hx hb hr (fun t ht hW => ⟨_, rfl, rfl, ht⟩) (fun q h => nomatch h) dX3_demanded_32
  · skip
    have hlt := ctr_lt (N := 16) rfl (by decide) hk c7_0
    refine lv_iload_n hx hb dX3_demanded_10 rfl (lv_at hl 3 rfl) ?_
    refine lv_iload_n hx hb dX3_demanded_11 rfl (lv_at hl 0 rfl) ?_
    refine lv_iand hx hb dX3_demanded_12 ?_
    refine lv_iload_n hx hb dX3_demanded_13 rfl (lv_at hl 1 rfl) ?_
    refine lv_iload_n hx hb dX3_demanded_14 rfl (lv_at hl 0 rfl) ?_
    refine lv_iand hx hb dX3_demanded_15 ?_
    refine lv_icmp_ne (tgt := 25) hx hb dX3_demanded_16 (by decide) (fun c16_1 => ?_) (fun c16_1 => ?_)
    · skip
      obtain ⟨y2, ey2⟩ : ∃ y : Int32, y = (nI k) + 1 := ⟨_, rfl⟩
      refine lv_iinc (v := y2) (lv' := [(3, .int y2), (0, .int p0), (1, .int p1), (2, .int (mkN (fun k => decide ((nI k &&& p0) = (p1 &&& p0))) k))]) hx hb dX3_demanded_25 hl (k := 3) rfl (by rw [ey2]; rfl) (by decide) rfl (fun ls hl => ?_)
      obtain rfl : y2 = nI (k + 1) := ey2.trans (nI_1 k)
      refine lv_goto (tgt := 4) hx hb dX3_demanded_28 (by decide) ?_
      exact ih ls (by rw [mkN_f (f := (fun k => decide ((nI k &&& p0) = (p1 &&& p0)))) (n := k) (decide_eq_false c16_1)]; exact lv_sub hl [1, 2, 3, 0] rfl) hlt
    · skip
      refine lv_iload_n hx hb dX3_demanded_19 rfl (lv_at hl 2 rfl) ?_
      refine lv_iconst (v := 1) hx hb dX3_demanded_20 (by decide) ?_
      refine lv_iload_n hx hb dX3_demanded_21 rfl (lv_at hl 3 rfl) ?_
      refine lv_ishl hx hb dX3_demanded_22 ?_
      refine lv_ior hx hb dX3_demanded_23 ?_
      refine lv_istore_n (lv' := [(2, .int ((mkN (fun k => decide ((nI k &&& p0) = (p1 &&& p0))) k) ||| (1 <<< ((nI k) &&& 31)))), (0, .int p0), (1, .int p1), (3, .int (nI k))]) hx hb dX3_demanded_24 rfl hl (by decide) rfl (fun ls hl => ?_)
      obtain ⟨y3, ey3⟩ : ∃ y : Int32, y = (nI k) + 1 := ⟨_, rfl⟩
      refine lv_iinc (v := y3) (lv' := [(3, .int y3), (2, .int ((mkN (fun k => decide ((nI k &&& p0) = (p1 &&& p0))) k) ||| (1 <<< ((nI k) &&& 31)))), (0, .int p0), (1, .int p1)]) hx hb dX3_demanded_25 hl (k := 3) rfl (by rw [ey3]; rfl) (by decide) rfl (fun ls hl => ?_)
      obtain rfl : y3 = nI (k + 1) := ey3.trans (nI_1 k)
      refine lv_goto (tgt := 4) hx hb dX3_demanded_28 (by decide) ?_
      exact ih ls (by rw [mkN_t (f := (fun k => decide ((nI k &&& p0) = (p1 &&& p0)))) (n := k) (decide_eq_true c16_1)]; exact lv_sub hl [2, 3, 1, 0] rfl) hlt
set_option maxHeartbeats 4000000 in
set_option maxRecDepth 100000 in
/-- allowed(trues, falses): the states in which the clause holds -/
theorem c_X3_allowed (l : Launch) (p0 p1 : Int32) : Met l yX3_allowed wsX3_allowed ({ frames := 0, cells := 0, slots := 0, locals := 0 }) (va_Pc [.int p0, .int p1] (fun _ => True)) (vp_Si (fun r => r = mk (fun k => decide ((nI k &&& p0) ≠ 0) || decide (((nI k ^^^ (-1)) &&& p1) ≠ 0)))) 0 0 (fun _ => False) := by
  refine Met.ofW (cc := cX3_allowed) (maxL := 4) (ret := (some .int)) (by decide) rfl ?_
  intro p e s m args below meth c s₁ B hml hv
  obtain ⟨rfl, -⟩ := hv
  have hx := B.exec
  have hb := B.bytes
  have hr := B.returns
  have hts := atoms_spec (ws := wsX3_allowed) B.pre
  have hown : s.vm.findClass RX3 = some m.cls := findClass_of_methodNamed B.named
  have hlocks := B.notSynchronized
  have hl := lv_entry ([.int p0, .int p1]) (n := 4) (Nat.le_of_ble_eq_true rfl)
  rw [lg_entry_eq]
  generalize (lg_sl ([.int p0, .int p1]) ++ List.replicate (4 - (lg_sl ([.int p0, .int p1])).length) Slot.unset).toArray = ls at hl ⊢
  have hl : lv_has ls 4 [(0, .int p0), (1, .int p1)] := hl
  refine lv_iconst (v := 0) hx hb dX3_allowed_0 (by decide) ?_
  refine lv_istore_n (lv' := [(2, .int 0), (0, .int p0), (1, .int p1)]) hx hb dX3_allowed_1 rfl hl (by decide) rfl (fun ls hl => ?_)
  refine lv_iconst (v := 0) hx hb dX3_allowed_2 (by decide) ?_
  refine lv_istore_n (lv' := [(3, .int 0), (2, .int 0), (0, .int p0), (1, .int p1)]) hx hb dX3_allowed_3 rfl hl (by decide) rfl (fun ls hl => ?_)
  refine w_loopP (pc := 4) 16 (fun k ls => lv_has ls 4 [(0, .int p0), (1, .int p1), (2, .int (mkN (fun k => decide ((nI k &&& p0) ≠ 0) || decide (((nI k ^^^ (-1)) &&& p1) ≠ 0)) k)), (3, .int (nI k))]) ?_ 0 (Nat.zero_le _) ls (lv_sub hl [2, 3, 1, 0] rfl)
  clear hl ls
  intro k ls hk hl ih
  refine lv_iload_n hx hb dX3_allowed_4 rfl (lv_at hl 3 rfl) ?_
  refine lv_bipush (v := 16) hx hb dX3_allowed_5 (by decide) ?_
  refine lv_icmp_ge (tgt := 36) hx hb dX3_allowed_7 (by decide) (fun c7_0 => ?_) (fun c7_0 => ?_)
  · skip
    obtain rfl := ctr_ge (N := 16) rfl (by decide) hk c7_0
    refine lv_iload_n hx hb dX3_allowed_36 rfl (lv_at hl 2 rfl) ?_
    exact W.iret hx hb hr (fun t ht hW => ⟨_, rfl, rfl, ht⟩) (fun q h => nomatch h) dX3_allowed_37
  · skip
    have hlt := ctr_lt (N := 16) rfl (by decide) hk c7_0
    refine lv_iload_n hx hb dX3_allowed_10 rfl (lv_at hl 3 rfl) ?_
    refine lv_iload_n hx hb dX3_allowed_11 rfl (lv_at hl 0 rfl) ?_
    refine lv_iand hx hb dX3_allowed_12 ?_
    refine lv_if_ne (tgt := 24) hx hb dX3_allowed_13 (by decide) (fun c13_1 => ?_) (fun c13_1 => ?_)
    · skip
      refine lv_iload_n hx hb dX3_allowed_24 rfl (lv_at hl 2 rfl) ?_
      refine lv_iconst (v := 1) hx hb dX3_allowed_25 (by decide) ?_
      refine lv_iload_n hx hb dX3_allowed_26 rfl (lv_at hl 3 rfl) ?_
      refine lv_ishl hx hb dX3_allowed_27 ?_
      refine lv_ior hx hb dX3_allowed_28 ?_
      refine lv_istore_n (lv' := [(2, .int ((mkN (fun k => decide ((nI k &&& p0) ≠ 0) || decide (((nI k ^^^ (-1)) &&& p1) ≠ 0)) k) ||| (1 <<< ((nI k) &&& 31)))), (0, .int p0), (1, .int p1), (3, .int (nI k))]) hx hb dX3_allowed_29 rfl hl (by decide) rfl (fun ls hl => ?_)
      obtain ⟨y2, ey2⟩ : ∃ y : Int32, y = (nI k) + 1 := ⟨_, rfl⟩
      refine lv_iinc (v := y2) (lv' := [(3, .int y2), (2, .int ((mkN (fun k => decide ((nI k &&& p0) ≠ 0) || decide (((nI k ^^^ (-1)) &&& p1) ≠ 0)) k) ||| (1 <<< ((nI k) &&& 31)))), (0, .int p0), (1, .int p1)]) hx hb dX3_allowed_30 hl (k := 3) rfl (by rw [ey2]; rfl) (by decide) rfl (fun ls hl => ?_)
      obtain rfl : y2 = nI (k + 1) := ey2.trans (nI_1 k)
      refine lv_goto (tgt := 4) hx hb dX3_allowed_33 (by decide) ?_
      exact ih ls (by rw [mkN_t (f := (fun k => decide ((nI k &&& p0) ≠ 0) || decide (((nI k ^^^ (-1)) &&& p1) ≠ 0))) (n := k) ((by rw [Bool.or_eq_true]; exact Or.inl (decide_eq_true c13_1)))]; exact lv_sub hl [2, 3, 1, 0] rfl) hlt
    · skip
      refine lv_iload_n hx hb dX3_allowed_16 rfl (lv_at hl 3 rfl) ?_
      refine lv_iconst (v := (-1)) hx hb dX3_allowed_17 (by decide) ?_
      refine lv_ixor hx hb dX3_allowed_18 ?_
      refine lv_iload_n hx hb dX3_allowed_19 rfl (lv_at hl 1 rfl) ?_
      refine lv_iand hx hb dX3_allowed_20 ?_
      refine lv_if_eq (tgt := 30) hx hb dX3_allowed_21 (by decide) (fun c21_3 => ?_) (fun c21_3 => ?_)
      · skip
        obtain ⟨y4, ey4⟩ : ∃ y : Int32, y = (nI k) + 1 := ⟨_, rfl⟩
        refine lv_iinc (v := y4) (lv' := [(3, .int y4), (0, .int p0), (1, .int p1), (2, .int (mkN (fun k => decide ((nI k &&& p0) ≠ 0) || decide (((nI k ^^^ (-1)) &&& p1) ≠ 0)) k))]) hx hb dX3_allowed_30 hl (k := 3) rfl (by rw [ey4]; rfl) (by decide) rfl (fun ls hl => ?_)
        obtain rfl : y4 = nI (k + 1) := ey4.trans (nI_1 k)
        refine lv_goto (tgt := 4) hx hb dX3_allowed_33 (by decide) ?_
        exact ih ls (by rw [mkN_f (f := (fun k => decide ((nI k &&& p0) ≠ 0) || decide (((nI k ^^^ (-1)) &&& p1) ≠ 0))) (n := k) ((by rw [Bool.or_eq_false_iff]; exact ⟨decide_eq_false (fun q => q c13_1), decide_eq_false (fun q => q c21_3)⟩))]; exact lv_sub hl [1, 2, 3, 0] rfl) hlt
      · skip
        refine lv_iload_n hx hb dX3_allowed_24 rfl (lv_at hl 2 rfl) ?_
        refine lv_iconst (v := 1) hx hb dX3_allowed_25 (by decide) ?_
        refine lv_iload_n hx hb dX3_allowed_26 rfl (lv_at hl 3 rfl) ?_
        refine lv_ishl hx hb dX3_allowed_27 ?_
        refine lv_ior hx hb dX3_allowed_28 ?_
        refine lv_istore_n (lv' := [(2, .int ((mkN (fun k => decide ((nI k &&& p0) ≠ 0) || decide (((nI k ^^^ (-1)) &&& p1) ≠ 0)) k) ||| (1 <<< ((nI k) &&& 31)))), (0, .int p0), (1, .int p1), (3, .int (nI k))]) hx hb dX3_allowed_29 rfl hl (by decide) rfl (fun ls hl => ?_)
        obtain ⟨y5, ey5⟩ : ∃ y : Int32, y = (nI k) + 1 := ⟨_, rfl⟩
        refine lv_iinc (v := y5) (lv' := [(3, .int y5), (2, .int ((mkN (fun k => decide ((nI k &&& p0) ≠ 0) || decide (((nI k ^^^ (-1)) &&& p1) ≠ 0)) k) ||| (1 <<< ((nI k) &&& 31)))), (0, .int p0), (1, .int p1)]) hx hb dX3_allowed_30 hl (k := 3) rfl (by rw [ey5]; rfl) (by decide) rfl (fun ls hl => ?_)
        obtain rfl : y5 = nI (k + 1) := ey5.trans (nI_1 k)
        refine lv_goto (tgt := 4) hx hb dX3_allowed_33 (by decide) ?_
        exact ih ls (by rw [mkN_t (f := (fun k => decide ((nI k &&& p0) ≠ 0) || decide (((nI k ^^^ (-1)) &&& p1) ≠ 0))) (n := k) ((by rw [Bool.or_eq_true]; exact Or.inr (decide_eq_true c21_3)))]; exact lv_sub hl [2, 3, 1, 0] rfl) hlt
def acS (σ : HS) : Nat → Nat → Int32 := σ.2.2.2.2.1
def nxS (σ : HS) : Nat → Nat → Int32 := σ.2.2.2.2.2
/-- is the action there, and does its condition hold in all states of b -/
def usS (σ : HS) (a : Nat) (b : Int32) : Bool := decide (acS σ a 0 ≠ 0) && decide (b &&& (acS σ a 1 ^^^ (-1)) = 0)
/-- what comes of the states below n of b -/
def afN (f : Nat → Int32) (b : Int32) : Nat → Int32
  | 0 => 0
  | n + 1 => if bt b n = true then afN f b n ||| ((1 : Int32) <<< (f n &&& 31)) else afN f b n
def afS (σ : HS) (a : Nat) (b : Int32) : Int32 := afN (nxS σ a) b 16
def paS (σ : HS) (a : Nat) (b w : Int32) : Int32 := if w = 0 then b &&& (acS σ a 2 ^^^ (-1)) else b &&& acS σ a 2
set_option maxHeartbeats 4000000 in
set_option maxRecDepth 100000 in
/-- Action.usable(belief) -/
theorem c_X0_usable (l : Launch) (dC : Nat → ClassId) (dI : Nat → Nat → Nat) (A : Nat → Nat) (cI cQ : ClassId) (σ : HS) {a : Nat} (ha : a < 8) (b : Int32) : Met l yX0_usable wsX0_usable ({ frames := 0, cells := 0, slots := 0, locals := 0 }) (va_Pc [.ref (A (8 + a)), .int b] (hfP dC dI A cI cQ σ)) (vp_Si (fun r => r = b2i (usS σ a b))) 0 0 (fun _ => False) := by
  obtain ⟨⟨cl, st, go, hi, ma⟩, ⟨ct, tc⟩, ⟨be, co, ap⟩, tr, ac, nx⟩ := σ
  refine Met.ofW (cc := cX0_usable) (maxL := 2) (ret := (some .boolean)) (by decide) rfl ?_
  intro p e s m args below meth c s₁ B hml hv
  obtain ⟨rfl, hP, hX⟩ := hv
  have hx := B.exec
  have hb := B.bytes
  have hr := B.returns
  have hts := atoms_spec (ws := wsX0_usable) B.pre
  have hown : s.vm.findClass RX0 = some m.cls := findClass_of_methodNamed B.named
  have hlocks := B.notSynchronized
  have hK := hX.1
  have hinX0 : ∀ w ∈ wsX00, w ∈ wsX0_usable := fun _ h => List.mem_cons_of_mem _ (List.mem_append_right _ h)
  have hl := lv_entry ([.ref (A (8 + a)), .int b]) (n := 2) (Nat.le_of_ble_eq_true rfl)
  rw [lg_entry_eq]
  generalize (lg_sl ([.ref (A (8 + a)), .int b]) ++ List.replicate (2 - (lg_sl ([.ref (A (8 + a)), .int b])).length) Slot.unset).toArray = ls at hl ⊢
  have hl : lv_has ls 2 [(0, .ref (A (8 + a))), (1, .int b)] := hl
  refine lv_aload_n hx hb dX0_usable_0 rfl (lv_at hl 0 rfl) ?_
  refine va_get (D := (dC, dI)) (ci := 0) (v := .int (ac a 0)) (C := RX0) (T := TX0) (N := 5) hx hb hts hinX0 hown hK hP (8 + a) (hf_act ha) rfl 0 (by decide) (hts _ (List.mem_of_getElem? (i := 1) rfl)) (fun _ h9 => h9) rfl dX0_usable_1 ?_
  refine lv_if_eq (tgt := 22) hx hb dX0_usable_4 (by decide) (fun c4_0 => ?_) (fun c4_0 => ?_)
  · skip
    refine lv_iconst (v := 0) hx hb dX0_usable_22 (by decide) ?_
    exact W.zret (v := 0) hx hb hr rfl (fun t ht hW => ⟨_, rfl, by show _ = b2i (decide (ac a 0 ≠ 0) && _); rw [decide_eq_false (fun q => q c4_0)]; rfl, ht⟩) (fun q h => nomatch h) dX0_usable_23
  · skip
    refine lv_iload_n hx hb dX0_usable_7 rfl (lv_at hl 1 rfl) ?_
    refine lv_aload_n hx hb dX0_usable_8 rfl (lv_at hl 0 rfl) ?_
    refine va_get (D := (dC, dI)) (ci := 0) (v := .int (ac a 1)) (C := RX0) (T := TX0) (N := 5) hx hb hts hinX0 hown hK hP (8 + a) (hf_act ha) rfl 1 (by decide) (hts _ (List.mem_of_getElem? (i := 2) rfl)) (fun _ h9 => h9) rfl dX0_usable_9 ?_
    refine lv_iconst (v := (-1)) hx hb dX0_usable_12 (by decide) ?_
    refine lv_ixor hx hb dX0_usable_13 ?_
    refine lv_iand hx hb dX0_usable_14 ?_
    refine lv_if_ne (tgt := 22) hx hb dX0_usable_15 (by decide) (fun c15_1 => ?_) (fun c15_1 => ?_)
    · skip
      refine lv_iconst (v := 0) hx hb dX0_usable_22 (by decide) ?_
      exact W.zret (v := 0) hx hb hr rfl (fun t ht hW => ⟨_, rfl, by show _ = b2i (decide (ac a 0 ≠ 0) && decide (b &&& (ac a 1 ^^^ (-1)) = 0)); rw [decide_eq_true c4_0, decide_eq_false c15_1]; rfl, ht⟩) (fun q h => nomatch h) dX0_usable_23
    · skip
      refine lv_iconst (v := 1) hx hb dX0_usable_18 (by decide) ?_
      refine lv_goto (tgt := 23) hx hb dX0_usable_19 (by decide) ?_
      exact W.zret (v := 1) hx hb hr rfl (fun t ht hW => ⟨_, rfl, by show _ = b2i (decide (ac a 0 ≠ 0) && decide (b &&& (ac a 1 ^^^ (-1)) = 0)); rw [decide_eq_true c4_0, decide_eq_true c15_1]; rfl, ht⟩) (fun q h => nomatch h) dX0_usable_23
set_option maxHeartbeats 4000000 in
set_option maxRecDepth 100000 in
/-- Action.part(belief, which) -/
theorem c_X0_part (l : Launch) (dC : Nat → ClassId) (dI : Nat → Nat → Nat) (A : Nat → Nat) (cI cQ : ClassId) (σ : HS) {a : Nat} (ha : a < 8) (b w : Int32) : Met l yX0_part wsX0_part ({ frames := 0, cells := 0, slots := 0, locals := 0 }) (va_Pc [.ref (A (8 + a)), .int b, .int w] (hfP dC dI A cI cQ σ)) (vp_Si (fun r => r = paS σ a b w)) 0 0 (fun _ => False) := by
  obtain ⟨⟨cl, st, go, hi, ma⟩, ⟨ct, tc⟩, ⟨be, co, ap⟩, tr, ac, nx⟩ := σ
  refine Met.ofW (cc := cX0_part) (maxL := 3) (ret := (some .int)) (by decide) rfl ?_
  intro p e s m args below meth c s₁ B hml hv
  obtain ⟨rfl, hP, hX⟩ := hv
  have hx := B.exec
  have hb := B.bytes
  have hr := B.returns
  have hts := atoms_spec (ws := wsX0_part) B.pre
  have hown : s.vm.findClass RX0 = some m.cls := findClass_of_methodNamed B.named
  have hlocks := B.notSynchronized
  have hK := hX.1
  have hinX0 : ∀ w ∈ wsX00, w ∈ wsX0_part := fun _ h => List.mem_cons_of_mem _ (List.mem_append_right _ h)
  have hl := lv_entry ([.ref (A (8 + a)), .int b, .int w]) (n := 3) (Nat.le_of_ble_eq_true rfl)
  rw [lg_entry_eq]
  generalize (lg_sl ([.ref (A (8 + a)), .int b, .int w]) ++ List.replicate (3 - (lg_sl ([.ref (A (8 + a)), .int b, .int w])).length) Slot.unset).toArray = ls at hl ⊢
  have hl : lv_has ls 3 [(0, .ref (A (8 + a))), (1, .int b), (2, .int w)] := hl
  refine lv_iload_n hx hb dX0_part_0 rfl (lv_at hl 2 rfl) ?_
  refine lv_if_ne (tgt := 15) hx hb dX0_part_1 (by decide) (fun c1_0 => ?_) (fun c1_0 => ?_)
  · skip
    refine lv_iload_n hx hb dX0_part_15 rfl (lv_at hl 1 rfl) ?_
    refine lv_aload_n hx hb dX0_part_16 rfl (lv_at hl 0 rfl) ?_
    refine va_get (D := (dC, dI)) (ci := 0) (v := .int (ac a 2)) (C := RX0) (T := TX0) (N := 5) hx hb hts hinX0 hown hK hP (8 + a) (hf_act ha) rfl 2 (by decide) (hts _ (List.mem_of_getElem? (i := 1) rfl)) (fun _ h9 => h9) rfl dX0_part_17 ?_
    refine lv_iand hx hb dX0_part_20 ?_
    exact W.iret (v := b &&& (ac a 2)) hx hb hr (fun t ht hW => ⟨_, rfl, by show _ = paS (_, _, _, _, ac, nx) a b w; unfold paS; rw [if_neg c1_0]; rfl, ht⟩) (fun q h => nomatch h) dX0_part_21
  · skip
    refine lv_iload_n hx hb dX0_part_4 rfl (lv_at hl 1 rfl) ?_
    refine lv_aload_n hx hb dX0_part_5 rfl (lv_at hl 0 rfl) ?_
    refine va_get (D := (dC, dI)) (ci := 0) (v := .int (ac a 2)) (C := RX0) (T := TX0) (N := 5) hx hb hts hinX0 hown hK hP (8 + a) (hf_act ha) rfl 2 (by decide) (hts _ (List.mem_of_getElem? (i := 1) rfl)) (fun _ h9 => h9) rfl dX0_part_6 ?_
    refine lv_iconst (v := (-1)) hx hb dX0_part_9 (by decide) ?_
    refine lv_ixor hx hb dX0_part_10 ?_
    refine lv_iand hx hb dX0_part_11 ?_
    refine lv_goto (tgt := 21) hx hb dX0_part_12 (by decide) ?_
    exact W.iret (v := b &&& ((ac a 2) ^^^ (-1))) hx hb hr (fun t ht hW => ⟨_, rfl, by show _ = paS (_, _, _, _, ac, nx) a b w; unfold paS; rw [if_pos c1_0]; rfl, ht⟩) (fun q h => nomatch h) dX0_part_21
set_option maxHeartbeats 4000000 in
set_option maxRecDepth 100000 in
/-- Action.sensed(state) -/
theorem c_X0_sensed (l : Launch) (dC : Nat → ClassId) (dI : Nat → Nat → Nat) (A : Nat → Nat) (cI cQ : ClassId) (σ : HS) {a : Nat} (ha : a < 8) {k : Nat} (hk : k < 16) : Met l yX0_sensed wsX0_sensed ({ frames := 1, cells := 0, slots := 0, locals := 21 }) (va_Pc [.ref (A (8 + a)), .int (nI k)] (hfP dC dI A cI cQ σ)) (vp_Si (fun r => r = b2i (bt (acS σ a 2) k))) 0 0 (fun _ => False) := by
  obtain ⟨⟨cl, st, go, hi, ma⟩, ⟨ct, tc⟩, ⟨be, co, ap⟩, tr, ac, nx⟩ := σ
  refine Met.ofW (cc := cX0_sensed) (maxL := 2) (ret := (some .int)) (by decide) rfl ?_
  intro p e s m args below meth c s₁ B hml hv
  obtain ⟨rfl, hP, hX⟩ := hv
  have hx := B.exec
  have hb := B.bytes
  have hr := B.returns
  have hts := atoms_spec (ws := wsX0_sensed) B.pre
  have hown : s.vm.findClass RX0 = some m.cls := findClass_of_methodNamed B.named
  have hlocks := B.notSynchronized
  have hK := hX.1
  have hinX0 : ∀ w ∈ wsX00, w ∈ wsX0_sensed := fun _ h => List.mem_cons_of_mem _ (List.mem_append_right _ h)
  have hl := lv_entry ([.ref (A (8 + a)), .int (nI k)]) (n := 2) (Nat.le_of_ble_eq_true rfl)
  rw [lg_entry_eq]
  generalize (lg_sl ([.ref (A (8 + a)), .int (nI k)]) ++ List.replicate (2 - (lg_sl ([.ref (A (8 + a)), .int (nI k)])).length) Slot.unset).toArray = ls at hl ⊢
  have hl : lv_has ls 2 [(0, .ref (A (8 + a))), (1, .int (nI k))] := hl
  refine lv_iload_n hx hb dX0_sensed_0 rfl (lv_at hl 1 rfl) ?_
  refine lv_aload_n hx hb dX0_sensed_1 rfl (lv_at hl 0 rfl) ?_
  refine va_get (D := (dC, dI)) (ci := 0) (v := .int (ac a 2)) (C := RX0) (T := TX0) (N := 5) hx hb hts hinX0 hown hK hP (8 + a) (hf_act ha) rfl 2 (by decide) (hts _ (List.mem_of_getElem? (i := 1) rfl)) (fun _ h9 => h9) rfl dX0_sensed_2 ?_
  refine vp_callSi (va_Run.run (va_runSN (As := [.int (nI k), .int (ac a 2)]) (rest := []) ⟨hx, hb, hml, hown, hts⟩ (c_X3_isIn l (k := k) (by omega) (ac a 2)) ⟨va_cnB (host := RX3) 2 hts gX0_sensed_X3_isIn_n29 rfl rfl rfl (hX.2.1 _ (List.mem_of_getElem? (i := 8) rfl)) (hts _ (List.mem_of_getElem? (i := 3) rfl)) (by decide +kernel) ⟨Nat.le_of_ble_eq_true rfl, Nat.le_of_ble_eq_true rfl⟩, hts _ (List.mem_of_getElem? (i := 2) rfl), trivial⟩ ⟨bl_T, fun U hU hW => ⟨rfl, trivial⟩⟩ rfl rfl hl.1 rfl (lv_room (Nat.le_of_ble_eq_true rfl)) dX0_sensed_5 ⟨Nat.zero_le _, Nat.zero_le _⟩)) (fun r er => ?_)
  subst er
  refine lv_if_eq (tgt := 15) hx hb dX0_sensed_8 (by decide) (fun c8_0 => ?_) (fun c8_0 => ?_)
  · skip
    refine lv_iconst (v := 0) hx hb dX0_sensed_15 (by decide) ?_
    exact W.iret (v := 0) hx hb hr (fun t ht hW => ⟨_, rfl, by show _ = b2i (bt (ac a 2) k); rw [b2i_0.mp c8_0]; rfl, ht⟩) (fun q h => nomatch h) dX0_sensed_16
  · skip
    refine lv_iconst (v := 1) hx hb dX0_sensed_11 (by decide) ?_
    refine lv_goto (tgt := 16) hx hb dX0_sensed_12 (by decide) ?_
    exact W.iret (v := 1) hx hb hr (fun t ht hW => ⟨_, rfl, by show _ = b2i (bt (ac a 2) k); rw [b2i_n0.mp c8_0]; rfl, ht⟩) (fun q h => nomatch h) dX0_sensed_16
set_option maxHeartbeats 4000000 in
set_option maxRecDepth 100000 in
/-- Action.after(belief) -/
theorem c_X0_after (l : Launch) (dC : Nat → ClassId) (dI : Nat → Nat → Nat) (A : Nat → Nat) (cI cQ : ClassId) (σ : HS) {a : Nat} (ha : a < 8) (b : Int32) : Met l yX0_after wsX0_after ({ frames := 1, cells := 0, slots := 0, locals := 21 }) (va_Pc [.ref (A (8 + a)), .int b] (hfP dC dI A cI cQ σ)) (vp_Si (fun r => r = afS σ a b)) 0 0 (fun _ => False) := by
  obtain ⟨⟨cl, st, go, hi, ma⟩, ⟨ct, tc⟩, ⟨be, co, ap⟩, tr, ac, nx⟩ := σ
  refine Met.ofW (cc := cX0_after) (maxL := 4) (ret := (some .int)) (by decide) rfl ?_
  intro p e s m args below meth c s₁ B hml hv
  obtain ⟨rfl, hP, hX⟩ := hv
  have hx := B.exec
  have hb := B.bytes
  have hr := B.returns
  have hts := atoms_spec (ws := wsX0_after) B.pre
  have hown : s.vm.findClass RX0 = some m.cls := findClass_of_methodNamed B.named
  have hlocks := B.notSynchronized
  have hK := hX.1
  have hinX0 : ∀ w ∈ wsX00, w ∈ wsX0_after := fun _ h => List.mem_cons_of_mem _ (List.mem_append_right _ h)
  have hl := lv_entry ([.ref (A (8 + a)), .int b]) (n := 4) (Nat.le_of_ble_eq_true rfl)
  rw [lg_entry_eq]
  generalize (lg_sl ([.ref (A (8 + a)), .int b]) ++ List.replicate (4 - (lg_sl ([.ref (A (8 + a)), .int b])).length) Slot.unset).toArray = ls at hl ⊢
  have hl : lv_has ls 4 [(0, .ref (A (8 + a))), (1, .int b)] := hl
  refine lv_iconst (v := 0) hx hb dX0_after_0 (by decide) ?_
  refine lv_istore_n (lv' := [(2, .int 0), (0, .ref (A (8 + a))), (1, .int b)]) hx hb dX0_after_1 rfl hl (by decide) rfl (fun ls hl => ?_)
  refine lv_iconst (v := 0) hx hb dX0_after_2 (by decide) ?_
  refine lv_istore_n (lv' := [(3, .int 0), (2, .int 0), (0, .ref (A (8 + a))), (1, .int b)]) hx hb dX0_after_3 rfl hl (by decide) rfl (fun ls hl => ?_)
  refine w_loopP (pc := 4) 16 (fun k ls => lv_has ls 4 [(0, .ref (A (8 + a))), (1, .int b), (2, .int (afN (nx a) b k)), (3, .int (nI k))]) ?_ 0 (Nat.zero_le _) ls (lv_sub hl [2, 3, 1, 0] rfl)
  clear hl ls
  intro k ls hk hl ih
  refine lv_iload_n hx hb dX0_after_4 rfl (lv_at hl 3 rfl) ?_
  refine lv_bipush (v := 16) hx hb dX0_after_5 (by decide) ?_
  refine lv_icmp_ge (tgt := 35) hx hb dX0_after_7 (by decide) (fun c7_0 => ?_) (fun c7_0 => ?_)
  · skip
    obtain rfl := ctr_ge (N := 16) rfl (by decide) hk c7_0
    refine lv_iload_n hx hb dX0_after_35 rfl (lv_at hl 2 rfl) ?_
    exact W.iret hx hb hr (fun t ht hW => ⟨_, rfl, rfl, ht⟩) (fun q h => nomatch h) dX0_after_36
  · skip
    have hlt := ctr_lt (N := 16) rfl (by decide) hk c7_0
    refine lv_iload_n hx hb dX0_after_10 rfl (lv_at hl 3 rfl) ?_
    refine lv_iload_n hx hb dX0_after_11 rfl (lv_at hl 1 rfl) ?_
    refine vp_callSi (va_Run.run (va_runSN (As := [.int (nI k), .int b]) (rest := []) ⟨hx, hb, hml, hown, hts⟩ (c_X3_isIn l (k := k) (by omega) b) ⟨va_cnB (host := RX3) 2 hts gX0_after_X3_isIn_n29 rfl rfl rfl (hX.2.1 _ (List.mem_of_getElem? (i := 8) rfl)) (hts _ (List.mem_of_getElem? (i := 3) rfl)) (by decide +kernel) ⟨Nat.le_of_ble_eq_true rfl, Nat.le_of_ble_eq_true rfl⟩, hts _ (List.mem_of_getElem? (i := 2) rfl), trivial⟩ ⟨bl_T, fun U hU hW => ⟨rfl, trivial⟩⟩ rfl rfl hl.1 rfl (lv_room (Nat.le_of_ble_eq_true rfl)) dX0_after_12 ⟨Nat.zero_le _, Nat.zero_le _⟩)) (fun r er => ?_)
    subst er
    refine lv_if_eq (tgt := 29) hx hb dX0_after_15 (by decide) (fun c15_1 => ?_) (fun c15_1 => ?_)
    · skip
      obtain ⟨y2, ey2⟩ : ∃ y : Int32, y = (nI k) + 1 := ⟨_, rfl⟩
      refine lv_iinc (v := y2) (lv' := [(3, .int y2), (0, .ref (A (8 + a))), (1, .int b), (2, .int (afN (nx a) b k))]) hx hb dX0_after_29 hl (k := 3) rfl (by rw [ey2]; rfl) (by decide) rfl (fun ls hl => ?_)
      obtain rfl : y2 = nI (k + 1) := ey2.trans (nI_1 k)
      refine lv_goto (tgt := 4) hx hb dX0_after_32 (by decide) ?_
      exact ih ls (by rw [afN, if_neg (by rw [b2i_0.mp c15_1]; decide)]; exact lv_sub hl [1, 2, 3, 0] rfl) hlt
    · skip
      refine lv_iload_n hx hb dX0_after_18 rfl (lv_at hl 2 rfl) ?_
      refine lv_iconst (v := 1) hx hb dX0_after_19 (by decide) ?_
      refine lv_aload_n hx hb dX0_after_20 rfl (lv_at hl 0 rfl) ?_
      refine va_get (D := (dC, dI)) (ci := 0) (v := .ref (A (16 + a))) (C := RX0) (T := TX0) (N := 5) hx hb hts hinX0 hown hK hP (8 + a) (hf_act ha) rfl 4 (by decide) (hts _ (List.mem_of_getElem? (i := 1) rfl)) (fun _ h9 => h9) rfl dX0_after_21 ?_
      refine lv_iload_n hx hb dX0_after_24 rfl (lv_at hl 3 rfl) ?_
      refine va_iald hx hb hK hP (16 + a) 0 (hf_nxt ha) rfl (vp_in_nI (show k < 16 by omega) (by decide)) dX0_after_25 ?_
      rw [nI_clamp (show k < 2 ^ 31 by have := (show k < 16 by omega); omega)]
      refine lv_ishl hx hb dX0_after_26 ?_
      refine lv_ior hx hb dX0_after_27 ?_
      refine lv_istore_n (lv' := [(2, .int ((afN (nx a) b k) ||| (1 <<< ((nx a k) &&& 31)))), (0, .ref (A (8 + a))), (1, .int b), (3, .int (nI k))]) hx hb dX0_after_28 rfl hl (by decide) rfl (fun ls hl => ?_)
      obtain ⟨y3, ey3⟩ : ∃ y : Int32, y = (nI k) + 1 := ⟨_, rfl⟩
      refine lv_iinc (v := y3) (lv' := [(3, .int y3), (2, .int ((afN (nx a) b k) ||| (1 <<< ((nx a k) &&& 31)))), (0, .ref (A (8 + a))), (1, .int b)]) hx hb dX0_after_29 hl (k := 3) rfl (by rw [ey3]; rfl) (by decide) rfl (fun ls hl => ?_)
      obtain rfl : y3 = nI (k + 1) := ey3.trans (nI_1 k)
      refine lv_goto (tgt := 4) hx hb dX0_after_32 (by decide) ?_
      exact ih ls (by rw [afN, if_pos (b2i_n0.mp c15_1)]; exact lv_sub hl [2, 3, 1, 0] rfl) hlt
end
section
/-! ===== what 'solved' and 'least action' are, over any way to be usable, to have parts, to be reached ===== -/
def clS (σ : HS) : Int32 := σ.1.1
def stS (σ : HS) : Int32 := σ.1.2.1
def goS (σ : HS) : Int32 := σ.1.2.2.1
def hiS (σ : HS) : Int32 := σ.1.2.2.2.1
def maS (σ : HS) : Int32 := σ.1.2.2.2.2
def ctS (σ : HS) : Int32 := σ.2.1.1
def tcS (σ : HS) : Nat → Int32 := σ.2.1.2
def beS (σ : HS) : Int32 := σ.2.2.1.1
def coS (σ : HS) : Nat → Int32 := σ.2.2.1.2.1
def apS (σ : HS) : Nat → Int32 := σ.2.2.1.2.2
def trS (σ : HS) : Nat → Int32 := σ.2.2.2.1
def reS (σ : HS) (b : Int32) : Bool := decide (b &&& (goS σ ^^^ (-1)) = 0)
def first8 (P : Nat → Bool) : Option Nat := (List.range 8).find? P
def o2i : Option Nat → Int32
  | none => -1
  | some k => nI k
theorem find_at {P : Nat → Bool} {n k : Nat} (hk : k < n) (h : P k = true) (hj : ∀ j, j < k → P j = false) : (List.range n).find? P = some k :=
  List.find?_range_eq_some.mpr ⟨h, List.mem_range.mpr hk, fun j hj2 => by rw [hj j hj2]; rfl⟩
theorem find_no {P : Nat → Bool} {n : Nat} (hj : ∀ j, j < n → P j = false) : (List.range n).find? P = none :=
  List.find?_range_eq_none.mpr fun j hj2 => by rw [hj j hj2]; rfl
theorem first8_lt {P : Nat → Bool} {a : Nat} (h : first8 P = some a) : a < 8 ∧ P a = true := by
  have q := List.find?_range_eq_some.mp h
  exact ⟨List.mem_range.mp q.2.1, q.1⟩
def slv (us : Nat → Int32 → Bool) (pt : Nat → Int32 → Int32 → Int32) (re : Int32 → Bool) : Nat → Int32 → Bool
  | 0, b => re b
  | n + 1, b => re b || (first8 (fun a => us a b && (slv us pt re n (pt a b 0) && slv us pt re n (pt a b 1)))).isSome
def lea (us : Nat → Int32 → Bool) (pt : Nat → Int32 → Int32 → Int32) (re : Int32 → Bool) : Nat → Int32 → Option Nat
  | 0, _ => none
  | n + 1, b => first8 (fun a => us a b && (slv us pt re n (pt a b 0) && slv us pt re n (pt a b 1)))
theorem slv_lea (us : Nat → Int32 → Bool) (pt : Nat → Int32 → Int32 → Int32) (re : Int32 → Bool) (n : Nat) (b : Int32) : slv us pt re n b = (re b || (lea us pt re n b).isSome) := by
  cases n with
  | zero => simp [slv, lea]
  | succ n => rfl
theorem o2i_none {o : Option Nat} (h : ∀ a, o = some a → a < 2 ^ 31) : o2i o = -1 ↔ o = none := by
  cases o with
  | none => exact ⟨fun _ => rfl, fun _ => rfl⟩
  | some a =>
    refine ⟨fun q => ?_, fun q => nomatch q⟩
    have h1 : (nI a).toInt = (a : Int) := nI_toInt (h a rfl)
    have h2 : (nI a).toInt = -1 := by rw [show nI a = -1 from q]; decide
    omega
def ptS (σ : HS) (a : Nat) (b w : Int32) : Int32 := paS σ a (afS σ a b) w
abbrev slS (σ : HS) : Nat → Int32 → Bool := slv (usS σ) (ptS σ) (reS σ)
abbrev leS (σ : HS) : Nat → Int32 → Option Nat := lea (usS σ) (ptS σ) (reS σ)
theorem lea_lt {us : Nat → Int32 → Bool} {pt : Nat → Int32 → Int32 → Int32} {re : Int32 → Bool} {n : Nat} {b : Int32} {a : Nat} (h : lea us pt re n b = some a) : a < 8 := by
  cases n with
  | zero => cases h
  | succ n => exact (first8_lt h).1
theorem leS_none {us : Nat → Int32 → Bool} {pt : Nat → Int32 → Int32 → Int32} {re : Int32 → Bool} {n : Nat} {b : Int32} : o2i (lea us pt re n b) = -1 ↔ lea us pt re n b = none := o2i_none fun a h => by have := lea_lt h; omega
def fewS (σ : HS) (b : Int32) (most : Nat) : Option Nat := (List.range (most + 1)).find? (fun n => slS σ n b)
end
section
set_option maxHeartbeats 4000000 in
set_option maxRecDepth 100000 in
/-- reached(belief) -/
theorem c_X3_reached (l : Launch) (dC : Nat → ClassId) (dI : Nat → Nat → Nat) (A : Nat → Nat) (cI cQ : ClassId) (σ : HS) (b : Int32) : Met l yX3_reached wsX3_reached ({ frames := 0, cells := 0, slots := 0, locals := 0 }) (va_Pc [.ref (A 0), .int b] (hfP dC dI A cI cQ σ)) (vp_Si (fun r => r = b2i (reS σ b))) 0 0 (fun _ => False) := by
  refine Met.ofW (cc := cX3_reached) (maxL := 2) (ret := (some .boolean)) (by decide) rfl ?_
  intro p e s m args below meth c s₁ B hml hv
  obtain ⟨rfl, hP, hX⟩ := hv
  have hx := B.exec
  have hb := B.bytes
  have hr := B.returns
  have hts := atoms_spec (ws := wsX3_reached) B.pre
  have hown : s.vm.findClass RX3 = some m.cls := findClass_of_methodNamed B.named
  have hlocks := B.notSynchronized
  have hK := hX.1
  have hinX3 : ∀ w ∈ wsX30, w ∈ wsX3_reached := fun _ h => List.mem_cons_of_mem _ (List.mem_append_right _ h)
  have hl := lv_entry ([.ref (A 0), .int b]) (n := 2) (Nat.le_of_ble_eq_true rfl)
  rw [lg_entry_eq]
  generalize (lg_sl ([.ref (A 0), .int b]) ++ List.replicate (2 - (lg_sl ([.ref (A 0), .int b])).length) Slot.unset).toArray = ls at hl ⊢
  have hl : lv_has ls 2 [(0, .ref (A 0)), (1, .int b)] := hl
  refine lv_iload_n hx hb dX3_reached_0 rfl (lv_at hl 1 rfl) ?_
  refine lv_aload_n hx hb dX3_reached_1 rfl (lv_at hl 0 rfl) ?_
  refine va_get (D := (dC, dI)) (ci := 3) (v := .int (goS σ)) (C := RX3) (T := TX3) (N := 9) hx hb hts hinX3 hown hK hP 0 rfl rfl 6 (by decide) (hts _ (List.mem_of_getElem? (i := 1) rfl)) (fun _ h9 => h9) rfl dX3_reached_2 ?_
  refine lv_iconst (v := (-1)) hx hb dX3_reached_5 (by decide) ?_
  refine lv_ixor hx hb dX3_reached_6 ?_
  refine lv_iand hx hb dX3_reached_7 ?_
  refine lv_if_ne (tgt := 15) hx hb dX3_reached_8 (by decide) (fun c8_0 => ?_) (fun c8_0 => ?_)
  · skip
    refine lv_iconst (v := 0) hx hb dX3_reached_15 (by decide) ?_
    exact W.zret (v := 0) hx hb hr rfl (fun t ht hW => ⟨_, rfl, by show _ = b2i (reS σ b); unfold reS; rw [decide_eq_false c8_0]; rfl, ht⟩) (fun q h => nomatch h) dX3_reached_16
  · skip
    refine lv_iconst (v := 1) hx hb dX3_reached_11 (by decide) ?_
    refine lv_goto (tgt := 16) hx hb dX3_reached_12 (by decide) ?_
    exact W.zret (v := 1) hx hb hr rfl (fun t ht hW => ⟨_, rfl, by show _ = b2i (reS σ b); unfold reS; rw [decide_eq_true c8_0]; rfl, ht⟩) (fun q h => nomatch h) dX3_reached_16
set_option maxHeartbeats 4000000 in
set_option maxRecDepth 100000 in
/-- leastAction(belief, 0) -/
theorem c_X3_la0 (l : Launch) (dC : Nat → ClassId) (dI : Nat → Nat → Nat) (A : Nat → Nat) (cI cQ : ClassId) (σ : HS) (b : Int32) : Met l yX3_leastAction wsX3_leastAction ({ frames := 3 * 0 + 4, cells := 0, slots := 0, locals := 69 * 0 + 177 }) (va_Pc [.ref (A 0), .int b, .int (nI 0)] (hfP dC dI A cI cQ σ)) (vp_Si (fun r => r = o2i (leS σ 0 b))) 0 0 (fun _ => False) := by
  refine Met.ofW (cc := cX3_leastAction) (maxL := 4) (ret := (some .int)) (by decide) rfl ?_
  intro p e s m args below meth c s₁ B hml hv
  obtain ⟨rfl, hP, hX⟩ := hv
  have hx := B.exec
  have hb := B.bytes
  have hr := B.returns
  have hts := atoms_spec (ws := wsX3_leastAction) B.pre
  have hown : s.vm.findClass RX3 = some m.cls := findClass_of_methodNamed B.named
  have hlocks := B.notSynchronized
  have hK := hX.1
  have hinX3 : ∀ w ∈ wsX30, w ∈ wsX3_leastAction := fun _ h => List.mem_cons_of_mem _ (List.mem_append_left _ (List.mem_append_right _ h))
  have hl := lv_entry ([.ref (A 0), .int b, .int (nI 0)]) (n := 4) (Nat.le_of_ble_eq_true rfl)
  rw [lg_entry_eq]
  generalize (lg_sl ([.ref (A 0), .int b, .int (nI 0)]) ++ List.replicate (4 - (lg_sl ([.ref (A 0), .int b, .int (nI 0)])).length) Slot.unset).toArray = ls at hl ⊢
  have hl : lv_has ls 4 [(0, .ref (A 0)), (1, .int b), (2, .int (nI 0))] := hl
  refine lv_iload_n hx hb dX3_leastAction_0 rfl (lv_at hl 2 rfl) ?_
  refine lv_if_gt (tgt := 6) hx hb dX3_leastAction_1 (by decide) (fun c1_0 => ?_) (fun c1_0 => ?_)
  · exact absurd c1_0 (by decide)
  · skip
    refine lv_iconst (v := (-1)) hx hb dX3_leastAction_4 (by decide) ?_
    exact W.iret hx hb hr (fun t ht hW => ⟨_, rfl, rfl, ht⟩) (fun q h => nomatch h) dX3_leastAction_5
set_option maxHeartbeats 4000000 in
set_option maxRecDepth 100000 in
/-- solved(belief, n) out of leastAction(belief, n) -/
theorem c_X3_solved_of (l : Launch) (dC : Nat → ClassId) (dI : Nat → Nat → Nat) (A : Nat → Nat) (cI cQ : ClassId) (σ : HS) (n : Nat) (h : ∀ b : Int32, Met l yX3_leastAction wsX3_leastAction ({ frames := 3 * n + 4, cells := 0, slots := 0, locals := 69 * n + 177 }) (va_Pc [.ref (A 0), .int b, .int (nI n)] (hfP dC dI A cI cQ σ)) (vp_Si (fun r => r = o2i (leS σ n b))) 0 0 (fun _ => False)) (b : Int32) : Met l yX3_solved wsX3_solved ({ frames := 3 * n + 5, cells := 0, slots := 0, locals := 69 * n + 200 }) (va_Pc [.ref (A 0), .int b, .int (nI n)] (hfP dC dI A cI cQ σ)) (vp_Si (fun r => r = b2i (slS σ n b))) 0 0 (fun _ => False) := by
  refine Met.ofW (cc := cX3_solved) (maxL := 3) (ret := (some .boolean)) (by decide) rfl ?_
  intro p e s m args below meth c s₁ B hml hv
  obtain ⟨rfl, hP, hX⟩ := hv
  have hx := B.exec
  have hb := B.bytes
  have hr := B.returns
  have hts := atoms_spec (ws := wsX3_solved) B.pre
  have hown : s.vm.findClass RX3 = some m.cls := findClass_of_methodNamed B.named
  have hlocks := B.notSynchronized
  have hK := hX.1
  have hinX3 : ∀ w ∈ wsX30, w ∈ wsX3_solved := fun _ h => List.mem_cons_of_mem _ (List.mem_append_left _ (List.mem_append_right _ h))
  have hl := lv_entry ([.ref (A 0), .int b, .int (nI n)]) (n := 3) (Nat.le_of_ble_eq_true rfl)
  rw [lg_entry_eq]
  generalize (lg_sl ([.ref (A 0), .int b, .int (nI n)]) ++ List.replicate (3 - (lg_sl ([.ref (A 0), .int b, .int (nI n)])).length) Slot.unset).toArray = ls at hl ⊢
  have hl : lv_has ls 3 [(0, .ref (A 0)), (1, .int b), (2, .int (nI n))] := hl
  refine lv_aload_n hx hb dX3_solved_0 rfl (lv_at hl 0 rfl) ?_
  refine lv_iload_n hx hb dX3_solved_1 rfl (lv_at hl 1 rfl) ?_
  refine vp_callSi (W.runV (As := [.int b]) (rest := []) ⟨hx, hb, hml, hown, hts⟩ (c_X3_reached l dC dI A cI cQ σ b) (cwV 1 hts gX3_solved_X3_reached rfl rfl rfl (by decide +kernel) ⟨show 0 + 1 ≤ 3 * n + 5 by omega, show 8 + (2 + 11) + (0) ≤ 69 * n + 200 by omega⟩) ⟨bl_P, va_recv hK hP (ci := 3) (q0 := 0) rfl rfl, fun U hU hW => ⟨rfl, by rw [hU]; exact hP, hX.warm hW⟩⟩ rfl rfl hl.1 rfl (lv_room (Nat.le_of_ble_eq_true rfl)) dX3_solved_2 ⟨Nat.zero_le _, Nat.zero_le _⟩) (fun r er => ?_)
  subst er
  refine lv_if_ne (tgt := 18) hx hb dX3_solved_5 (by decide) (fun c5_0 => ?_) (fun c5_0 => ?_)
  · skip
    refine lv_iconst (v := 1) hx hb dX3_solved_18 (by decide) ?_
    refine lv_goto (tgt := 23) hx hb dX3_solved_19 (by decide) ?_
    exact W.zret (v := 1) hx hb hr rfl (fun t ht hW => ⟨_, rfl, by show _ = b2i (slv (usS σ) (ptS σ) (reS σ) n b); rw [slv_lea, b2i_n0.mp c5_0]; rfl, ht⟩) (fun q h => nomatch h) dX3_solved_23
  · skip
    refine lv_aload_n hx hb dX3_solved_8 rfl (lv_at hl 0 rfl) ?_
    refine lv_iload_n hx hb dX3_solved_9 rfl (lv_at hl 1 rfl) ?_
    refine lv_iload_n hx hb dX3_solved_10 rfl (lv_at hl 2 rfl) ?_
    refine vp_callSi (W.runV (As := [.int b, .int (nI n)]) (rest := []) ⟨hx, hb, hml, hown, hts⟩ (h b) (cwV 2 hts gX3_solved_X3_leastAction rfl rfl rfl (by decide +kernel) ⟨show 3 * n + 4 + 1 ≤ 3 * n + 5 by omega, show 8 + (4 + 11) + (69 * n + 177) ≤ 69 * n + 200 by omega⟩) ⟨bl_P, va_recv hK hP (ci := 3) (q0 := 0) rfl rfl, fun U hU hW => ⟨rfl, by rw [hU]; exact hP, hX.warm hW⟩⟩ rfl rfl hl.1 rfl (lv_room (Nat.le_of_ble_eq_true rfl)) dX3_solved_11 ⟨Nat.zero_le _, Nat.zero_le _⟩) (fun r er => ?_)
    subst er
    refine lv_iconst (v := (-1)) hx hb dX3_solved_14 (by decide) ?_
    refine lv_icmp_eq (tgt := 22) hx hb dX3_solved_15 (by decide) (fun c15_1 => ?_) (fun c15_1 => ?_)
    · skip
      refine lv_iconst (v := 0) hx hb dX3_solved_22 (by decide) ?_
      exact W.zret (v := 0) hx hb hr rfl (fun t ht hW => ⟨_, rfl, by show _ = b2i (slv (usS σ) (ptS σ) (reS σ) n b); rw [slv_lea, b2i_0.mp c5_0, leS_none.mp c15_1]; rfl, ht⟩) (fun q h => nomatch h) dX3_solved_23
    · skip
      refine lv_iconst (v := 1) hx hb dX3_solved_18 (by decide) ?_
      refine lv_goto (tgt := 23) hx hb dX3_solved_19 (by decide) ?_
      exact W.zret (v := 1) hx hb hr rfl (fun t ht hW => ⟨_, rfl, by show _ = b2i (slv (usS σ) (ptS σ) (reS σ) n b); rw [slv_lea, b2i_0.mp c5_0]; cases hq : lea (usS σ) (ptS σ) (reS σ) n b with | none => exact absurd (leS_none.mpr hq) c15_1 | some z => rfl, ht⟩) (fun q h => nomatch h) dX3_solved_23
set_option maxHeartbeats 4000000 in
set_option maxRecDepth 100000 in
/-- solves(action, belief, n + 1) out of solved(.., n) -/
theorem c_X3_solves_of (l : Launch) (dC : Nat → ClassId) (dI : Nat → Nat → Nat) (A : Nat → Nat) (cI cQ : ClassId) (σ : HS) (n : Nat) (h : ∀ b : Int32, Met l yX3_solved wsX3_solved ({ frames := 3 * n + 5, cells := 0, slots := 0, locals := 69 * n + 200 }) (va_Pc [.ref (A 0), .int b, .int (nI n)] (hfP dC dI A cI cQ σ)) (vp_Si (fun r => r = b2i (slS σ n b))) 0 0 (fun _ => False)) {a : Nat} (ha : a < 8) (b : Int32) : Met l yX3_solves wsX3_solves ({ frames := 3 * (n + 1) + 3, cells := 0, slots := 0, locals := 69 * (n + 1) + 153 }) (va_Pc [.ref (A 0), .ref (A (8 + a)), .int b, .int (nI (n + 1))] (hfP dC dI A cI cQ σ)) (vp_Si (fun r => r = b2i (slS σ n (ptS σ a b 0) && slS σ n (ptS σ a b 1)))) 0 0 (fun _ => False) := by
  refine Met.ofW (cc := cX3_solves) (maxL := 5) (ret := (some .boolean)) (by decide) rfl ?_
  intro p e s m args below meth c s₁ B hml hv
  obtain ⟨rfl, hP, hX⟩ := hv
  have hx := B.exec
  have hb := B.bytes
  have hr := B.returns
  have hts := atoms_spec (ws := wsX3_solves) B.pre
  have hown : s.vm.findClass RX3 = some m.cls := findClass_of_methodNamed B.named
  have hlocks := B.notSynchronized
  have hK := hX.1
  have hinX3 : ∀ w ∈ wsX30, w ∈ wsX3_solves := fun _ h => List.mem_cons_of_mem _ (List.mem_append_left _ (List.mem_append_right _ h))
  have hinX0 : ∀ w ∈ wsX00, w ∈ wsX3_solves := fun _ h => List.mem_cons_of_mem _ (List.mem_append_right _ h)
  have hl := lv_entry ([.ref (A 0), .ref (A (8 + a)), .int b, .int (nI (n + 1))]) (n := 5) (Nat.le_of_ble_eq_true rfl)
  rw [lg_entry_eq]
  generalize (lg_sl ([.ref (A 0), .ref (A (8 + a)), .int b, .int (nI (n + 1))]) ++ List.replicate (5 - (lg_sl ([.ref (A 0), .ref (A (8 + a)), .int b, .int (nI (n + 1))])).length) Slot.unset).toArray = ls at hl ⊢
  have hl : lv_has ls 5 [(0, .ref (A 0)), (1, .ref (A (8 + a))), (2, .int b), (3, .int (nI (n + 1)))] := hl
  refine lv_aload_n hx hb dX3_solves_0 rfl (lv_at hl 1 rfl) ?_
  refine lv_iload_n hx hb dX3_solves_1 rfl (lv_at hl 2 rfl) ?_
  refine vp_callSi (W.runV (As := [.int b]) (rest := []) ⟨hx, hb, hml, hown, hts⟩ (c_X0_after l dC dI A cI cQ σ ha b) (cwV 1 hts gX3_solves_X0_after rfl rfl rfl (by decide +kernel) ⟨show 1 + 1 ≤ 3 * (n + 1) + 3 by omega, show 8 + (4 + 11) + (21) ≤ 69 * (n + 1) + 153 by omega⟩) ⟨bl_P, va_recv hK hP (ci := 0) (q0 := (8 + a)) rfl (hf_act ha), fun U hU hW => ⟨rfl, by rw [hU]; exact hP, hX.warm hW⟩⟩ rfl rfl hl.1 rfl (lv_room (Nat.le_of_ble_eq_true rfl)) dX3_solves_2 ⟨Nat.zero_le _, Nat.zero_le _⟩) (fun r er => ?_)
  subst er
  refine lv_istore (lv' := [(4, .int (afS σ a b)), (0, .ref (A 0)), (1, .ref (A (8 + a))), (2, .int b), (3, .int (nI (n + 1)))]) hx hb dX3_solves_5 hl (by decide) rfl (fun ls hl => ?_)
  refine lv_aload_n hx hb dX3_solves_7 rfl (lv_at hl 1 rfl) ?_
  refine lv_aload_n hx hb dX3_solves_8 rfl (lv_at hl 2 rfl) ?_
  refine lv_iload hx hb dX3_solves_9 (lv_at hl 0 rfl) ?_
  refine lv_iconst (v := 0) hx hb dX3_solves_11 (by decide) ?_
  refine vp_callSi (W.runV (As := [.int (afS σ a b), .int 0]) (rest := [.ref (A 0)]) ⟨hx, hb, hml, hown, hts⟩ (c_X0_part l dC dI A cI cQ σ ha (afS σ a b) 0) (cwV 2 hts gX3_solves_X0_part rfl rfl rfl (by decide +kernel) ⟨show 0 + 1 ≤ 3 * (n + 1) + 3 by omega, show 8 + (3 + 11) + (0) ≤ 69 * (n + 1) + 153 by omega⟩) ⟨bl_P, va_recv hK hP (ci := 0) (q0 := (8 + a)) rfl (hf_act ha), fun U hU hW => ⟨rfl, by rw [hU]; exact hP, hX.warm hW⟩⟩ rfl rfl hl.1 rfl (lv_room (Nat.le_of_ble_eq_true rfl)) dX3_solves_12 ⟨Nat.zero_le _, Nat.zero_le _⟩) (fun r er => ?_)
  subst er
  refine lv_iload_n hx hb dX3_solves_15 rfl (lv_at hl 4 rfl) ?_
  refine lv_iconst (v := 1) hx hb dX3_solves_16 (by decide) ?_
  refine lv_isub hx hb dX3_solves_17 ?_
  refine lv_topi (fun y0 ey0 => ?_)
  obtain rfl : y0 = nI n := ey0.trans (nI_pred n)
  refine vp_callSi (W.runV (As := [.int (ptS σ a b 0), .int (nI n)]) (rest := []) ⟨hx, hb, hml, hown, hts⟩ (h (ptS σ a b 0)) (cwV 2 hts gX3_solves_X3_solved rfl rfl rfl (by decide +kernel) ⟨show 3 * n + 5 + 1 ≤ 3 * (n + 1) + 3 by omega, show 8 + (3 + 11) + (69 * n + 200) ≤ 69 * (n + 1) + 153 by omega⟩) ⟨bl_P, va_recv hK hP (ci := 3) (q0 := 0) rfl rfl, fun U hU hW => ⟨rfl, by rw [hU]; exact hP, hX.warm hW⟩⟩ rfl rfl hl.1 rfl (lv_room (Nat.le_of_ble_eq_true rfl)) dX3_solves_18 ⟨Nat.zero_le _, Nat.zero_le _⟩) (fun r er => ?_)
  subst er
  refine lv_if_eq (tgt := 45) hx hb dX3_solves_21 (by decide) (fun c21_1 => ?_) (fun c21_1 => ?_)
  · skip
    refine lv_iconst (v := 0) hx hb dX3_solves_45 (by decide) ?_
    exact W.zret (v := 0) hx hb hr rfl (fun t ht hW => ⟨_, rfl, by show _ = b2i (_ && _); rw [b2i_0.mp c21_1]; rfl, ht⟩) (fun q h => nomatch h) dX3_solves_46
  · skip
    refine lv_aload_n hx hb dX3_solves_24 rfl (lv_at hl 1 rfl) ?_
    refine lv_aload_n hx hb dX3_solves_25 rfl (lv_at hl 2 rfl) ?_
    refine lv_iload hx hb dX3_solves_26 (lv_at hl 0 rfl) ?_
    refine lv_iconst (v := 1) hx hb dX3_solves_28 (by decide) ?_
    refine vp_callSi (W.runV (As := [.int (afS σ a b), .int 1]) (rest := [.ref (A 0)]) ⟨hx, hb, hml, hown, hts⟩ (c_X0_part l dC dI A cI cQ σ ha (afS σ a b) 1) (cwV 2 hts gX3_solves_X0_part rfl rfl rfl (by decide +kernel) ⟨show 0 + 1 ≤ 3 * (n + 1) + 3 by omega, show 8 + (3 + 11) + (0) ≤ 69 * (n + 1) + 153 by omega⟩) ⟨bl_P, va_recv hK hP (ci := 0) (q0 := (8 + a)) rfl (hf_act ha), fun U hU hW => ⟨rfl, by rw [hU]; exact hP, hX.warm hW⟩⟩ rfl rfl hl.1 rfl (lv_room (Nat.le_of_ble_eq_true rfl)) dX3_solves_29 ⟨Nat.zero_le _, Nat.zero_le _⟩) (fun r er => ?_)
    subst er
    refine lv_iload_n hx hb dX3_solves_32 rfl (lv_at hl 4 rfl) ?_
    refine lv_iconst (v := 1) hx hb dX3_solves_33 (by decide) ?_
    refine lv_isub hx hb dX3_solves_34 ?_
    refine lv_topi (fun y2 ey2 => ?_)
    obtain rfl : y2 = nI n := ey2.trans (nI_pred n)
    refine vp_callSi (W.runV (As := [.int (ptS σ a b 1), .int (nI n)]) (rest := []) ⟨hx, hb, hml, hown, hts⟩ (h (ptS σ a b 1)) (cwV 2 hts gX3_solves_X3_solved rfl rfl rfl (by decide +kernel) ⟨show 3 * n + 5 + 1 ≤ 3 * (n + 1) + 3 by omega, show 8 + (3 + 11) + (69 * n + 200) ≤ 69 * (n + 1) + 153 by omega⟩) ⟨bl_P, va_recv hK hP (ci := 3) (q0 := 0) rfl rfl, fun U hU hW => ⟨rfl, by rw [hU]; exact hP, hX.warm hW⟩⟩ rfl rfl hl.1 rfl (lv_room (Nat.le_of_ble_eq_true rfl)) dX3_solves_35 ⟨Nat.zero_le _, Nat.zero_le _⟩) (fun r er => ?_)
    subst er
    refine lv_if_eq (tgt := 45) hx hb dX3_solves_38 (by decide) (fun c38_3 => ?_) (fun c38_3 => ?_)
    · skip
      refine lv_iconst (v := 0) hx hb dX3_solves_45 (by decide) ?_
      exact W.zret (v := 0) hx hb hr rfl (fun t ht hW => ⟨_, rfl, by show _ = b2i (_ && _); rw [b2i_n0.mp c21_1, b2i_0.mp c38_3]; rfl, ht⟩) (fun q h => nomatch h) dX3_solves_46
    · skip
      refine lv_iconst (v := 1) hx hb dX3_solves_41 (by decide) ?_
      refine lv_goto (tgt := 46) hx hb dX3_solves_42 (by decide) ?_
      exact W.zret (v := 1) hx hb hr rfl (fun t ht hW => ⟨_, rfl, by show _ = b2i (_ && _); rw [b2i_n0.mp c21_1, b2i_n0.mp c38_3]; rfl, ht⟩) (fun q h => nomatch h) dX3_solves_46
set_option maxHeartbeats 4000000 in
set_option maxRecDepth 100000 in
/-- leastAction(belief, n + 1) out of solves -/
theorem c_X3_la_of (l : Launch) (dC : Nat → ClassId) (dI : Nat → Nat → Nat) (A : Nat → Nat) (cI cQ : ClassId) (σ : HS) (n : Nat) (hn : n < 2 ^ 30) (h : ∀ a : Nat, a < 8 → ∀ b : Int32, Met l yX3_solves wsX3_solves ({ frames := 3 * (n + 1) + 3, cells := 0, slots := 0, locals := 69 * (n + 1) + 153 }) (va_Pc [.ref (A 0), .ref (A (8 + a)), .int b, .int (nI (n + 1))] (hfP dC dI A cI cQ σ)) (vp_Si (fun r => r = b2i (slS σ n (ptS σ a b 0) && slS σ n (ptS σ a b 1)))) 0 0 (fun _ => False)) (b : Int32) : Met l yX3_leastAction wsX3_leastAction ({ frames := 3 * (n + 1) + 4, cells := 0, slots := 0, locals := 69 * (n + 1) + 177 }) (va_Pc [.ref (A 0), .int b, .int (nI (n + 1))] (hfP dC dI A cI cQ σ)) (vp_Si (fun r => r = o2i (leS σ (n + 1) b))) 0 0 (fun _ => False) := by
  refine Met.ofW (cc := cX3_leastAction) (maxL := 4) (ret := (some .int)) (by decide) rfl ?_
  intro p e s m args below meth c s₁ B hml hv
  obtain ⟨rfl, hP, hX⟩ := hv
  have hx := B.exec
  have hb := B.bytes
  have hr := B.returns
  have hts := atoms_spec (ws := wsX3_leastAction) B.pre
  have hown : s.vm.findClass RX3 = some m.cls := findClass_of_methodNamed B.named
  have hlocks := B.notSynchronized
  have hK := hX.1
  have hinX3 : ∀ w ∈ wsX30, w ∈ wsX3_leastAction := fun _ h => List.mem_cons_of_mem _ (List.mem_append_left _ (List.mem_append_right _ h))
  have hl := lv_entry ([.ref (A 0), .int b, .int (nI (n + 1))]) (n := 4) (Nat.le_of_ble_eq_true rfl)
  rw [lg_entry_eq]
  generalize (lg_sl ([.ref (A 0), .int b, .int (nI (n + 1))]) ++ List.replicate (4 - (lg_sl ([.ref (A 0), .int b, .int (nI (n + 1))])).length) Slot.unset).toArray = ls at hl ⊢
  have hl : lv_has ls 4 [(0, .ref (A 0)), (1, .int b), (2, .int (nI (n + 1)))] := hl
  refine lv_iload_n hx hb dX3_leastAction_0 rfl (lv_at hl 2 rfl) ?_
  refine lv_if_gt (tgt := 6) hx hb dX3_leastAction_1 (by decide) (fun c1_0 => ?_) (fun c1_0 => ?_)
  · skip
    refine lv_iconst (v := 0) hx hb dX3_leastAction_6 (by decide) ?_
    refine lv_istore_n (lv' := [(3, .int 0), (0, .ref (A 0)), (1, .int b), (2, .int (nI (n + 1)))]) hx hb dX3_leastAction_7 rfl hl (by decide) rfl (fun ls hl => ?_)
    refine w_loopP (pc := 8) 8 (fun a ls => (∀ j, j < a → (fun a => usS σ a b && (slS σ n (ptS σ a b 0) && slS σ n (ptS σ a b 1))) j = false) ∧ lv_has ls 4 [(0, .ref (A 0)), (1, .int b), (2, .int (nI (n + 1))), (3, .int (nI a))]) ?_ 0 (Nat.zero_le _) ls ⟨fun j hj => absurd hj (by omega), lv_sub hl [1, 2, 3, 0] rfl⟩
    clear hl ls
    intro a ls hk hI ih
    obtain ⟨hj, hl⟩ := hI
    refine lv_iload_n hx hb dX3_leastAction_8 rfl (lv_at hl 3 rfl) ?_
    refine lv_bipush (v := 8) hx hb dX3_leastAction_9 (by decide) ?_
    refine lv_icmp_ge (tgt := 50) hx hb dX3_leastAction_11 (by decide) (fun c11_1 => ?_) (fun c11_1 => ?_)
    · skip
      obtain rfl := ctr_ge (N := 8) rfl (by decide) hk c11_1
      refine lv_iconst (v := (-1)) hx hb dX3_leastAction_50 (by decide) ?_
      exact W.iret hx hb hr (fun t ht hW => ⟨_, rfl, by show _ = o2i (first8 _); unfold first8; rw [find_no hj]; rfl, ht⟩) (fun q h => nomatch h) dX3_leastAction_51
    · skip
      have ha := ctr_lt (N := 8) rfl (by decide) hk c11_1
      refine lv_aload_n hx hb dX3_leastAction_14 rfl (lv_at hl 0 rfl) ?_
      refine va_get (D := (dC, dI)) (ci := 3) (v := .ref (A 1)) (C := RX3) (T := TX3) (N := 9) hx hb hts hinX3 hown hK hP 0 rfl rfl 0 (by decide) (hts _ (List.mem_of_getElem? (i := 1) rfl)) (fun _ h9 => h9) rfl dX3_leastAction_15 ?_
      refine lv_iload_n hx hb dX3_leastAction_18 rfl (lv_at hl 3 rfl) ?_
      refine va_aldq hx hb hK hP 1 1 rfl rfl (vp_in_nI (show a < 8 by omega) (by decide)) dX3_leastAction_19 ?_
      rw [nI_clamp (show a < 2 ^ 31 by have := (show a < 8 by omega); omega)]
      refine lv_iload_n hx hb dX3_leastAction_20 rfl (lv_at hl 1 rfl) ?_
      refine vp_callSi (W.runV (As := [.int b]) (rest := []) ⟨hx, hb, hml, hown, hts⟩ (c_X0_usable l dC dI A cI cQ σ ha b) (cwV 1 hts gX3_leastAction_X0_usable rfl rfl rfl (by decide +kernel) ⟨show 0 + 1 ≤ 3 * (n + 1) + 4 by omega, show 8 + (2 + 11) + (0) ≤ 69 * (n + 1) + 177 by omega⟩) ⟨bl_P, va_recv hK hP (ci := 0) (q0 := (8 + a)) rfl (hf_act ha), fun U hU hW => ⟨rfl, by rw [hU]; exact hP, hX.warm hW⟩⟩ rfl rfl hl.1 rfl (lv_room (Nat.le_of_ble_eq_true rfl)) dX3_leastAction_21 ⟨Nat.zero_le _, Nat.zero_le _⟩) (fun r er => ?_)
      subst er
      refine lv_if_eq (tgt := 44) hx hb dX3_leastAction_24 (by decide) (fun c24_2 => ?_) (fun c24_2 => ?_)
      · skip
        obtain ⟨y3, ey3⟩ : ∃ y : Int32, y = (nI a) + 1 := ⟨_, rfl⟩
        refine lv_iinc (v := y3) (lv' := [(3, .int y3), (0, .ref (A 0)), (1, .int b), (2, .int (nI (n + 1)))]) hx hb dX3_leastAction_44 hl (k := 3) rfl (by rw [ey3]; rfl) (by decide) rfl (fun ls hl => ?_)
        obtain rfl : y3 = nI (a + 1) := ey3.trans (nI_1 a)
        refine lv_goto (tgt := 8) hx hb dX3_leastAction_47 (by decide) ?_
        exact ih ls ⟨lt_s hj (by show (_ && _) = false; rw [b2i_0.mp c24_2]; rfl), lv_sub hl [1, 2, 3, 0] rfl⟩ ha
      · skip
        refine lv_aload_n hx hb dX3_leastAction_27 rfl (lv_at hl 0 rfl) ?_
        refine lv_aload_n hx hb dX3_leastAction_28 rfl (lv_at hl 0 rfl) ?_
        refine va_get (D := (dC, dI)) (ci := 3) (v := .ref (A 1)) (C := RX3) (T := TX3) (N := 9) hx hb hts hinX3 hown hK hP 0 rfl rfl 0 (by decide) (hts _ (List.mem_of_getElem? (i := 1) rfl)) (fun _ h9 => h9) rfl dX3_leastAction_29 ?_
        refine lv_iload_n hx hb dX3_leastAction_32 rfl (lv_at hl 3 rfl) ?_
        refine va_aldq hx hb hK hP 1 1 rfl rfl (vp_in_nI (show a < 8 by omega) (by decide)) dX3_leastAction_33 ?_
        rw [nI_clamp (show a < 2 ^ 31 by have := (show a < 8 by omega); omega)]
        refine lv_iload_n hx hb dX3_leastAction_34 rfl (lv_at hl 1 rfl) ?_
        refine lv_iload_n hx hb dX3_leastAction_35 rfl (lv_at hl 2 rfl) ?_
        refine vp_callSi (W.runV (As := [.ref (A (8 + a)), .int b, .int (nI (n + 1))]) (rest := []) ⟨hx, hb, hml, hown, hts⟩ (h a ha b) (cwV 3 hts gX3_leastAction_X3_solves rfl rfl rfl (by decide +kernel) ⟨show 3 * (n + 1) + 3 + 1 ≤ 3 * (n + 1) + 4 by omega, show 8 + (5 + 11) + (69 * (n + 1) + 153) ≤ 69 * (n + 1) + 177 by omega⟩) ⟨bl_P, va_recv hK hP (ci := 3) (q0 := 0) rfl rfl, fun U hU hW => ⟨rfl, by rw [hU]; exact hP, hX.warm hW⟩⟩ rfl rfl hl.1 rfl (lv_room (Nat.le_of_ble_eq_true rfl)) dX3_leastAction_36 ⟨Nat.zero_le _, Nat.zero_le _⟩) (fun r er => ?_)
        subst er
        refine lv_if_eq (tgt := 44) hx hb dX3_leastAction_39 (by decide) (fun c39_4 => ?_) (fun c39_4 => ?_)
        · skip
          obtain ⟨y5, ey5⟩ : ∃ y : Int32, y = (nI a) + 1 := ⟨_, rfl⟩
          refine lv_iinc (v := y5) (lv' := [(3, .int y5), (0, .ref (A 0)), (1, .int b), (2, .int (nI (n + 1)))]) hx hb dX3_leastAction_44 hl (k := 3) rfl (by rw [ey5]; rfl) (by decide) rfl (fun ls hl => ?_)
          obtain rfl : y5 = nI (a + 1) := ey5.trans (nI_1 a)
          refine lv_goto (tgt := 8) hx hb dX3_leastAction_47 (by decide) ?_
          exact ih ls ⟨lt_s hj (by show (_ && _) = false; rw [b2i_n0.mp c24_2, b2i_0.mp c39_4]; rfl), lv_sub hl [1, 2, 3, 0] rfl⟩ ha
        · skip
          refine lv_iload_n hx hb dX3_leastAction_42 rfl (lv_at hl 3 rfl) ?_
          exact W.iret hx hb hr (fun t ht hW => ⟨_, rfl, by show _ = o2i (first8 _); unfold first8; rw [find_at ha (show (fun a => usS σ a b && (slS σ n (ptS σ a b 0) && slS σ n (ptS σ a b 1))) a = true by show (_ && _) = true; rw [b2i_n0.mp c24_2, b2i_n0.mp c39_4]; rfl) hj]; rfl, ht⟩) (fun q h => nomatch h) dX3_leastAction_43
  · exact absurd (nI_lt (a := 0) (b := n + 1) (by omega) (by omega)) c1_0
/-- solved and leastAction to any depth -/
theorem c_X3_rec (l : Launch) (dC : Nat → ClassId) (dI : Nat → Nat → Nat) (A : Nat → Nat) (cI cQ : ClassId) (σ : HS) : ∀ n : Nat, n < 2 ^ 30 → (∀ b : Int32, Met l yX3_leastAction wsX3_leastAction ({ frames := 3 * n + 4, cells := 0, slots := 0, locals := 69 * n + 177 }) (va_Pc [.ref (A 0), .int b, .int (nI n)] (hfP dC dI A cI cQ σ)) (vp_Si (fun r => r = o2i (leS σ n b))) 0 0 (fun _ => False)) ∧ (∀ b : Int32, Met l yX3_solved wsX3_solved ({ frames := 3 * n + 5, cells := 0, slots := 0, locals := 69 * n + 200 }) (va_Pc [.ref (A 0), .int b, .int (nI n)] (hfP dC dI A cI cQ σ)) (vp_Si (fun r => r = b2i (slS σ n b))) 0 0 (fun _ => False)) := by
  intro n
  induction n with
  | zero => intro _; exact ⟨c_X3_la0 l dC dI A cI cQ σ, c_X3_solved_of l dC dI A cI cQ σ 0 (c_X3_la0 l dC dI A cI cQ σ)⟩
  | succ n ih =>
    intro hn
    have h1 := c_X3_la_of l dC dI A cI cQ σ n (by omega) (fun a ha b => c_X3_solves_of l dC dI A cI cQ σ n (ih (by omega)).2 ha b)
    exact ⟨h1, c_X3_solved_of l dC dI A cI cQ σ (n + 1) h1⟩
set_option maxHeartbeats 4000000 in
set_option maxRecDepth 100000 in
/-- fewest(belief, most) -/
theorem c_X3_fewest (l : Launch) (dC : Nat → ClassId) (dI : Nat → Nat → Nat) (A : Nat → Nat) (cI cQ : ClassId) (σ : HS) (b : Int32) {q : Nat} (hq : q ≤ 4) : Met l yX3_fewest wsX3_fewest ({ frames := 18, cells := 0, slots := 0, locals := 500 }) (va_Pc [.ref (A 0), .int b, .int (nI q)] (hfP dC dI A cI cQ σ)) (vp_Si (fun r => r = o2i (fewS σ b q))) 0 0 (fun _ => False) := by
  refine Met.ofW (cc := cX3_fewest) (maxL := 4) (ret := (some .int)) (by decide) rfl ?_
  intro p e s m args below meth c s₁ B hml hv
  obtain ⟨rfl, hP, hX⟩ := hv
  have hx := B.exec
  have hb := B.bytes
  have hr := B.returns
  have hts := atoms_spec (ws := wsX3_fewest) B.pre
  have hown : s.vm.findClass RX3 = some m.cls := findClass_of_methodNamed B.named
  have hlocks := B.notSynchronized
  have hK := hX.1
  have hinX3 : ∀ w ∈ wsX30, w ∈ wsX3_fewest := fun _ h => List.mem_cons_of_mem _ (List.mem_append_left _ (List.mem_append_right _ h))
  have hl := lv_entry ([.ref (A 0), .int b, .int (nI q)]) (n := 4) (Nat.le_of_ble_eq_true rfl)
  rw [lg_entry_eq]
  generalize (lg_sl ([.ref (A 0), .int b, .int (nI q)]) ++ List.replicate (4 - (lg_sl ([.ref (A 0), .int b, .int (nI q)])).length) Slot.unset).toArray = ls at hl ⊢
  have hl : lv_has ls 4 [(0, .ref (A 0)), (1, .int b), (2, .int (nI q))] := hl
  refine lv_iconst (v := 0) hx hb dX3_fewest_0 (by decide) ?_
  refine lv_istore_n (lv' := [(3, .int 0), (0, .ref (A 0)), (1, .int b), (2, .int (nI q))]) hx hb dX3_fewest_1 rfl hl (by decide) rfl (fun ls hl => ?_)
  refine w_loopP (pc := 2) (q + 1) (fun n ls => (∀ j, j < n → slS σ j b = false) ∧ lv_has ls 4 [(0, .ref (A 0)), (1, .int b), (2, .int (nI q)), (3, .int (nI n))]) ?_ 0 (Nat.zero_le _) ls ⟨fun j hj => absurd hj (by omega), lv_sub hl [1, 2, 3, 0] rfl⟩
  clear hl ls
  intro n ls hk hI ih
  obtain ⟨hj, hl⟩ := hI
  refine lv_iload_n hx hb dX3_fewest_2 rfl (lv_at hl 3 rfl) ?_
  refine lv_iload_n hx hb dX3_fewest_3 rfl (lv_at hl 2 rfl) ?_
  refine lv_icmp_gt (tgt := 24) hx hb dX3_fewest_4 (by decide) (fun c4_0 => ?_) (fun c4_0 => ?_)
  · skip
    have hn : n = q + 1 := by
      rcases Nat.lt_or_ge q n with z | z
      · omega
      · exact absurd c4_0 (nI_nlt z (by omega))
    subst hn
    refine lv_iconst (v := (-1)) hx hb dX3_fewest_24 (by decide) ?_
    exact W.iret hx hb hr (fun t ht hW => ⟨_, rfl, by show _ = o2i (fewS σ b q); unfold fewS; rw [find_no hj]; rfl, ht⟩) (fun q h => nomatch h) dX3_fewest_25
  · skip
    have hn : n ≤ q := by
      rcases Nat.lt_or_ge q n with z | z
      · exact absurd (nI_lt z (by omega)) c4_0
      · exact z
    refine lv_aload_n hx hb dX3_fewest_7 rfl (lv_at hl 0 rfl) ?_
    refine lv_iload_n hx hb dX3_fewest_8 rfl (lv_at hl 1 rfl) ?_
    refine lv_iload_n hx hb dX3_fewest_9 rfl (lv_at hl 3 rfl) ?_
    refine vp_callSi (W.runV (As := [.int b, .int (nI n)]) (rest := []) ⟨hx, hb, hml, hown, hts⟩ ((c_X3_rec l dC dI A cI cQ σ n (by omega)).2 b) (cwV 2 hts gX3_fewest_X3_solved rfl rfl rfl (by decide +kernel) ⟨show 3 * n + 5 + 1 ≤ 18 by omega, show 8 + (3 + 11) + (69 * n + 200) ≤ 500 by omega⟩) ⟨bl_P, va_recv hK hP (ci := 3) (q0 := 0) rfl rfl, fun U hU hW => ⟨rfl, by rw [hU]; exact hP, hX.warm hW⟩⟩ rfl rfl hl.1 rfl (lv_room (Nat.le_of_ble_eq_true rfl)) dX3_fewest_10 ⟨Nat.zero_le _, Nat.zero_le _⟩) (fun r er => ?_)
    subst er
    refine lv_if_eq (tgt := 18) hx hb dX3_fewest_13 (by decide) (fun c13_1 => ?_) (fun c13_1 => ?_)
    · skip
      obtain ⟨y2, ey2⟩ : ∃ y : Int32, y = (nI n) + 1 := ⟨_, rfl⟩
      refine lv_iinc (v := y2) (lv' := [(3, .int y2), (0, .ref (A 0)), (1, .int b), (2, .int (nI q))]) hx hb dX3_fewest_18 hl (k := 3) rfl (by rw [ey2]; rfl) (by decide) rfl (fun ls hl => ?_)
      obtain rfl : y2 = nI (n + 1) := ey2.trans (nI_1 n)
      refine lv_goto (tgt := 2) hx hb dX3_fewest_21 (by decide) ?_
      exact ih ls ⟨lt_s hj (b2i_0.mp c13_1), lv_sub hl [1, 2, 3, 0] rfl⟩ (by omega)
    · skip
      refine lv_iload_n hx hb dX3_fewest_16 rfl (lv_at hl 3 rfl) ?_
      exact W.iret hx hb hr (fun t ht hW => ⟨_, rfl, by show _ = o2i (fewS σ b q); unfold fewS; rw [find_at (show n < q + 1 by omega) (b2i_n0.mp c13_1) hj]; rfl, ht⟩) (fun q h => nomatch h) dX3_fewest_17
end
section
/-! ===== arrays filled from the left; what a callee leaves ===== -/
def fillN (f g : Nat → Int32) (k : Nat) : Nat → Int32 := fun j => if j < k then g j else f j
theorem fillN_0 (f g : Nat → Int32) : fillN f g 0 = f := by funext j; simp [fillN]
theorem fillN_s (f g : Nat → Int32) (k : Nat) {x : Int32} (hx : x = g k) : upd (fillN f g k) k x = fillN f g (k + 1) := by
  funext j
  unfold upd fillN
  by_cases h : j = k
  · subst h; simp [hx]
  · by_cases h2 : j < k
    · simp [h, h2, Nat.lt_succ_of_lt h2]
    · simp [h, h2, show ¬ j < k + 1 by omega]
theorem va_up_id {α : Type} (f : Nat → α) (a : Nat) : va_up f a (f a) = f := by
  funext j
  unfold va_up
  by_cases h : j = a
  · subst h; simp
  · simp [h]
theorem hf_free {A : Nat → Nat} {cI cQ : ClassId} {σ : HS} {V : Nat → Prop} {H0 H : Heap} {locs : List Loc} (hD : va_D V (hfW A cI cQ σ)) (hS : va_S V H0 H locs) (hA : ∀ q, H0.size ≤ q → V q) : ∀ q, va_A (hfW A cI cQ σ) H.size q → V q := by
  rintro q (⟨k, e, h⟩ | h)
  · exact hD.2 k _ h
  · exact hA q (Nat.le_trans hS.1 h)
theorem hf_weak {ws : va_W} {V V' : Nat → Prop} (hD : va_D V' ws) (h : ∀ q, V' q → V q) : va_D V ws := ⟨hD.1, fun k q hk => h _ (hD.2 k q hk)⟩
theorem hf_any {ws : va_W} {V : Nat → Prop} (hD : va_D V ws) : va_D (fun _ => True) ws := ⟨hD.1, fun _ _ _ => trivial⟩
theorem fillN_at (f g : Nat → Int32) {k j : Nat} (h : k ≤ j) : fillN f g k j = f j := by unfold fillN; rw [if_neg (by omega)]
theorem fillN_lt (f g : Nat → Int32) {k j : Nat} (h : j < k) : fillN f g k j = g j := by unfold fillN; rw [if_pos h]
theorem fillN_same (f g : Nat → Int32) (k : Nat) : upd (fillN f g k) k (f k) = fillN f g k := by
  funext j
  unfold upd fillN
  by_cases h : j = k
  · subst h; simp
  · simp [h]
/-- what an effect makes of what came of each state -/
def addG (f : Nat → Int32) (x : Int32) (mk1 : Bool) (dem : Int32) : Nat → Int32 := fun j => if bt dem j = true then (if mk1 = true then f j ||| x else f j &&& (x ^^^ (-1))) else f j
end
section
set_option maxHeartbeats 4000000 in
set_option maxRecDepth 100000 in
/-- Tree.empty() -/
theorem c_X2_empty (l : Launch) (dC : Nat → ClassId) (dI : Nat → Nat → Nat) (A : Nat → Nat) (cI cQ : ClassId) (σ : HS) (sz : Nat) : Met l yX2_empty wsX2_empty ({ frames := 0, cells := 0, slots := 0, locals := 0 }) (va_Pc [.ref (A 2)] (hfF dC dI A cI cQ sz σ)) (va_Qv (fun τ : HS => τ = (σ.1, (0, tcS σ), σ.2.2)) (hfB dC dI A cI cQ (va_A (hfW A cI cQ σ) sz)) (va_A (hfW A cI cQ σ) sz)) 0 0 (va_A (hfW A cI cQ σ) sz) := by
  obtain ⟨⟨cl, st, go, hi, ma⟩, ⟨ct, tc⟩, ⟨be, co, ap⟩, tr, ac, nx⟩ := σ
  refine Met.ofW (cc := cX2_empty) (maxL := 1) (ret := none) (by decide) rfl ?_
  intro p e s m args below meth c s₁ B hml hv
  obtain ⟨rfl, hsz, hP, hX, hD0⟩ := hv
  have hx := B.exec
  have hb := B.bytes
  have hr := B.returns
  have hts := atoms_spec (ws := wsX2_empty) B.pre
  have hown : s.vm.findClass RX2 = some m.cls := findClass_of_methodNamed B.named
  have hlocks := B.notSynchronized
  have hK := hX.1
  have hinX2 : ∀ w ∈ wsX20, w ∈ wsX2_empty := fun _ h => List.mem_cons_of_mem _ (List.mem_append_right _ h)
  subst hsz
  have hD := hD0.self (sz := s.heap.size)
  generalize hAe : va_A (hfW A cI cQ _) s.heap.size = V at hD ⊢
  have hA : ∀ q : Nat, s.heap.size ≤ q → V q := fun q h => by rw [← hAe]; exact Or.inr h
  have hS : va_S V s.heap s.heap [] := va_S.rf
  have hl := lv_entry ([.ref (A 2)]) (n := 1) (Nat.le_of_ble_eq_true rfl)
  rw [lg_entry_eq]
  generalize (lg_sl ([.ref (A 2)]) ++ List.replicate (1 - (lg_sl ([.ref (A 2)])).length) Slot.unset).toArray = ls at hl ⊢
  have hl : lv_has ls 1 [(0, .ref (A 2))] := hl
  have hP : va_P (dC, dI) vwCl (hfL A cI cQ cl st go hi ma ct tc be co ap tr ac nx) s.heap := hP
  have hD : va_D V (hfL A cI cQ cl st go hi ma ct tc be co ap tr ac nx) := hD
  refine lv_aload_n hx hb dX2_empty_0 rfl (lv_at hl 0 rfl) ?_
  refine lv_iconst (v := 0) hx hb dX2_empty_1 (by decide) ?_
  refine va_put (D := (dC, dI)) (ci := 2) (v := .int 0) (ty := .int) (C := RX2) (T := TX2) (N := 2) hx hb hts hinX2 tyX2 tyX2_ok nmX2 hown hK hP hD hS 2 rfl rfl 1 (by decide) (hts _ (List.mem_of_getElem? (i := 1) rfl)) (fun _ h9 => h9) rfl (by decide +kernel) rfl rfl (Nat.le_of_ble_eq_true rfl) dX2_empty_2 (fun H locs hP hD hS => ?_)
  have hP : va_P (dC, dI) vwCl (hfL A cI cQ cl st go hi ma 0 tc be co ap tr ac nx) H := hP
  have hD : va_D V (hfL A cI cQ cl st go hi ma 0 tc be co ap tr ac nx) := hD
  exact W.vret hx hb hr (fun t ht hW => ⟨⟨((cl, st, go, hi, ma), (0, tc), (be, co, ap), tr, ac, nx), rfl, rfl, by rw [ht]; exact hP, hD⟩, hS.F ht⟩) hS.2.2 dX2_empty_5
set_option maxHeartbeats 4000000 in
set_option maxRecDepth 100000 in
/-- Tree.setAction(i, a) -/
theorem c_X2_setAction (l : Launch) (dC : Nat → ClassId) (dI : Nat → Nat → Nat) (A : Nat → Nat) (cI cQ : ClassId) (σ : HS) (sz : Nat) {i : Nat} (hi31 : i < 31) (x : Int32) : Met l yX2_setAction wsX2_setAction ({ frames := 0, cells := 0, slots := 0, locals := 0 }) (va_Pc [.ref (A 2), .int (nI i), .int x] (hfF dC dI A cI cQ sz σ)) (va_Qv (fun τ : HS => τ = (σ.1, (ctS σ, upd (tcS σ) (3 * i) x), σ.2.2)) (hfB dC dI A cI cQ (va_A (hfW A cI cQ σ) sz)) (va_A (hfW A cI cQ σ) sz)) 0 0 (va_A (hfW A cI cQ σ) sz) := by
  obtain ⟨⟨cl, st, go, hi, ma⟩, ⟨ct, tc⟩, ⟨be, co, ap⟩, tr, ac, nx⟩ := σ
  refine Met.ofW (cc := cX2_setAction) (maxL := 3) (ret := none) (by decide) rfl ?_
  intro p e s m args below meth c s₁ B hml hv
  obtain ⟨rfl, hsz, hP, hX, hD0⟩ := hv
  have hx := B.exec
  have hb := B.bytes
  have hr := B.returns
  have hts := atoms_spec (ws := wsX2_setAction) B.pre
  have hown : s.vm.findClass RX2 = some m.cls := findClass_of_methodNamed B.named
  have hlocks := B.notSynchronized
  have hK := hX.1
  have hinX2 : ∀ w ∈ wsX20, w ∈ wsX2_setAction := fun _ h => List.mem_cons_of_mem _ (List.mem_append_right _ h)
  subst hsz
  have hD := hD0.self (sz := s.heap.size)
  generalize hAe : va_A (hfW A cI cQ _) s.heap.size = V at hD ⊢
  have hA : ∀ q : Nat, s.heap.size ≤ q → V q := fun q h => by rw [← hAe]; exact Or.inr h
  have hS : va_S V s.heap s.heap [] := va_S.rf
  have hl := lv_entry ([.ref (A 2), .int (nI i), .int x]) (n := 3) (Nat.le_of_ble_eq_true rfl)
  rw [lg_entry_eq]
  generalize (lg_sl ([.ref (A 2), .int (nI i), .int x]) ++ List.replicate (3 - (lg_sl ([.ref (A 2), .int (nI i), .int x])).length) Slot.unset).toArray = ls at hl ⊢
  have hl : lv_has ls 3 [(0, .ref (A 2)), (1, .int (nI i)), (2, .int x)] := hl
  have hP : va_P (dC, dI) vwCl (hfL A cI cQ cl st go hi ma ct tc be co ap tr ac nx) s.heap := hP
  have hD : va_D V (hfL A cI cQ cl st go hi ma ct tc be co ap tr ac nx) := hD
  refine lv_aload_n hx hb dX2_setAction_0 rfl (lv_at hl 0 rfl) ?_
  refine va_get (D := (dC, dI)) (ci := 2) (v := .ref (A 3)) (C := RX2) (T := TX2) (N := 2) hx hb hts hinX2 hown hK hP 2 rfl rfl 0 (by decide) (hts _ (List.mem_of_getElem? (i := 1) rfl)) (fun _ h9 => h9) rfl dX2_setAction_1 ?_
  refine lv_iconst (v := 3) hx hb dX2_setAction_4 (by decide) ?_
  refine lv_iload_n hx hb dX2_setAction_5 rfl (lv_at hl 1 rfl) ?_
  refine lv_imul hx hb dX2_setAction_6 ?_
  refine lv_topi (fun y0 ey0 => ?_)
  obtain rfl : y0 = nI (3 * i) := ey0.trans (pk_mul 3 i)
  refine lv_iload_n hx hb dX2_setAction_7 rfl (lv_at hl 2 rfl) ?_
  refine va_iast hx hb hK hP hD hS 3 0 rfl rfl (vp_in_nI (show (3 * i) < 93 by omega) (by decide)) dX2_setAction_8 (fun H locs hP hD hS => ?_)
  rw [nI_clamp (show (3 * i) < 2 ^ 31 by have := (show (3 * i) < 93 by omega); omega)] at hP hD
  have hP : va_P (dC, dI) vwCl (hfL A cI cQ cl st go hi ma ct (upd tc (3 * i) x) be co ap tr ac nx) H := hP
  have hD : va_D V (hfL A cI cQ cl st go hi ma ct (upd tc (3 * i) x) be co ap tr ac nx) := hD
  exact W.vret hx hb hr (fun t ht hW => ⟨⟨((cl, st, go, hi, ma), (ct, upd tc (3 * i) x), (be, co, ap), tr, ac, nx), rfl, rfl, by rw [ht]; exact hP, hD⟩, hS.F ht⟩) hS.2.2 dX2_setAction_9
set_option maxHeartbeats 4000000 in
set_option maxRecDepth 100000 in
/-- Action.begin(condition, senses) -/
theorem c_X0_begin (l : Launch) (dC : Nat → ClassId) (dI : Nat → Nat → Nat) (A : Nat → Nat) (cI cQ : ClassId) (σ : HS) (sz : Nat) {a : Nat} (ha : a < 8) (cnd sen : Int32) : Met l yX0_begin wsX0_begin ({ frames := 0, cells := 0, slots := 0, locals := 0 }) (va_Pc [.ref (A (8 + a)), .int cnd, .int sen] (hfF dC dI A cI cQ sz σ)) (va_Qv (fun τ : HS => τ = (σ.1, σ.2.1, σ.2.2.1, trS σ, up2 (up2 (up2 (up2 (acS σ) a 0 1) a 1 cnd) a 2 sen) a 3 0, va_up (nxS σ) a (fillN (nxS σ a) (fun j => nI j) 16))) (hfB dC dI A cI cQ (va_A (hfW A cI cQ σ) sz)) (va_A (hfW A cI cQ σ) sz)) 0 0 (va_A (hfW A cI cQ σ) sz) := by
  obtain ⟨⟨cl, st, go, hi, ma⟩, ⟨ct, tc⟩, ⟨be, co, ap⟩, tr, ac, nx⟩ := σ
  refine Met.ofW (cc := cX0_begin) (maxL := 4) (ret := none) (by decide) rfl ?_
  intro p e s m args below meth c s₁ B hml hv
  obtain ⟨rfl, hsz, hP, hX, hD0⟩ := hv
  have hx := B.exec
  have hb := B.bytes
  have hr := B.returns
  have hts := atoms_spec (ws := wsX0_begin) B.pre
  have hown : s.vm.findClass RX0 = some m.cls := findClass_of_methodNamed B.named
  have hlocks := B.notSynchronized
  have hK := hX.1
  have hinX0 : ∀ w ∈ wsX00, w ∈ wsX0_begin := fun _ h => List.mem_cons_of_mem _ (List.mem_append_right _ h)
  subst hsz
  have hD := hD0.self (sz := s.heap.size)
  generalize hAe : va_A (hfW A cI cQ _) s.heap.size = V at hD ⊢
  have hA : ∀ q : Nat, s.heap.size ≤ q → V q := fun q h => by rw [← hAe]; exact Or.inr h
  have hS : va_S V s.heap s.heap [] := va_S.rf
  have hl := lv_entry ([.ref (A (8 + a)), .int cnd, .int sen]) (n := 4) (Nat.le_of_ble_eq_true rfl)
  rw [lg_entry_eq]
  generalize (lg_sl ([.ref (A (8 + a)), .int cnd, .int sen]) ++ List.replicate (4 - (lg_sl ([.ref (A (8 + a)), .int cnd, .int sen])).length) Slot.unset).toArray = ls at hl ⊢
  have hl : lv_has ls 4 [(0, .ref (A (8 + a))), (1, .int cnd), (2, .int sen)] := hl
  have hP : va_P (dC, dI) vwCl (hfL A cI cQ cl st go hi ma ct tc be co ap tr ac nx) s.heap := hP
  have hD : va_D V (hfL A cI cQ cl st go hi ma ct tc be co ap tr ac nx) := hD
  refine lv_aload_n hx hb dX0_begin_0 rfl (lv_at hl 0 rfl) ?_
  refine lv_iconst (v := 1) hx hb dX0_begin_1 (by decide) ?_
  refine va_put (D := (dC, dI)) (ci := 0) (v := .int 1) (ty := .boolean) (C := RX0) (T := TX0) (N := 5) hx hb hts hinX0 tyX0 tyX0_ok nmX0 hown hK hP hD hS (8 + a) (hf_act ha) rfl 0 (by decide) (hts _ (List.mem_of_getElem? (i := 1) rfl)) (fun _ h9 => h9) rfl (by decide +kernel) rfl rfl (Nat.le_of_ble_eq_true rfl) dX0_begin_2 (fun H locs hP hD hS => ?_)
  rw [hf_setA 0 (by decide) ha] at hP hD
  have hP : va_P (dC, dI) vwCl (hfL A cI cQ cl st go hi ma ct tc be co ap tr (up2 ac a 0 1) nx) H := hP
  have hD : va_D V (hfL A cI cQ cl st go hi ma ct tc be co ap tr (up2 ac a 0 1) nx) := hD
  refine lv_aload_n hx hb dX0_begin_5 rfl (lv_at hl 0 rfl) ?_
  refine lv_iload_n hx hb dX0_begin_6 rfl (lv_at hl 1 rfl) ?_
  refine va_put (D := (dC, dI)) (ci := 0) (v := .int cnd) (ty := .int) (C := RX0) (T := TX0) (N := 5) hx hb hts hinX0 tyX0 tyX0_ok nmX0 hown hK hP hD hS (8 + a) (hf_act ha) rfl 1 (by decide) (hts _ (List.mem_of_getElem? (i := 2) rfl)) (fun _ h9 => h9) rfl (by decide +kernel) rfl rfl (Nat.le_of_ble_eq_true rfl) dX0_begin_7 (fun H locs hP hD hS => ?_)
  rw [hf_setA 1 (by decide) ha] at hP hD
  have hP : va_P (dC, dI) vwCl (hfL A cI cQ cl st go hi ma ct tc be co ap tr (up2 (up2 ac a 0 1) a 1 cnd) nx) H := hP
  have hD : va_D V (hfL A cI cQ cl st go hi ma ct tc be co ap tr (up2 (up2 ac a 0 1) a 1 cnd) nx) := hD
  refine lv_aload_n hx hb dX0_begin_10 rfl (lv_at hl 0 rfl) ?_
  refine lv_iload_n hx hb dX0_begin_11 rfl (lv_at hl 2 rfl) ?_
  refine va_put (D := (dC, dI)) (ci := 0) (v := .int sen) (ty := .int) (C := RX0) (T := TX0) (N := 5) hx hb hts hinX0 tyX0 tyX0_ok nmX0 hown hK hP hD hS (8 + a) (hf_act ha) rfl 2 (by decide) (hts _ (List.mem_of_getElem? (i := 3) rfl)) (fun _ h9 => h9) rfl (by decide +kernel) rfl rfl (Nat.le_of_ble_eq_true rfl) dX0_begin_12 (fun H locs hP hD hS => ?_)
  rw [hf_setA 2 (by decide) ha] at hP hD
  have hP : va_P (dC, dI) vwCl (hfL A cI cQ cl st go hi ma ct tc be co ap tr (up2 (up2 (up2 ac a 0 1) a 1 cnd) a 2 sen) nx) H := hP
  have hD : va_D V (hfL A cI cQ cl st go hi ma ct tc be co ap tr (up2 (up2 (up2 ac a 0 1) a 1 cnd) a 2 sen) nx) := hD
  refine lv_aload_n hx hb dX0_begin_15 rfl (lv_at hl 0 rfl) ?_
  refine lv_iconst (v := 0) hx hb dX0_begin_16 (by decide) ?_
  refine va_put (D := (dC, dI)) (ci := 0) (v := .int 0) (ty := .int) (C := RX0) (T := TX0) (N := 5) hx hb hts hinX0 tyX0 tyX0_ok nmX0 hown hK hP hD hS (8 + a) (hf_act ha) rfl 3 (by decide) (hts _ (List.mem_of_getElem? (i := 4) rfl)) (fun _ h9 => h9) rfl (by decide +kernel) rfl rfl (Nat.le_of_ble_eq_true rfl) dX0_begin_17 (fun H locs hP hD hS => ?_)
  rw [hf_setA 3 (by decide) ha] at hP hD
  have hP : va_P (dC, dI) vwCl (hfL A cI cQ cl st go hi ma ct tc be co ap tr (up2 (up2 (up2 (up2 ac a 0 1) a 1 cnd) a 2 sen) a 3 0) nx) H := hP
  have hD : va_D V (hfL A cI cQ cl st go hi ma ct tc be co ap tr (up2 (up2 (up2 (up2 ac a 0 1) a 1 cnd) a 2 sen) a 3 0) nx) := hD
  refine lv_iconst (v := 0) hx hb dX0_begin_20 (by decide) ?_
  refine lv_istore_n (lv' := [(3, .int 0), (0, .ref (A (8 + a))), (1, .int cnd), (2, .int sen)]) hx hb dX0_begin_21 rfl hl (by decide) rfl (fun ls hl => ?_)
  refine w_loopH (pc := 22) 16 (fun k ls H locs => va_P (dC, dI) vwCl (hfL A cI cQ cl st go hi ma ct tc be co ap tr (up2 (up2 (up2 (up2 ac a 0 1) a 1 cnd) a 2 sen) a 3 0) (va_up nx a (fillN (nx a) (fun j => nI j) k))) H ∧ va_D V (hfL A cI cQ cl st go hi ma ct tc be co ap tr (up2 (up2 (up2 (up2 ac a 0 1) a 1 cnd) a 2 sen) a 3 0) (va_up nx a (fillN (nx a) (fun j => nI j) k))) ∧ va_S V s.heap H locs ∧ lv_has ls 4 [(0, .ref (A (8 + a))), (1, .int cnd), (2, .int sen), (3, .int (nI k))]) ?_ 0 (Nat.zero_le _) ls H locs ⟨?_, ?_, hS, lv_sub hl [1, 2, 3, 0] rfl⟩
  rotate_left
  · rw [fillN_0, va_up_id]; exact hP
  · rw [fillN_0, va_up_id]; exact hD
  intro k ls H locs hk hI ih
  obtain ⟨hP, hD, hS, hl⟩ := hI
  refine lv_iload_n hx hb dX0_begin_22 rfl (lv_at hl 3 rfl) ?_
  refine lv_bipush (v := 16) hx hb dX0_begin_23 (by decide) ?_
  refine lv_icmp_ge (tgt := 41) hx hb dX0_begin_25 (by decide) (fun c25_0 => ?_) (fun c25_0 => ?_)
  · skip
    obtain rfl := ctr_ge (N := 16) rfl (by decide) hk c25_0
    exact W.vret hx hb hr (fun t ht hW => ⟨⟨((cl, st, go, hi, ma), (ct, tc), (be, co, ap), tr, up2 (up2 (up2 (up2 ac a 0 1) a 1 cnd) a 2 sen) a 3 0, va_up nx a (fillN (nx a) (fun j => nI j) 16)), rfl, rfl, by rw [ht]; exact hP, hD⟩, hS.F ht⟩) hS.2.2 dX0_begin_41
  · skip
    have hlt := ctr_lt (N := 16) rfl (by decide) hk c25_0
    refine lv_aload_n hx hb dX0_begin_28 rfl (lv_at hl 0 rfl) ?_
    refine va_get (D := (dC, dI)) (ci := 0) (v := .ref (A (16 + a))) (C := RX0) (T := TX0) (N := 5) hx hb hts hinX0 hown hK hP (8 + a) (hf_act ha) rfl 4 (by decide) (hts _ (List.mem_of_getElem? (i := 5) rfl)) (fun _ h9 => h9) rfl dX0_begin_29 ?_
    refine lv_iload_n hx hb dX0_begin_32 rfl (lv_at hl 3 rfl) ?_
    refine lv_iload_n hx hb dX0_begin_33 rfl (lv_at hl 3 rfl) ?_
    refine va_iast hx hb hK hP hD hS (16 + a) 0 (hf_nxt ha) rfl (vp_in_nI (show k < 16 by omega) (by decide)) dX0_begin_34 (fun H locs hP hD hS => ?_)
    rw [nI_clamp (show k < 2 ^ 31 by have := (show k < 16 by omega); omega)] at hP hD
    rw [hf_setN ha] at hP hD
    rw [show va_up (va_up nx a (fillN (nx a) (fun j => nI j) k)) a (upd (va_up nx a (fillN (nx a) (fun j => nI j) k) a) k (nI k)) = va_up nx a (fillN (nx a) (fun j => nI j) (k + 1)) from by rw [va_up_self, fillN_s _ _ _ rfl, bx_uu]] at hP hD
    have hP : va_P (dC, dI) vwCl (hfL A cI cQ cl st go hi ma ct tc be co ap tr (up2 (up2 (up2 (up2 ac a 0 1) a 1 cnd) a 2 sen) a 3 0) (va_up nx a (fillN (nx a) (fun j => nI j) (k + 1)))) H := hP
    have hD : va_D V (hfL A cI cQ cl st go hi ma ct tc be co ap tr (up2 (up2 (up2 (up2 ac a 0 1) a 1 cnd) a 2 sen) a 3 0) (va_up nx a (fillN (nx a) (fun j => nI j) (k + 1)))) := hD
    obtain ⟨y1, ey1⟩ : ∃ y : Int32, y = (nI k) + 1 := ⟨_, rfl⟩
    refine lv_iinc (v := y1) (lv' := [(3, .int y1), (0, .ref (A (8 + a))), (1, .int cnd), (2, .int sen)]) hx hb dX0_begin_35 hl (k := 3) rfl (by rw [ey1]; rfl) (by decide) rfl (fun ls hl => ?_)
    obtain rfl : y1 = nI (k + 1) := ey1.trans (nI_1 k)
    refine lv_goto (tgt := 22) hx hb dX0_begin_38 (by decide) ?_
    exact ih ls H locs ⟨hP, hD, hS, lv_sub hl [1, 2, 3, 0] rfl⟩ hlt
set_option maxHeartbeats 4000000 in
set_option maxRecDepth 100000 in
/-- Action.addEffect(bit, makes, demand) -/
theorem c_X0_addEffect (l : Launch) (dC : Nat → ClassId) (dI : Nat → Nat → Nat) (A : Nat → Nat) (cI cQ : ClassId) (σ : HS) (sz : Nat) {a : Nat} (ha : a < 8) (x : Int32) (mk1 : Bool) (dem : Int32) : Met l yX0_addEffect wsX0_addEffect ({ frames := 1, cells := 0, slots := 0, locals := 21 }) (va_Pc [.ref (A (8 + a)), .int x, .int (b2i mk1), .int dem] (hfF dC dI A cI cQ sz σ)) (va_Qv (fun τ : HS => τ = (σ.1, σ.2.1, σ.2.2.1, trS σ, up2 (acS σ) a 3 (acS σ a 3 + 1), va_up (nxS σ) a (fillN (nxS σ a) (addG (nxS σ a) x mk1 dem) 16))) (hfB dC dI A cI cQ (va_A (hfW A cI cQ σ) sz)) (va_A (hfW A cI cQ σ) sz)) 0 0 (va_A (hfW A cI cQ σ) sz) := by
  obtain ⟨⟨cl, st, go, hi, ma⟩, ⟨ct, tc⟩, ⟨be, co, ap⟩, tr, ac, nx⟩ := σ
  refine Met.ofW (cc := cX0_addEffect) (maxL := 5) (ret := none) (by decide) rfl ?_
  intro p e s m args below meth c s₁ B hml hv
  obtain ⟨rfl, hsz, hP, hX, hD0⟩ := hv
  have hx := B.exec
  have hb := B.bytes
  have hr := B.returns
  have hts := atoms_spec (ws := wsX0_addEffect) B.pre
  have hown : s.vm.findClass RX0 = some m.cls := findClass_of_methodNamed B.named
  have hlocks := B.notSynchronized
  have hK := hX.1
  have hinX0 : ∀ w ∈ wsX00, w ∈ wsX0_addEffect := fun _ h => List.mem_cons_of_mem _ (List.mem_append_right _ h)
  subst hsz
  have hD := hD0.self (sz := s.heap.size)
  generalize hAe : va_A (hfW A cI cQ _) s.heap.size = V at hD ⊢
  have hA : ∀ q : Nat, s.heap.size ≤ q → V q := fun q h => by rw [← hAe]; exact Or.inr h
  have hS : va_S V s.heap s.heap [] := va_S.rf
  have hl := lv_entry ([.ref (A (8 + a)), .int x, .int (b2i mk1), .int dem]) (n := 5) (Nat.le_of_ble_eq_true rfl)
  rw [lg_entry_eq]
  generalize (lg_sl ([.ref (A (8 + a)), .int x, .int (b2i mk1), .int dem]) ++ List.replicate (5 - (lg_sl ([.ref (A (8 + a)), .int x, .int (b2i mk1), .int dem])).length) Slot.unset).toArray = ls at hl ⊢
  have hl : lv_has ls 5 [(0, .ref (A (8 + a))), (1, .int x), (2, .int (b2i mk1)), (3, .int dem)] := hl
  have hP : va_P (dC, dI) vwCl (hfL A cI cQ cl st go hi ma ct tc be co ap tr ac nx) s.heap := hP
  have hD : va_D V (hfL A cI cQ cl st go hi ma ct tc be co ap tr ac nx) := hD
  refine lv_iconst (v := 0) hx hb dX0_addEffect_0 (by decide) ?_
  refine lv_istore (lv' := [(4, .int 0), (0, .ref (A (8 + a))), (1, .int x), (2, .int (b2i mk1)), (3, .int dem)]) hx hb dX0_addEffect_1 hl (by decide) rfl (fun ls hl => ?_)
  refine w_loopH (pc := 3) 16 (fun k ls H locs => va_P (dC, dI) vwCl (hfL A cI cQ cl st go hi ma ct tc be co ap tr ac (va_up nx a (fillN (nx a) (addG (nx a) x mk1 dem) k))) H ∧ va_D V (hfL A cI cQ cl st go hi ma ct tc be co ap tr ac (va_up nx a (fillN (nx a) (addG (nx a) x mk1 dem) k))) ∧ va_S V s.heap H locs ∧ lv_has ls 5 [(0, .ref (A (8 + a))), (1, .int x), (2, .int (b2i mk1)), (3, .int dem), (4, .int (nI k))]) ?_ 0 (Nat.zero_le _) ls _ _ ⟨?_, ?_, hS, lv_sub hl [1, 2, 3, 4, 0] rfl⟩
  rotate_left
  · rw [fillN_0, va_up_id]; exact hP
  · rw [fillN_0, va_up_id]; exact hD
  intro k ls H locs hk hI ih
  obtain ⟨hP, hD, hS, hl⟩ := hI
  refine lv_iload hx hb dX0_addEffect_3 (lv_at hl 4 rfl) ?_
  refine lv_bipush (v := 16) hx hb dX0_addEffect_5 (by decide) ?_
  refine lv_icmp_ge (tgt := 59) hx hb dX0_addEffect_7 (by decide) (fun c7_0 => ?_) (fun c7_0 => ?_)
  · skip
    obtain rfl := ctr_ge (N := 16) rfl (by decide) hk c7_0
    refine lv_aload_n hx hb dX0_addEffect_59 rfl (lv_at hl 0 rfl) ?_
    refine lv_dup hx hb dX0_addEffect_60 rfl ?_
    refine va_get (D := (dC, dI)) (ci := 0) (v := .int (ac a 3)) (C := RX0) (T := TX0) (N := 5) hx hb hts hinX0 hown hK hP (8 + a) (hf_act ha) rfl 3 (by decide) (hts _ (List.mem_of_getElem? (i := 2) rfl)) (fun _ h9 => h9) rfl dX0_addEffect_61 ?_
    refine lv_iconst (v := 1) hx hb dX0_addEffect_64 (by decide) ?_
    refine lv_iadd hx hb dX0_addEffect_65 ?_
    refine va_put (D := (dC, dI)) (ci := 0) (v := .int ((ac a 3) + 1)) (ty := .int) (C := RX0) (T := TX0) (N := 5) hx hb hts hinX0 tyX0 tyX0_ok nmX0 hown hK hP hD hS (8 + a) (hf_act ha) rfl 3 (by decide) (hts _ (List.mem_of_getElem? (i := 2) rfl)) (fun _ h9 => h9) rfl (by decide +kernel) rfl rfl (Nat.le_of_ble_eq_true rfl) dX0_addEffect_66 (fun H locs hP hD hS => ?_)
    rw [hf_setA 3 (by decide) ha] at hP hD
    have hP : va_P (dC, dI) vwCl (hfL A cI cQ cl st go hi ma ct tc be co ap tr (up2 ac a 3 ((ac a 3) + 1)) (va_up nx a (fillN (nx a) (addG (nx a) x mk1 dem) 16))) H := hP
    have hD : va_D V (hfL A cI cQ cl st go hi ma ct tc be co ap tr (up2 ac a 3 ((ac a 3) + 1)) (va_up nx a (fillN (nx a) (addG (nx a) x mk1 dem) 16))) := hD
    exact W.vret hx hb hr (fun t ht hW => ⟨⟨((cl, st, go, hi, ma), (ct, tc), (be, co, ap), tr, up2 ac a 3 ((ac a 3) + 1), va_up nx a (fillN (nx a) (addG (nx a) x mk1 dem) 16)), rfl, rfl, by rw [ht]; exact hP, hD⟩, hS.F ht⟩) hS.2.2 dX0_addEffect_69
  · skip
    have hlt := ctr_lt (N := 16) rfl (by decide) hk c7_0
    refine lv_iload hx hb dX0_addEffect_10 (lv_at hl 4 rfl) ?_
    refine lv_iload_n hx hb dX0_addEffect_12 rfl (lv_at hl 3 rfl) ?_
    refine vp_callSi (va_Run.run (va_runSN (As := [.int (nI k), .int dem]) (rest := []) ⟨hx, hb, hml, hown, hts⟩ (c_X3_isIn l (k := k) (by omega) dem) ⟨va_cnB (host := RX3) 2 hts gX0_addEffect_X3_isIn_n29 rfl rfl rfl (hX.2.1 _ (List.mem_of_getElem? (i := 8) rfl)) (hts _ (List.mem_of_getElem? (i := 4) rfl)) (by decide +kernel) ⟨Nat.le_of_ble_eq_true rfl, Nat.le_of_ble_eq_true rfl⟩, hts _ (List.mem_of_getElem? (i := 3) rfl), trivial⟩ ⟨bl_T, fun U hU hW => ⟨rfl, trivial⟩⟩ rfl rfl hl.1 rfl (lv_room (Nat.le_of_ble_eq_true rfl)) dX0_addEffect_13 ⟨Nat.zero_le _, Nat.zero_le _⟩)) (fun r er => ?_)
    subst er
    refine lv_if_eq (tgt := 53) hx hb dX0_addEffect_16 (by decide) (fun c16_1 => ?_) (fun c16_1 => ?_)
    · skip
      obtain ⟨y2, ey2⟩ : ∃ y : Int32, y = (nI k) + 1 := ⟨_, rfl⟩
      refine lv_iinc (v := y2) (lv' := [(4, .int y2), (0, .ref (A (8 + a))), (1, .int x), (2, .int (b2i mk1)), (3, .int dem)]) hx hb dX0_addEffect_53 hl (k := 4) rfl (by rw [ey2]; rfl) (by decide) rfl (fun ls hl => ?_)
      obtain rfl : y2 = nI (k + 1) := ey2.trans (nI_1 k)
      refine lv_goto (tgt := 3) hx hb dX0_addEffect_56 (by decide) ?_
      exact ih ls H locs ⟨by rw [← fillN_s (nx a) (addG (nx a) x mk1 dem) k (x := nx a k) (by unfold addG; rw [if_neg (by rw [b2i_0.mp c16_1]; decide)]), fillN_same]; exact hP, by rw [← fillN_s (nx a) (addG (nx a) x mk1 dem) k (x := nx a k) (by unfold addG; rw [if_neg (by rw [b2i_0.mp c16_1]; decide)]), fillN_same]; exact hD, hS, lv_sub hl [1, 2, 3, 4, 0] rfl⟩ hlt
    · skip
      refine lv_aload_n hx hb dX0_addEffect_19 rfl (lv_at hl 0 rfl) ?_
      refine va_get (D := (dC, dI)) (ci := 0) (v := .ref (A (16 + a))) (C := RX0) (T := TX0) (N := 5) hx hb hts hinX0 hown hK hP (8 + a) (hf_act ha) rfl 4 (by decide) (hts _ (List.mem_of_getElem? (i := 1) rfl)) (fun _ h9 => h9) rfl dX0_addEffect_20 ?_
      refine lv_iload hx hb dX0_addEffect_23 (lv_at hl 4 rfl) ?_
      refine lv_iload_n hx hb dX0_addEffect_25 rfl (lv_at hl 2 rfl) ?_
      refine lv_if_eq (tgt := 41) hx hb dX0_addEffect_26 (by decide) (fun c26_3 => ?_) (fun c26_3 => ?_)
      · skip
        refine lv_aload_n hx hb dX0_addEffect_41 rfl (lv_at hl 0 rfl) ?_
        refine va_get (D := (dC, dI)) (ci := 0) (v := .ref (A (16 + a))) (C := RX0) (T := TX0) (N := 5) hx hb hts hinX0 hown hK hP (8 + a) (hf_act ha) rfl 4 (by decide) (hts _ (List.mem_of_getElem? (i := 1) rfl)) (fun _ h9 => h9) rfl dX0_addEffect_42 ?_
        refine lv_iload hx hb dX0_addEffect_45 (lv_at hl 4 rfl) ?_
        refine va_iald hx hb hK hP (16 + a) 0 (hf_nxt ha) rfl (vp_in_nI (show k < 16 by omega) (by decide)) dX0_addEffect_47 ?_
        rw [nI_clamp (show k < 2 ^ 31 by have := (show k < 16 by omega); omega)]
        refine lv_topi (fun y4 ey4 => ?_)
        obtain rfl : y4 = nx a k := ey4.trans (by rw [va_up_self, fillN_at _ _ (Nat.le_refl k)])
        refine lv_iload_n hx hb dX0_addEffect_48 rfl (lv_at hl 1 rfl) ?_
        refine lv_iconst (v := (-1)) hx hb dX0_addEffect_49 (by decide) ?_
        refine lv_ixor hx hb dX0_addEffect_50 ?_
        refine lv_iand hx hb dX0_addEffect_51 ?_
        refine va_iast hx hb hK hP hD hS (16 + a) 0 (hf_nxt ha) rfl (vp_in_nI (show k < 16 by omega) (by decide)) dX0_addEffect_52 (fun H locs hP hD hS => ?_)
        rw [nI_clamp (show k < 2 ^ 31 by have := (show k < 16 by omega); omega)] at hP hD
        rw [hf_setN ha] at hP hD
        rw [show va_up (va_up nx a (fillN (nx a) (addG (nx a) x mk1 dem) k)) a (upd (va_up nx a (fillN (nx a) (addG (nx a) x mk1 dem) k) a) k ((nx a k) &&& (x ^^^ (-1)))) = va_up nx a (fillN (nx a) (addG (nx a) x mk1 dem) (k + 1)) from by rw [va_up_self, fillN_s _ _ _ (by unfold addG; rw [if_pos (b2i_n0.mp c16_1), if_neg (by rw [b2i_0.mp c26_3]; decide)]), bx_uu]] at hP hD
        have hP : va_P (dC, dI) vwCl (hfL A cI cQ cl st go hi ma ct tc be co ap tr ac (va_up nx a (fillN (nx a) (addG (nx a) x mk1 dem) (k + 1)))) H := hP
        have hD : va_D V (hfL A cI cQ cl st go hi ma ct tc be co ap tr ac (va_up nx a (fillN (nx a) (addG (nx a) x mk1 dem) (k + 1)))) := hD
        obtain ⟨y5, ey5⟩ : ∃ y : Int32, y = (nI k) + 1 := ⟨_, rfl⟩
        refine lv_iinc (v := y5) (lv' := [(4, .int y5), (0, .ref (A (8 + a))), (1, .int x), (2, .int (b2i mk1)), (3, .int dem)]) hx hb dX0_addEffect_53 hl (k := 4) rfl (by rw [ey5]; rfl) (by decide) rfl (fun ls hl => ?_)
        obtain rfl : y5 = nI (k + 1) := ey5.trans (nI_1 k)
        refine lv_goto (tgt := 3) hx hb dX0_addEffect_56 (by decide) ?_
        exact ih ls H locs ⟨hP, hD, hS, lv_sub hl [1, 2, 3, 4, 0] rfl⟩ hlt
      · skip
        refine lv_aload_n hx hb dX0_addEffect_29 rfl (lv_at hl 0 rfl) ?_
        refine va_get (D := (dC, dI)) (ci := 0) (v := .ref (A (16 + a))) (C := RX0) (T := TX0) (N := 5) hx hb hts hinX0 hown hK hP (8 + a) (hf_act ha) rfl 4 (by decide) (hts _ (List.mem_of_getElem? (i := 1) rfl)) (fun _ h9 => h9) rfl dX0_addEffect_30 ?_
        refine lv_iload hx hb dX0_addEffect_33 (lv_at hl 4 rfl) ?_
        refine va_iald hx hb hK hP (16 + a) 0 (hf_nxt ha) rfl (vp_in_nI (show k < 16 by omega) (by decide)) dX0_addEffect_35 ?_
        rw [nI_clamp (show k < 2 ^ 31 by have := (show k < 16 by omega); omega)]
        refine lv_topi (fun y6 ey6 => ?_)
        obtain rfl : y6 = nx a k := ey6.trans (by rw [va_up_self, fillN_at _ _ (Nat.le_refl k)])
        refine lv_iload_n hx hb dX0_addEffect_36 rfl (lv_at hl 1 rfl) ?_
        refine lv_ior hx hb dX0_addEffect_37 ?_
        refine lv_goto (tgt := 52) hx hb dX0_addEffect_38 (by decide) ?_
        refine va_iast hx hb hK hP hD hS (16 + a) 0 (hf_nxt ha) rfl (vp_in_nI (show k < 16 by omega) (by decide)) dX0_addEffect_52 (fun H locs hP hD hS => ?_)
        rw [nI_clamp (show k < 2 ^ 31 by have := (show k < 16 by omega); omega)] at hP hD
        rw [hf_setN ha] at hP hD
        rw [show va_up (va_up nx a (fillN (nx a) (addG (nx a) x mk1 dem) k)) a (upd (va_up nx a (fillN (nx a) (addG (nx a) x mk1 dem) k) a) k ((nx a k) ||| x)) = va_up nx a (fillN (nx a) (addG (nx a) x mk1 dem) (k + 1)) from by rw [va_up_self, fillN_s _ _ _ (by unfold addG; rw [if_pos (b2i_n0.mp c16_1), if_pos (b2i_n0.mp c26_3)]), bx_uu]] at hP hD
        have hP : va_P (dC, dI) vwCl (hfL A cI cQ cl st go hi ma ct tc be co ap tr ac (va_up nx a (fillN (nx a) (addG (nx a) x mk1 dem) (k + 1)))) H := hP
        have hD : va_D V (hfL A cI cQ cl st go hi ma ct tc be co ap tr ac (va_up nx a (fillN (nx a) (addG (nx a) x mk1 dem) (k + 1)))) := hD
        obtain ⟨y7, ey7⟩ : ∃ y : Int32, y = (nI k) + 1 := ⟨_, rfl⟩
        refine lv_iinc (v := y7) (lv' := [(4, .int y7), (0, .ref (A (8 + a))), (1, .int x), (2, .int (b2i mk1)), (3, .int dem)]) hx hb dX0_addEffect_53 hl (k := 4) rfl (by rw [ey7]; rfl) (by decide) rfl (fun ls hl => ?_)
        obtain rfl : y7 = nI (k + 1) := ey7.trans (nI_1 k)
        refine lv_goto (tgt := 3) hx hb dX0_addEffect_56 (by decide) ?_
        exact ih ls H locs ⟨hP, hD, hS, lv_sub hl [1, 2, 3, 4, 0] rfl⟩ hlt
end
section
/-! ===== closing a node: the first earlier one that equals it, or itself ===== -/
def clP (tc : Nat → Int32) (x0 x1 x2 : Int32) (i : Nat) : Bool := decide (tc (3 * i + 0) = x0) && (decide (tc (3 * i + 1) = x1) && decide (tc (3 * i + 2) = x2))
theorem clP_0 {tc : Nat → Int32} {x0 x1 x2 : Int32} {i : Nat} (h : ¬ tc (3 * i + 0) = x0) : clP tc x0 x1 x2 i = false := by unfold clP; rw [decide_eq_false h]; rfl
theorem clP_1 {tc : Nat → Int32} {x0 x1 x2 : Int32} {i : Nat} (h : ¬ tc (3 * i + 1) = x1) : clP tc x0 x1 x2 i = false := by unfold clP; rw [decide_eq_false h]; cases decide (tc (3 * i + 0) = x0) <;> rfl
theorem clP_2 {tc : Nat → Int32} {x0 x1 x2 : Int32} {i : Nat} (h : ¬ tc (3 * i + 2) = x2) : clP tc x0 x1 x2 i = false := by unfold clP; rw [decide_eq_false h]; cases decide (tc (3 * i + 0) = x0) <;> cases decide (tc (3 * i + 1) = x1) <;> rfl
theorem clP_t {tc : Nat → Int32} {x0 x1 x2 : Int32} {i : Nat} (h0 : tc (3 * i + 0) = x0) (h1 : tc (3 * i + 1) = x1) (h2 : tc (3 * i + 2) = x2) : clP tc x0 x1 x2 i = true := by unfold clP; rw [decide_eq_true h0, decide_eq_true h1, decide_eq_true h2]; rfl
def cloS (ct : Int32) (tc : Nat → Int32) (n : Nat) (x0 x1 x2 : Int32) : Int32 × Int32 × (Nat → Int32) :=
  match (List.range n).find? (clP tc x0 x1 x2) with
  | some i => (nI i, nI n, tc)
  | none => (nI n, ct, upd (upd (upd tc (3 * n) x0) (3 * n + 1) x1) (3 * n + 1 + 1) x2)
theorem cloS_some {ct : Int32} {tc : Nat → Int32} {n i : Nat} {x0 x1 x2 : Int32} (h : (List.range n).find? (clP tc x0 x1 x2) = some i) : cloS ct tc n x0 x1 x2 = (nI i, nI n, tc) := by unfold cloS; rw [h]
theorem cloS_none {ct : Int32} {tc : Nat → Int32} {n : Nat} {x0 x1 x2 : Int32} (h : (List.range n).find? (clP tc x0 x1 x2) = none) : cloS ct tc n x0 x1 x2 = (nI n, ct, upd (upd (upd tc (3 * n) x0) (3 * n + 1) x1) (3 * n + 1 + 1) x2) := by unfold cloS; rw [h]
end
section
set_option maxHeartbeats 4000000 in
set_option maxRecDepth 100000 in
/-- Tree.cell(i, what) -/
theorem c_X2_cell (l : Launch) (dC : Nat → ClassId) (dI : Nat → Nat → Nat) (A : Nat → Nat) (cI cQ : ClassId) (σ : HS) {i j : Nat} (hij : 3 * i + j < 93) : Met l yX2_cell wsX2_cell ({ frames := 0, cells := 0, slots := 0, locals := 0 }) (va_Pc [.ref (A 2), .int (nI i), .int (nI j)] (hfP dC dI A cI cQ σ)) (vp_Si (fun r => r = tcS σ (3 * i + j))) 0 0 (fun _ => False) := by
  refine Met.ofW (cc := cX2_cell) (maxL := 3) (ret := (some .int)) (by decide) rfl ?_
  intro p e s m args below meth c s₁ B hml hv
  obtain ⟨rfl, hP, hX⟩ := hv
  have hx := B.exec
  have hb := B.bytes
  have hr := B.returns
  have hts := atoms_spec (ws := wsX2_cell) B.pre
  have hown : s.vm.findClass RX2 = some m.cls := findClass_of_methodNamed B.named
  have hlocks := B.notSynchronized
  have hK := hX.1
  have hinX2 : ∀ w ∈ wsX20, w ∈ wsX2_cell := fun _ h => List.mem_cons_of_mem _ (List.mem_append_right _ h)
  have hl := lv_entry ([.ref (A 2), .int (nI i), .int (nI j)]) (n := 3) (Nat.le_of_ble_eq_true rfl)
  rw [lg_entry_eq]
  generalize (lg_sl ([.ref (A 2), .int (nI i), .int (nI j)]) ++ List.replicate (3 - (lg_sl ([.ref (A 2), .int (nI i), .int (nI j)])).length) Slot.unset).toArray = ls at hl ⊢
  have hl : lv_has ls 3 [(0, .ref (A 2)), (1, .int (nI i)), (2, .int (nI j))] := hl
  refine lv_aload_n hx hb dX2_cell_0 rfl (lv_at hl 0 rfl) ?_
  refine va_get (D := (dC, dI)) (ci := 2) (v := .ref (A 3)) (C := RX2) (T := TX2) (N := 2) hx hb hts hinX2 hown hK hP 2 rfl rfl 0 (by decide) (hts _ (List.mem_of_getElem? (i := 1) rfl)) (fun _ h9 => h9) rfl dX2_cell_1 ?_
  refine lv_iconst (v := 3) hx hb dX2_cell_4 (by decide) ?_
  refine lv_iload_n hx hb dX2_cell_5 rfl (lv_at hl 1 rfl) ?_
  refine lv_imul hx hb dX2_cell_6 ?_
  refine lv_topi (fun y0 ey0 => ?_)
  obtain rfl : y0 = nI (3 * i) := ey0.trans (pk_mul 3 i)
  refine lv_iload_n hx hb dX2_cell_7 rfl (lv_at hl 2 rfl) ?_
  refine lv_iadd hx hb dX2_cell_8 ?_
  refine lv_topi (fun y1 ey1 => ?_)
  obtain rfl : y1 = nI (3 * i + j) := ey1.trans (nI_add (3 * i) j)
  refine va_iald hx hb hK hP 3 0 rfl rfl (vp_in_nI (show (3 * i + j) < 93 by omega) (by decide)) dX2_cell_9 ?_
  rw [nI_clamp (show (3 * i + j) < 2 ^ 31 by have := (show (3 * i + j) < 93 by omega); omega)]
  exact W.iret hx hb hr (fun t ht hW => ⟨_, rfl, rfl, ht⟩) (fun q h => nomatch h) dX2_cell_10
set_option maxHeartbeats 4000000 in
set_option maxRecDepth 100000 in
/-- Tree.open(): the next number, marked as unfinished -/
theorem c_X2_open (l : Launch) (dC : Nat → ClassId) (dI : Nat → Nat → Nat) (A : Nat → Nat) (cI cQ : ClassId) (σ : HS) (sz : Nat) {k : Nat} (hk : k < 31) (hc : ctS σ = nI k) : Met l yX2_open wsX2_open ({ frames := 1, cells := 0, slots := 0, locals := 22 }) (va_Pc [.ref (A 2)] (hfF dC dI A cI cQ sz σ)) (va_Qi (fun (r : Int32) (τ : HS) => r = nI k ∧ τ = (σ.1, (nI (k + 1), upd (tcS σ) (3 * k) (-2)), σ.2.2)) (hfB dC dI A cI cQ (va_A (hfW A cI cQ σ) sz)) (va_A (hfW A cI cQ σ) sz)) 0 0 (va_A (hfW A cI cQ σ) sz) := by
  obtain ⟨⟨cl, st, go, hi, ma⟩, ⟨ct, tc⟩, ⟨be, co, ap⟩, tr, ac, nx⟩ := σ
  refine Met.ofW (cc := cX2_open) (maxL := 1) (ret := (some .int)) (by decide) rfl ?_
  intro p e s m args below meth c s₁ B hml hv
  obtain ⟨rfl, hsz, hP, hX, hD0⟩ := hv
  have hx := B.exec
  have hb := B.bytes
  have hr := B.returns
  have hts := atoms_spec (ws := wsX2_open) B.pre
  have hown : s.vm.findClass RX2 = some m.cls := findClass_of_methodNamed B.named
  have hlocks := B.notSynchronized
  have hK := hX.1
  have hinX2 : ∀ w ∈ wsX20, w ∈ wsX2_open := fun _ h => List.mem_cons_of_mem _ (List.mem_append_right _ h)
  subst hsz
  have hD := hD0.self (sz := s.heap.size)
  generalize hAe : va_A (hfW A cI cQ _) s.heap.size = V at hD ⊢
  have hA : ∀ q : Nat, s.heap.size ≤ q → V q := fun q h => by rw [← hAe]; exact Or.inr h
  have hS : va_S V s.heap s.heap [] := va_S.rf
  have hl := lv_entry ([.ref (A 2)]) (n := 1) (Nat.le_of_ble_eq_true rfl)
  rw [lg_entry_eq]
  generalize (lg_sl ([.ref (A 2)]) ++ List.replicate (1 - (lg_sl ([.ref (A 2)])).length) Slot.unset).toArray = ls at hl ⊢
  have hl : lv_has ls 1 [(0, .ref (A 2))] := hl
  have hP : va_P (dC, dI) vwCl (hfL A cI cQ cl st go hi ma ct tc be co ap tr ac nx) s.heap := hP
  have hD : va_D V (hfL A cI cQ cl st go hi ma ct tc be co ap tr ac nx) := hD
  have hc : ct = nI k := hc
  subst hc
  have hP : va_P (dC, dI) vwCl (hfL A cI cQ cl st go hi ma (nI k) tc be co ap tr ac nx) s.heap := hP
  have hD : va_D V (hfL A cI cQ cl st go hi ma (nI k) tc be co ap tr ac nx) := hD
  refine lv_aload_n hx hb dX2_open_0 rfl (lv_at hl 0 rfl) ?_
  refine lv_aload_n hx hb dX2_open_1 rfl (lv_at hl 0 rfl) ?_
  refine va_get (D := (dC, dI)) (ci := 2) (v := .int (nI k)) (C := RX2) (T := TX2) (N := 2) hx hb hts hinX2 hown hK hP 2 rfl rfl 1 (by decide) (hts _ (List.mem_of_getElem? (i := 1) rfl)) (fun _ h9 => h9) rfl dX2_open_2 ?_
  refine lv_bipush (v := (-2)) hx hb dX2_open_5 (by decide) ?_
  have hFc := hf_free (σ := ((cl, st, go, hi, ma), (nI k, tc), (be, co, ap), tr, ac, nx)) hD hS hA
  refine va_callv (va_runV (As := [.int (nI k), .int (-2)]) (rest := []) ⟨hx, hb, hml, hown, hts⟩ (c_X2_setAction l dC dI A cI cQ ((cl, st, go, hi, ma), (nI k, tc), (be, co, ap), tr, ac, nx) s.heap.size (i := k) hk (-2)) (cwV 2 hts gX2_open_X2_setAction rfl rfl rfl (by decide +kernel) ⟨Nat.le_of_ble_eq_true rfl, Nat.le_of_ble_eq_true rfl⟩) ⟨bl_F, va_recv hK hP (ci := 2) (q0 := 2) rfl rfl, fun U hU hW => ⟨rfl, by rw [hU], by rw [hU]; exact hP, hX.warm hW, hf_any hD⟩⟩ rfl rfl hl.1 rfl (lv_room (Nat.le_of_ble_eq_true rfl)) dX2_open_7 ⟨Nat.zero_le _, Nat.zero_le _⟩) hS (fun q _ h => hFc q h) hFc (fun u t H locs ht hvm hw hB hz1 hk1 hS => ?_)
  obtain ⟨hP1, hD1⟩ := hB
  rw [ht] at hP1
  subst hw
  have hP : va_P (dC, dI) vwCl (hfL A cI cQ cl st go hi ma (nI k) (upd tc (3 * k) (-2)) be co ap tr ac nx) H := hP1
  have hD : va_D V (hfL A cI cQ cl st go hi ma (nI k) (upd tc (3 * k) (-2)) be co ap tr ac nx) := hf_weak hD1 hFc
  clear hP1 hD1 hFc
  refine lv_aload_n hx hb dX2_open_10 rfl (lv_at hl 0 rfl) ?_
  refine lv_dup hx hb dX2_open_11 rfl ?_
  refine va_get (D := (dC, dI)) (ci := 2) (v := .int (nI k)) (C := RX2) (T := TX2) (N := 2) hx hb hts hinX2 hown hK hP 2 rfl rfl 1 (by decide) (hts _ (List.mem_of_getElem? (i := 1) rfl)) (fun _ h9 => h9) rfl dX2_open_12 ?_
  refine lv_iconst (v := 1) hx hb dX2_open_15 (by decide) ?_
  refine lv_iadd hx hb dX2_open_16 ?_
  refine lv_topi (fun y0 ey0 => ?_)
  obtain rfl : y0 = nI (k + 1) := ey0.trans (nI_1 k)
  refine va_put (D := (dC, dI)) (ci := 2) (v := .int (nI (k + 1))) (ty := .int) (C := RX2) (T := TX2) (N := 2) hx hb hts hinX2 tyX2 tyX2_ok nmX2 hown hK hP hD hS 2 rfl rfl 1 (by decide) (hts _ (List.mem_of_getElem? (i := 1) rfl)) (fun _ h9 => h9) rfl (by decide +kernel) rfl rfl (Nat.le_of_ble_eq_true rfl) dX2_open_17 (fun H locs hP hD hS => ?_)
  have hP : va_P (dC, dI) vwCl (hfL A cI cQ cl st go hi ma (nI (k + 1)) (upd tc (3 * k) (-2)) be co ap tr ac nx) H := hP
  have hD : va_D V (hfL A cI cQ cl st go hi ma (nI (k + 1)) (upd tc (3 * k) (-2)) be co ap tr ac nx) := hD
  refine lv_aload_n hx hb dX2_open_20 rfl (lv_at hl 0 rfl) ?_
  refine va_get (D := (dC, dI)) (ci := 2) (v := .int (nI (k + 1))) (C := RX2) (T := TX2) (N := 2) hx hb hts hinX2 hown hK hP 2 rfl rfl 1 (by decide) (hts _ (List.mem_of_getElem? (i := 1) rfl)) (fun _ h9 => h9) rfl dX2_open_21 ?_
  refine lv_iconst (v := 1) hx hb dX2_open_24 (by decide) ?_
  refine lv_isub hx hb dX2_open_25 ?_
  refine lv_topi (fun y1 ey1 => ?_)
  obtain rfl : y1 = nI k := ey1.trans (nI_pred k)
  exact W.iret hx hb hr (fun t ht hW => ⟨⟨_, ((cl, st, go, hi, ma), (nI (k + 1), upd tc (3 * k) (-2)), (be, co, ap), tr, ac, nx), rfl, ⟨rfl, rfl⟩, by rw [ht]; exact hP, hD⟩, hS.F ht⟩) hS.2.2 dX2_open_26
set_option maxHeartbeats 4000000 in
set_option maxRecDepth 100000 in
/-- Tree.close(me, a, part0, part1) -/
theorem c_X2_close (l : Launch) (dC : Nat → ClassId) (dI : Nat → Nat → Nat) (A : Nat → Nat) (cI cQ : ClassId) (σ : HS) (sz : Nat) {n : Nat} (hn : n < 31) (x0 x1 x2 : Int32) : Met l yX2_close wsX2_close ({ frames := 1, cells := 0, slots := 0, locals := 22 }) (va_Pc [.ref (A 2), .int (nI n), .int x0, .int x1, .int x2] (hfF dC dI A cI cQ sz σ)) (va_Qi (fun (r : Int32) (τ : HS) => r = (cloS (ctS σ) (tcS σ) n x0 x1 x2).1 ∧ τ = (σ.1, (cloS (ctS σ) (tcS σ) n x0 x1 x2).2, σ.2.2)) (hfB dC dI A cI cQ (va_A (hfW A cI cQ σ) sz)) (va_A (hfW A cI cQ σ) sz)) 0 0 (va_A (hfW A cI cQ σ) sz) := by
  obtain ⟨⟨cl, st, go, hi, ma⟩, ⟨ct, tc⟩, ⟨be, co, ap⟩, tr, ac, nx⟩ := σ
  refine Met.ofW (cc := cX2_close) (maxL := 6) (ret := (some .int)) (by decide) rfl ?_
  intro p e s m args below meth c s₁ B hml hv
  obtain ⟨rfl, hsz, hP, hX, hD0⟩ := hv
  have hx := B.exec
  have hb := B.bytes
  have hr := B.returns
  have hts := atoms_spec (ws := wsX2_close) B.pre
  have hown : s.vm.findClass RX2 = some m.cls := findClass_of_methodNamed B.named
  have hlocks := B.notSynchronized
  have hK := hX.1
  have hinX2 : ∀ w ∈ wsX20, w ∈ wsX2_close := fun _ h => List.mem_cons_of_mem _ (List.mem_append_right _ h)
  subst hsz
  have hD := hD0.self (sz := s.heap.size)
  generalize hAe : va_A (hfW A cI cQ _) s.heap.size = V at hD ⊢
  have hA : ∀ q : Nat, s.heap.size ≤ q → V q := fun q h => by rw [← hAe]; exact Or.inr h
  have hS : va_S V s.heap s.heap [] := va_S.rf
  have hl := lv_entry ([.ref (A 2), .int (nI n), .int x0, .int x1, .int x2]) (n := 6) (Nat.le_of_ble_eq_true rfl)
  rw [lg_entry_eq]
  generalize (lg_sl ([.ref (A 2), .int (nI n), .int x0, .int x1, .int x2]) ++ List.replicate (6 - (lg_sl ([.ref (A 2), .int (nI n), .int x0, .int x1, .int x2])).length) Slot.unset).toArray = ls at hl ⊢
  have hl : lv_has ls 6 [(0, .ref (A 2)), (1, .int (nI n)), (2, .int x0), (3, .int x1), (4, .int x2)] := hl
  have hP : va_P (dC, dI) vwCl (hfL A cI cQ cl st go hi ma ct tc be co ap tr ac nx) s.heap := hP
  have hD : va_D V (hfL A cI cQ cl st go hi ma ct tc be co ap tr ac nx) := hD
  refine lv_iconst (v := 0) hx hb dX2_close_0 (by decide) ?_
  refine lv_istore (lv' := [(5, .int 0), (0, .ref (A 2)), (1, .int (nI n)), (2, .int x0), (3, .int x1), (4, .int x2)]) hx hb dX2_close_1 hl (by decide) rfl (fun ls hl => ?_)
  refine w_loopP (pc := 3) n (fun k ls => (∀ j, j < k → (clP tc x0 x1 x2) j = false) ∧ lv_has ls 6 [(0, .ref (A 2)), (1, .int (nI n)), (2, .int x0), (3, .int x1), (4, .int x2), (5, .int (nI k))]) ?_ 0 (Nat.zero_le _) ls ⟨fun j hj => absurd hj (by omega), lv_sub hl [1, 2, 3, 4, 5, 0] rfl⟩
  intro k ls hk hI ih
  obtain ⟨hj, hl⟩ := hI
  refine lv_iload hx hb dX2_close_3 (lv_at hl 5 rfl) ?_
  refine lv_iload_n hx hb dX2_close_5 rfl (lv_at hl 1 rfl) ?_
  refine lv_icmp_ge (tgt := 57) hx hb dX2_close_6 (by decide) (fun c6_0 => ?_) (fun c6_0 => ?_)
  · skip
    obtain rfl := ctr_ge (N := n) rfl (by omega) hk c6_0
    refine lv_aload_n hx hb dX2_close_57 rfl (lv_at hl 0 rfl) ?_
    refine lv_iload_n hx hb dX2_close_58 rfl (lv_at hl 1 rfl) ?_
    refine lv_iload_n hx hb dX2_close_59 rfl (lv_at hl 2 rfl) ?_
    have hFc := hf_free (σ := ((cl, st, go, hi, ma), (ct, tc), (be, co, ap), tr, ac, nx)) hD hS hA
    refine va_callv (va_runV (As := [.int (nI k), .int x0]) (rest := []) ⟨hx, hb, hml, hown, hts⟩ (c_X2_setAction l dC dI A cI cQ ((cl, st, go, hi, ma), (ct, tc), (be, co, ap), tr, ac, nx) s.heap.size (i := k) (by omega) x0) (cwV 2 hts gX2_close_X2_setAction rfl rfl rfl (by decide +kernel) ⟨Nat.le_of_ble_eq_true rfl, Nat.le_of_ble_eq_true rfl⟩) ⟨bl_F, va_recv hK hP (ci := 2) (q0 := 2) rfl rfl, fun U hU hW => ⟨rfl, by rw [hU], by rw [hU]; exact hP, hX.warm hW, hf_any hD⟩⟩ rfl rfl hl.1 rfl (lv_room (Nat.le_of_ble_eq_true rfl)) dX2_close_60 ⟨Nat.zero_le _, Nat.zero_le _⟩) hS (fun q _ h => hFc q h) hFc (fun u t H locs ht hvm hw hB hz1 hk1 hS => ?_)
    obtain ⟨hP1, hD1⟩ := hB
    rw [ht] at hP1
    subst hw
    have hP : va_P (dC, dI) vwCl (hfL A cI cQ cl st go hi ma ct (upd tc (3 * k) x0) be co ap tr ac nx) H := hP1
    have hD : va_D V (hfL A cI cQ cl st go hi ma ct (upd tc (3 * k) x0) be co ap tr ac nx) := hf_weak hD1 hFc
    clear hP1 hD1 hFc
    refine lv_aload_n hx hb dX2_close_63 rfl (lv_at hl 0 rfl) ?_
    refine va_get (D := (dC, dI)) (ci := 2) (v := .ref (A 3)) (C := RX2) (T := TX2) (N := 2) hx hb hts hinX2 hown hK hP 2 rfl rfl 0 (by decide) (hts _ (List.mem_of_getElem? (i := 2) rfl)) (fun _ h9 => h9) rfl dX2_close_64 ?_
    refine lv_iconst (v := 3) hx hb dX2_close_67 (by decide) ?_
    refine lv_iload_n hx hb dX2_close_68 rfl (lv_at hl 1 rfl) ?_
    refine lv_imul hx hb dX2_close_69 ?_
    refine lv_topi (fun y1 ey1 => ?_)
    obtain rfl : y1 = nI (3 * k) := ey1.trans (pk_mul 3 k)
    refine lv_iconst (v := 1) hx hb dX2_close_70 (by decide) ?_
    refine lv_iadd hx hb dX2_close_71 ?_
    refine lv_topi (fun y2 ey2 => ?_)
    obtain rfl : y2 = nI (3 * k + 1) := ey2.trans (nI_1 (3 * k))
    refine lv_iload_n hx hb dX2_close_72 rfl (lv_at hl 3 rfl) ?_
    refine va_iast hx hb hK hP hD hS 3 0 rfl rfl (vp_in_nI (show (3 * k + 1) < 93 by omega) (by decide)) dX2_close_73 (fun H locs hP hD hS => ?_)
    rw [nI_clamp (show (3 * k + 1) < 2 ^ 31 by have := (show (3 * k + 1) < 93 by omega); omega)] at hP hD
    have hP : va_P (dC, dI) vwCl (hfL A cI cQ cl st go hi ma ct (upd (upd tc (3 * k) x0) (3 * k + 1) x1) be co ap tr ac nx) H := hP
    have hD : va_D V (hfL A cI cQ cl st go hi ma ct (upd (upd tc (3 * k) x0) (3 * k + 1) x1) be co ap tr ac nx) := hD
    refine lv_aload_n hx hb dX2_close_74 rfl (lv_at hl 0 rfl) ?_
    refine va_get (D := (dC, dI)) (ci := 2) (v := .ref (A 3)) (C := RX2) (T := TX2) (N := 2) hx hb hts hinX2 hown hK hP 2 rfl rfl 0 (by decide) (hts _ (List.mem_of_getElem? (i := 2) rfl)) (fun _ h9 => h9) rfl dX2_close_75 ?_
    refine lv_iconst (v := 3) hx hb dX2_close_78 (by decide) ?_
    refine lv_iload_n hx hb dX2_close_79 rfl (lv_at hl 1 rfl) ?_
    refine lv_imul hx hb dX2_close_80 ?_
    refine lv_topi (fun y3 ey3 => ?_)
    obtain rfl : y3 = nI (3 * k) := ey3.trans (pk_mul 3 k)
    refine lv_iconst (v := 1) hx hb dX2_close_81 (by decide) ?_
    refine lv_iadd hx hb dX2_close_82 ?_
    refine lv_topi (fun y4 ey4 => ?_)
    obtain rfl : y4 = nI (3 * k + 1) := ey4.trans (nI_1 (3 * k))
    refine lv_iconst (v := 1) hx hb dX2_close_83 (by decide) ?_
    refine lv_iadd hx hb dX2_close_84 ?_
    refine lv_topi (fun y5 ey5 => ?_)
    obtain rfl : y5 = nI (3 * k + 1 + 1) := ey5.trans (nI_1 (3 * k + 1))
    refine lv_iload hx hb dX2_close_85 (lv_at hl 4 rfl) ?_
    refine va_iast hx hb hK hP hD hS 3 0 rfl rfl (vp_in_nI (show (3 * k + 1 + 1) < 93 by omega) (by decide)) dX2_close_87 (fun H locs hP hD hS => ?_)
    rw [nI_clamp (show (3 * k + 1 + 1) < 2 ^ 31 by have := (show (3 * k + 1 + 1) < 93 by omega); omega)] at hP hD
    have hP : va_P (dC, dI) vwCl (hfL A cI cQ cl st go hi ma ct (upd (upd (upd tc (3 * k) x0) (3 * k + 1) x1) (3 * k + 1 + 1) x2) be co ap tr ac nx) H := hP
    have hD : va_D V (hfL A cI cQ cl st go hi ma ct (upd (upd (upd tc (3 * k) x0) (3 * k + 1) x1) (3 * k + 1 + 1) x2) be co ap tr ac nx) := hD
    refine lv_iload_n hx hb dX2_close_88 rfl (lv_at hl 1 rfl) ?_
    exact W.iret hx hb hr (fun t ht hW => ⟨⟨_, ((cl, st, go, hi, ma), (ct, upd (upd (upd tc (3 * k) x0) (3 * k + 1) x1) (3 * k + 1 + 1) x2), (be, co, ap), tr, ac, nx), rfl, by show nI k = (cloS ct tc k x0 x1 x2).1 ∧ _ = ((cl, st, go, hi, ma), (cloS ct tc k x0 x1 x2).2, (be, co, ap), tr, ac, nx); rw [cloS_none (find_no hj)]; exact ⟨rfl, rfl⟩, by rw [ht]; exact hP, hD⟩, hS.F ht⟩) hS.2.2 dX2_close_89
  · skip
    have hlt := ctr_lt (N := n) rfl (by omega) hk c6_0
    refine lv_aload_n hx hb dX2_close_9 rfl (lv_at hl 0 rfl) ?_
    refine lv_iload hx hb dX2_close_10 (lv_at hl 5 rfl) ?_
    refine lv_iconst (v := 0) hx hb dX2_close_12 (by decide) ?_
    refine vp_callSi (W.runV (As := [.int (nI k), .int (nI 0)]) (rest := []) ⟨hx, hb, hml, hown, hts⟩ (c_X2_cell l dC dI A cI cQ ((cl, st, go, hi, ma), (ct, tc), (be, co, ap), tr, ac, nx) (i := k) (j := 0) (by omega)) (cwV 2 hts gX2_close_X2_cell rfl rfl rfl (by decide +kernel) ⟨Nat.le_of_ble_eq_true rfl, Nat.le_of_ble_eq_true rfl⟩) ⟨bl_P, va_recv hK hP (ci := 2) (q0 := 2) rfl rfl, fun U hU hW => ⟨rfl, by rw [hU]; exact hP, hX.warm hW⟩⟩ rfl rfl hl.1 rfl (lv_room (Nat.le_of_ble_eq_true rfl)) dX2_close_13 ⟨Nat.zero_le _, Nat.zero_le _⟩) (fun r er => ?_)
    subst er
    refine lv_iload_n hx hb dX2_close_16 rfl (lv_at hl 2 rfl) ?_
    refine lv_icmp_ne (tgt := 51) hx hb dX2_close_17 (by decide) (fun c17_6 => ?_) (fun c17_6 => ?_)
    · skip
      obtain ⟨y7, ey7⟩ : ∃ y : Int32, y = (nI k) + 1 := ⟨_, rfl⟩
      refine lv_iinc (v := y7) (lv' := [(5, .int y7), (0, .ref (A 2)), (1, .int (nI n)), (2, .int x0), (3, .int x1), (4, .int x2)]) hx hb dX2_close_51 hl (k := 5) rfl (by rw [ey7]; rfl) (by decide) rfl (fun ls hl => ?_)
      obtain rfl : y7 = nI (k + 1) := ey7.trans (nI_1 k)
      refine lv_goto (tgt := 3) hx hb dX2_close_54 (by decide) ?_
      exact ih ls ⟨lt_s hj (clP_0 c17_6), lv_sub hl [1, 2, 3, 4, 5, 0] rfl⟩ hlt
    · skip
      refine lv_aload_n hx hb dX2_close_20 rfl (lv_at hl 0 rfl) ?_
      refine lv_iload hx hb dX2_close_21 (lv_at hl 5 rfl) ?_
      refine lv_iconst (v := 1) hx hb dX2_close_23 (by decide) ?_
      refine vp_callSi (W.runV (As := [.int (nI k), .int (nI 1)]) (rest := []) ⟨hx, hb, hml, hown, hts⟩ (c_X2_cell l dC dI A cI cQ ((cl, st, go, hi, ma), (ct, tc), (be, co, ap), tr, ac, nx) (i := k) (j := 1) (by omega)) (cwV 2 hts gX2_close_X2_cell rfl rfl rfl (by decide +kernel) ⟨Nat.le_of_ble_eq_true rfl, Nat.le_of_ble_eq_true rfl⟩) ⟨bl_P, va_recv hK hP (ci := 2) (q0 := 2) rfl rfl, fun U hU hW => ⟨rfl, by rw [hU]; exact hP, hX.warm hW⟩⟩ rfl rfl hl.1 rfl (lv_room (Nat.le_of_ble_eq_true rfl)) dX2_close_24 ⟨Nat.zero_le _, Nat.zero_le _⟩) (fun r er => ?_)
      subst er
      refine lv_iload_n hx hb dX2_close_27 rfl (lv_at hl 3 rfl) ?_
      refine lv_icmp_ne (tgt := 51) hx hb dX2_close_28 (by decide) (fun c28_8 => ?_) (fun c28_8 => ?_)
      · skip
        obtain ⟨y9, ey9⟩ : ∃ y : Int32, y = (nI k) + 1 := ⟨_, rfl⟩
        refine lv_iinc (v := y9) (lv' := [(5, .int y9), (0, .ref (A 2)), (1, .int (nI n)), (2, .int x0), (3, .int x1), (4, .int x2)]) hx hb dX2_close_51 hl (k := 5) rfl (by rw [ey9]; rfl) (by decide) rfl (fun ls hl => ?_)
        obtain rfl : y9 = nI (k + 1) := ey9.trans (nI_1 k)
        refine lv_goto (tgt := 3) hx hb dX2_close_54 (by decide) ?_
        exact ih ls ⟨lt_s hj (clP_1 c28_8), lv_sub hl [1, 2, 3, 4, 5, 0] rfl⟩ hlt
      · skip
        refine lv_aload_n hx hb dX2_close_31 rfl (lv_at hl 0 rfl) ?_
        refine lv_iload hx hb dX2_close_32 (lv_at hl 5 rfl) ?_
        refine lv_iconst (v := 2) hx hb dX2_close_34 (by decide) ?_
        refine vp_callSi (W.runV (As := [.int (nI k), .int (nI 2)]) (rest := []) ⟨hx, hb, hml, hown, hts⟩ (c_X2_cell l dC dI A cI cQ ((cl, st, go, hi, ma), (ct, tc), (be, co, ap), tr, ac, nx) (i := k) (j := 2) (by omega)) (cwV 2 hts gX2_close_X2_cell rfl rfl rfl (by decide +kernel) ⟨Nat.le_of_ble_eq_true rfl, Nat.le_of_ble_eq_true rfl⟩) ⟨bl_P, va_recv hK hP (ci := 2) (q0 := 2) rfl rfl, fun U hU hW => ⟨rfl, by rw [hU]; exact hP, hX.warm hW⟩⟩ rfl rfl hl.1 rfl (lv_room (Nat.le_of_ble_eq_true rfl)) dX2_close_35 ⟨Nat.zero_le _, Nat.zero_le _⟩) (fun r er => ?_)
        subst er
        refine lv_iload hx hb dX2_close_38 (lv_at hl 4 rfl) ?_
        refine lv_icmp_ne (tgt := 51) hx hb dX2_close_40 (by decide) (fun c40_10 => ?_) (fun c40_10 => ?_)
        · skip
          obtain ⟨y11, ey11⟩ : ∃ y : Int32, y = (nI k) + 1 := ⟨_, rfl⟩
          refine lv_iinc (v := y11) (lv' := [(5, .int y11), (0, .ref (A 2)), (1, .int (nI n)), (2, .int x0), (3, .int x1), (4, .int x2)]) hx hb dX2_close_51 hl (k := 5) rfl (by rw [ey11]; rfl) (by decide) rfl (fun ls hl => ?_)
          obtain rfl : y11 = nI (k + 1) := ey11.trans (nI_1 k)
          refine lv_goto (tgt := 3) hx hb dX2_close_54 (by decide) ?_
          exact ih ls ⟨lt_s hj (clP_2 c40_10), lv_sub hl [1, 2, 3, 4, 5, 0] rfl⟩ hlt
        · skip
          refine lv_aload_n hx hb dX2_close_43 rfl (lv_at hl 0 rfl) ?_
          refine lv_iload_n hx hb dX2_close_44 rfl (lv_at hl 1 rfl) ?_
          refine va_put (D := (dC, dI)) (ci := 2) (v := .int (nI n)) (ty := .int) (C := RX2) (T := TX2) (N := 2) hx hb hts hinX2 tyX2 tyX2_ok nmX2 hown hK hP hD hS 2 rfl rfl 1 (by decide) (hts _ (List.mem_of_getElem? (i := 1) rfl)) (fun _ h9 => h9) rfl (by decide +kernel) rfl rfl (Nat.le_of_ble_eq_true rfl) dX2_close_45 (fun H locs hP hD hS => ?_)
          have hP : va_P (dC, dI) vwCl (hfL A cI cQ cl st go hi ma (nI n) tc be co ap tr ac nx) H := hP
          have hD : va_D V (hfL A cI cQ cl st go hi ma (nI n) tc be co ap tr ac nx) := hD
          refine lv_iload hx hb dX2_close_48 (lv_at hl 5 rfl) ?_
          exact W.iret hx hb hr (fun t ht hW => ⟨⟨_, ((cl, st, go, hi, ma), (nI n, tc), (be, co, ap), tr, ac, nx), rfl, by show _ ∧ _; rw [cloS_some (find_at hlt (clP_t c17_6 c28_8 c40_10) hj)]; exact ⟨rfl, rfl⟩, by rw [ht]; exact hP, hD⟩, hS.F ht⟩) hS.2.2 dX2_close_50
end
section
/-! ===== clearing, twins' pairs ===== -/
def clrN (f : Nat → Nat → Int32) (k : Nat) : Nat → Nat → Int32 := fun b j => if b < k ∧ j = 0 then 0 else f b j
theorem clrN_0 (f : Nat → Nat → Int32) : clrN f 0 = f := by funext b j; unfold clrN; rw [if_neg (by omega)]
theorem clrN_s (f : Nat → Nat → Int32) (k : Nat) : up2 (clrN f k) k 0 0 = clrN f (k + 1) := by
  funext b j
  unfold up2 clrN
  by_cases h : b = k
  · subst h
    by_cases hj : j = 0
    · simp [hj]
    · simp [hj]
  · by_cases h2 : b < k
    · simp [h, h2, Nat.lt_succ_of_lt h2]
    · simp [h, h2, show ¬ b < k + 1 by omega]
/-- the pair q = 16 * low + high is one of the belief, in order, and not told apart -/
def twP (be : Int32) (ap : Nat → Int32) (q : Nat) : Bool := decide (q / 16 < q % 16) && (bt be (q / 16) && (bt be (q % 16) && !bt (ap (q / 16)) (q % 16)))
theorem dm16 {i j : Nat} (hj : j < 16) : (16 * i + j) / 16 = i ∧ (16 * i + j) % 16 = j := by omega
theorem twP_lo {be : Int32} {ap : Nat → Int32} {i : Nat} (hq : ∀ q, q < 16 * i → twP be ap q = false) {q : Nat} (h : q < 16 * i + (i + 1)) : twP be ap q = false := by
  rcases Nat.lt_or_ge q (16 * i) with z | z
  · exact hq q z
  · unfold twP
    by_cases h16 : i < 16
    · rw [decide_eq_false (by omega)]; rfl
    · by_cases h2 : q / 16 < q % 16
      · exact absurd h2 (by omega)
      · rw [decide_eq_false h2]; rfl
theorem twP_0 {be : Int32} {ap : Nat → Int32} {i j : Nat} (hi : i < 16) (hj : j < 16) (h : bt be i = false) : twP be ap (16 * i + j) = false := by
  unfold twP; rw [(dm16 hj).1, (dm16 hj).2, h]; cases decide (i < j) <;> rfl
theorem twP_1 {be : Int32} {ap : Nat → Int32} {i j : Nat} (hi : i < 16) (hj : j < 16) (h : bt be j = false) : twP be ap (16 * i + j) = false := by
  unfold twP; rw [(dm16 hj).1, (dm16 hj).2, h]; cases decide (i < j) <;> cases bt be i <;> rfl
theorem twP_2 {be : Int32} {ap : Nat → Int32} {i j : Nat} (hi : i < 16) (hj : j < 16) (h : bt (ap i) j = true) : twP be ap (16 * i + j) = false := by
  unfold twP; rw [(dm16 hj).1, (dm16 hj).2, h]; cases decide (i < j) <;> cases bt be i <;> cases bt be j <;> rfl
theorem twP_t {be : Int32} {ap : Nat → Int32} {i j : Nat} (hi : i < 16) (hj : j < 16) (hij : i < j) (h0 : bt be i = true) (h1 : bt be j = true) (h2 : bt (ap i) j = false) : twP be ap (16 * i + j) = true := by
  unfold twP; rw [(dm16 hj).1, (dm16 hj).2, h0, h1, h2, decide_eq_true hij]; rfl
end
section
set_option maxHeartbeats 4000000 in
set_option maxRecDepth 100000 in
/-- forgetAll() -/
theorem c_X3_forgetAll (l : Launch) (dC : Nat → ClassId) (dI : Nat → Nat → Nat) (A : Nat → Nat) (cI cQ : ClassId) (σ : HS) (sz : Nat) : Met l yX3_forgetAll wsX3_forgetAll ({ frames := 1, cells := 0, slots := 0, locals := 20 }) (va_Pc [.ref (A 0)] (hfF dC dI A cI cQ sz σ)) (va_Qv (fun τ : HS => τ = ((0, 65535, 65535, -1, 0), (0, tcS σ), σ.2.2.1, trS σ, clrN (acS σ) 8, nxS σ)) (hfB dC dI A cI cQ (va_A (hfW A cI cQ σ) sz)) (va_A (hfW A cI cQ σ) sz)) 0 0 (va_A (hfW A cI cQ σ) sz) := by
  obtain ⟨⟨cl, st, go, hi, ma⟩, ⟨ct, tc⟩, ⟨be, co, ap⟩, tr, ac, nx⟩ := σ
  refine Met.ofW (cc := cX3_forgetAll) (maxL := 2) (ret := none) (by decide) rfl ?_
  intro p e s m args below meth c s₁ B hml hv
  obtain ⟨rfl, hsz, hP, hX, hD0⟩ := hv
  have hx := B.exec
  have hb := B.bytes
  have hr := B.returns
  have hts := atoms_spec (ws := wsX3_forgetAll) B.pre
  have hown : s.vm.findClass RX3 = some m.cls := findClass_of_methodNamed B.named
  have hlocks := B.notSynchronized
  have hK := hX.1
  have hinX3 : ∀ w ∈ wsX30, w ∈ wsX3_forgetAll := fun _ h => List.mem_cons_of_mem _ (List.mem_append_left _ (List.mem_append_left _ (List.mem_append_right _ h)))
  have hinX0 : ∀ w ∈ wsX00, w ∈ wsX3_forgetAll := fun _ h => List.mem_cons_of_mem _ (List.mem_append_left _ (List.mem_append_right _ h))
  subst hsz
  have hD := hD0.self (sz := s.heap.size)
  generalize hAe : va_A (hfW A cI cQ _) s.heap.size = V at hD ⊢
  have hA : ∀ q : Nat, s.heap.size ≤ q → V q := fun q h => by rw [← hAe]; exact Or.inr h
  have hS : va_S V s.heap s.heap [] := va_S.rf
  have hl := lv_entry ([.ref (A 0)]) (n := 2) (Nat.le_of_ble_eq_true rfl)
  rw [lg_entry_eq]
  generalize (lg_sl ([.ref (A 0)]) ++ List.replicate (2 - (lg_sl ([.ref (A 0)])).length) Slot.unset).toArray = ls at hl ⊢
  have hl : lv_has ls 2 [(0, .ref (A 0))] := hl
  have hP : va_P (dC, dI) vwCl (hfL A cI cQ cl st go hi ma ct tc be co ap tr ac nx) s.heap := hP
  have hD : va_D V (hfL A cI cQ cl st go hi ma ct tc be co ap tr ac nx) := hD
  refine lv_iconst (v := 0) hx hb dX3_forgetAll_0 (by decide) ?_
  refine lv_istore_n (lv' := [(1, .int 0), (0, .ref (A 0))]) hx hb dX3_forgetAll_1 rfl hl (by decide) rfl (fun ls hl => ?_)
  refine w_loopH (pc := 2) 8 (fun a ls H locs => va_P (dC, dI) vwCl (hfL A cI cQ cl st go hi ma ct tc be co ap tr (clrN ac a) nx) H ∧ va_D V (hfL A cI cQ cl st go hi ma ct tc be co ap tr (clrN ac a) nx) ∧ va_S V s.heap H locs ∧ True ∧ lv_has ls 2 [(0, .ref (A 0)), (1, .int (nI a))]) ?_ 0 (Nat.zero_le _) ls _ _ ⟨?_, ?_, hS, trivial, lv_sub hl [1, 0] rfl⟩
  rotate_left
  · rw [clrN_0]; exact hP
  · rw [clrN_0]; exact hD
  intro a ls H locs hk hI ih
  obtain ⟨hP, hD, hS, hEx, hl⟩ := hI
  refine lv_iload_n hx hb dX3_forgetAll_2 rfl (lv_at hl 1 rfl) ?_
  refine lv_bipush (v := 8) hx hb dX3_forgetAll_3 (by decide) ?_
  refine lv_icmp_ge (tgt := 24) hx hb dX3_forgetAll_5 (by decide) (fun c5_0 => ?_) (fun c5_0 => ?_)
  · skip
    obtain rfl := ctr_ge (N := 8) rfl (by decide) hk c5_0
    refine lv_aload_n hx hb dX3_forgetAll_24 rfl (lv_at hl 0 rfl) ?_
    refine va_get (D := (dC, dI)) (ci := 3) (v := .ref (A 2)) (C := RX3) (T := TX3) (N := 9) hx hb hts hinX3 hown hK hP 0 rfl rfl 1 (by decide) (hts _ (List.mem_of_getElem? (i := 2) rfl)) (fun _ h9 => h9) rfl dX3_forgetAll_25 ?_
    have hFc := hf_free (σ := ((cl, st, go, hi, ma), (ct, tc), (be, co, ap), tr, clrN ac 8, nx)) hD hS hA
    refine va_callv (va_runV (As := []) (rest := []) ⟨hx, hb, hml, hown, hts⟩ (c_X2_empty l dC dI A cI cQ ((cl, st, go, hi, ma), (ct, tc), (be, co, ap), tr, clrN ac 8, nx) H.size) (cwV 0 hts gX3_forgetAll_X2_empty rfl rfl rfl (by decide +kernel) ⟨Nat.le_of_ble_eq_true rfl, Nat.le_of_ble_eq_true rfl⟩) ⟨bl_F, va_recv hK hP (ci := 2) (q0 := 2) rfl rfl, fun U hU hW => ⟨rfl, by rw [hU], by rw [hU]; exact hP, hX.warm hW, hf_any hD⟩⟩ rfl rfl hl.1 rfl (lv_room (Nat.le_of_ble_eq_true rfl)) dX3_forgetAll_28 ⟨Nat.zero_le _, Nat.zero_le _⟩) hS (fun q _ h => hFc q h) hFc (fun u t H locs ht hvm hw hB hz1 hk1 hS => ?_)
    obtain ⟨hP1, hD1⟩ := hB
    rw [ht] at hP1
    subst hw
    have hP : va_P (dC, dI) vwCl (hfL A cI cQ cl st go hi ma 0 tc be co ap tr (clrN ac 8) nx) H := hP1
    have hD : va_D V (hfL A cI cQ cl st go hi ma 0 tc be co ap tr (clrN ac 8) nx) := hf_weak hD1 hFc
    clear hP1 hD1 hFc
    refine lv_aload_n hx hb dX3_forgetAll_31 rfl (lv_at hl 0 rfl) ?_
    refine lv_iconst (v := 0) hx hb dX3_forgetAll_32 (by decide) ?_
    refine va_put (D := (dC, dI)) (ci := 3) (v := .int 0) (ty := .int) (C := RX3) (T := TX3) (N := 9) hx hb hts hinX3 tyX3 tyX3_ok nmX3 hown hK hP hD hS 0 rfl rfl 4 (by decide) (hts _ (List.mem_of_getElem? (i := 3) rfl)) (fun _ h9 => h9) rfl (by decide +kernel) rfl rfl (Nat.le_of_ble_eq_true rfl) dX3_forgetAll_33 (fun H locs hP hD hS => ?_)
    have hP : va_P (dC, dI) vwCl (hfL A cI cQ 0 st go hi ma 0 tc be co ap tr (clrN ac 8) nx) H := hP
    have hD : va_D V (hfL A cI cQ 0 st go hi ma 0 tc be co ap tr (clrN ac 8) nx) := hD
    refine lv_aload_n hx hb dX3_forgetAll_36 rfl (lv_at hl 0 rfl) ?_
    refine lv_ldc (v := (65535)) hx hb hown (hts _ (List.mem_of_getElem? (i := 4) rfl)) dX3_forgetAll_37 ?_
    refine va_put (D := (dC, dI)) (ci := 3) (v := .int (65535)) (ty := .int) (C := RX3) (T := TX3) (N := 9) hx hb hts hinX3 tyX3 tyX3_ok nmX3 hown hK hP hD hS 0 rfl rfl 5 (by decide) (hts _ (List.mem_of_getElem? (i := 5) rfl)) (fun _ h9 => h9) rfl (by decide +kernel) rfl rfl (Nat.le_of_ble_eq_true rfl) dX3_forgetAll_39 (fun H locs hP hD hS => ?_)
    have hP : va_P (dC, dI) vwCl (hfL A cI cQ 0 (65535) go hi ma 0 tc be co ap tr (clrN ac 8) nx) H := hP
    have hD : va_D V (hfL A cI cQ 0 (65535) go hi ma 0 tc be co ap tr (clrN ac 8) nx) := hD
    refine lv_aload_n hx hb dX3_forgetAll_42 rfl (lv_at hl 0 rfl) ?_
    refine lv_ldc (v := (65535)) hx hb hown (hts _ (List.mem_of_getElem? (i := 4) rfl)) dX3_forgetAll_43 ?_
    refine va_put (D := (dC, dI)) (ci := 3) (v := .int (65535)) (ty := .int) (C := RX3) (T := TX3) (N := 9) hx hb hts hinX3 tyX3 tyX3_ok nmX3 hown hK hP hD hS 0 rfl rfl 6 (by decide) (hts _ (List.mem_of_getElem? (i := 6) rfl)) (fun _ h9 => h9) rfl (by decide +kernel) rfl rfl (Nat.le_of_ble_eq_true rfl) dX3_forgetAll_45 (fun H locs hP hD hS => ?_)
    have hP : va_P (dC, dI) vwCl (hfL A cI cQ 0 (65535) (65535) hi ma 0 tc be co ap tr (clrN ac 8) nx) H := hP
    have hD : va_D V (hfL A cI cQ 0 (65535) (65535) hi ma 0 tc be co ap tr (clrN ac 8) nx) := hD
    refine lv_aload_n hx hb dX3_forgetAll_48 rfl (lv_at hl 0 rfl) ?_
    refine lv_iconst (v := (-1)) hx hb dX3_forgetAll_49 (by decide) ?_
    refine va_put (D := (dC, dI)) (ci := 3) (v := .int (-1)) (ty := .int) (C := RX3) (T := TX3) (N := 9) hx hb hts hinX3 tyX3 tyX3_ok nmX3 hown hK hP hD hS 0 rfl rfl 7 (by decide) (hts _ (List.mem_of_getElem? (i := 7) rfl)) (fun _ h9 => h9) rfl (by decide +kernel) rfl rfl (Nat.le_of_ble_eq_true rfl) dX3_forgetAll_50 (fun H locs hP hD hS => ?_)
    have hP : va_P (dC, dI) vwCl (hfL A cI cQ 0 (65535) (65535) (-1) ma 0 tc be co ap tr (clrN ac 8) nx) H := hP
    have hD : va_D V (hfL A cI cQ 0 (65535) (65535) (-1) ma 0 tc be co ap tr (clrN ac 8) nx) := hD
    refine lv_aload_n hx hb dX3_forgetAll_53 rfl (lv_at hl 0 rfl) ?_
    refine lv_iconst (v := 0) hx hb dX3_forgetAll_54 (by decide) ?_
    refine va_put (D := (dC, dI)) (ci := 3) (v := .int 0) (ty := .int) (C := RX3) (T := TX3) (N := 9) hx hb hts hinX3 tyX3 tyX3_ok nmX3 hown hK hP hD hS 0 rfl rfl 8 (by decide) (hts _ (List.mem_of_getElem? (i := 8) rfl)) (fun _ h9 => h9) rfl (by decide +kernel) rfl rfl (Nat.le_of_ble_eq_true rfl) dX3_forgetAll_55 (fun H locs hP hD hS => ?_)
    have hP : va_P (dC, dI) vwCl (hfL A cI cQ 0 (65535) (65535) (-1) 0 0 tc be co ap tr (clrN ac 8) nx) H := hP
    have hD : va_D V (hfL A cI cQ 0 (65535) (65535) (-1) 0 0 tc be co ap tr (clrN ac 8) nx) := hD
    exact W.vret hx hb hr (fun t ht hW => ⟨⟨((0, (65535), (65535), (-1), 0), (0, tc), (be, co, ap), tr, clrN ac 8, nx), rfl, rfl, by rw [ht]; exact hP, hD⟩, hS.F ht⟩) hS.2.2 dX3_forgetAll_58
  · skip
    have ha := ctr_lt (N := 8) rfl (by decide) hk c5_0
    refine lv_aload_n hx hb dX3_forgetAll_8 rfl (lv_at hl 0 rfl) ?_
    refine va_get (D := (dC, dI)) (ci := 3) (v := .ref (A 1)) (C := RX3) (T := TX3) (N := 9) hx hb hts hinX3 hown hK hP 0 rfl rfl 0 (by decide) (hts _ (List.mem_of_getElem? (i := 1) rfl)) (fun _ h9 => h9) rfl dX3_forgetAll_9 ?_
    refine lv_iload_n hx hb dX3_forgetAll_12 rfl (lv_at hl 1 rfl) ?_
    refine va_aldq hx hb hK hP 1 1 rfl rfl (vp_in_nI (show a < 8 by omega) (by decide)) dX3_forgetAll_13 ?_
    rw [nI_clamp (show a < 2 ^ 31 by have := (show a < 8 by omega); omega)]
    refine lv_iconst (v := 0) hx hb dX3_forgetAll_14 (by decide) ?_
    refine va_putN (D := (dC, dI)) (host := RX3) (ci := 0) (v := .int 0) (ty := .boolean) (C := RX0) (T := TX0) (N := 5) hx hb hts hinX0 tyX0 tyX0_ok nmX0 hown hK hP hD hS (8 + a) (hf_act ha) rfl 0 (by decide) (va_Nw.use rfl (hX.2.1 _ (List.mem_of_getElem? (i := 4) rfl))) (fun _ h9 => h9) rfl (by decide +kernel) rfl rfl (Nat.le_of_ble_eq_true rfl) dX3_forgetAll_15 (fun H locs hP hD hS => ?_)
    rw [hf_setA 0 (by decide) ha] at hP hD
    rw [show up2 (clrN ac a) a 0 0 = clrN ac (a + 1) from clrN_s ac a] at hP hD
    have hP : va_P (dC, dI) vwCl (hfL A cI cQ cl st go hi ma ct tc be co ap tr (clrN ac (a + 1)) nx) H := hP
    have hD : va_D V (hfL A cI cQ cl st go hi ma ct tc be co ap tr (clrN ac (a + 1)) nx) := hD
    obtain ⟨y1, ey1⟩ : ∃ y : Int32, y = (nI a) + 1 := ⟨_, rfl⟩
    refine lv_iinc (v := y1) (lv' := [(1, .int y1), (0, .ref (A 0))]) hx hb dX3_forgetAll_18 hl (k := 1) rfl (by rw [ey1]; rfl) (by decide) rfl (fun ls hl => ?_)
    obtain rfl : y1 = nI (a + 1) := ey1.trans (nI_1 a)
    refine lv_goto (tgt := 2) hx hb dX3_forgetAll_21 (by decide) ?_
    exact ih ls H locs ⟨hP, hD, hS, trivial, lv_sub hl [1, 0] rfl⟩ ha
set_option maxHeartbeats 4000000 in
set_option maxRecDepth 100000 in
/-- Sight.open(states) -/
theorem c_X1_open (l : Launch) (dC : Nat → ClassId) (dI : Nat → Nat → Nat) (A : Nat → Nat) (cI cQ : ClassId) (σ : HS) (sz : Nat) (b : Int32) : Met l yX1_open wsX1_open ({ frames := 0, cells := 0, slots := 0, locals := 0 }) (va_Pc [.ref (A 4), .int b] (hfF dC dI A cI cQ sz σ)) (va_Qv (fun τ : HS => τ = (σ.1, σ.2.1, (b, fillN (coS σ) (fun j => nI j) 16, fillN (apS σ) (fun _ => 0) 16), σ.2.2.2)) (hfB dC dI A cI cQ (va_A (hfW A cI cQ σ) sz)) (va_A (hfW A cI cQ σ) sz)) 0 0 (va_A (hfW A cI cQ σ) sz) := by
  obtain ⟨⟨cl, st, go, hi, ma⟩, ⟨ct, tc⟩, ⟨be, co, ap⟩, tr, ac, nx⟩ := σ
  refine Met.ofW (cc := cX1_open) (maxL := 3) (ret := none) (by decide) rfl ?_
  intro p e s m args below meth c s₁ B hml hv
  obtain ⟨rfl, hsz, hP, hX, hD0⟩ := hv
  have hx := B.exec
  have hb := B.bytes
  have hr := B.returns
  have hts := atoms_spec (ws := wsX1_open) B.pre
  have hown : s.vm.findClass RX1 = some m.cls := findClass_of_methodNamed B.named
  have hlocks := B.notSynchronized
  have hK := hX.1
  have hinX1 : ∀ w ∈ wsX10, w ∈ wsX1_open := fun _ h => List.mem_cons_of_mem _ (List.mem_append_right _ h)
  subst hsz
  have hD := hD0.self (sz := s.heap.size)
  generalize hAe : va_A (hfW A cI cQ _) s.heap.size = V at hD ⊢
  have hA : ∀ q : Nat, s.heap.size ≤ q → V q := fun q h => by rw [← hAe]; exact Or.inr h
  have hS : va_S V s.heap s.heap [] := va_S.rf
  have hl := lv_entry ([.ref (A 4), .int b]) (n := 3) (Nat.le_of_ble_eq_true rfl)
  rw [lg_entry_eq]
  generalize (lg_sl ([.ref (A 4), .int b]) ++ List.replicate (3 - (lg_sl ([.ref (A 4), .int b])).length) Slot.unset).toArray = ls at hl ⊢
  have hl : lv_has ls 3 [(0, .ref (A 4)), (1, .int b)] := hl
  have hP : va_P (dC, dI) vwCl (hfL A cI cQ cl st go hi ma ct tc be co ap tr ac nx) s.heap := hP
  have hD : va_D V (hfL A cI cQ cl st go hi ma ct tc be co ap tr ac nx) := hD
  refine lv_aload_n hx hb dX1_open_0 rfl (lv_at hl 0 rfl) ?_
  refine lv_iload_n hx hb dX1_open_1 rfl (lv_at hl 1 rfl) ?_
  refine va_put (D := (dC, dI)) (ci := 1) (v := .int b) (ty := .int) (C := RX1) (T := TX1) (N := 3) hx hb hts hinX1 tyX1 tyX1_ok nmX1 hown hK hP hD hS 4 rfl rfl 2 (by decide) (hts _ (List.mem_of_getElem? (i := 1) rfl)) (fun _ h9 => h9) rfl (by decide +kernel) rfl rfl (Nat.le_of_ble_eq_true rfl) dX1_open_2 (fun H locs hP hD hS => ?_)
  have hP : va_P (dC, dI) vwCl (hfL A cI cQ cl st go hi ma ct tc b co ap tr ac nx) H := hP
  have hD : va_D V (hfL A cI cQ cl st go hi ma ct tc b co ap tr ac nx) := hD
  refine lv_iconst (v := 0) hx hb dX1_open_5 (by decide) ?_
  refine lv_istore_n (lv' := [(2, .int 0), (0, .ref (A 4)), (1, .int b)]) hx hb dX1_open_6 rfl hl (by decide) rfl (fun ls hl => ?_)
  refine w_loopH (pc := 7) 16 (fun k ls H locs => va_P (dC, dI) vwCl (hfL A cI cQ cl st go hi ma ct tc b (fillN co (fun j => nI j) k) (fillN ap (fun _ => 0) k) tr ac nx) H ∧ va_D V (hfL A cI cQ cl st go hi ma ct tc b (fillN co (fun j => nI j) k) (fillN ap (fun _ => 0) k) tr ac nx) ∧ va_S V s.heap H locs ∧ True ∧ lv_has ls 3 [(0, .ref (A 4)), (1, .int b), (2, .int (nI k))]) ?_ 0 (Nat.zero_le _) ls _ _ ⟨?_, ?_, hS, trivial, lv_sub hl [1, 2, 0] rfl⟩
  rotate_left
  · rw [fillN_0, fillN_0]; exact hP
  · rw [fillN_0, fillN_0]; exact hD
  intro k ls H locs hk hI ih
  obtain ⟨hP, hD, hS, hEx, hl⟩ := hI
  refine lv_iload_n hx hb dX1_open_7 rfl (lv_at hl 2 rfl) ?_
  refine lv_bipush (v := 16) hx hb dX1_open_8 (by decide) ?_
  refine lv_icmp_ge (tgt := 33) hx hb dX1_open_10 (by decide) (fun c10_0 => ?_) (fun c10_0 => ?_)
  · skip
    obtain rfl := ctr_ge (N := 16) rfl (by decide) hk c10_0
    exact W.vret hx hb hr (fun t ht hW => ⟨⟨((cl, st, go, hi, ma), (ct, tc), (b, fillN co (fun j => nI j) 16, fillN ap (fun _ => 0) 16), tr, ac, nx), rfl, rfl, by rw [ht]; exact hP, hD⟩, hS.F ht⟩) hS.2.2 dX1_open_33
  · skip
    have hlt := ctr_lt (N := 16) rfl (by decide) hk c10_0
    refine lv_aload_n hx hb dX1_open_13 rfl (lv_at hl 0 rfl) ?_
    refine va_get (D := (dC, dI)) (ci := 1) (v := .ref (A 5)) (C := RX1) (T := TX1) (N := 3) hx hb hts hinX1 hown hK hP 4 rfl rfl 0 (by decide) (hts _ (List.mem_of_getElem? (i := 2) rfl)) (fun _ h9 => h9) rfl dX1_open_14 ?_
    refine lv_iload_n hx hb dX1_open_17 rfl (lv_at hl 2 rfl) ?_
    refine lv_iload_n hx hb dX1_open_18 rfl (lv_at hl 2 rfl) ?_
    refine va_iast hx hb hK hP hD hS 5 0 rfl rfl (vp_in_nI (show k < 64 by omega) (by decide)) dX1_open_19 (fun H locs hP hD hS => ?_)
    rw [nI_clamp (show k < 2 ^ 31 by have := (show k < 64 by omega); omega)] at hP hD
    rw [show upd (fillN co (fun j => nI j) k) k (nI k) = fillN co (fun j => nI j) (k + 1) from fillN_s co (fun j => nI j) k rfl] at hP hD
    have hP : va_P (dC, dI) vwCl (hfL A cI cQ cl st go hi ma ct tc b (fillN co (fun j => nI j) (k + 1)) (fillN ap (fun _ => 0) k) tr ac nx) H := hP
    have hD : va_D V (hfL A cI cQ cl st go hi ma ct tc b (fillN co (fun j => nI j) (k + 1)) (fillN ap (fun _ => 0) k) tr ac nx) := hD
    refine lv_aload_n hx hb dX1_open_20 rfl (lv_at hl 0 rfl) ?_
    refine va_get (D := (dC, dI)) (ci := 1) (v := .ref (A 6)) (C := RX1) (T := TX1) (N := 3) hx hb hts hinX1 hown hK hP 4 rfl rfl 1 (by decide) (hts _ (List.mem_of_getElem? (i := 3) rfl)) (fun _ h9 => h9) rfl dX1_open_21 ?_
    refine lv_iload_n hx hb dX1_open_24 rfl (lv_at hl 2 rfl) ?_
    refine lv_iconst (v := 0) hx hb dX1_open_25 (by decide) ?_
    refine va_iast hx hb hK hP hD hS 6 0 rfl rfl (vp_in_nI (show k < 16 by omega) (by decide)) dX1_open_26 (fun H locs hP hD hS => ?_)
    rw [nI_clamp (show k < 2 ^ 31 by have := (show k < 16 by omega); omega)] at hP hD
    rw [show upd (fillN ap (fun _ => 0) k) k 0 = fillN ap (fun _ => 0) (k + 1) from fillN_s ap (fun _ => 0) k rfl] at hP hD
    have hP : va_P (dC, dI) vwCl (hfL A cI cQ cl st go hi ma ct tc b (fillN co (fun j => nI j) (k + 1)) (fillN ap (fun _ => 0) (k + 1)) tr ac nx) H := hP
    have hD : va_D V (hfL A cI cQ cl st go hi ma ct tc b (fillN co (fun j => nI j) (k + 1)) (fillN ap (fun _ => 0) (k + 1)) tr ac nx) := hD
    obtain ⟨y1, ey1⟩ : ∃ y : Int32, y = (nI k) + 1 := ⟨_, rfl⟩
    refine lv_iinc (v := y1) (lv' := [(2, .int y1), (0, .ref (A 4)), (1, .int b)]) hx hb dX1_open_27 hl (k := 2) rfl (by rw [ey1]; rfl) (by decide) rfl (fun ls hl => ?_)
    obtain rfl : y1 = nI (k + 1) := ey1.trans (nI_1 k)
    refine lv_goto (tgt := 7) hx hb dX1_open_30 (by decide) ?_
    exact ih ls H locs ⟨hP, hD, hS, trivial, lv_sub hl [1, 2, 0] rfl⟩ hlt
set_option maxHeartbeats 4000000 in
set_option maxRecDepth 100000 in
/-- Sight.firstAlike() -/
theorem c_X1_firstAlike (l : Launch) (dC : Nat → ClassId) (dI : Nat → Nat → Nat) (A : Nat → Nat) (cI cQ : ClassId) (σ : HS) : Met l yX1_firstAlike wsX1_firstAlike ({ frames := 1, cells := 0, slots := 0, locals := 21 }) (va_Pc [.ref (A 4)] (hfP dC dI A cI cQ σ)) (vp_Si (fun r => r = o2i ((List.range 256).find? (twP (beS σ) (apS σ))))) 0 0 (fun _ => False) := by
  refine Met.ofW (cc := cX1_firstAlike) (maxL := 3) (ret := (some .int)) (by decide) rfl ?_
  intro p e s m args below meth c s₁ B hml hv
  obtain ⟨rfl, hP, hX⟩ := hv
  have hx := B.exec
  have hb := B.bytes
  have hr := B.returns
  have hts := atoms_spec (ws := wsX1_firstAlike) B.pre
  have hown : s.vm.findClass RX1 = some m.cls := findClass_of_methodNamed B.named
  have hlocks := B.notSynchronized
  have hK := hX.1
  have hinX1 : ∀ w ∈ wsX10, w ∈ wsX1_firstAlike := fun _ h => List.mem_cons_of_mem _ (List.mem_append_right _ h)
  have hl := lv_entry ([.ref (A 4)]) (n := 3) (Nat.le_of_ble_eq_true rfl)
  rw [lg_entry_eq]
  generalize (lg_sl ([.ref (A 4)]) ++ List.replicate (3 - (lg_sl ([.ref (A 4)])).length) Slot.unset).toArray = ls at hl ⊢
  have hl : lv_has ls 3 [(0, .ref (A 4))] := hl
  refine lv_iconst (v := 0) hx hb dX1_firstAlike_0 (by decide) ?_
  refine lv_istore_n (lv' := [(1, .int 0), (0, .ref (A 4))]) hx hb dX1_firstAlike_1 rfl hl (by decide) rfl (fun ls hl => ?_)
  refine w_loopP (pc := 2) 16 (fun i ls => (∀ q, q < 16 * i → (twP (beS σ) (apS σ)) q = false) ∧ lv_has ls 3 [(0, .ref (A 4)), (1, .int (nI i))]) ?_ 0 (Nat.zero_le _) ls ⟨fun q hq => absurd hq (by omega), lv_sub hl [1, 0] rfl⟩
  intro i ls hk hI ih
  obtain ⟨hq, hl⟩ := hI
  refine lv_iload_n hx hb dX1_firstAlike_2 rfl (lv_at hl 1 rfl) ?_
  refine lv_bipush (v := 16) hx hb dX1_firstAlike_3 (by decide) ?_
  refine lv_icmp_ge (tgt := 72) hx hb dX1_firstAlike_5 (by decide) (fun c5_0 => ?_) (fun c5_0 => ?_)
  · skip
    obtain rfl := ctr_ge (N := 16) rfl (by decide) hk c5_0
    refine lv_iconst (v := (-1)) hx hb dX1_firstAlike_72 (by decide) ?_
    exact W.iret hx hb hr (fun t ht hW => ⟨_, rfl, by show _ = o2i ((List.range 256).find? (twP (beS σ) (apS σ))); rw [find_no hq]; rfl, ht⟩) (fun q h => nomatch h) dX1_firstAlike_73
  · skip
    have hi := ctr_lt (N := 16) rfl (by decide) hk c5_0
    refine lv_iload_n hx hb dX1_firstAlike_8 rfl (lv_at hl 1 rfl) ?_
    refine lv_iconst (v := 1) hx hb dX1_firstAlike_9 (by decide) ?_
    refine lv_iadd hx hb dX1_firstAlike_10 ?_
    refine lv_topi (fun y1 ey1 => ?_)
    obtain rfl : y1 = nI (i + 1) := ey1.trans (nI_1 i)
    refine lv_istore_n (lv' := [(2, .int (nI (i + 1))), (0, .ref (A 4)), (1, .int (nI i))]) hx hb dX1_firstAlike_11 rfl hl (by decide) rfl (fun ls hl => ?_)
    have hq1 : ∀ q, q < 16 * i + (i + 1) → (twP (beS σ) (apS σ)) q = false := fun q h => twP_lo hq h
    refine w_loopP (pc := 12) 16 (fun j ls => i < j ∧ (∀ q, q < 16 * i + j → (twP (beS σ) (apS σ)) q = false) ∧ lv_has ls 3 [(0, .ref (A 4)), (1, .int (nI i)), (2, .int (nI j))]) ?_ (i + 1) (by omega) ls ⟨by omega, hq1, lv_sub hl [1, 2, 0] rfl⟩
    intro j ls hk2 hI ih2
    obtain ⟨hij, hq, hl⟩ := hI
    refine lv_iload_n hx hb dX1_firstAlike_12 rfl (lv_at hl 2 rfl) ?_
    refine lv_bipush (v := 16) hx hb dX1_firstAlike_13 (by decide) ?_
    refine lv_icmp_ge (tgt := 66) hx hb dX1_firstAlike_15 (by decide) (fun c15_2 => ?_) (fun c15_2 => ?_)
    · skip
      obtain rfl := ctr_ge (N := 16) rfl (by decide) hk2 c15_2
      obtain ⟨y3, ey3⟩ : ∃ y : Int32, y = (nI i) + 1 := ⟨_, rfl⟩
      refine lv_iinc (v := y3) (lv' := [(1, .int y3), (0, .ref (A 4)), (2, .int (nI 16))]) hx hb dX1_firstAlike_66 hl (k := 1) rfl (by rw [ey3]; rfl) (by decide) rfl (fun ls hl => ?_)
      obtain rfl : y3 = nI (i + 1) := ey3.trans (nI_1 i)
      refine lv_goto (tgt := 2) hx hb dX1_firstAlike_69 (by decide) ?_
      exact ih ls ⟨by rw [show 16 * (i + 1) = 16 * i + 16 by omega]; exact hq, lv_sub hl [1, 0] rfl⟩ hi
    · skip
      have hj := ctr_lt (N := 16) rfl (by decide) hk2 c15_2
      refine lv_iload_n hx hb dX1_firstAlike_18 rfl (lv_at hl 1 rfl) ?_
      refine lv_aload_n hx hb dX1_firstAlike_19 rfl (lv_at hl 0 rfl) ?_
      refine va_get (D := (dC, dI)) (ci := 1) (v := .int (beS σ)) (C := RX1) (T := TX1) (N := 3) hx hb hts hinX1 hown hK hP 4 rfl rfl 2 (by decide) (hts _ (List.mem_of_getElem? (i := 1) rfl)) (fun _ h9 => h9) rfl dX1_firstAlike_20 ?_
      refine vp_callSi (va_Run.run (va_runSN (As := [.int (nI i), .int (beS σ)]) (rest := []) ⟨hx, hb, hml, hown, hts⟩ (c_X3_isIn l (k := i) (by omega) (beS σ)) ⟨va_cnB (host := RX3) 2 hts gX1_firstAlike_X3_isIn_n31 rfl rfl rfl (hX.2.1 _ (List.mem_of_getElem? (i := 9) rfl)) (hts _ (List.mem_of_getElem? (i := 4) rfl)) (by decide +kernel) ⟨Nat.le_of_ble_eq_true rfl, Nat.le_of_ble_eq_true rfl⟩, hts _ (List.mem_of_getElem? (i := 3) rfl), trivial⟩ ⟨bl_T, fun U hU hW => ⟨rfl, trivial⟩⟩ rfl rfl hl.1 rfl (lv_room (Nat.le_of_ble_eq_true rfl)) dX1_firstAlike_23 ⟨Nat.zero_le _, Nat.zero_le _⟩)) (fun r er => ?_)
      subst er
      refine lv_if_eq (tgt := 60) hx hb dX1_firstAlike_26 (by decide) (fun c26_4 => ?_) (fun c26_4 => ?_)
      · skip
        obtain ⟨y5, ey5⟩ : ∃ y : Int32, y = (nI j) + 1 := ⟨_, rfl⟩
        refine lv_iinc (v := y5) (lv' := [(2, .int y5), (0, .ref (A 4)), (1, .int (nI i))]) hx hb dX1_firstAlike_60 hl (k := 2) rfl (by rw [ey5]; rfl) (by decide) rfl (fun ls hl => ?_)
        obtain rfl : y5 = nI (j + 1) := ey5.trans (nI_1 j)
        refine lv_goto (tgt := 12) hx hb dX1_firstAlike_63 (by decide) ?_
        exact ih2 ls ⟨by omega, lt_s hq (twP_0 hi hj (b2i_0.mp c26_4)), lv_sub hl [1, 2, 0] rfl⟩ hj
      · skip
        refine lv_iload_n hx hb dX1_firstAlike_29 rfl (lv_at hl 2 rfl) ?_
        refine lv_aload_n hx hb dX1_firstAlike_30 rfl (lv_at hl 0 rfl) ?_
        refine va_get (D := (dC, dI)) (ci := 1) (v := .int (beS σ)) (C := RX1) (T := TX1) (N := 3) hx hb hts hinX1 hown hK hP 4 rfl rfl 2 (by decide) (hts _ (List.mem_of_getElem? (i := 1) rfl)) (fun _ h9 => h9) rfl dX1_firstAlike_31 ?_
        refine vp_callSi (va_Run.run (va_runSN (As := [.int (nI j), .int (beS σ)]) (rest := []) ⟨hx, hb, hml, hown, hts⟩ (c_X3_isIn l (k := j) (by omega) (beS σ)) ⟨va_cnB (host := RX3) 2 hts gX1_firstAlike_X3_isIn_n31 rfl rfl rfl (hX.2.1 _ (List.mem_of_getElem? (i := 9) rfl)) (hts _ (List.mem_of_getElem? (i := 4) rfl)) (by decide +kernel) ⟨Nat.le_of_ble_eq_true rfl, Nat.le_of_ble_eq_true rfl⟩, hts _ (List.mem_of_getElem? (i := 3) rfl), trivial⟩ ⟨bl_T, fun U hU hW => ⟨rfl, trivial⟩⟩ rfl rfl hl.1 rfl (lv_room (Nat.le_of_ble_eq_true rfl)) dX1_firstAlike_34 ⟨Nat.zero_le _, Nat.zero_le _⟩)) (fun r er => ?_)
        subst er
        refine lv_if_eq (tgt := 60) hx hb dX1_firstAlike_37 (by decide) (fun c37_6 => ?_) (fun c37_6 => ?_)
        · skip
          obtain ⟨y7, ey7⟩ : ∃ y : Int32, y = (nI j) + 1 := ⟨_, rfl⟩
          refine lv_iinc (v := y7) (lv' := [(2, .int y7), (0, .ref (A 4)), (1, .int (nI i))]) hx hb dX1_firstAlike_60 hl (k := 2) rfl (by rw [ey7]; rfl) (by decide) rfl (fun ls hl => ?_)
          obtain rfl : y7 = nI (j + 1) := ey7.trans (nI_1 j)
          refine lv_goto (tgt := 12) hx hb dX1_firstAlike_63 (by decide) ?_
          exact ih2 ls ⟨by omega, lt_s hq (twP_1 hi hj (b2i_0.mp c37_6)), lv_sub hl [1, 2, 0] rfl⟩ hj
        · skip
          refine lv_iload_n hx hb dX1_firstAlike_40 rfl (lv_at hl 2 rfl) ?_
          refine lv_aload_n hx hb dX1_firstAlike_41 rfl (lv_at hl 0 rfl) ?_
          refine va_get (D := (dC, dI)) (ci := 1) (v := .ref (A 6)) (C := RX1) (T := TX1) (N := 3) hx hb hts hinX1 hown hK hP 4 rfl rfl 1 (by decide) (hts _ (List.mem_of_getElem? (i := 2) rfl)) (fun _ h9 => h9) rfl dX1_firstAlike_42 ?_
          refine lv_iload_n hx hb dX1_firstAlike_45 rfl (lv_at hl 1 rfl) ?_
          refine va_iald hx hb hK hP 6 0 rfl rfl (vp_in_nI (show i < 16 by omega) (by decide)) dX1_firstAlike_46 ?_
          rw [nI_clamp (show i < 2 ^ 31 by have := (show i < 16 by omega); omega)]
          refine vp_callSi (va_Run.run (va_runSN (As := [.int (nI j), .int (apS σ i)]) (rest := []) ⟨hx, hb, hml, hown, hts⟩ (c_X3_isIn l (k := j) (by omega) (apS σ i)) ⟨va_cnB (host := RX3) 2 hts gX1_firstAlike_X3_isIn_n31 rfl rfl rfl (hX.2.1 _ (List.mem_of_getElem? (i := 9) rfl)) (hts _ (List.mem_of_getElem? (i := 4) rfl)) (by decide +kernel) ⟨Nat.le_of_ble_eq_true rfl, Nat.le_of_ble_eq_true rfl⟩, hts _ (List.mem_of_getElem? (i := 3) rfl), trivial⟩ ⟨bl_T, fun U hU hW => ⟨rfl, trivial⟩⟩ rfl rfl hl.1 rfl (lv_room (Nat.le_of_ble_eq_true rfl)) dX1_firstAlike_47 ⟨Nat.zero_le _, Nat.zero_le _⟩)) (fun r er => ?_)
          subst er
          refine lv_if_ne (tgt := 60) hx hb dX1_firstAlike_50 (by decide) (fun c50_8 => ?_) (fun c50_8 => ?_)
          · skip
            obtain ⟨y9, ey9⟩ : ∃ y : Int32, y = (nI j) + 1 := ⟨_, rfl⟩
            refine lv_iinc (v := y9) (lv' := [(2, .int y9), (0, .ref (A 4)), (1, .int (nI i))]) hx hb dX1_firstAlike_60 hl (k := 2) rfl (by rw [ey9]; rfl) (by decide) rfl (fun ls hl => ?_)
            obtain rfl : y9 = nI (j + 1) := ey9.trans (nI_1 j)
            refine lv_goto (tgt := 12) hx hb dX1_firstAlike_63 (by decide) ?_
            exact ih2 ls ⟨by omega, lt_s hq (twP_2 hi hj (b2i_n0.mp c50_8)), lv_sub hl [1, 2, 0] rfl⟩ hj
          · skip
            refine lv_bipush (v := 16) hx hb dX1_firstAlike_53 (by decide) ?_
            refine lv_iload_n hx hb dX1_firstAlike_55 rfl (lv_at hl 1 rfl) ?_
            refine lv_imul hx hb dX1_firstAlike_56 ?_
            refine lv_topi (fun y10 ey10 => ?_)
            obtain rfl : y10 = nI (16 * i) := ey10.trans (pk_mul 16 i)
            refine lv_iload_n hx hb dX1_firstAlike_57 rfl (lv_at hl 2 rfl) ?_
            refine lv_iadd hx hb dX1_firstAlike_58 ?_
            refine lv_topi (fun y11 ey11 => ?_)
            obtain rfl : y11 = nI (16 * i + j) := ey11.trans (nI_add (16 * i) j)
            exact W.iret hx hb hr (fun t ht hW => ⟨_, rfl, by show _ = o2i ((List.range 256).find? (twP (beS σ) (apS σ))); rw [find_at (show 16 * i + j < 256 by omega) (twP_t hi hj hij (b2i_n0.mp c26_4) (b2i_n0.mp c37_6) (b2i_0.mp c50_8)) hq]; rfl, ht⟩) (fun q h => nomatch h) dX1_firstAlike_59
end
section
/-- row d + 1 of the rows of 16, filled from the left -/
def stpN (f : Nat → Int32) (d : Nat) (g : Nat → Int32) (k : Nat) : Nat → Int32 := fun q => if 16 * d + 16 ≤ q ∧ q < 16 * d + 16 + k then g (q - (16 * d + 16)) else f q
theorem stpN_0 (f : Nat → Int32) (d : Nat) (g : Nat → Int32) : stpN f d g 0 = f := by funext q; unfold stpN; rw [if_neg (by omega)]
theorem stpN_lo (f : Nat → Int32) {d : Nat} (g : Nat → Int32) (k : Nat) {q : Nat} (h : q < 16 * d + 16) : stpN f d g k q = f q := by unfold stpN; rw [if_neg (by omega)]
theorem stpN_s (f : Nat → Int32) (d : Nat) (g : Nat → Int32) (k : Nat) {v : Int32} (hv : v = g k) : upd (stpN f d g k) (16 * d + 16 + k) v = stpN f d g (k + 1) := by
  funext q
  unfold upd stpN
  by_cases h : q = 16 * d + 16 + k
  · subst h
    rw [if_pos rfl, if_pos ⟨by omega, by omega⟩, hv]
    congr 1
    omega
  · rw [if_neg h]
    by_cases h2 : 16 * d + 16 ≤ q ∧ q < 16 * d + 16 + k
    · rw [if_pos h2, if_pos ⟨h2.1, by omega⟩]
    · rw [if_neg h2, if_neg (by omega)]
theorem b_0shl {k : Nat} (hk : k < 32) : (0 : Int32) <<< (nI k &&& 31) = 0 := b_ext fun i hi => by rw [b_shl k hk 0 hi, b_0, b_0, Bool.and_false]
theorem b_or0 (x : Int32) : x ||| 0 = x := b_ext fun i hi => by rw [b_or, b_0, Bool.or_false]
theorem mkN_or (f : Nat → Bool) {k : Nat} (hk : k < 32) : mkN f k ||| (b2i (f k) <<< (nI k &&& 31)) = mkN f (k + 1) := by
  cases h : f k with
  | true => rw [mkN_t h]; rfl
  | false => rw [mkN_f h, show b2i false = 0 from rfl, b_0shl hk, b_or0]
end
section
set_option maxHeartbeats 4000000 in
set_option maxRecDepth 100000 in
/-- Sight.step(action, done): row done + 1 of what has come, and what is told apart by it -/
theorem c_X1_step (l : Launch) (dC : Nat → ClassId) (dI : Nat → Nat → Nat) (A : Nat → Nat) (cI cQ : ClassId) (σ : HS) (sz : Nat) {a : Nat} (ha : a < 8) {d : Nat} (hd : d < 3) (x y : Nat → Nat) (hx1 : ∀ j, j < 16 → coS σ (16 * d + j) = nI (x j) ∧ x j < 16) (hy1 : ∀ j, j < 16 → nxS σ a j = nI (y j) ∧ y j < 16) : Met l yX1_step wsX1_step ({ frames := 2, cells := 0, slots := 0, locals := 43 }) (va_Pc [.ref (A 4), .ref (A (8 + a)), .int (nI d)] (hfF dC dI A cI cQ sz σ)) (va_Qv (fun τ : HS => τ = (σ.1, σ.2.1, (beS σ, stpN (coS σ) d (fun j => nI (y (x j))) 16, fillN (apS σ) (fun j => apS σ j ||| (if bt (mk (fun j => bt (acS σ a 2) (y (x j)))) j = true then (mk (fun j => bt (acS σ a 2) (y (x j)))) ^^^ (-1) else mk (fun j => bt (acS σ a 2) (y (x j))))) 16), σ.2.2.2)) (hfB dC dI A cI cQ (va_A (hfW A cI cQ σ) sz)) (va_A (hfW A cI cQ σ) sz)) 0 0 (va_A (hfW A cI cQ σ) sz) := by
  obtain ⟨⟨cl, st, go, hi, ma⟩, ⟨ct, tc⟩, ⟨be, co, ap⟩, tr, ac, nx⟩ := σ
  refine Met.ofW (cc := cX1_step) (maxL := 7) (ret := none) (by decide) rfl ?_
  intro p e s m args below meth c s₁ B hml hv
  obtain ⟨rfl, hsz, hP, hX, hD0⟩ := hv
  have hx := B.exec
  have hb := B.bytes
  have hr := B.returns
  have hts := atoms_spec (ws := wsX1_step) B.pre
  have hown : s.vm.findClass RX1 = some m.cls := findClass_of_methodNamed B.named
  have hlocks := B.notSynchronized
  have hK := hX.1
  have hinX1 : ∀ w ∈ wsX10, w ∈ wsX1_step := fun _ h => List.mem_cons_of_mem _ (List.mem_append_right _ h)
  have hinX0 : ∀ w ∈ wsX00, w ∈ wsX1_step := fun _ h => List.mem_cons_of_mem _ (List.mem_append_left _ (List.mem_append_right _ h))
  subst hsz
  have hD := hD0.self (sz := s.heap.size)
  generalize hAe : va_A (hfW A cI cQ _) s.heap.size = V at hD ⊢
  have hA : ∀ q : Nat, s.heap.size ≤ q → V q := fun q h => by rw [← hAe]; exact Or.inr h
  have hS : va_S V s.heap s.heap [] := va_S.rf
  have hl := lv_entry ([.ref (A 4), .ref (A (8 + a)), .int (nI d)]) (n := 7) (Nat.le_of_ble_eq_true rfl)
  rw [lg_entry_eq]
  generalize (lg_sl ([.ref (A 4), .ref (A (8 + a)), .int (nI d)]) ++ List.replicate (7 - (lg_sl ([.ref (A 4), .ref (A (8 + a)), .int (nI d)])).length) Slot.unset).toArray = ls at hl ⊢
  have hl : lv_has ls 7 [(0, .ref (A 4)), (1, .ref (A (8 + a))), (2, .int (nI d))] := hl
  have hP : va_P (dC, dI) vwCl (hfL A cI cQ cl st go hi ma ct tc be co ap tr ac nx) s.heap := hP
  have hD : va_D V (hfL A cI cQ cl st go hi ma ct tc be co ap tr ac nx) := hD
  refine lv_bipush (v := 16) hx hb dX1_step_0 (by decide) ?_
  refine lv_iload_n hx hb dX1_step_2 rfl (lv_at hl 2 rfl) ?_
  refine lv_imul hx hb dX1_step_3 ?_
  refine lv_topi (fun y0 ey0 => ?_)
  obtain rfl : y0 = nI (16 * d) := ey0.trans (pk_mul 16 d)
  refine lv_istore_n (lv' := [(3, .int (nI (16 * d))), (0, .ref (A 4)), (1, .ref (A (8 + a))), (2, .int (nI d))]) hx hb dX1_step_4 rfl hl (by decide) rfl (fun ls hl => ?_)
  refine lv_iconst (v := 0) hx hb dX1_step_5 (by decide) ?_
  refine lv_istore (lv' := [(4, .int 0), (3, .int (nI (16 * d))), (0, .ref (A 4)), (1, .ref (A (8 + a))), (2, .int (nI d))]) hx hb dX1_step_6 hl (by decide) rfl (fun ls hl => ?_)
  refine lv_iconst (v := 0) hx hb dX1_step_8 (by decide) ?_
  refine lv_istore (lv' := [(5, .int 0), (4, .int 0), (3, .int (nI (16 * d))), (0, .ref (A 4)), (1, .ref (A (8 + a))), (2, .int (nI d))]) hx hb dX1_step_9 hl (by decide) rfl (fun ls hl => ?_)
  refine w_loopH (pc := 11) 16 (fun k ls H locs => va_P (dC, dI) vwCl (hfL A cI cQ cl st go hi ma ct tc be (stpN co d (fun j => nI (y (x j))) k) ap tr ac nx) H ∧ va_D V (hfL A cI cQ cl st go hi ma ct tc be (stpN co d (fun j => nI (y (x j))) k) ap tr ac nx) ∧ va_S V s.heap H locs ∧ True ∧ lv_has ls 7 [(0, .ref (A 4)), (1, .ref (A (8 + a))), (2, .int (nI d)), (3, .int (nI (16 * d))), (4, .int (mkN (fun j => bt (ac a 2) (y (x j))) k)), (5, .int (nI k))]) ?_ 0 (Nat.zero_le _) ls _ _ ⟨?_, ?_, hS, trivial, lv_sub hl [3, 4, 5, 2, 1, 0] rfl⟩
  rotate_left
  · rw [stpN_0]; exact hP
  · rw [stpN_0]; exact hD
  intro k ls H locs hk hI ih
  obtain ⟨hP, hD, hS, hEx, hl⟩ := hI
  refine lv_iload hx hb dX1_step_11 (lv_at hl 5 rfl) ?_
  refine lv_bipush (v := 16) hx hb dX1_step_13 (by decide) ?_
  refine lv_icmp_ge (tgt := 68) hx hb dX1_step_15 (by decide) (fun c15_1 => ?_) (fun c15_1 => ?_)
  · skip
    obtain rfl := ctr_ge (N := 16) rfl (by decide) hk c15_1
    refine lv_iconst (v := 0) hx hb dX1_step_68 (by decide) ?_
    refine lv_istore (lv' := [(5, .int 0), (0, .ref (A 4)), (1, .ref (A (8 + a))), (2, .int (nI d)), (3, .int (nI (16 * d))), (4, .int (mk (fun j => bt (ac a 2) (y (x j)))))]) hx hb dX1_step_69 hl (by decide) rfl (fun ls hl => ?_)
    refine w_loopH (pc := 71) 16 (fun k ls H locs => va_P (dC, dI) vwCl (hfL A cI cQ cl st go hi ma ct tc be (stpN co d (fun j => nI (y (x j))) 16) (fillN ap (fun j => ap j ||| (if bt (mk (fun j => bt (ac a 2) (y (x j)))) j = true then (mk (fun j => bt (ac a 2) (y (x j)))) ^^^ (-1) else mk (fun j => bt (ac a 2) (y (x j))))) k) tr ac nx) H ∧ va_D V (hfL A cI cQ cl st go hi ma ct tc be (stpN co d (fun j => nI (y (x j))) 16) (fillN ap (fun j => ap j ||| (if bt (mk (fun j => bt (ac a 2) (y (x j)))) j = true then (mk (fun j => bt (ac a 2) (y (x j)))) ^^^ (-1) else mk (fun j => bt (ac a 2) (y (x j))))) k) tr ac nx) ∧ va_S V s.heap H locs ∧ True ∧ lv_has ls 7 [(0, .ref (A 4)), (1, .ref (A (8 + a))), (2, .int (nI d)), (3, .int (nI (16 * d))), (4, .int (mk (fun j => bt (ac a 2) (y (x j))))), (5, .int (nI k))]) ?_ 0 (Nat.zero_le _) ls _ _ ⟨?_, ?_, hS, trivial, lv_sub hl [1, 2, 3, 4, 5, 0] rfl⟩
    rotate_left
    · rw [fillN_0]; exact hP
    · rw [fillN_0]; exact hD
    intro k ls H locs hk hI ih
    obtain ⟨hP, hD, hS, hEx, hl⟩ := hI
    refine lv_iload hx hb dX1_step_71 (lv_at hl 5 rfl) ?_
    refine lv_bipush (v := 16) hx hb dX1_step_73 (by decide) ?_
    refine lv_icmp_ge (tgt := 113) hx hb dX1_step_75 (by decide) (fun c75_2 => ?_) (fun c75_2 => ?_)
    · skip
      obtain rfl := ctr_ge (N := 16) rfl (by decide) hk c75_2
      exact W.vret hx hb hr (fun t ht hW => ⟨⟨((cl, st, go, hi, ma), (ct, tc), (be, stpN co d (fun j => nI (y (x j))) 16, fillN ap (fun j => ap j ||| (if bt (mk (fun j => bt (ac a 2) (y (x j)))) j = true then (mk (fun j => bt (ac a 2) (y (x j)))) ^^^ (-1) else mk (fun j => bt (ac a 2) (y (x j))))) 16), tr, ac, nx), rfl, rfl, by rw [ht]; exact hP, hD⟩, hS.F ht⟩) hS.2.2 dX1_step_113
    · skip
      have hlt := ctr_lt (N := 16) rfl (by decide) hk c75_2
      refine lv_aload_n hx hb dX1_step_78 rfl (lv_at hl 0 rfl) ?_
      refine va_get (D := (dC, dI)) (ci := 1) (v := .ref (A 6)) (C := RX1) (T := TX1) (N := 3) hx hb hts hinX1 hown hK hP 4 rfl rfl 1 (by decide) (hts _ (List.mem_of_getElem? (i := 2) rfl)) (fun _ h9 => h9) rfl dX1_step_79 ?_
      refine lv_iload hx hb dX1_step_82 (lv_at hl 5 rfl) ?_
      refine lv_dup2_11 hx hb dX1_step_84 rfl rfl ?_
      refine va_iald hx hb hK hP 6 0 rfl rfl (vp_in_nI (show k < 16 by omega) (by decide)) dX1_step_85 ?_
      rw [nI_clamp (show k < 2 ^ 31 by have := (show k < 16 by omega); omega)]
      refine lv_topi (fun y3 ey3 => ?_)
      obtain rfl : y3 = ap k := ey3.trans (fillN_at _ _ (Nat.le_refl k))
      refine lv_iload hx hb dX1_step_86 (lv_at hl 5 rfl) ?_
      refine lv_iload hx hb dX1_step_88 (lv_at hl 4 rfl) ?_
      refine vp_callSi (va_Run.run (va_runSN (As := [.int (nI k), .int (mk (fun j => bt (ac a 2) (y (x j))))]) (rest := [.int (ap k), .int (nI k), .ref (A 6)]) ⟨hx, hb, hml, hown, hts⟩ (c_X3_isIn l (k := k) (by omega) (mk (fun j => bt (ac a 2) (y (x j))))) ⟨va_cnB (host := RX3) 2 hts gX1_step_X3_isIn_n31 rfl rfl rfl (hX.2.1 _ (List.mem_of_getElem? (i := 9) rfl)) (hts _ (List.mem_of_getElem? (i := 10) rfl)) (by decide +kernel) ⟨Nat.le_of_ble_eq_true rfl, Nat.le_of_ble_eq_true rfl⟩, hts _ (List.mem_of_getElem? (i := 9) rfl), trivial⟩ ⟨bl_T, fun U hU hW => ⟨rfl, trivial⟩⟩ rfl rfl hl.1 rfl (lv_room (Nat.le_of_ble_eq_true rfl)) dX1_step_90 ⟨Nat.zero_le _, Nat.zero_le _⟩)) (fun r er => ?_)
      subst er
      refine lv_if_eq (tgt := 103) hx hb dX1_step_93 (by decide) (fun c93_4 => ?_) (fun c93_4 => ?_)
      · skip
        refine lv_iload hx hb dX1_step_103 (lv_at hl 4 rfl) ?_
        refine lv_ior hx hb dX1_step_105 ?_
        refine va_iast hx hb hK hP hD hS 6 0 rfl rfl (vp_in_nI (show k < 16 by omega) (by decide)) dX1_step_106 (fun H locs hP hD hS => ?_)
        rw [nI_clamp (show k < 2 ^ 31 by have := (show k < 16 by omega); omega)] at hP hD
        rw [show upd (fillN ap (fun j => ap j ||| (if bt (mk (fun j => bt (ac a 2) (y (x j)))) j = true then (mk (fun j => bt (ac a 2) (y (x j)))) ^^^ (-1) else mk (fun j => bt (ac a 2) (y (x j))))) k) k ((ap k) ||| (mk (fun j => bt (ac a 2) (y (x j))))) = fillN ap (fun j => ap j ||| (if bt (mk (fun j => bt (ac a 2) (y (x j)))) j = true then (mk (fun j => bt (ac a 2) (y (x j)))) ^^^ (-1) else mk (fun j => bt (ac a 2) (y (x j))))) (k + 1) from fillN_s ap (fun j => ap j ||| (if bt (mk (fun j => bt (ac a 2) (y (x j)))) j = true then (mk (fun j => bt (ac a 2) (y (x j)))) ^^^ (-1) else mk (fun j => bt (ac a 2) (y (x j))))) k (by show _ = ap k ||| _; rw [if_neg (by rw [b2i_0.mp c93_4]; decide)])] at hP hD
        have hP : va_P (dC, dI) vwCl (hfL A cI cQ cl st go hi ma ct tc be (stpN co d (fun j => nI (y (x j))) 16) (fillN ap (fun j => ap j ||| (if bt (mk (fun j => bt (ac a 2) (y (x j)))) j = true then (mk (fun j => bt (ac a 2) (y (x j)))) ^^^ (-1) else mk (fun j => bt (ac a 2) (y (x j))))) (k + 1)) tr ac nx) H := hP
        have hD : va_D V (hfL A cI cQ cl st go hi ma ct tc be (stpN co d (fun j => nI (y (x j))) 16) (fillN ap (fun j => ap j ||| (if bt (mk (fun j => bt (ac a 2) (y (x j)))) j = true then (mk (fun j => bt (ac a 2) (y (x j)))) ^^^ (-1) else mk (fun j => bt (ac a 2) (y (x j))))) (k + 1)) tr ac nx) := hD
        obtain ⟨y5, ey5⟩ : ∃ y : Int32, y = (nI k) + 1 := ⟨_, rfl⟩
        refine lv_iinc (v := y5) (lv' := [(5, .int y5), (0, .ref (A 4)), (1, .ref (A (8 + a))), (2, .int (nI d)), (3, .int (nI (16 * d))), (4, .int (mk (fun j => bt (ac a 2) (y (x j)))))]) hx hb dX1_step_107 hl (k := 5) rfl (by rw [ey5]; rfl) (by decide) rfl (fun ls hl => ?_)
        obtain rfl : y5 = nI (k + 1) := ey5.trans (nI_1 k)
        refine lv_goto (tgt := 71) hx hb dX1_step_110 (by decide) ?_
        exact ih ls H locs ⟨hP, hD, hS, trivial, lv_sub hl [1, 2, 3, 4, 5, 0] rfl⟩ hlt
      · skip
        refine lv_iload hx hb dX1_step_96 (lv_at hl 4 rfl) ?_
        refine lv_iconst (v := (-1)) hx hb dX1_step_98 (by decide) ?_
        refine lv_ixor hx hb dX1_step_99 ?_
        refine lv_goto (tgt := 105) hx hb dX1_step_100 (by decide) ?_
        refine lv_ior hx hb dX1_step_105 ?_
        refine va_iast hx hb hK hP hD hS 6 0 rfl rfl (vp_in_nI (show k < 16 by omega) (by decide)) dX1_step_106 (fun H locs hP hD hS => ?_)
        rw [nI_clamp (show k < 2 ^ 31 by have := (show k < 16 by omega); omega)] at hP hD
        rw [show upd (fillN ap (fun j => ap j ||| (if bt (mk (fun j => bt (ac a 2) (y (x j)))) j = true then (mk (fun j => bt (ac a 2) (y (x j)))) ^^^ (-1) else mk (fun j => bt (ac a 2) (y (x j))))) k) k ((ap k) ||| ((mk (fun j => bt (ac a 2) (y (x j)))) ^^^ (-1))) = fillN ap (fun j => ap j ||| (if bt (mk (fun j => bt (ac a 2) (y (x j)))) j = true then (mk (fun j => bt (ac a 2) (y (x j)))) ^^^ (-1) else mk (fun j => bt (ac a 2) (y (x j))))) (k + 1) from fillN_s ap (fun j => ap j ||| (if bt (mk (fun j => bt (ac a 2) (y (x j)))) j = true then (mk (fun j => bt (ac a 2) (y (x j)))) ^^^ (-1) else mk (fun j => bt (ac a 2) (y (x j))))) k (by show _ = ap k ||| _; rw [if_pos (b2i_n0.mp c93_4)])] at hP hD
        have hP : va_P (dC, dI) vwCl (hfL A cI cQ cl st go hi ma ct tc be (stpN co d (fun j => nI (y (x j))) 16) (fillN ap (fun j => ap j ||| (if bt (mk (fun j => bt (ac a 2) (y (x j)))) j = true then (mk (fun j => bt (ac a 2) (y (x j)))) ^^^ (-1) else mk (fun j => bt (ac a 2) (y (x j))))) (k + 1)) tr ac nx) H := hP
        have hD : va_D V (hfL A cI cQ cl st go hi ma ct tc be (stpN co d (fun j => nI (y (x j))) 16) (fillN ap (fun j => ap j ||| (if bt (mk (fun j => bt (ac a 2) (y (x j)))) j = true then (mk (fun j => bt (ac a 2) (y (x j)))) ^^^ (-1) else mk (fun j => bt (ac a 2) (y (x j))))) (k + 1)) tr ac nx) := hD
        obtain ⟨y6, ey6⟩ : ∃ y : Int32, y = (nI k) + 1 := ⟨_, rfl⟩
        refine lv_iinc (v := y6) (lv' := [(5, .int y6), (0, .ref (A 4)), (1, .ref (A (8 + a))), (2, .int (nI d)), (3, .int (nI (16 * d))), (4, .int (mk (fun j => bt (ac a 2) (y (x j)))))]) hx hb dX1_step_107 hl (k := 5) rfl (by rw [ey6]; rfl) (by decide) rfl (fun ls hl => ?_)
        obtain rfl : y6 = nI (k + 1) := ey6.trans (nI_1 k)
        refine lv_goto (tgt := 71) hx hb dX1_step_110 (by decide) ?_
        exact ih ls H locs ⟨hP, hD, hS, trivial, lv_sub hl [1, 2, 3, 4, 5, 0] rfl⟩ hlt
  · skip
    have hlt := ctr_lt (N := 16) rfl (by decide) hk c15_1
    refine lv_aload_n hx hb dX1_step_18 rfl (lv_at hl 1 rfl) ?_
    refine va_getN (D := (dC, dI)) (host := RX3) (ci := 0) (v := .ref (A (16 + a))) (C := RX0) (T := TX0) (N := 5) hx hb hts hinX0 hown hK hP (8 + a) (hf_act ha) rfl 4 (by decide) (va_Nw.use rfl (hX.2.1 _ (List.mem_of_getElem? (i := 6) rfl))) (fun _ h9 => h9) rfl dX1_step_19 ?_
    refine lv_aload_n hx hb dX1_step_22 rfl (lv_at hl 0 rfl) ?_
    refine va_get (D := (dC, dI)) (ci := 1) (v := .ref (A 5)) (C := RX1) (T := TX1) (N := 3) hx hb hts hinX1 hown hK hP 4 rfl rfl 0 (by decide) (hts _ (List.mem_of_getElem? (i := 1) rfl)) (fun _ h9 => h9) rfl dX1_step_23 ?_
    refine lv_iload_n hx hb dX1_step_26 rfl (lv_at hl 3 rfl) ?_
    refine lv_iload hx hb dX1_step_27 (lv_at hl 5 rfl) ?_
    refine lv_iadd hx hb dX1_step_29 ?_
    refine lv_topi (fun y7 ey7 => ?_)
    obtain rfl : y7 = nI (16 * d + k) := ey7.trans (nI_add (16 * d) k)
    refine va_iald hx hb hK hP 5 0 rfl rfl (vp_in_nI (show (16 * d + k) < 64 by omega) (by decide)) dX1_step_30 ?_
    rw [nI_clamp (show (16 * d + k) < 2 ^ 31 by have := (show (16 * d + k) < 64 by omega); omega)]
    refine lv_topi (fun y8 ey8 => ?_)
    obtain rfl : y8 = nI (x k) := ey8.trans (by rw [stpN_lo _ _ _ (by omega)]; exact (hx1 k hlt).1)
    refine va_iald hx hb hK hP (16 + a) 0 (hf_nxt ha) rfl (vp_in_nI (show (x k) < 16 by exact (hx1 k hlt).2) (by decide)) dX1_step_31 ?_
    rw [nI_clamp (show (x k) < 2 ^ 31 by have := (show (x k) < 16 by exact (hx1 k hlt).2); omega)]
    refine lv_topi (fun y9 ey9 => ?_)
    obtain rfl : y9 = nI (y (x k)) := ey9.trans ((hy1 (x k) (hx1 k hlt).2).1)
    refine lv_istore (lv' := [(6, .int (nI (y (x k)))), (0, .ref (A 4)), (1, .ref (A (8 + a))), (2, .int (nI d)), (3, .int (nI (16 * d))), (4, .int (mkN (fun j => bt (ac a 2) (y (x j))) k)), (5, .int (nI k))]) hx hb dX1_step_32 hl (by decide) rfl (fun ls hl => ?_)
    refine lv_aload_n hx hb dX1_step_34 rfl (lv_at hl 1 rfl) ?_
    refine va_get (D := (dC, dI)) (ci := 1) (v := .ref (A 5)) (C := RX1) (T := TX1) (N := 3) hx hb hts hinX1 hown hK hP 4 rfl rfl 0 (by decide) (hts _ (List.mem_of_getElem? (i := 1) rfl)) (fun _ h9 => h9) rfl dX1_step_35 ?_
    refine lv_iload_n hx hb dX1_step_38 rfl (lv_at hl 4 rfl) ?_
    refine lv_bipush (v := 16) hx hb dX1_step_39 (by decide) ?_
    refine lv_iadd hx hb dX1_step_41 ?_
    refine lv_topi (fun y10 ey10 => ?_)
    obtain rfl : y10 = nI (16 * d + 16) := ey10.trans (nI_add (16 * d) 16)
    refine lv_iload hx hb dX1_step_42 (lv_at hl 6 rfl) ?_
    refine lv_iadd hx hb dX1_step_44 ?_
    refine lv_topi (fun y11 ey11 => ?_)
    obtain rfl : y11 = nI (16 * d + 16 + k) := ey11.trans (nI_add (16 * d + 16) k)
    refine lv_iload hx hb dX1_step_45 (lv_at hl 0 rfl) ?_
    refine va_iast hx hb hK hP hD hS 5 0 rfl rfl (vp_in_nI (show (16 * d + 16 + k) < 64 by omega) (by decide)) dX1_step_47 (fun H locs hP hD hS => ?_)
    rw [nI_clamp (show (16 * d + 16 + k) < 2 ^ 31 by have := (show (16 * d + 16 + k) < 64 by omega); omega)] at hP hD
    rw [show upd (stpN co d (fun j => nI (y (x j))) k) (16 * d + 16 + k) (nI (y (x k))) = stpN co d (fun j => nI (y (x j))) (k + 1) from stpN_s co d (fun j => nI (y (x j))) k rfl] at hP hD
    have hP : va_P (dC, dI) vwCl (hfL A cI cQ cl st go hi ma ct tc be (stpN co d (fun j => nI (y (x j))) (k + 1)) ap tr ac nx) H := hP
    have hD : va_D V (hfL A cI cQ cl st go hi ma ct tc be (stpN co d (fun j => nI (y (x j))) (k + 1)) ap tr ac nx) := hD
    refine lv_iload hx hb dX1_step_48 (lv_at hl 5 rfl) ?_
    refine lv_aload_n hx hb dX1_step_50 rfl (lv_at hl 2 rfl) ?_
    refine lv_iload hx hb dX1_step_51 (lv_at hl 0 rfl) ?_
    refine vp_callSi (W.runV (As := [.int (nI (y (x k)))]) (rest := [.int (mkN (fun j => bt (ac a 2) (y (x j))) k)]) ⟨hx, hb, hml, hown, hts⟩ (c_X0_sensed l dC dI A cI cQ ((cl, st, go, hi, ma), (ct, tc), (be, stpN co d (fun j => nI (y (x j))) (k + 1), ap), tr, ac, nx) ha (k := y (x k)) (hy1 (x k) (hx1 k hlt).2).2) (cwV 1 hts gX1_step_X0_sensed rfl rfl rfl (by decide +kernel) ⟨Nat.le_of_ble_eq_true rfl, Nat.le_of_ble_eq_true rfl⟩) ⟨bl_P, va_recv hK hP (ci := 0) (q0 := 8 + a) rfl (hf_act ha), fun U hU hW => ⟨rfl, by rw [hU]; exact hP, hX.warm hW⟩⟩ rfl rfl hl.1 rfl (lv_room (Nat.le_of_ble_eq_true rfl)) dX1_step_53 ⟨Nat.zero_le _, Nat.zero_le _⟩) (fun r er => ?_)
    subst er
    refine lv_iload hx hb dX1_step_56 (lv_at hl 6 rfl) ?_
    refine lv_ishl hx hb dX1_step_58 ?_
    refine lv_ior hx hb dX1_step_59 ?_
    refine lv_topi (fun y12 ey12 => ?_)
    obtain rfl : y12 = mkN (fun j => bt (ac a 2) (y (x j))) (k + 1) := ey12.trans (mkN_or (fun j => bt (ac a 2) (y (x j))) (by omega))
    refine lv_istore (lv' := [(4, .int (mkN (fun j => bt (ac a 2) (y (x j))) (k + 1))), (6, .int (nI (y (x k)))), (0, .ref (A 4)), (1, .ref (A (8 + a))), (2, .int (nI d)), (3, .int (nI (16 * d))), (5, .int (nI k))]) hx hb dX1_step_60 hl (by decide) rfl (fun ls hl => ?_)
    obtain ⟨y13, ey13⟩ : ∃ y : Int32, y = (nI k) + 1 := ⟨_, rfl⟩
    refine lv_iinc (v := y13) (lv' := [(5, .int y13), (4, .int (mkN (fun j => bt (ac a 2) (y (x j))) (k + 1))), (6, .int (nI (y (x k)))), (0, .ref (A 4)), (1, .ref (A (8 + a))), (2, .int (nI d)), (3, .int (nI (16 * d)))]) hx hb dX1_step_62 hl (k := 6) rfl (by rw [ey13]; rfl) (by decide) rfl (fun ls hl => ?_)
    obtain rfl : y13 = nI (k + 1) := ey13.trans (nI_1 k)
    refine lv_goto (tgt := 11) hx hb dX1_step_65 (by decide) ?_
    exact ih ls H locs ⟨hP, hD, hS, trivial, lv_sub hl [3, 4, 5, 6, 1, 0] rfl⟩ hlt
end
