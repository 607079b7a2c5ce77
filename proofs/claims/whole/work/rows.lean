section
-- ===== PART A: goes FIRST, ahead of the names: the tables' words, and 'selects' of the private methods out of them =====
/-- a private method of a class that the tables say can be made, by its rows of tables_1 -/
def lw_okq (q : MethodName × Nat) : Prop := (q.1.cls ≠ "java/lang/invoke/MethodHandle" ∧ q.1.cls ≠ "java/lang/invoke/VarHandle") ∧ Cond.instantiable q.1.cls q.2 ∈ tables_1 ∧ Cond.privateMethod q.1 ∈ tables_1 ∧ Cond.instanceMethod q.1 ∈ tables_1
theorem lw_p0 : lw_okq (⟨"HiddenFacts", "forgetAll", "()V"⟩, 9) := ⟨⟨by decide +kernel, by decide +kernel⟩, List.mem_of_getElem? (i := 16) (by decide +kernel), List.mem_of_getElem? (i := 82) (by decide +kernel), List.mem_of_getElem? (i := 83) (by decide +kernel)⟩
theorem lw_p1 : lw_okq (⟨"java/lang/Throwable", "fillInStackTrace", "(I)Ljava/lang/Throwable;"⟩, 6) := ⟨⟨by decide +kernel, by decide +kernel⟩, List.mem_of_getElem? (i := 187) (by decide +kernel), List.mem_of_getElem? (i := 185) (by decide +kernel), List.mem_of_getElem? (i := 186) (by decide +kernel)⟩
theorem lw_p2 : lw_okq (⟨"HiddenFacts", "needThere", "(I)V"⟩, 9) := ⟨⟨by decide +kernel, by decide +kernel⟩, List.mem_of_getElem? (i := 16) (by decide +kernel), List.mem_of_getElem? (i := 255) (by decide +kernel), List.mem_of_getElem? (i := 256) (by decide +kernel)⟩
theorem lw_p3 : lw_okq (⟨"HiddenFacts", "fewest", "(II)I"⟩, 9) := ⟨⟨by decide +kernel, by decide +kernel⟩, List.mem_of_getElem? (i := 16) (by decide +kernel), List.mem_of_getElem? (i := 368) (by decide +kernel), List.mem_of_getElem? (i := 369) (by decide +kernel)⟩
theorem lw_p4 : lw_okq (⟨"HiddenFacts", "solved", "(II)Z"⟩, 9) := ⟨⟨by decide +kernel, by decide +kernel⟩, List.mem_of_getElem? (i := 16) (by decide +kernel), List.mem_of_getElem? (i := 372) (by decide +kernel), List.mem_of_getElem? (i := 373) (by decide +kernel)⟩
theorem lw_p5 : lw_okq (⟨"HiddenFacts", "reached", "(I)Z"⟩, 9) := ⟨⟨by decide +kernel, by decide +kernel⟩, List.mem_of_getElem? (i := 16) (by decide +kernel), List.mem_of_getElem? (i := 376) (by decide +kernel), List.mem_of_getElem? (i := 377) (by decide +kernel)⟩
theorem lw_p6 : lw_okq (⟨"HiddenFacts", "leastAction", "(II)I"⟩, 9) := ⟨⟨by decide +kernel, by decide +kernel⟩, List.mem_of_getElem? (i := 16) (by decide +kernel), List.mem_of_getElem? (i := 380) (by decide +kernel), List.mem_of_getElem? (i := 381) (by decide +kernel)⟩
theorem lw_p7 : lw_okq (⟨"HiddenFacts", "solves", "(LHiddenFacts$Action;II)Z"⟩, 9) := ⟨⟨by decide +kernel, by decide +kernel⟩, List.mem_of_getElem? (i := 16) (by decide +kernel), List.mem_of_getElem? (i := 384) (by decide +kernel), List.mem_of_getElem? (i := 385) (by decide +kernel)⟩
theorem lw_p8 : lw_okq (⟨"HiddenFacts", "grow", "(II)I"⟩, 9) := ⟨⟨by decide +kernel, by decide +kernel⟩, List.mem_of_getElem? (i := 16) (by decide +kernel), List.mem_of_getElem? (i := 404) (by decide +kernel), List.mem_of_getElem? (i := 405) (by decide +kernel)⟩
theorem lw_p9 : lw_okq (⟨"HiddenFacts", "growPart", "(II)I"⟩, 9) := ⟨⟨by decide +kernel, by decide +kernel⟩, List.mem_of_getElem? (i := 16) (by decide +kernel), List.mem_of_getElem? (i := 424) (by decide +kernel), List.mem_of_getElem? (i := 425) (by decide +kernel)⟩
theorem lw_p10 : lw_okq (⟨"HiddenFacts", "needNode", "(I)V"⟩, 9) := ⟨⟨by decide +kernel, by decide +kernel⟩, List.mem_of_getElem? (i := 16) (by decide +kernel), List.mem_of_getElem? (i := 435) (by decide +kernel), List.mem_of_getElem? (i := 436) (by decide +kernel)⟩
theorem lw_p11 : lw_okq (⟨"HiddenFacts", "needPlan", "()V"⟩, 9) := ⟨⟨by decide +kernel, by decide +kernel⟩, List.mem_of_getElem? (i := 16) (by decide +kernel), List.mem_of_getElem? (i := 458) (by decide +kernel), List.mem_of_getElem? (i := 459) (by decide +kernel)⟩
theorem lw_p12 : lw_okq (⟨"HiddenFacts", "fits", "(III)Z"⟩, 9) := ⟨⟨by decide +kernel, by decide +kernel⟩, List.mem_of_getElem? (i := 16) (by decide +kernel), List.mem_of_getElem? (i := 463) (by decide +kernel), List.mem_of_getElem? (i := 464) (by decide +kernel)⟩
theorem lw_p13 : lw_okq (⟨"HiddenFacts", "carryOut", "()Z"⟩, 9) := ⟨⟨by decide +kernel, by decide +kernel⟩, List.mem_of_getElem? (i := 16) (by decide +kernel), List.mem_of_getElem? (i := 484) (by decide +kernel), List.mem_of_getElem? (i := 485) (by decide +kernel)⟩
theorem lw_p14 : lw_okq (⟨"HiddenFacts", "look", "(II)V"⟩, 9) := ⟨⟨by decide +kernel, by decide +kernel⟩, List.mem_of_getElem? (i := 16) (by decide +kernel), List.mem_of_getElem? (i := 511) (by decide +kernel), List.mem_of_getElem? (i := 512) (by decide +kernel)⟩
theorem lw_p15 : lw_okq (⟨"HiddenFactsModel", "fail", "(I)I"⟩, 33) := ⟨⟨by decide +kernel, by decide +kernel⟩, List.mem_of_getElem? (i := 526) (by decide +kernel), List.mem_of_getElem? (i := 648) (by decide +kernel), List.mem_of_getElem? (i := 649) (by decide +kernel)⟩
def lw_privs_1 : List (MethodName × Nat) := [(⟨"HiddenFacts", "forgetAll", "()V"⟩, 9), (⟨"java/lang/Throwable", "fillInStackTrace", "(I)Ljava/lang/Throwable;"⟩, 6), (⟨"HiddenFacts", "needThere", "(I)V"⟩, 9), (⟨"HiddenFacts", "fewest", "(II)I"⟩, 9), (⟨"HiddenFacts", "solved", "(II)Z"⟩, 9), (⟨"HiddenFacts", "reached", "(I)Z"⟩, 9), (⟨"HiddenFacts", "leastAction", "(II)I"⟩, 9), (⟨"HiddenFacts", "solves", "(LHiddenFacts$Action;II)Z"⟩, 9), (⟨"HiddenFacts", "grow", "(II)I"⟩, 9), (⟨"HiddenFacts", "growPart", "(II)I"⟩, 9), (⟨"HiddenFacts", "needNode", "(I)V"⟩, 9), (⟨"HiddenFacts", "needPlan", "()V"⟩, 9), (⟨"HiddenFacts", "fits", "(III)Z"⟩, 9), (⟨"HiddenFacts", "carryOut", "()Z"⟩, 9), (⟨"HiddenFacts", "look", "(II)V"⟩, 9), (⟨"HiddenFactsModel", "fail", "(I)I"⟩, 33)]
theorem lw_r1 : ∀ q ∈ lw_privs_1, lw_okq q := List.forall_mem_cons.mpr ⟨lw_p0, List.forall_mem_cons.mpr ⟨lw_p1, List.forall_mem_cons.mpr ⟨lw_p2, List.forall_mem_cons.mpr ⟨lw_p3, List.forall_mem_cons.mpr ⟨lw_p4, List.forall_mem_cons.mpr ⟨lw_p5, List.forall_mem_cons.mpr ⟨lw_p6, List.forall_mem_cons.mpr ⟨lw_p7, List.forall_mem_cons.mpr ⟨lw_p8, List.forall_mem_cons.mpr ⟨lw_p9, List.forall_mem_cons.mpr ⟨lw_p10, List.forall_mem_cons.mpr ⟨lw_p11, List.forall_mem_cons.mpr ⟨lw_p12, List.forall_mem_cons.mpr ⟨lw_p13, List.forall_mem_cons.mpr ⟨lw_p14, List.forall_mem_cons.mpr ⟨lw_p15, fun _ h => absurd h List.not_mem_nil⟩⟩⟩⟩⟩⟩⟩⟩⟩⟩⟩⟩⟩⟩⟩⟩
theorem lw_p16 : lw_okq (⟨"HiddenFactsModel", "startBelief", "()I"⟩, 33) := ⟨⟨by decide +kernel, by decide +kernel⟩, List.mem_of_getElem? (i := 526) (by decide +kernel), List.mem_of_getElem? (i := 674) (by decide +kernel), List.mem_of_getElem? (i := 675) (by decide +kernel)⟩
theorem lw_p17 : lw_okq (⟨"HiddenFactsModel", "usable", "(II)Z"⟩, 33) := ⟨⟨by decide +kernel, by decide +kernel⟩, List.mem_of_getElem? (i := 526) (by decide +kernel), List.mem_of_getElem? (i := 683) (by decide +kernel), List.mem_of_getElem? (i := 684) (by decide +kernel)⟩
theorem lw_p18 : lw_okq (⟨"HiddenFactsModel", "after", "(II)I"⟩, 33) := ⟨⟨by decide +kernel, by decide +kernel⟩, List.mem_of_getElem? (i := 526) (by decide +kernel), List.mem_of_getElem? (i := 687) (by decide +kernel), List.mem_of_getElem? (i := 688) (by decide +kernel)⟩
theorem lw_p19 : lw_okq (⟨"HiddenFactsModel", "next", "(II)I"⟩, 33) := ⟨⟨by decide +kernel, by decide +kernel⟩, List.mem_of_getElem? (i := 526) (by decide +kernel), List.mem_of_getElem? (i := 691) (by decide +kernel), List.mem_of_getElem? (i := 692) (by decide +kernel)⟩
theorem lw_p20 : lw_okq (⟨"HiddenFactsModel", "leastFor", "(II)I"⟩, 33) := ⟨⟨by decide +kernel, by decide +kernel⟩, List.mem_of_getElem? (i := 526) (by decide +kernel), List.mem_of_getElem? (i := 699) (by decide +kernel), List.mem_of_getElem? (i := 700) (by decide +kernel)⟩
theorem lw_p21 : lw_okq (⟨"HiddenFactsModel", "solved", "(II)Z"⟩, 33) := ⟨⟨by decide +kernel, by decide +kernel⟩, List.mem_of_getElem? (i := 526) (by decide +kernel), List.mem_of_getElem? (i := 703) (by decide +kernel), List.mem_of_getElem? (i := 704) (by decide +kernel)⟩
theorem lw_p22 : lw_okq (⟨"HiddenFactsModel", "reached", "(I)Z"⟩, 33) := ⟨⟨by decide +kernel, by decide +kernel⟩, List.mem_of_getElem? (i := 526) (by decide +kernel), List.mem_of_getElem? (i := 707) (by decide +kernel), List.mem_of_getElem? (i := 708) (by decide +kernel)⟩
theorem lw_p23 : lw_okq (⟨"HiddenFactsModel", "part", "(III)I"⟩, 33) := ⟨⟨by decide +kernel, by decide +kernel⟩, List.mem_of_getElem? (i := 526) (by decide +kernel), List.mem_of_getElem? (i := 711) (by decide +kernel), List.mem_of_getElem? (i := 712) (by decide +kernel)⟩
theorem lw_p24 : lw_okq (⟨"HiddenFactsModel", "build", "(II)V"⟩, 33) := ⟨⟨by decide +kernel, by decide +kernel⟩, List.mem_of_getElem? (i := 526) (by decide +kernel), List.mem_of_getElem? (i := 719) (by decide +kernel), List.mem_of_getElem? (i := 720) (by decide +kernel)⟩
theorem lw_p25 : lw_okq (⟨"HiddenFactsModel", "choose", "(II)V"⟩, 33) := ⟨⟨by decide +kernel, by decide +kernel⟩, List.mem_of_getElem? (i := 526) (by decide +kernel), List.mem_of_getElem? (i := 726) (by decide +kernel), List.mem_of_getElem? (i := 727) (by decide +kernel)⟩
theorem lw_p26 : lw_okq (⟨"HiddenFactsModel", "partSolved", "(IIII)Z"⟩, 33) := ⟨⟨by decide +kernel, by decide +kernel⟩, List.mem_of_getElem? (i := 526) (by decide +kernel), List.mem_of_getElem? (i := 730) (by decide +kernel), List.mem_of_getElem? (i := 731) (by decide +kernel)⟩
theorem lw_p27 : lw_okq (⟨"HiddenFactsModel", "equal", "(II)Z"⟩, 33) := ⟨⟨by decide +kernel, by decide +kernel⟩, List.mem_of_getElem? (i := 526) (by decide +kernel), List.mem_of_getElem? (i := 734) (by decide +kernel), List.mem_of_getElem? (i := 735) (by decide +kernel)⟩
theorem lw_p28 : lw_okq (⟨"HiddenFactsModel", "classOf", "(I)I"⟩, 33) := ⟨⟨by decide +kernel, by decide +kernel⟩, List.mem_of_getElem? (i := 526) (by decide +kernel), List.mem_of_getElem? (i := 738) (by decide +kernel), List.mem_of_getElem? (i := 739) (by decide +kernel)⟩
theorem lw_p29 : lw_okq (⟨"HiddenFactsModel", "number", "()V"⟩, 33) := ⟨⟨by decide +kernel, by decide +kernel⟩, List.mem_of_getElem? (i := 526) (by decide +kernel), List.mem_of_getElem? (i := 742) (by decide +kernel), List.mem_of_getElem? (i := 743) (by decide +kernel)⟩
theorem lw_p30 : lw_okq (⟨"HiddenFactsModel", "beliefAt", "(II)I"⟩, 33) := ⟨⟨by decide +kernel, by decide +kernel⟩, List.mem_of_getElem? (i := 526) (by decide +kernel), List.mem_of_getElem? (i := 782) (by decide +kernel), List.mem_of_getElem? (i := 783) (by decide +kernel)⟩
theorem lw_p31 : lw_okq (⟨"HiddenFactsModel", "make", "(II)V"⟩, 33) := ⟨⟨by decide +kernel, by decide +kernel⟩, List.mem_of_getElem? (i := 526) (by decide +kernel), List.mem_of_getElem? (i := 786) (by decide +kernel), List.mem_of_getElem? (i := 787) (by decide +kernel)⟩
def lw_privs_2 : List (MethodName × Nat) := [(⟨"HiddenFactsModel", "startBelief", "()I"⟩, 33), (⟨"HiddenFactsModel", "usable", "(II)Z"⟩, 33), (⟨"HiddenFactsModel", "after", "(II)I"⟩, 33), (⟨"HiddenFactsModel", "next", "(II)I"⟩, 33), (⟨"HiddenFactsModel", "leastFor", "(II)I"⟩, 33), (⟨"HiddenFactsModel", "solved", "(II)Z"⟩, 33), (⟨"HiddenFactsModel", "reached", "(I)Z"⟩, 33), (⟨"HiddenFactsModel", "part", "(III)I"⟩, 33), (⟨"HiddenFactsModel", "build", "(II)V"⟩, 33), (⟨"HiddenFactsModel", "choose", "(II)V"⟩, 33), (⟨"HiddenFactsModel", "partSolved", "(IIII)Z"⟩, 33), (⟨"HiddenFactsModel", "equal", "(II)Z"⟩, 33), (⟨"HiddenFactsModel", "classOf", "(I)I"⟩, 33), (⟨"HiddenFactsModel", "number", "()V"⟩, 33), (⟨"HiddenFactsModel", "beliefAt", "(II)I"⟩, 33), (⟨"HiddenFactsModel", "make", "(II)V"⟩, 33)]
theorem lw_r2 : ∀ q ∈ lw_privs_2, lw_okq q := List.forall_mem_cons.mpr ⟨lw_p16, List.forall_mem_cons.mpr ⟨lw_p17, List.forall_mem_cons.mpr ⟨lw_p18, List.forall_mem_cons.mpr ⟨lw_p19, List.forall_mem_cons.mpr ⟨lw_p20, List.forall_mem_cons.mpr ⟨lw_p21, List.forall_mem_cons.mpr ⟨lw_p22, List.forall_mem_cons.mpr ⟨lw_p23, List.forall_mem_cons.mpr ⟨lw_p24, List.forall_mem_cons.mpr ⟨lw_p25, List.forall_mem_cons.mpr ⟨lw_p26, List.forall_mem_cons.mpr ⟨lw_p27, List.forall_mem_cons.mpr ⟨lw_p28, List.forall_mem_cons.mpr ⟨lw_p29, List.forall_mem_cons.mpr ⟨lw_p30, List.forall_mem_cons.mpr ⟨lw_p31, fun _ h => absurd h List.not_mem_nil⟩⟩⟩⟩⟩⟩⟩⟩⟩⟩⟩⟩⟩⟩⟩⟩
def lw_privs : List (MethodName × Nat) := lw_privs_1 ++ (lw_privs_2)
def lw_tbl : List Cond := k2_sels lw_privs ++ tables_1
theorem lw_privs_ok : ∀ q ∈ lw_privs, lw_okq q := by
  show ∀ q ∈ lw_privs_1 ++ (lw_privs_2), lw_okq q
  exact List.forall_mem_append.mpr ⟨lw_r1, lw_r2⟩
-- ===== end of PART A; then your names; then what follows =====
end
section
/-! A thrown object on its way through a table of handlers whose classes may not be resolved yet: one entry, then the whole row of entries. -/
section XC
variable {e : Env} {f : JFrame} {a : Addr} {cell : Cell}
theorem xc_one {s : State} {Q : Handler → Pre} {E : CtlPost} {d : Bool} {acts : List Action} {x : ExceptionTableEntry} {t : List ExceptionTableEntry} {c : ClassId} (hx : covers x f.pc = true) (h0 : x.catchType ≠ 0)
    (hl : s.vm.ClassLinks e.platform f.method.cls x.catchType c) (hcell : s.heap[a]? = some cell) (hobj : ∀ k, cell.vm ≠ .statics k)
    (hk : ∃ k, s.vm.classes[cell.cls]? = some k) (hc : ∃ k, s.vm.classes[c]? = some k) :
    wp (findHandler.go f a (x :: t)) Q E e d acts s ↔
      if s.vm.assignable cell.cls c = true then Q (.found x.handlerPc) d acts (s.setVm (s.vm.noted f.method.cls x.catchType (.cls c))) else wp (findHandler.go f a t) Q E e d acts (s.setVm (s.vm.noted f.method.cls x.catchType (.cls c))) := by
  simp only [covers] at hx
  obtain ⟨ha, ht⟩ := (resolveClass_links e.toSetting hl).op (op := VmOp.resolveClass f.method.cls x.catchType) rfl
  have hal : s.vm.Alike (s.vm.noted f.method.cls x.catchType (.cls c)) := (Vm.Alike.refl s.vm).noted _ _ _
  obtain ⟨k1, hk1⟩ := hk
  obtain ⟨k2, hk2⟩ := hc
  obtain ⟨k1', hk1', -⟩ := hal.2.2 _ _ hk1
  obtain ⟨k2', hk2', -⟩ := hal.2.2 _ _ hk2
  have has : (s.vm.noted f.method.cls x.catchType (.cls c)).assignable cell.cls c = s.vm.assignable cell.cls c := hal.assignable _ _
  cases hfit : s.vm.assignable cell.cls c <;> rw [hfit] at has <;>
    simp [findHandler.go, hx, h0, ha, ht, hcell, hobj, hk1', hk2', has, VmOp.dirties, VmOp.acts]
theorem xc_row {s0 : State} (hobj : ∀ k, cell.vm ≠ .statics k) (hk0 : ∃ k, s0.vm.classes[cell.cls]? = some k)
    (x : ExceptionTableEntry) (rest : List ExceptionTableEntry) (hx : covers x f.pc = true) (h0 : x.catchType ≠ 0) {c : ClassId} (hl : s0.vm.ClassLinks e.platform f.method.cls x.catchType c) (hfit : s0.vm.assignable cell.cls c = true) :
    ∀ (pre : List ExceptionTableEntry) (S : State), s0.WarmedH S.vm → S.heap[a]? = some cell → (∀ y ∈ pre, covers y f.pc = false ∨ (y.catchType ≠ 0 ∧ ∃ c1, s0.vm.ClassLinks e.platform f.method.cls y.catchType c1 ∧ s0.vm.assignable cell.cls c1 = false)) →
      ∃ vm', s0.WarmedH vm' ∧ ∀ (Q : Handler → Pre) (E : CtlPost) (d : Bool) (acts : List Action), wp (findHandler.go f a (pre ++ x :: rest)) Q E e d acts S ↔ Q (.found x.handlerPc) d acts (S.setVm vm') := by
  obtain ⟨k0, hk0⟩ := hk0
  have one : ∀ (y : ExceptionTableEntry) (c1 : ClassId) (S : State), s0.WarmedH S.vm → s0.vm.ClassLinks e.platform f.method.cls y.catchType c1 →
      S.vm.ClassLinks e.platform f.method.cls y.catchType c1 ∧ s0.WarmedH (S.vm.noted f.method.cls y.catchType (.cls c1)) ∧ (∃ k, S.vm.classes[cell.cls]? = some k) ∧ (∃ k, S.vm.classes[c1]? = some k) := by
    intro y c1 S hW hl1
    obtain ⟨dk, _, _, kt, hd, _, _, _, _, hkt, _, hopen⟩ := hl1.here
    obtain ⟨k0', hk0', -⟩ := hW.alike.2.2 _ _ hk0
    obtain ⟨kt', hkt', -⟩ := hW.alike.2.2 _ _ hkt
    exact ⟨hW.classLinks hl1, hW.noted hd hopen (State.rightAt_cls hl1), ⟨k0', hk0'⟩, ⟨kt', hkt'⟩⟩
  intro pre
  induction pre with
  | nil =>
    intro S hW hcell _
    obtain ⟨q1, q2, q3, q4⟩ := one x c S hW hl
    refine ⟨_, q2, fun Q E d acts => ?_⟩
    rw [List.nil_append, xc_one hx h0 q1 hcell hobj q3 q4, if_pos (by rw [hW.alike.assignable]; exact hfit)]
  | cons y ys ih =>
    intro S hW hcell hpass
    have hrest := fun z hz => hpass z (List.mem_cons_of_mem _ hz)
    cases hcov : covers y f.pc with
    | false =>
      obtain ⟨vm', hW', hq⟩ := ih S hW hcell hrest
      refine ⟨vm', hW', fun Q E d acts => ?_⟩
      rw [List.cons_append, W.findHandler_go_skip hcov]
      exact hq Q E d acts
    | true =>
      rcases hpass y List.mem_cons_self with h | ⟨hy0, c1, hl1, hno⟩
      · rw [h] at hcov; cases hcov
      · obtain ⟨q1, q2, q3, q4⟩ := one y c1 S hW hl1
        obtain ⟨vm', hW', hq⟩ := ih (S.setVm (S.vm.noted f.method.cls y.catchType (.cls c1))) q2 hcell hrest
        refine ⟨vm', hW', fun Q E d acts => ?_⟩
        rw [List.cons_append, xc_one hcov hy0 q1 hcell hobj q3 q4, if_neg (by rw [hW.alike.assignable, hno]; decide)]
        exact hq Q E d acts
end XC
section XC2
variable {p : Program} {l : Launch} {e : Env} {R : Room} {s : State} {m : MethodId} {args : Array Value} {below : List Frame} {meth : Method} {c : Code} {T : State} {locs : List Loc} {cells slots : Nat}
/-- one step of the machine: the note is taken away, the frame goes on at the handler -/
theorem xc_step {tb : Tables} {u target : State} {g : JFrame} {q : Addr} (h : At u g.method c below) {pc : Nat} {vm' : Vm}
    (hfind : ∀ (Q : Handler → Pre) (E : CtlPost) (d : Bool) (acts : List Action), wp (findHandler g q) Q E e d acts ((u.setTop g).pushFrame (.throwing q)) ↔ Q (.found pc) d acts (((u.setTop g).pushFrame (.throwing q)).setVm vm'))
    (hrest : Steps tb e below ((u.setVm vm').setTop { g with pc := pc, stack := [.ref q] }) target) :
    Steps tb e below ((u.setTop g).pushFrame (.throwing q)) target := by
  obtain ⟨hgo, hw⟩ := h.throwing q
  have hone : (stepThrowing e ((u.setTop g).pushFrame (.throwing q)) q (.java g :: u.frames.tail)).Is ((((u.setTop g).pushFrame (.throwing q)).setVm vm').setFrames (.java { g with pc := pc, stack := [.ref q] } :: u.frames.tail)) [] := by
    simp only [stepThrowing, searchFrame, vmDo]
    generalize hr : Sem.go _ e false [] ((u.setTop g).pushFrame (.throwing q)) = res
    obtain ⟨as, rfl, ha⟩ := Sem.eq_ok_of hr (a := Handler.found pc) (s' := ((u.setTop g).pushFrame (.throwing q)).setVm vm') (acts' := []) (by simp [hfind _ _ _ _])
    exact ⟨rfl, ha⟩
  refine Steps.head hgo hw ?_
  rw [stepThread_throwing (frames_entered h.top _), hone.1]
  obtain ⟨g0, hg⟩ := Option.isSome_iff_exists.mp h.top
  obtain ⟨r, hr⟩ := State.topJava?_eq_some.mp hg
  have hr' : (u.setVm vm').frames = .java g0 :: r := hr
  rw [State.setTop_of_frames _ hr'] at hrest
  have hfs : ∀ (v : State) (F G : List Frame), ((v.setFrames F).setVm vm').setFrames G = (v.setVm vm').setFrames G := fun v F G => by
    rw [show (v.setFrames F).setVm vm' = (v.setVm vm').setFrames F from rfl, State.setFrames_setFrames]
  rw [hr, List.tail_cons, State.pushFrame, hfs, State.setTop_of_frames _ hr, hfs]
  exact hrest
/-- thrown into this frame, past rows that don't take it, taken by the row x -/
theorem xc_through (X : Stand p l e R s m args below meth c T locs cells slots) (q : Addr) {g : JFrame} (hg : g.method = m) {s0 : State} (hcome : Steps p.tables e below s0 ((T.setTop g).pushFrame (.throwing q)))
    {cell : Cell} (hcell : T.heap[q]? = some cell) (hobj : cell.vm.isStatics = false) (hk0 : ∃ k, s.vm.classes[cell.cls]? = some k)
    (pre : List ExceptionTableEntry) (x : ExceptionTableEntry) (rest : List ExceptionTableEntry) (hsplit : c.exceptionTable.toList = pre ++ x :: rest)
    (hpass : ∀ y ∈ pre, covers y g.pc = false ∨ (y.catchType ≠ 0 ∧ ∃ c1, s.vm.ClassLinks e.platform m.cls y.catchType c1 ∧ s.vm.assignable cell.cls c1 = false)) (hx : covers x g.pc = true) (h0 : x.catchType ≠ 0) {c1 : ClassId} (hl : s.vm.ClassLinks e.platform m.cls x.catchType c1) (hfit : s.vm.assignable cell.cls c1 = true) :
    ∃ vm', Stand p l e R s m args below meth c (T.setVm vm') locs cells slots ∧ Steps p.tables e below s0 ((T.setVm vm').setTop { g with pc := x.handlerPc, stack := [.ref q] }) := by
  subst hg
  obtain ⟨vm', hW', hf⟩ := xc_row (e := e) (f := g) (a := q) (s0 := s) (VmData.ne_statics_of hobj) hk0 x rest hx h0 hl hfit pre ((T.setTop g).pushFrame (.throwing q)) X.warmed hcell hpass
  refine ⟨vm', X.noted hW', hcome.trans (xc_step X.here (fun Q E d acts => ?_) (Steps.refl _))⟩
  rw [W.findHandler_eq (s := (T.setTop g).pushFrame (.throwing q)) (meth := meth) (code := c) X.method' X.code, hsplit]
  exact hf Q E d acts
end XC2
/-! NoSuchElementException: its constructor's call stands at another place of its pool (13) than the others' (7): its words, and 'throw' of it. -/
def xn_six : ByteArray := ⟨#[0x2a, 0x2b, 0xb7, 0x00, 0x0d, 0xb1]⟩
def xn_own (own : String) (ic : Nat) (X : String) (names : List String) : List Cond :=
  Bundle.throwableAtoms ++ Bundle.throwableSAtoms ++ (match names with | [] => [] | Y :: r => Bundle.passSAtoms X Y 13 xn_six ++ Bundle.chainSAtoms Y r) ++
  [.methodLink own ic (Bundle.initS X), .instantiable X 6, .castable X X, .selects X Bundle.tFill0 Bundle.tFill0, .selects X Bundle.tFill Bundle.tFill,
   .lays X Bundle.tN "cause" "Ljava/lang/Throwable;", .lays X Bundle.tN "stackTrace" Bundle.steD, .lays X Bundle.tN "suppressedExceptions" Bundle.listD, .lays X Bundle.tN "detailMessage" "Ljava/lang/String;",
   .isRef (.static Bundle.tN "UNASSIGNED_STACK" Bundle.steD), .isRef (.static Bundle.tN "SUPPRESSED_SENTINEL" Bundle.listD),
   .fieldLink Bundle.tN 198 Bundle.tN "backtrace" "Ljava/lang/Object;", .lays Bundle.tN Bundle.tN "backtrace" "Ljava/lang/Object;", .lays X Bundle.tN "backtrace" "Ljava/lang/Object;"]
section XN
variable {p : Program} {l : Launch} {e : Env} {R : Room} {s : State} {m₀ : MethodId} {args : Array Value} {below : List Frame} {meth : Method} {c : Code} {W : State} {locs : List Loc} {cells slots : Nat}
set_option maxHeartbeats 2000000 in
theorem xn_ctor (X : Stand p l e R s m₀ args below meth c W locs cells slots) (hexec : p.tables.exec = Jvm.exec) (htr : e.platform.stackTraces = false) {own cls up : String} {r : List String} {ic : Nat}
    (hown : s.vm.findClass own = some m₀.cls) (hcls : Bundle.fit cls = true) (hnames : ∀ n ∈ up :: r, Bundle.fit n = true)
    (h : ∀ a ∈ xn_own own ic cls (up :: r), a.before args s = true)
    (hlocs : ∀ x ∈ locs, ∀ cell, s.heap[x.base]? = some cell → cell.vm.isStatics = false)
    {a : Addr} {cX : ClassId} {kX : Class} (hfoundX : s.vm.findClass cls = some cX) (hkX : s.vm.classes[cX]? = some kX) (hcell : W.heap[a]? = some (freshCell cX kX)) (hnew : s.heap.size ≤ a)
    {msg : Value} (hmsg : msg.isRef = true)
    {g : JFrame} (hg : g.method = m₀) (hsize : g.locals.size = c.maxLocals) (hlocked : g.locked = none) (hentered : g.entered = []) {rest : List Value} (hstack : g.stack = msg :: .ref a :: .ref a :: rest)
    (hd6 : decode c.code g.pc = .ok (.invokespecial ic, 3)) (hd9 : decode c.code (g.pc + 3) = .ok (.athrow, 1)) (hout : ∀ x ∈ c.exceptionTable.toList, covers x (g.pc + 3) = false)
    (hRframes : (up :: r).length + 3 < R.frames) (hRlocals : 2 * g.monitorRoom + ((Value.ref a :: rest).map fun v => v.category).sum + (13 * ((up :: r).length + 1) + 42) ≤ R.locals) (hlocks : meth.locks = false) :
    ∃ U : State, Steps p.tables e below (W.setTop g) U ∧ U.status = .running ∧ Ended U below (.threw a) ∧ s.WarmedH U.vm ∧ s.sameButNew ({ U with vm := s.vm } : State) locs cells slots ∧
      ∃ ce, U.heap[a]? = some ce ∧ s.vm.findClass cls = some ce.cls ∧ ce.vm = .none := by
  have howns : e.platform.frameOwnsMonitors = true := by rw [X.admits.platform]
  have hfin : e.platform.finalization = false := by rw [X.admits.platform]
  have hpl : e.platform.magicAccessors = ({} : Platform).magicAccessors := by rw [X.admits.platform]
  have a' : ∀ x, x ∈ xn_own own ic cls (up :: r) → x.holds args s none s [] = true := fun x hx => h x hx
  obtain ⟨T, Z0, L, -, Y⟩ := ThrowableC.of_atoms (args := args) howns hfin hpl (fun x hx => h x (by simp [xn_own, hx]))
  obtain ⟨Z, M, LZ, LM, hnZ⟩ := Init0T.ofS_atoms (args := args) hpl L Y (fun x hx => h x (by simp [xn_own, hx]))
  obtain ⟨P1, L1, hP1m, hs1⟩ := PassC.ofS_atoms (args := args) (s := s) hpl (X := cls) (Y := up) (index := 13) (bytes := xn_six) (Bundle.fit_spec hcls).1 (Bundle.fit_spec (hnames up List.mem_cons_self)).2 (by decide +kernel) (by decide +kernel) (by decide +kernel) (by decide +kernel) (fun x hx => h x (by simp [xn_own, hx]))
  obtain ⟨P2, Ps, hlen, L2, hL, hP2m, hlink2, hlink⟩ := Bundle.chainS (args := args) hpl hnZ r up (hnames up List.mem_cons_self) (fun n hn => hnames n (List.mem_cons_of_mem _ hn)) (fun x hx => h x (by simp [xn_own, hx]))
  have hsup : P1.sup = P2.m := Option.some.inj (hs1.symm.trans hP2m)
  have hfound : s.vm.findClass cls = some P1.m.cls := findClass_of_methodNamed hP1m
  cases Option.some.inj (hfoundX.symm.trans hfound)
  obtain ⟨c1, kX', hc1, hk, hord, -, -, hn6⟩ := Cond.instantiable_spec (a' (.instantiable cls 6) (by simp [xn_own]))
  cases Option.some.inj (hc1.symm.trans hfound)
  cases Option.some.inj (hkX.symm.trans hk)
  have hsel : ∀ (f : MethodName) (mf : MethodId), s.methodNamed? f = some mf → (f.cls ≠ "java/lang/invoke/MethodHandle" ∧ f.cls ≠ "java/lang/invoke/VarHandle") → (Cond.selects cls f f).holds args s none s [] = true → selectMethod e.platform s.vm P1.m.cls mf = .method mf := by
    intro f mf hf hne hs
    obtain ⟨c2, r2, m2, q1, q2, q3, q4, -⟩ := Cond.selects_spec hs
    cases Option.some.inj (q1.symm.trans hfound)
    cases Option.some.inj (q2.symm.trans (State.methodFound?_of_named hf hne))
    cases Option.some.inj (q3.symm.trans hf)
    rw [Launch.admits_selectMethod X.admits]; exact q4
  obtain ⟨cellS0, hcS0, hiss⟩ := Y.statics
  obtain ⟨u0, hu0⟩ := Cond.staticRefV Y.unassigned L.unassignedStatic L.statics hcS0 hiss (a' (.isRef (.static Bundle.tN "UNASSIGNED_STACK" Bundle.steD)) (by simp [xn_own]))
  obtain ⟨sen, hsen⟩ := Cond.staticRefV Y.sentinel L.sentinelStatic L.statics hcS0 hiss (a' (.isRef (.static Bundle.tN "SUPPRESSED_SENTINEL" Bundle.listD)) (by simp [xn_own]))
  obtain ⟨ci198, i198, fB, hk198, hg198, ha198, hsB, -, hnB, htB, hffB⟩ := Cond.ownField (t := .object "java/lang/Object") Y.found L.cls (by decide +kernel) (a' (.fieldLink Bundle.tN 198 Bundle.tN "backtrace" "Ljava/lang/Object;") (by simp [xn_own])) (a' (.lays Bundle.tN Bundle.tN "backtrace" "Ljava/lang/Object;") (by simp [xn_own])) e.platform hpl
  obtain ⟨cellS, hcS', heS, -, hkeep⟩ := X.same.2.2.2.2.2 T.aS cellS0 hcS0
  have hcellS : W.heap[T.aS]? = some cellS := hcS'
  have hout' : ∀ i, (⟨T.aS, i⟩ : Loc) ∉ locs := fun i hmem => by
    have := hlocs _ hmem cellS0 hcS0
    rw [hiss] at this; cases this
  have hknownS : cellS.vm ≠ .unknown := by
    rw [heS]; intro hu
    rw [show cellS0.vm = .unknown from hu] at hiss
    cases hiss
  have hneS : T.aS ≠ a := Nat.ne_of_lt (Nat.lt_of_lt_of_le (Array.getElem?_eq_some_iff.mp hcS0).1 hnew)
  obtain ⟨iM, hffM⟩ := Y.msg
  obtain ⟨tyC, dC, hdC, hdnC⟩ := Cond.laysAt hfound hk Y.cause (a' (.lays cls Bundle.tN "cause" "Ljava/lang/Throwable;") (by simp [xn_own]))
  obtain ⟨tyS, dS, hdS, hdnS⟩ := Cond.laysAt hfound hk Y.stack (a' (.lays cls Bundle.tN "stackTrace" Bundle.steD) (by simp [xn_own]))
  obtain ⟨tyP, dP, hdP, hdnP⟩ := Cond.laysAt hfound hk Y.supp (a' (.lays cls Bundle.tN "suppressedExceptions" Bundle.listD) (by simp [xn_own]))
  obtain ⟨tyM, dM, hdM, hdnM⟩ := Cond.laysAt hfound hk hffM (a' (.lays cls Bundle.tN "detailMessage" "Ljava/lang/String;") (by simp [xn_own]))
  obtain ⟨tyB, dB, hdB, hdnB⟩ := Cond.laysAt hfound hk hffB (a' (.lays cls Bundle.tN "backtrace" "Ljava/lang/Object;") (by simp [xn_own]))
  have bC := Cond.laysApart hdB hdC hdnB hdnC (by rw [hnB, Y.causeName]; decide)
  have bS := Cond.laysApart hdB hdS hdnB hdnS (by rw [hnB, Y.stackName]; decide)
  have bP := Cond.laysApart hdB hdP hdnB hdnP (by rw [hnB, Y.suppName]; decide)
  have hskip : SkipFacts T e.platform s (fun u => u) u0 ((preparedCellV T.toThrowableT (freshCell P1.m.cls kX) a u0 sen).withEntry W.cur) :=
    ⟨{ ci198 := ci198, i198 := i198, fBack := fB }, ⟨hk198, hg198, ha198, hsB⟩, by
      have := fresh_default (c := P1.m.cls) tyB
      rw [htB] at this
      simpa [preparedCellV, Cell.setSlot, Cell.withEntry, Array.getElem?_setIfInBounds, bC, bS, bP, bC.symm, bS.symm, bP.symm, defaultValue] using this, fun _ _ => rfl⟩
  obtain ⟨tm, methC, cdC, kC, vm₁, hnC, -, -, -, -, -, -, -, hW₁, st1⟩ := Steps.initColdS (tb := p.tables) (e := e) (below := below) (s := s) (U := W) X.here hexec X.warmed hpl hown (t := Bundle.initS cls) rfl rfl (Bundle.fit_spec hcls).2
    (a' (.methodLink own ic (Bundle.initS cls)) (by simp [xn_own])) (h (.instanceMethod (Bundle.initS cls)) (by simp [xn_own, Bundle.passSAtoms])) (bytes := xn_six) (maxL := 2) (h (.code (Bundle.initS cls) xn_six 2 none) (by simp [xn_own, Bundle.passSAtoms]))
    (f := g) hg (a := a) (msg := msg) (rest := .ref a :: rest) hstack hd6
  cases Option.some.inj (hnC.symm.trans hP1m)
  have X₁ := X.noted hW₁
  obtain ⟨vm₂, X₂, st2⟩ := X₁.ctorMessageOffV hexec (g := { g with stack := .ref a :: rest }) hg hsize T L Z LZ M LM (P1 :: P2 :: Ps)
    (fun P hP => by
      rcases List.mem_cons.mp hP with rfl | hP
      · exact L1
      · rcases List.mem_cons.mp hP with rfl | hP
        · exact L2
        · exact hL P hP) ⟨hsup, hlink2, hlink⟩ (u0 := u0) (sen := sen) (self := a) hmsg (cell := freshCell P1.m.cls kX) (cellS := cellS)
    hcell (fun _ => by simp) (by simp) rfl rfl (hsel _ _ Y.fill0 (by decide) (a' _ (by simp [xn_own]))) (hsel _ _ Y.fill (by decide) (a' _ (by simp [xn_own]))) hcellS hneS hknownS (by rw [hkeep _ (hout' _)]; exact hu0) (by rw [hkeep _ (hout' _)]; exact hsen)
    (Takes.of_laid hk hord tyC (by rw [Y.causeType]; rfl)) (Takes.of_laid hk hord tyS (by rw [Y.stackType]; exact fits_refV_array _ u0)) (Takes.of_laid hk hord tyP (by rw [Y.suppType]; exact fits_refV_object _ sen))
    (Takes.of_laid hk hord tyM (by rw [Y.msgType]; exact fits_refV_object _ ⟨msg, hmsg⟩)) Y.objLocals hskip htr [] hd6
    (by simp only [List.length_cons, hlen] at hRframes ⊢; omega) (by simp only [List.length_cons, hlen] at hRlocals ⊢; omega)
  obtain ⟨hwalk, hrun, hended, hWU, hsame⟩ := X₂.athrowLeaves hexec (g := { g with stack := .ref a :: rest, pc := g.pc + 3 }) hg hlocked hentered hout (a := a) (rest := rest) rfl hd9 hlocks
  have hlt : a < ((W.setVm vm₁).setVm vm₂).heap.size := (Array.getElem?_eq_some_iff.mp hcell).1
  have hU := heapAt_setCell_self (s := (W.setVm vm₁).setVm vm₂) (plainBareV T.toThrowableT (freshCell P1.m.cls kX) a u0 sen msg) hlt
  refine ⟨_, st1 _ (fun acts => ?_), hrun, hended, hWU, hsame.weaken (fun y hy hlt' => ?_) (Nat.le_refl _) (Nat.le_refl _), _, hU, hfound, rfl⟩
  · rw [doInvoke_state]
    exact st2 _ hwalk
  · rcases List.mem_append.mp hy with h1 | h1
    · exact h1
    · exfalso
      have hb : y.base = a := by
        simp only [List.mem_cons, List.not_mem_nil, or_false] at h1
        rcases h1 with rfl | rfl | rfl | rfl | rfl <;> rfl
      rw [hb] at hlt'
      exact Nat.not_lt.mpr hnew hlt'
end XN
end
section
/-! ===== BEGIN words of one list among another's, by their places ===== -/
theorem goodIn_r {big : List Cond} (ws : List Cond) (ps : List Nat) (hp : ws = ps.filterMap (fun i => big[i]?)) (h : ws.all goodWord = true) : GoodIn big ws := by
  intro w hw
  have h1 := List.all_eq_true.mp h w hw
  rw [hp] at hw
  obtain ⟨i, -, hi⟩ := List.mem_filterMap.mp hw
  have hm : w ∈ big := by first | exact List.mem_of_getElem? hi | exact List.getElem?_mem hi
  exact ⟨hm, good_of_word h1⟩
theorem goodIn_app {big a b : List Cond} (ha : GoodIn big a) (hb : GoodIn big b) : GoodIn big (a ++ b) := fun w h => (List.mem_append.mp h).elim (ha w) (hb w)
theorem goodIn_ca {big a b : List Cond} {c : Cond} (ha : GoodIn big (c :: a)) (hb : GoodIn big b) : GoodIn big (c :: (a ++ b)) := fun w h => (List.mem_cons.mp h).elim (fun e => ha w (List.mem_cons.mpr (Or.inl e))) (fun h => (List.mem_append.mp h).elim (fun h => ha w (List.mem_cons.mpr (Or.inr h))) (hb w))
theorem goodIn_sub {big ws : List Cond} (hm : ∀ w ∈ ws, w ∈ big) (h : ws.all goodWord = true) : GoodIn big ws := fun w hw => ⟨hm w hw, good_of_word (List.all_eq_true.mp h w hw)⟩
/-! ===== END ===== -/

/-! ===== BEGIN exceptions that leave a method, and their catching by the caller (launches without stack traces) ===== -/
section VXA
/-! The laws vx_back, vx_callV, vx_callS, vx_callSW, vx_throw0, vx_throwS follow proofs of the library, with one case more: JvmDerived/Free/Laws.lean (Back.of_free), Shelf42/LK1.lean (callV, callS), Shelf/KitTraced.lean (throwNew0V, throwNewS). -/

/-- where a method has thrown q: the class by its name, the cell, what was written, the world -/
def vx_T (XC : String → State → State → Prop) (st : State) (q : Addr) (t : State) (mc ms : Nat) (free : Addr → Prop) : Prop :=
  ∃ (E : String) (ce : Cell) (L : List Loc), XC E st t ∧ t.heap[q]? = some ce ∧ ce.vm = .none ∧ st.vm.findClass E = some ce.cls ∧ st.WarmedH t.vm ∧ st.sameButNew ({ t with vm := st.vm } : State) L mc ms ∧ ∀ z ∈ L, free z.base
def vx_Q (Qc : Array Value → State → Outcome → State → Prop) (XC : String → State → State → Prop) (mc ms : Nat) (free : Addr → Prop) : Array Value → State → Outcome → State → Prop := fun a st o t =>
  (Qc a st o t ∧ ∃ L, FrameEnd st o t L mc ms ∧ ∀ q ∈ L, free q.base) ∨ ∃ q, o = .threw q ∧ vx_T XC st q t mc ms free
/-- a callee that returns or throws -/
def vx_Met (l : Launch) (y : MethodName) (ws : List Cond) (rm : Room) (Pc : Array Value → State → Prop) (Qc : Array Value → State → Outcome → State → Prop) (XC : String → State → State → Prop) (mc ms : Nat) (free : Addr → Prop) : Prop :=
  MetFree l y (headSpec ws rm) Pc (fun _ _ _ _ _ => True) (vx_Q Qc XC mc ms free)
def vx_Post (XC : String → State → State → Prop) (mc ms : Nat) (free : Addr → Prop) : Pt → Array Value → Addr → Pt → Prop := fun A a q B =>
  ∃ (g : JFrame) (mk : MethodId) (t : State) (L : List Loc) (E : String) (ce : Cell), B.U.heap = t.heap ∧ B.U.vm = t.vm ∧ XC E (A.U.calling g mk a) t ∧ t.heap[q]? = some ce ∧ ce.vm = .none ∧ A.U.vm.findClass E = some ce.cls ∧ B.locs = A.locs ++ L ∧ (∀ z ∈ L, free z.base) ∧ B.cells = A.cells + mc ∧ B.slots = A.slots + ms
def vx_Back (l : Launch) (R : Room) (p : Program) (e : Env) (below : List Frame) (s : State) (sargs : Array Value) (y : MethodName) (len W9 : Nat)
    (Pre : Pt → Array Value → Prop) (Post : Pt → Array Value → Option Value → Pt → Prop) (PostX : Pt → Array Value → Addr → Pt → Prop) : Prop :=
  ∀ (m : MethodId) (meth : Method) (c : Code) (A : Pt) (g : JFrame) (ig : Instr) (mk : MethodId) (a : Array Value),
    Stand p l e R s m sargs below meth c A.U A.locs A.cells A.slots → g.method = m → g.locals.size = c.maxLocals → decode c.code g.pc = .ok (ig, len) →
    2 * g.monitorRoom + (g.stack.map fun v => v.category).sum ≤ W9 → A.U.methodNamed? y = some mk → Pre A a →
    (∃ (v : Option Value) (B : Pt), Stand p l e R s m sargs below meth c B.U B.locs B.cells B.slots ∧ Post A a v B ∧
      Steps p.tables e below (doInvoke e (A.U.setTop g) [] mk a).1 (B.U.setTop { g with pc := g.pc + len, stack := v.toList ++ g.stack })) ∨
    (∃ (q : Addr) (B : Pt), Stand p l e R s m sargs below meth c B.U B.locs B.cells B.slots ∧ PostX A a q B ∧
      Steps p.tables e below (doInvoke e (A.U.setTop g) [] mk a).1 ((B.U.setTop g).pushFrame (.throwing q)))
section Payer
variable {l : Launch} {R : Room} {p : Program} {e : Env} {below : List Frame} {s : State} {sargs : Array Value} {y : MethodName} {len W9 : Nat}
theorem vx_back {ws : List Cond} {rm : Room} {Pc : Array Value → State → Prop} {Qc : Array Value → State → Outcome → State → Prop} {XC : String → State → State → Prop} {mc ms : Nat} {free : Addr → Prop} {bytes : ByteArray} {maxL : Nat} {ret : Option FieldType}
    (hM : vx_Met l y ws rm Pc Qc XC mc ms free) (hblind : FrameBlind Pc) (hrc : rm.cells = mc) (hrs : rm.slots = ms)
    (hframes : rm.frames + 1 ≤ R.frames) (hlocals : W9 + (maxL + 11) + rm.locals ≤ R.locals)
    (hws : ∀ w ∈ ws, ∀ a' U, s.WarmedH U.vm → w.before a' U = true) (hcode : Cond.code y bytes maxL ret ∈ ws) (hinit : ∀ a' U, s.WarmedH U.vm → (Cond.initialized y.cls).before a' U = true) :
    vx_Back l R p e below s sargs y len W9 (PreOf R mc ms Pc) (PostOf Qc mc ms free) (vx_Post XC mc ms free) := by
  intro m meth c A g ig mk a X hg hsize hdg hW hn hp
  have h1 : (headSpec ws rm).pre.before a A.U = true := atoms_intro fun w hw => hws w hw _ _ X.warmed
  have h2 : (Cond.code y bytes maxL ret).before a A.U = true := hws _ hcode _ _ X.warmed
  have h3 : (Cond.initialized y.cls).before a A.U = true := hinit _ _ X.warmed
  have h4 : A.cells + (headSpec ws rm).room.cells ≤ R.cells := by rw [show (headSpec ws rm).room.cells = mc from hrc]; exact hp.1
  have h5 : A.slots + (headSpec ws rm).room.slots ≤ R.slots := by rw [show (headSpec ws rm).room.slots = ms from hrs]; exact hp.2.1
  have hPc : Pc a (A.U.calling g mk a) := hblind _ _ _ _ hp.2.2
  obtain ⟨U, Ls, c0, s0⟩ := A
  dsimp only [Pt.U, Pt.locs, Pt.cells, Pt.slots] at h1 h2 h3 h4 h5 X hn hPc ⊢
  obtain ⟨methY, cY, hmY, hcY, -, hlY, -, -, -, -⟩ := Cond.code_spec hn h2
  obtain ⟨kY, hkY, -⟩ := className_of_methodNamed hn
  have hinitY : kY.init = .initialized := Cond.initialized_spec (findClass_of_methodNamed hn) hkY h3
  have h : At U g.method c below := by rw [hg]; exact X.here
  have hlocals9 : W9 + (maxL + 11) + (headSpec ws rm).room.locals ≤ R.locals := hlocals
  have happ : (headSpec ws rm).appliesLoose y e.platform (U.calling g mk a) = true :=
    Spec.appliesLoose_calling (g := g) h hdg hn hkY hinitY
      (X.room_calling (g := g) (R' := (headSpec ws rm).room) hsize hmY hcY hframes (by rw [hlY]; omega) h4 h5) h1
  obtain ⟨mid, hmid⟩ := h.above
  have hfr : (U.setTop g).frames = (.java g :: mid) ++ below := by rw [State.frames_setTop' g h.top, hmid]; rfl
  obtain ⟨o, s₂, hsteps, -, hend, hq⟩ := Steps.callFree hM p X.admits X.cas X.clock (acts := []) hfr happ hPc trivial
  have hq' : vx_Q Qc XC mc ms free a (U.calling g mk a) o s₂ := hq
  rw [State.frames_setTop' g h.top] at hend
  obtain ⟨g₀, hg0⟩ := Option.isSome_iff_exists.mp h.top
  obtain ⟨r, hr⟩ := State.topJava?_eq_some.mp hg0
  have hr' : (({ U with heap := s₂.heap, slotsUsed := s₂.slotsUsed } : State).setVm s₂.vm).frames = .java g₀ :: r := hr
  rcases hq' with ⟨hqc, L, hfe, hL⟩ | ⟨q, rfl, E, ce, L, hx, hce, hcv, hcl, hW₂, hsm, hL⟩
  · obtain ⟨⟨v, rfl⟩, hW₂, e2, q2, q3, q4, q5, q6⟩ := id hfe
    have e3 : s₂ = ({ (U.calling g mk a).setFrames s₂.frames with heap := s₂.heap, slotsUsed := s₂.slotsUsed } : State).setVm s₂.vm := by
      have : s₂ = ({ s₂ with vm := (U.calling g mk a).vm } : State).setVm s₂.vm := rfl
      rw [e2] at this
      exact this
    obtain ⟨c₂, i₂, len₂, hc₂, hd₂, hf₂⟩ := hend
    have hW' : U.WarmedH s₂.vm := hW₂
    have hcc : c₂ = c := by
      have h1 : s₂.code? g.method = U.code? g.method := by
        rw [State.code?_eq, State.code?_eq, hW'.alike.method?]
      exact Option.some.inj (hc₂.symm.trans (h1.trans h.code))
    subst hcc
    have hlen : len₂ = len := by rw [hdg] at hd₂; cases hd₂; rfl
    subst hlen
    have hs₂ : s₂ = (({ U with heap := s₂.heap, slotsUsed := s₂.slotsUsed } : State).setVm s₂.vm).setTop { g with pc := g.pc + len₂, stack := v.toList ++ g.stack } := by
      refine e3.trans ?_
      rw [hf₂, State.calling_eq h.top, State.setFrames_setFrames, State.setTop_of_frames _ hr', hr]
      rfl
    have hsame : U.sameButNew ({ U with heap := s₂.heap, slotsUsed := s₂.slotsUsed } : State) L mc ms := by
      refine ⟨?_, q2, q3, q4, q5, q6⟩
      obtain ⟨t, ht, -⟩ := State.frames_cons hr
      show ({ U with heap := s₂.heap, slotsUsed := s₂.slotsUsed } : State) = { U.setFrames U.frames with heap := s₂.heap, slotsUsed := s₂.slotsUsed }
      rw [State.setFrames_self ht]
    subst hg
    refine Or.inl ⟨v, ⟨(({ U with heap := s₂.heap, slotsUsed := s₂.slotsUsed } : State).setVm s₂.vm), Ls ++ L, c0 + mc, s0 + ms⟩,
      ⟨X.admits, X.cas, X.clock, X.frames, X.room, X.hears, X.method, X.code, (X.here.setHeapUsed s₂.heap s₂.slotsUsed).setVm hW'.alike, X.tail, State.WarmedH.trans X.warmed hW', X.limits, X.bytes, X.same.trans (hsame.setVm s.vm)⟩,
      ⟨g, mk, s₂, L, rfl, rfl, hqc, rfl, hL, rfl, rfl⟩, ?_⟩
    show Steps p.tables e below _ ((({ U with heap := s₂.heap, slotsUsed := s₂.slotsUsed } : State).setVm s₂.vm).setTop { g with pc := g.pc + len₂, stack := v.toList ++ g.stack })
    rw [← hs₂]
    exact hsteps
  · obtain ⟨e2, q2, q3, q4, q5, q6⟩ := id hsm
    have e3 : s₂ = ({ (U.calling g mk a).setFrames s₂.frames with heap := s₂.heap, slotsUsed := s₂.slotsUsed } : State).setVm s₂.vm := by
      have : s₂ = ({ s₂ with vm := (U.calling g mk a).vm } : State).setVm s₂.vm := rfl
      rw [e2] at this
      exact this
    have hf₂ : s₂.frames = .throwing q :: .java g :: U.frames.tail := hend
    have hW' : U.WarmedH s₂.vm := hW₂
    have hs₂ : s₂ = ((({ U with heap := s₂.heap, slotsUsed := s₂.slotsUsed } : State).setVm s₂.vm).setTop g).pushFrame (.throwing q) := by
      refine e3.trans ?_
      rw [hf₂, State.calling_eq h.top, State.setFrames_setFrames, State.pushFrame, State.frames_setTop _ hr', State.setTop_of_frames _ hr', State.setFrames_setFrames, hr]
      rfl
    have hsame : U.sameButNew ({ U with heap := s₂.heap, slotsUsed := s₂.slotsUsed } : State) L mc ms := by
      refine ⟨?_, q2, q3, q4, q5, q6⟩
      obtain ⟨t, ht, -⟩ := State.frames_cons hr
      show ({ U with heap := s₂.heap, slotsUsed := s₂.slotsUsed } : State) = { U.setFrames U.frames with heap := s₂.heap, slotsUsed := s₂.slotsUsed }
      rw [State.setFrames_self ht]
    subst hg
    refine Or.inr ⟨q, ⟨(({ U with heap := s₂.heap, slotsUsed := s₂.slotsUsed } : State).setVm s₂.vm), Ls ++ L, c0 + mc, s0 + ms⟩,
      ⟨X.admits, X.cas, X.clock, X.frames, X.room, X.hears, X.method, X.code, (X.here.setHeapUsed s₂.heap s₂.slotsUsed).setVm hW'.alike, X.tail, State.WarmedH.trans X.warmed hW', X.limits, X.bytes, X.same.trans (hsame.setVm s.vm)⟩,
      ⟨g, mk, s₂, L, E, ce, rfl, rfl, hx, hce, hcv, hcl, rfl, hL, rfl, rfl⟩, ?_⟩
    show Steps p.tables e below _ (((({ U with heap := s₂.heap, slotsUsed := s₂.slotsUsed } : State).setVm s₂.vm).setTop g).pushFrame (.throwing q))
    rw [← hs₂]
    exact hsteps
end Payer
section Calls
variable {p : Program} {l : Launch} {e : Env} {R : Room} {s : State} {m : MethodId} {args : Array Value} {below : List Frame} {meth : Method} {c : Code} {T : State} {locs : List Loc} {cells slots : Nat}
theorem vx_callV (X : Stand p l e R s m args below meth c T locs cells slots) (hexec : p.tables.exec = Jvm.exec) {own C : String} {index : Nat} {y : MethodName} {bytes : ByteArray} {maxL : Nat} {ret : Option FieldType}
    (hown : s.vm.findClass own = some m.cls) (hlink : (Cond.methodLink own index y).before args s = true) (hinst : (Cond.instanceMethod y).before args s = true) (hsel : (Cond.selects C y y).before args s = true)
    (hcode : (Cond.code y bytes maxL ret).before args s = true) (hy : y.cls ≠ "java/lang/invoke/MethodHandle" ∧ y.cls ≠ "java/lang/invoke/VarHandle")
    {W9 : Nat} {Pre : Pt → Array Value → Prop} {Post : Pt → Array Value → Option Value → Pt → Prop} {PostX : Pt → Array Value → Addr → Pt → Prop} (hK : vx_Back l R p e below s args y 3 W9 Pre Post PostX)
    {b : Addr} {cellB : Cell} (hcell : T.heap[b]? = some cellB) (hobj : cellB.vm.isStatics = false) (hcls : s.vm.findClass C = some cellB.cls)
    {g : JFrame} (hg : g.method = m) (hsize : g.locals.size = c.maxLocals) {argsL rest : List Value} (hlen : ∀ sig, parseMethodDescriptor y.desc = some sig → argsL.length = sig.parameters.length)
    (hstack : g.stack = argsL.reverse ++ .ref b :: rest) (hW : 2 * g.monitorRoom + (rest.map fun v => v.category).sum ≤ W9) (hdg : decode c.code g.pc = .ok (.invokevirtual index, 3))
    (hpre : ∀ vm₁, s.WarmedH vm₁ → Pre ⟨T.setVm vm₁, locs, cells, slots⟩ (Value.ref b :: argsL).toArray) :
    (∃ (v : Option Value) (vm₁ : Vm) (B : Pt), s.WarmedH vm₁ ∧ Stand p l e R s m args below meth c B.U B.locs B.cells B.slots ∧ Post ⟨T.setVm vm₁, locs, cells, slots⟩ (Value.ref b :: argsL).toArray v B ∧
      ∀ target, Steps p.tables e below (B.U.setTop { g with pc := g.pc + 3, stack := v.toList ++ rest }) target → Steps p.tables e below (T.setTop g) target) ∨
    (∃ (q : Addr) (vm₁ : Vm) (B : Pt), s.WarmedH vm₁ ∧ Stand p l e R s m args below meth c B.U B.locs B.cells B.slots ∧ PostX ⟨T.setVm vm₁, locs, cells, slots⟩ (Value.ref b :: argsL).toArray q B ∧
      Steps p.tables e below (T.setTop g) ((B.U.setTop { g with stack := rest }).pushFrame (.throwing q))) := by
  obtain ⟨mk, methM, hnamed, hmethM, hstM, habM⟩ := Cond.instanceMethod_spec hinst
  obtain ⟨methM', cM, hmethM', -, -, -, -, -, -, hsigM⟩ := Cond.code_spec hnamed hcode
  cases hmethM.symm.trans hmethM'
  obtain ⟨c2, r2, m2, q1, q2, q3, q4, kP, hkP, hkPi⟩ := Cond.selects_spec hsel
  cases hcls.symm.trans q1
  cases (State.methodFound?_of_named hnamed hy).symm.trans q2
  cases hnamed.symm.trans q3
  have hselP : selectMethod e.platform s.vm cellB.cls mk = .method mk := by rw [Launch.admits_selectMethod X.admits]; exact q4
  obtain ⟨vm₁, X₁, hstep₁⟩ := X.invokevirtual hexec hown hlink hnamed hmethM hstM hkP hkPi hy (a := b) (cell := cellB) hcell
    (fun z h => by rw [h] at hobj; cases hobj) hselP hmethM habM hkP hkPi (g := g) hg (argsL := argsL) (rest := rest) (hlen _ hsigM) hstack hdg
  rcases hK m meth c ⟨T.setVm vm₁, locs, cells, slots⟩ { g with stack := rest } (.invokevirtual index) mk (Value.ref b :: argsL).toArray X₁ hg hsize hdg hW (X₁.named hnamed) (hpre vm₁ X₁.warmed) with ⟨v, B, X', hpost, hsteps⟩ | ⟨q, B, X', hpost, hsteps⟩
  · exact Or.inl ⟨v, vm₁, B, X₁.warmed, X', hpost, fun target h => hstep₁ _ fun acts => by rw [doInvoke_state]; exact hsteps.trans h⟩
  · exact Or.inr ⟨q, vm₁, B, X₁.warmed, X', hpost, hstep₁ _ fun acts => by rw [doInvoke_state]; exact hsteps⟩
theorem vx_callS (X : Stand p l e R s m args below meth c T locs cells slots) (hexec : p.tables.exec = Jvm.exec) {own : String} {index : Nat} {y : MethodName} {bytes : ByteArray} {maxL : Nat} {ret : Option FieldType}
    (hown : s.vm.findClass own = some m.cls) (hlink : (Cond.methodLink own index y).before args s = true) (hstat : (Cond.static y).before args s = true) (hinit : (Cond.initialized y.cls).before args s = true)
    (hcode : (Cond.code y bytes maxL ret).before args s = true) (hy : y.cls ≠ "java/lang/invoke/MethodHandle" ∧ y.cls ≠ "java/lang/invoke/VarHandle")
    {W9 : Nat} {Pre : Pt → Array Value → Prop} {Post : Pt → Array Value → Option Value → Pt → Prop} {PostX : Pt → Array Value → Addr → Pt → Prop} (hK : vx_Back l R p e below s args y 3 W9 Pre Post PostX)
    {g : JFrame} (hg : g.method = m) (hsize : g.locals.size = c.maxLocals) {argsL rest : List Value} (hlen : ∀ sig, parseMethodDescriptor y.desc = some sig → argsL.length = sig.parameters.length)
    (hstack : g.stack = argsL.reverse ++ rest) (hW : 2 * g.monitorRoom + (rest.map fun v => v.category).sum ≤ W9) (hdg : decode c.code g.pc = .ok (.invokestatic index, 3))
    (hpre : ∀ vm₁, s.WarmedH vm₁ → Pre ⟨T.setVm vm₁, locs, cells, slots⟩ argsL.toArray) :
    (∃ (v : Option Value) (vm₁ : Vm) (B : Pt), s.WarmedH vm₁ ∧ Stand p l e R s m args below meth c B.U B.locs B.cells B.slots ∧ Post ⟨T.setVm vm₁, locs, cells, slots⟩ argsL.toArray v B ∧
      ∀ target, Steps p.tables e below (B.U.setTop { g with pc := g.pc + 3, stack := v.toList ++ rest }) target → Steps p.tables e below (T.setTop g) target) ∨
    (∃ (q : Addr) (vm₁ : Vm) (B : Pt), s.WarmedH vm₁ ∧ Stand p l e R s m args below meth c B.U B.locs B.cells B.slots ∧ PostX ⟨T.setVm vm₁, locs, cells, slots⟩ argsL.toArray q B ∧
      Steps p.tables e below (T.setTop g) ((B.U.setTop { g with stack := rest }).pushFrame (.throwing q))) := by
  obtain ⟨mk, hnamed⟩ := Cond.code_named hcode
  obtain ⟨methM, cM, hmethM, -, -, -, -, -, -, hsigM⟩ := Cond.code_spec hnamed hcode
  have hstatic : methM.isStatic = true := Cond.static_spec hnamed hmethM hstat
  obtain ⟨kP, hkP, -⟩ := className_of_methodNamed hnamed
  have hinitP : kP.init = .initialized := Cond.initialized_spec (findClass_of_methodNamed hnamed) hkP hinit
  obtain ⟨vm₁, X₁, hstep₁⟩ := X.invokestatic hexec hown hlink hnamed hmethM hstatic hkP hinitP hy (g := g) hg (argsL := argsL) (rest := rest) (hlen _ hsigM) hstack hdg
  rcases hK m meth c ⟨T.setVm vm₁, locs, cells, slots⟩ { g with stack := rest } (.invokestatic index) mk argsL.toArray X₁ hg hsize hdg hW (X₁.named hnamed) (hpre vm₁ X₁.warmed) with ⟨v, B, X', hpost, hsteps⟩ | ⟨q, B, X', hpost, hsteps⟩
  · exact Or.inl ⟨v, vm₁, B, X₁.warmed, X', hpost, fun target h => hstep₁ _ fun acts => by rw [doInvoke_state]; exact hsteps.trans h⟩
  · exact Or.inr ⟨q, vm₁, B, X₁.warmed, X', hpost, hstep₁ _ fun acts => by rw [doInvoke_state]; exact hsteps⟩
end Calls
theorem vx_cls {s : State} {T : State} {vm₁ : Vm} {E : String} {k : ClassId} (hW : s.WarmedH vm₁) (h : (T.setVm vm₁).vm.findClass E = some k) : s.vm.findClass E = some k := by
  have h1 : vm₁.findClass E = some k := h
  rw [hW.alike.findClass] at h1
  exact h1
/-- the method's frame g, with q thrown over it -/
def vx_W (p : Program) (l : Launch) (e : Env) (R : Room) (s : State) (m : MethodId) (args : Array Value) (below : List Frame) (meth : Method) (c : Code) (H : Heap) (locs : List Loc) (cells slots : Nat) (Q : State → Prop) (g : JFrame) (q : Addr) : Prop :=
  ∀ T : State, T.heap = H → Stand p l e R s m args below meth c T locs cells slots → ∃ t, Steps p.tables e below ((T.setTop g).pushFrame (.throwing q)) t ∧ Q t
def vx_Run (p : Program) (l : Launch) (e : Env) (R : Room) (s : State) (m : MethodId) (args : Array Value) (below : List Frame) (meth : Method) (c : Code) (H : Heap) (locs : List Loc) (cells slots mc ms : Nat) (g : JFrame) (rest : List Value) (Qa : State → Outcome → State → Prop) (XC : String → State → State → Prop) (free : Addr → Prop) : Prop :=
  ∀ T : State, T.heap = H → Stand p l e R s m args below meth c T locs cells slots →
    (∃ (v : Option Value) (st₀ t T' : State) (L : List Loc), st₀.heap = H ∧ Stand p l e R s m args below meth c T' (locs ++ L) (cells + mc) (slots + ms) ∧ (∀ q ∈ L, free q.base) ∧ T'.heap = t.heap ∧ T'.vm = t.vm ∧ Qa st₀ (.returned v) t ∧
      Goes p e below T g T' { g with pc := g.pc + 3, stack := v.toList ++ rest }) ∨
    (∃ (q : Addr) (st₀ t T' : State) (L : List Loc) (E : String) (ce : Cell), st₀.heap = H ∧ Stand p l e R s m args below meth c T' (locs ++ L) (cells + mc) (slots + ms) ∧ (∀ z ∈ L, free z.base) ∧ T'.heap = t.heap ∧ T'.vm = t.vm ∧ XC E st₀ t ∧ t.heap[q]? = some ce ∧ ce.vm = .none ∧ s.vm.findClass E = some ce.cls ∧
      Steps p.tables e below (T.setTop g) ((T'.setTop { g with stack := rest }).pushFrame (.throwing q)))
def vx_X {S : Type} (px : S → Prop) (B : String → S → State → Prop) (A : Nat → Prop) : String → State → State → Prop := fun E st t => ∃ u : S, px u ∧ B E u t ∧ va_F A st t
section Runs
variable {p : Program} {l : Launch} {e : Env} {R : Room} {s : State} {m : MethodId} {args : Array Value} {below : List Frame} {meth : Method} {c : Code} {H : Heap} {locs : List Loc} {cells slots : Nat}
variable {y : MethodName} {bytes cc : ByteArray} {maxL nL mc ms n index : Nat} {ret : Option FieldType} {ws : List Cond} {rm : Room} {Pc : Array Value → State → Prop} {Qc : Array Value → State → Outcome → State → Prop} {XC : String → State → State → Prop} {free : Addr → Prop} {Ts : List Cond} {own C : String} {b : Addr} {As rest : List Value} {g : JFrame}
theorem vx_callBack (cb : CallB R s args own index y bytes maxL ret ws rm mc ms n) (hM : vx_Met l y ws rm Pc Qc XC mc ms free) (hbl : FrameBlind Pc) : vx_Back l R p e below s args y 3 8 (PreOf R mc ms Pc) (PostOf Qc mc ms free) (vx_Post XC mc ms free) := by
  obtain ⟨hrc, hrs, hfr, hlo, hws, hcw, -, hini, -⟩ := cb
  exact vx_back (bytes := bytes) (maxL := maxL) (ret := ret) hM hbl hrc hrs hfr hlo hws hcw (fun a' U hW => word_at hW (Or.inl (by first | rfl | simp [Cond.onTables, Cond.keeps, Cond.steady])) hini)
theorem vx_runV (S : CallFix p m c cc nL s args Ts own) (hM : vx_Met l y ws rm Pc Qc XC mc ms free) (cw : CallW R s args own C index y bytes maxL ret ws rm mc ms n) (hp : PreV s H C b Pc As)
    (hg : g.method = m) (hn : As.length = n) (hsize : g.locals.size = nL) (hstack : g.stack = As.reverse ++ .ref b :: rest) (hW : 2 * g.monitorRoom + (rest.map fun v => v.category).sum ≤ 8) (hdg : decode cc g.pc = .ok (.invokevirtual index, 3)) (hf : cells + mc ≤ R.cells ∧ slots + ms ≤ R.slots) :
    vx_Run p l e R s m args below meth c H locs cells slots mc ms g rest (Qc (Value.ref b :: As).toArray) XC free := by
  have hK : vx_Back l R p e below s args y 3 8 (PreOf R mc ms Pc) (PostOf Qc mc ms free) (vx_Post XC mc ms free) := vx_callBack cw.1 hM hp.1
  obtain ⟨⟨-, -, -, -, -, -, hcode, -, hy, hlen, hl⟩, hin, hse⟩ := cw
  obtain ⟨hx, hb, hml, ho, -⟩ := S
  obtain ⟨-, ⟨cellB, hcB, hoB, hclB⟩, hPc⟩ := hp
  intro T hT X
  rcases vx_callV X hx (C := C) (bytes := bytes) (maxL := maxL) (ret := ret) ho hl hin hse hcode hy hK (by rw [hT]; exact hcB) hoB hclB hg (hsize.trans hml.symm) (argsL := As) (rest := rest) (fun sig h => hn.trans (hlen sig h)) hstack hW (by rw [hb]; exact hdg)
    (fun vm₁ hW₁ => ⟨hf.1, hf.2, hPc (T.setVm vm₁) hT hW₁⟩) with ⟨v, vm₁, ⟨U', l2, c2, s2⟩, hW₁, X', ⟨g', mk, t, L, e1, e2, hq, h1, hL, h2, h3⟩, st⟩ | ⟨q, vm₁, ⟨U', l2, c2, s2⟩, hW₁, X', ⟨g', mk, t, L, E, ce, e1, e2, hq, hce, hcv, hcl, h1, hL, h2, h3⟩, st⟩
  · dsimp only [Pt.U, Pt.locs, Pt.cells, Pt.slots] at X' e1 e2 h1 h2 h3 st
    subst h1; subst h2; subst h3
    exact Or.inl ⟨v, (T.setVm vm₁).calling g' mk (Value.ref b :: As).toArray, t, U', L, hT, X', hL, e1, e2, hq, st⟩
  · dsimp only [Pt.U, Pt.locs, Pt.cells, Pt.slots] at X' e1 e2 h1 h2 h3 st hcl
    subst h1; subst h2; subst h3
    exact Or.inr ⟨q, (T.setVm vm₁).calling g' mk (Value.ref b :: As).toArray, t, U', L, E, ce, hT, X', hL, e1, e2, hq, hce, hcv, vx_cls hW₁ hcl, st⟩
theorem vx_runS (S : CallFix p m c cc nL s args Ts own) (hM : vx_Met l y ws rm Pc Qc XC mc ms free) (cw : CallB R s args own index y bytes maxL ret ws rm mc ms n ∧ (Cond.static y).before args s = true) (hp : PreS s H Pc As)
    (hg : g.method = m) (hn : As.length = n) (hsize : g.locals.size = nL) (hstack : g.stack = As.reverse ++ rest) (hW : 2 * g.monitorRoom + (rest.map fun v => v.category).sum ≤ 8) (hdg : decode cc g.pc = .ok (.invokestatic index, 3)) (hf : cells + mc ≤ R.cells ∧ slots + ms ≤ R.slots) :
    vx_Run p l e R s m args below meth c H locs cells slots mc ms g rest (Qc As.toArray) XC free := by
  have hK : vx_Back l R p e below s args y 3 8 (PreOf R mc ms Pc) (PostOf Qc mc ms free) (vx_Post XC mc ms free) := vx_callBack cw.1 hM hp.1
  obtain ⟨⟨-, -, -, -, -, -, hcode, hini, hy, hlen, hl⟩, hstt⟩ := cw
  obtain ⟨hx, hb, hml, ho, -⟩ := S
  intro T hT X
  rcases vx_callS X hx (bytes := bytes) (maxL := maxL) (ret := ret) ho hl hstt hini hcode hy hK hg (hsize.trans hml.symm) (argsL := As) (rest := rest) (fun sig h => hn.trans (hlen sig h)) hstack hW (by rw [hb]; exact hdg)
    (fun vm₁ hW₁ => ⟨hf.1, hf.2, hp.2 (T.setVm vm₁) hT hW₁⟩) with ⟨v, vm₁, ⟨U', l2, c2, s2⟩, hW₁, X', ⟨g', mk, t, L, e1, e2, hq, h1, hL, h2, h3⟩, st⟩ | ⟨q, vm₁, ⟨U', l2, c2, s2⟩, hW₁, X', ⟨g', mk, t, L, E, ce, e1, e2, hq, hce, hcv, hcl, h1, hL, h2, h3⟩, st⟩
  · dsimp only [Pt.U, Pt.locs, Pt.cells, Pt.slots] at X' e1 e2 h1 h2 h3 st
    subst h1; subst h2; subst h3
    exact Or.inl ⟨v, (T.setVm vm₁).calling g' mk As.toArray, t, U', L, hT, X', hL, e1, e2, hq, st⟩
  · dsimp only [Pt.U, Pt.locs, Pt.cells, Pt.slots] at X' e1 e2 h1 h2 h3 st hcl
    subst h1; subst h2; subst h3
    exact Or.inr ⟨q, (T.setVm vm₁).calling g' mk As.toArray, t, U', L, E, ce, hT, X', hL, e1, e2, hq, hce, hcv, vx_cls hW₁ hcl, st⟩
end Runs
section Rows
variable {p : Program} {l : Launch} {e : Env} {R : Room} {s : State} {m : MethodId} {args : Array Value} {below : List Frame} {meth : Method} {c : Code} {H : Heap} {locs : List Loc} {cells slots : Nat} {Q : State → Prop}
variable {mc ms : Nat} {free : Addr → Prop} {A0 A1 : Nat → Prop} {H0 : Heap} {a : Array Value} {pc : Nat} {ls : Array Slot} {st0 rest : List Value}
theorem vx_keep {st₀ t T' : State} {L : List Loc} (h0 : st₀.heap = H) (e1 : T'.heap = t.heap) (hS : va_S A0 H0 H locs) (hA : ∀ q, q < H.size → A1 q → A0 q) (hf : ∀ q, free q → A0 q) (hL : ∀ q ∈ L, free q.base) (hF : va_F A1 st₀ t) :
    H.size ≤ T'.heap.size ∧ (∀ q : Nat, q < H.size → ¬ A1 q → T'.heap[q]? = H[q]?) ∧ va_S A0 H0 T'.heap (locs ++ L) := by
  obtain ⟨hz, hk⟩ := hF
  rw [h0] at hz hk
  exact ⟨by rw [e1]; exact hz, fun q h1 h2 => by rw [e1]; exact hk q h1 h2,
    ⟨Nat.le_trans hS.1 (by rw [e1]; exact hz), fun q h1 h2 => by rw [e1, hk q (Nat.lt_of_lt_of_le h1 hS.1) (fun z => h2 (hA q (Nat.lt_of_lt_of_le h1 hS.1) z))]; exact hS.2.1 q h1 h2, fun q hq => by
      rcases List.mem_append.mp hq with h | h
      · exact hS.2.2 q h
      · exact hf _ (hL q h)⟩⟩
theorem vx_calli {S SX : Type} {post : Int32 → S → Prop} {px : SX → Prop} {B : S → State → Prop} {BX : String → SX → State → Prop} {AX : Nat → Prop} (hr : vx_Run p l e R s m args below meth c H locs cells slots mc ms (F0 m pc ls st0) rest (va_Qi post B A1 a) (vx_X px BX AX) free) (hS : va_S A0 H0 H locs) (hA : ∀ q, q < H.size → A1 q → A0 q) (hf : ∀ q, free q → A0 q) (hAX : ∀ q, q < H.size → AX q → A0 q)
    (kx : ∀ (E : String) (ce : Cell) (q9 : Addr) (u : SX) (t : State) (H1 : Heap) (locs1 : List Loc), t.heap = H1 → s.vm.Alike t.vm → px u → BX E u t → H.size ≤ H1.size → (∀ q : Nat, q < H.size → ¬ AX q → H1[q]? = H[q]?) → va_S A0 H0 H1 locs1 → H1[q9]? = some ce → ce.vm = .none → s.vm.findClass E = some ce.cls → vx_W p l e R s m args below meth c H1 locs1 (cells + mc) (slots + ms) Q (F0 m pc ls rest) q9)
    (kk : ∀ (r : Int32) (u : S) (t : State) (H1 : Heap) (locs1 : List Loc), t.heap = H1 → s.vm.Alike t.vm → post r u → B u t → H.size ≤ H1.size → (∀ q : Nat, q < H.size → ¬ A1 q → H1[q]? = H[q]?) → va_S A0 H0 H1 locs1 → W p l e R s m args below meth c H1 locs1 (cells + mc) (slots + ms) Q (F0 m (pc + 3) ls (.int r :: rest))) : W p l e R s m args below meth c H locs cells slots Q (F0 m pc ls st0) := by
  intro T hT X
  rcases hr T hT X with ⟨v, st₀, t, T', L, h0, X', hL, e1, e2, ⟨⟨r, u, hv, hp, hb⟩, hF⟩, st⟩ | ⟨q, st₀, t, T', L, E, ce, h0, X', hL, e1, e2, ⟨u, hp, hb, hF⟩, hce, hcv, hcl, st⟩
  · cases hv
    obtain ⟨k1, k2, k3⟩ := vx_keep h0 e1 hS hA hf hL hF
    obtain ⟨t2, a1, b1⟩ := kk r u t T'.heap (locs ++ L) e1.symm (by rw [← e2]; exact X'.warmed.alike) hp hb k1 k2 k3 T' rfl X'
    exact ⟨t2, st t2 a1, b1⟩
  · obtain ⟨k1, k2, k3⟩ := vx_keep h0 e1 hS hAX hf hL hF
    obtain ⟨t2, a1, b1⟩ := kx E ce q u t T'.heap (locs ++ L) e1.symm (by rw [← e2]; exact X'.warmed.alike) hp hb k1 k2 k3 (by rw [e1]; exact hce) hcv hcl T' rfl X'
    exact ⟨t2, st.trans a1, b1⟩
theorem vx_calll {S SX : Type} {post : Int64 → S → Prop} {px : SX → Prop} {B : S → State → Prop} {BX : String → SX → State → Prop} {AX : Nat → Prop} (hr : vx_Run p l e R s m args below meth c H locs cells slots mc ms (F0 m pc ls st0) rest (va_Ql post B A1 a) (vx_X px BX AX) free) (hS : va_S A0 H0 H locs) (hA : ∀ q, q < H.size → A1 q → A0 q) (hf : ∀ q, free q → A0 q) (hAX : ∀ q, q < H.size → AX q → A0 q)
    (kx : ∀ (E : String) (ce : Cell) (q9 : Addr) (u : SX) (t : State) (H1 : Heap) (locs1 : List Loc), t.heap = H1 → s.vm.Alike t.vm → px u → BX E u t → H.size ≤ H1.size → (∀ q : Nat, q < H.size → ¬ AX q → H1[q]? = H[q]?) → va_S A0 H0 H1 locs1 → H1[q9]? = some ce → ce.vm = .none → s.vm.findClass E = some ce.cls → vx_W p l e R s m args below meth c H1 locs1 (cells + mc) (slots + ms) Q (F0 m pc ls rest) q9)
    (kk : ∀ (r : Int64) (u : S) (t : State) (H1 : Heap) (locs1 : List Loc), t.heap = H1 → s.vm.Alike t.vm → post r u → B u t → H.size ≤ H1.size → (∀ q : Nat, q < H.size → ¬ A1 q → H1[q]? = H[q]?) → va_S A0 H0 H1 locs1 → W p l e R s m args below meth c H1 locs1 (cells + mc) (slots + ms) Q (F0 m (pc + 3) ls (.long r :: rest))) : W p l e R s m args below meth c H locs cells slots Q (F0 m pc ls st0) := by
  intro T hT X
  rcases hr T hT X with ⟨v, st₀, t, T', L, h0, X', hL, e1, e2, ⟨⟨r, u, hv, hp, hb⟩, hF⟩, st⟩ | ⟨q, st₀, t, T', L, E, ce, h0, X', hL, e1, e2, ⟨u, hp, hb, hF⟩, hce, hcv, hcl, st⟩
  · cases hv
    obtain ⟨k1, k2, k3⟩ := vx_keep h0 e1 hS hA hf hL hF
    obtain ⟨t2, a1, b1⟩ := kk r u t T'.heap (locs ++ L) e1.symm (by rw [← e2]; exact X'.warmed.alike) hp hb k1 k2 k3 T' rfl X'
    exact ⟨t2, st t2 a1, b1⟩
  · obtain ⟨k1, k2, k3⟩ := vx_keep h0 e1 hS hAX hf hL hF
    obtain ⟨t2, a1, b1⟩ := kx E ce q u t T'.heap (locs ++ L) e1.symm (by rw [← e2]; exact X'.warmed.alike) hp hb k1 k2 k3 (by rw [e1]; exact hce) hcv hcl T' rfl X'
    exact ⟨t2, st.trans a1, b1⟩
theorem vx_callf {S SX : Type} {post : UInt32 → S → Prop} {px : SX → Prop} {B : S → State → Prop} {BX : String → SX → State → Prop} {AX : Nat → Prop} (hr : vx_Run p l e R s m args below meth c H locs cells slots mc ms (F0 m pc ls st0) rest (va_Qf post B A1 a) (vx_X px BX AX) free) (hS : va_S A0 H0 H locs) (hA : ∀ q, q < H.size → A1 q → A0 q) (hf : ∀ q, free q → A0 q) (hAX : ∀ q, q < H.size → AX q → A0 q)
    (kx : ∀ (E : String) (ce : Cell) (q9 : Addr) (u : SX) (t : State) (H1 : Heap) (locs1 : List Loc), t.heap = H1 → s.vm.Alike t.vm → px u → BX E u t → H.size ≤ H1.size → (∀ q : Nat, q < H.size → ¬ AX q → H1[q]? = H[q]?) → va_S A0 H0 H1 locs1 → H1[q9]? = some ce → ce.vm = .none → s.vm.findClass E = some ce.cls → vx_W p l e R s m args below meth c H1 locs1 (cells + mc) (slots + ms) Q (F0 m pc ls rest) q9)
    (kk : ∀ (r : UInt32) (u : S) (t : State) (H1 : Heap) (locs1 : List Loc), t.heap = H1 → s.vm.Alike t.vm → post r u → B u t → H.size ≤ H1.size → (∀ q : Nat, q < H.size → ¬ A1 q → H1[q]? = H[q]?) → va_S A0 H0 H1 locs1 → W p l e R s m args below meth c H1 locs1 (cells + mc) (slots + ms) Q (F0 m (pc + 3) ls (.float r :: rest))) : W p l e R s m args below meth c H locs cells slots Q (F0 m pc ls st0) := by
  intro T hT X
  rcases hr T hT X with ⟨v, st₀, t, T', L, h0, X', hL, e1, e2, ⟨⟨r, u, hv, hp, hb⟩, hF⟩, st⟩ | ⟨q, st₀, t, T', L, E, ce, h0, X', hL, e1, e2, ⟨u, hp, hb, hF⟩, hce, hcv, hcl, st⟩
  · cases hv
    obtain ⟨k1, k2, k3⟩ := vx_keep h0 e1 hS hA hf hL hF
    obtain ⟨t2, a1, b1⟩ := kk r u t T'.heap (locs ++ L) e1.symm (by rw [← e2]; exact X'.warmed.alike) hp hb k1 k2 k3 T' rfl X'
    exact ⟨t2, st t2 a1, b1⟩
  · obtain ⟨k1, k2, k3⟩ := vx_keep h0 e1 hS hAX hf hL hF
    obtain ⟨t2, a1, b1⟩ := kx E ce q u t T'.heap (locs ++ L) e1.symm (by rw [← e2]; exact X'.warmed.alike) hp hb k1 k2 k3 (by rw [e1]; exact hce) hcv hcl T' rfl X'
    exact ⟨t2, st.trans a1, b1⟩
theorem vx_calld {S SX : Type} {post : UInt64 → S → Prop} {px : SX → Prop} {B : S → State → Prop} {BX : String → SX → State → Prop} {AX : Nat → Prop} (hr : vx_Run p l e R s m args below meth c H locs cells slots mc ms (F0 m pc ls st0) rest (va_Qd post B A1 a) (vx_X px BX AX) free) (hS : va_S A0 H0 H locs) (hA : ∀ q, q < H.size → A1 q → A0 q) (hf : ∀ q, free q → A0 q) (hAX : ∀ q, q < H.size → AX q → A0 q)
    (kx : ∀ (E : String) (ce : Cell) (q9 : Addr) (u : SX) (t : State) (H1 : Heap) (locs1 : List Loc), t.heap = H1 → s.vm.Alike t.vm → px u → BX E u t → H.size ≤ H1.size → (∀ q : Nat, q < H.size → ¬ AX q → H1[q]? = H[q]?) → va_S A0 H0 H1 locs1 → H1[q9]? = some ce → ce.vm = .none → s.vm.findClass E = some ce.cls → vx_W p l e R s m args below meth c H1 locs1 (cells + mc) (slots + ms) Q (F0 m pc ls rest) q9)
    (kk : ∀ (r : UInt64) (u : S) (t : State) (H1 : Heap) (locs1 : List Loc), t.heap = H1 → s.vm.Alike t.vm → post r u → B u t → H.size ≤ H1.size → (∀ q : Nat, q < H.size → ¬ A1 q → H1[q]? = H[q]?) → va_S A0 H0 H1 locs1 → W p l e R s m args below meth c H1 locs1 (cells + mc) (slots + ms) Q (F0 m (pc + 3) ls (.double r :: rest))) : W p l e R s m args below meth c H locs cells slots Q (F0 m pc ls st0) := by
  intro T hT X
  rcases hr T hT X with ⟨v, st₀, t, T', L, h0, X', hL, e1, e2, ⟨⟨r, u, hv, hp, hb⟩, hF⟩, st⟩ | ⟨q, st₀, t, T', L, E, ce, h0, X', hL, e1, e2, ⟨u, hp, hb, hF⟩, hce, hcv, hcl, st⟩
  · cases hv
    obtain ⟨k1, k2, k3⟩ := vx_keep h0 e1 hS hA hf hL hF
    obtain ⟨t2, a1, b1⟩ := kk r u t T'.heap (locs ++ L) e1.symm (by rw [← e2]; exact X'.warmed.alike) hp hb k1 k2 k3 T' rfl X'
    exact ⟨t2, st t2 a1, b1⟩
  · obtain ⟨k1, k2, k3⟩ := vx_keep h0 e1 hS hAX hf hL hF
    obtain ⟨t2, a1, b1⟩ := kx E ce q u t T'.heap (locs ++ L) e1.symm (by rw [← e2]; exact X'.warmed.alike) hp hb k1 k2 k3 (by rw [e1]; exact hce) hcv hcl T' rfl X'
    exact ⟨t2, st.trans a1, b1⟩
theorem vx_callv {S SX : Type} {post : S → Prop} {px : SX → Prop} {B : S → State → Prop} {BX : String → SX → State → Prop} {AX : Nat → Prop} (hr : vx_Run p l e R s m args below meth c H locs cells slots mc ms (F0 m pc ls st0) rest (va_Qv post B A1 a) (vx_X px BX AX) free) (hS : va_S A0 H0 H locs) (hA : ∀ q, q < H.size → A1 q → A0 q) (hf : ∀ q, free q → A0 q) (hAX : ∀ q, q < H.size → AX q → A0 q)
    (kx : ∀ (E : String) (ce : Cell) (q9 : Addr) (u : SX) (t : State) (H1 : Heap) (locs1 : List Loc), t.heap = H1 → s.vm.Alike t.vm → px u → BX E u t → H.size ≤ H1.size → (∀ q : Nat, q < H.size → ¬ AX q → H1[q]? = H[q]?) → va_S A0 H0 H1 locs1 → H1[q9]? = some ce → ce.vm = .none → s.vm.findClass E = some ce.cls → vx_W p l e R s m args below meth c H1 locs1 (cells + mc) (slots + ms) Q (F0 m pc ls rest) q9)
    (kk : ∀ (u : S) (t : State) (H1 : Heap) (locs1 : List Loc), t.heap = H1 → s.vm.Alike t.vm → post u → B u t → H.size ≤ H1.size → (∀ q : Nat, q < H.size → ¬ A1 q → H1[q]? = H[q]?) → va_S A0 H0 H1 locs1 → W p l e R s m args below meth c H1 locs1 (cells + mc) (slots + ms) Q (F0 m (pc + 3) ls (rest))) : W p l e R s m args below meth c H locs cells slots Q (F0 m pc ls st0) := by
  intro T hT X
  rcases hr T hT X with ⟨v, st₀, t, T', L, h0, X', hL, e1, e2, ⟨⟨u, hv, hp, hb⟩, hF⟩, st⟩ | ⟨q, st₀, t, T', L, E, ce, h0, X', hL, e1, e2, ⟨u, hp, hb, hF⟩, hce, hcv, hcl, st⟩
  · cases hv
    obtain ⟨k1, k2, k3⟩ := vx_keep h0 e1 hS hA hf hL hF
    obtain ⟨t2, a1, b1⟩ := kk u t T'.heap (locs ++ L) e1.symm (by rw [← e2]; exact X'.warmed.alike) hp hb k1 k2 k3 T' rfl X'
    exact ⟨t2, st t2 a1, b1⟩
  · obtain ⟨k1, k2, k3⟩ := vx_keep h0 e1 hS hAX hf hL hF
    obtain ⟨t2, a1, b1⟩ := kx E ce q u t T'.heap (locs ++ L) e1.symm (by rw [← e2]; exact X'.warmed.alike) hp hb k1 k2 k3 (by rw [e1]; exact hce) hcv hcl T' rfl X'
    exact ⟨t2, st.trans a1, b1⟩
/-- caught by the row x of this method's table; the rows ahead don't take it -/
theorem vx_catch {own name : String} {E : String} {ce : Cell} {q : Addr} (hown : s.vm.findClass own = some m.cls) (pre : List ExceptionTableEntry) (x : ExceptionTableEntry) (suf : List ExceptionTableEntry) (hsplit : c.exceptionTable.toList = pre ++ x :: suf)
    (hpass : ∀ z ∈ pre, covers z pc = false ∨ (z.catchType ≠ 0 ∧ ∃ nm : String, (Cond.classLink own z.catchType nm).before args s = true ∧ va_Nc E nm s)) (hx : covers x pc = true) (h0 : x.catchType ≠ 0)
    (hlink : (Cond.classLink own x.catchType name).before args s = true) (hcast : (Cond.castable E name).before args s = true) (hcell : H[q]? = some ce) (hv : ce.vm = .none) (hcl : s.vm.findClass E = some ce.cls)
    (kk : W p l e R s m args below meth c H locs cells slots Q (F0 m x.handlerPc ls [.ref q])) : vx_W p l e R s m args below meth c H locs cells slots Q (F0 m pc ls rest) q := by
  intro T hT X
  have hpl : e.platform.magicAccessors = ({} : Platform).magicAccessors := by rw [X.admits.platform]
  obtain ⟨c3, c4, hc3, hc4, hasg⟩ := Cond.castable_spec hcast
  cases Option.some.inj (hc3.symm.trans hcl)
  obtain ⟨c5, hc5, hcl5⟩ := Cond.classLink_spec hown hlink e.platform hpl
  cases Option.some.inj (hc4.symm.trans hc5)
  obtain ⟨vm', X', st⟩ := xc_through X q (g := F0 m pc ls rest) rfl (Steps.refl _) (by rw [hT]; exact hcell) (by rw [hv]; rfl) (by obtain ⟨k9, h9, -⟩ := Vm.findClass_spec hcl; exact ⟨k9, h9⟩) pre x suf hsplit
    (fun z hz => by
      rcases hpass z hz with h | ⟨hz0, nm, hl1, hn1⟩
      · exact Or.inl h
      · obtain ⟨c6, hc6, hcl6⟩ := Cond.classLink_spec hown hl1 e.platform hpl
        obtain ⟨a8, b8, h1, h2, h3⟩ := hn1
        cases Option.some.inj (h1.symm.trans hcl)
        cases Option.some.inj (h2.symm.trans hc6)
        exact Or.inr ⟨hz0, _, hcl6, h3⟩) hx h0 hcl5 hasg
  obtain ⟨t, a1, b1⟩ := kk (T.setVm vm') hT X'
  exact ⟨t, st.trans a1, b1⟩
end Rows
section Ends
variable {p : Program} {l : Launch} {e : Env} {R : Room} {s : State} {m : MethodId} {args : Array Value} {below : List Frame} {meth : Method} {c : Code} {H : Heap} {locs : List Loc} {cells slots : Nat} {Q : State → Prop}
variable {mc ms : Nat} {free : Addr → Prop} {A0 A1 : Nat → Prop} {H0 : Heap} {a : Array Value} {ls : Array Slot} {st0 rest : List Value}
variable {Qc : Array Value → State → Outcome → State → Prop} {XC : String → State → State → Prop}
/-- what a body that may throw owes at its end -/
def vx_MQ (below : List Frame) (Qc : Array Value → State → Outcome → State → Prop) (XC : String → State → State → Prop) (a : Array Value) (s : State) (mc ms : Nat) (free : Addr → Prop) : State → Prop := fun t =>
  ∃ o, t.status = .running ∧ Ended t below o ∧ vx_Q Qc XC mc ms free a s o t
theorem vx_ret {g : JFrame} {mc ms : Nat} (k : W p l e R s m args below meth c H locs cells slots (MQ below Qc args s mc ms free) g) : W p l e R s m args below meth c H locs cells slots (vx_MQ below Qc XC args s mc ms free) g := by
  intro T hT X
  obtain ⟨t, a1, o, b1, b2, b3, b4⟩ := k T hT X
  exact ⟨t, a1, o, b1, b2, Or.inl ⟨b3, b4⟩⟩
/-- not caught here: it goes on to the caller -/
theorem vx_widen {g : JFrame} {q : Addr} {k n : Nat} (h1 : cells ≤ k) (h2 : slots ≤ n) (kk : vx_W p l e R s m args below meth c H locs k n Q g q) : vx_W p l e R s m args below meth c H locs cells slots Q g q := fun T hT X => kk T hT (stand_widen X h1 h2)
theorem vx_out {pc : Nat} {E : String} {ce : Cell} {q : Addr} {mc ms : Nat} (hout : ∀ x ∈ c.exceptionTable.toList, covers x pc = false) (hlocks : meth.locks = false) (hcell : H[q]? = some ce) (hv : ce.vm = .none) (hcl : s.vm.findClass E = some ce.cls)
    (hx : ∀ t : State, t.heap = H → s.vm.Alike t.vm → XC E s t) (hf : ∀ z ∈ locs, free z.base) (hc : cells ≤ mc) (hs : slots ≤ ms) :
    vx_W p l e R s m args below meth c H locs cells slots (vx_MQ below Qc XC args s mc ms free) (F0 m pc ls rest) q := by
  intro T hT X
  obtain ⟨st1, hrun, hend, hW, hsm⟩ := X.leaveThrown q (g := F0 m pc ls rest) rfl rfl rfl hout hlocks
  have hcell9 : (T.setFrames (.throwing q :: below)).heap[q]? = some ce := by
    show T.heap[q]? = some ce
    rw [hT]; exact hcell
  exact ⟨_, st1, .threw q, hrun, hend, Or.inr ⟨q, rfl, E, ce, locs, hx _ hT hW.alike, hcell9, hv, hcl, hW, hsm.mono hc hs, hf⟩⟩
theorem vx_frame {U : State} {k n : Nat} (h : s.sameButNew ({ U with vm := s.vm } : State) locs k n) : s.heap.size ≤ U.heap.size ∧ ∀ q : Nat, q < s.heap.size → (∀ z ∈ locs, z.base ≠ q) → U.heap[q]? = s.heap[q]? := by
  obtain ⟨-, h2, -, -, -, h6⟩ := h
  refine ⟨h2, fun q hq hz => ?_⟩
  obtain ⟨c9, e1, e2, e3, e4⟩ := h6 q _ (Array.getElem?_eq_getElem hq)
  have hs : c9.slots = (s.heap[q]).slots := Array.ext_getElem? fun i => e4 i fun hm => hz _ hm rfl
  have h9 : c9 = s.heap[q] := by
    rw [hs] at e2
    exact e2
  have e5 : U.heap[q]? = some c9 := e1
  rw [e5, h9, Array.getElem?_eq_getElem hq]
/-- the words of a throw but the four that speak of the heap -/
def vx_no (w : Cond) : Bool := decide (w ≠ .isRef (.static Bundle.tN "UNASSIGNED_STACK" Bundle.steD)) && decide (w ≠ .isRef (.static Bundle.tN "SUPPRESSED_SENTINEL" Bundle.listD)) && decide (w ≠ .laysStatic Bundle.tN "UNASSIGNED_STACK" Bundle.steD) && decide (w ≠ .laysStatic Bundle.tN "SUPPRESSED_SENTINEL" Bundle.listD)
def vx_at0 (own : String) (ic : Nat) (X : String) (names : List String) : List Cond := (Bundle.ownAtoms0 own ic X names).filter vx_no
def vx_atS (own : String) (ic : Nat) (X : String) (names : List String) : List Cond := (Bundle.ownAtoms own ic X names).filter vx_no
def xn_atS (own : String) (ic : Nat) (X : String) (names : List String) : List Cond := (xn_own own ic X names).filter vx_no
/-- a word that the tables alone decide, or a good one -/
def vx_ot (w : Cond) : Bool := w.onTables || goodWord w
theorem vx_ot_at {args a' : Array Value} {s U : State} {w : Cond} (hW : s.WarmedH U.vm) (hvm : s.vm = U.vm) (hg : vx_ot w = true) (h : w.before args s = true) : w.before a' U = true := by
  simp only [vx_ot, Bool.or_eq_true] at hg
  rcases hg with hg | hg
  · exact va_tabs hg hvm h
  · exact word_at hW (good_of_word hg) h
/-- a list's words: the good ones out of the method's own list, the others by premises of their own -/
theorem vx_hat {args : Array Value} {s : State} {L B : List Cond} (h1 : ∀ w ∈ L.filter goodWord, w.before args s = true) (h2 : ∀ w ∈ L.filter (fun w => !goodWord w), w ∈ B) (h3 : ∀ w ∈ B, w.before args s = true) : ∀ w ∈ L, w.before args s = true := by
  intro w hw
  by_cases g : goodWord w = true
  · exact h1 w (List.mem_filter.mpr ⟨hw, g⟩)
  · refine h3 w (h2 w (List.mem_filter.mpr ⟨hw, ?_⟩))
    show (!goodWord w) = true
    cases hgw : goodWord w
    · rfl
    · exact absurd hgw g
theorem vx_c {args : Array Value} {s : State} {w : Cond} {B : List Cond} (h : w.before args s = true) (t : ∀ w ∈ B, w.before args s = true) : ∀ w' ∈ w :: B, w'.before args s = true := fun w' h' => (List.mem_cons.mp h').elim (fun e => by rw [e]; exact h) (t w')
theorem vx_n {args : Array Value} {s : State} : ∀ w ∈ ([] : List Cond), w.before args s = true := fun _ h => nomatch h
theorem vx_own {args : Array Value} {s : State} {L : List Cond} (h1 : ∀ w ∈ L.filter vx_no, w.before args s = true)
    (hU : (Cond.isRef (.static Bundle.tN "UNASSIGNED_STACK" Bundle.steD)).before args s = true) (hN : (Cond.isRef (.static Bundle.tN "SUPPRESSED_SENTINEL" Bundle.listD)).before args s = true)
    (lU : (Cond.laysStatic Bundle.tN "UNASSIGNED_STACK" Bundle.steD).before args s = true) (lN : (Cond.laysStatic Bundle.tN "SUPPRESSED_SENTINEL" Bundle.listD).before args s = true) : ∀ w ∈ L, w.before args s = true := by
  intro w hw
  by_cases e1 : w = .isRef (.static Bundle.tN "UNASSIGNED_STACK" Bundle.steD)
  · rw [e1]; exact hU
  · by_cases e2 : w = .isRef (.static Bundle.tN "SUPPRESSED_SENTINEL" Bundle.listD)
    · rw [e2]; exact hN
    · by_cases e3 : w = .laysStatic Bundle.tN "UNASSIGNED_STACK" Bundle.steD
      · rw [e3]; exact lU
      · by_cases e4 : w = .laysStatic Bundle.tN "SUPPRESSED_SENTINEL" Bundle.listD
        · rw [e4]; exact lN
        · exact h1 w (List.mem_filter.mpr ⟨hw, by unfold vx_no; rw [decide_eq_true e1, decide_eq_true e2, decide_eq_true e3, decide_eq_true e4]; rfl⟩)
/-- where a static field lies, its class's statics cell in H -/
def vx_L (C n d : String) (A : Nat → Prop) (U : State) (H : Heap) : Prop := ∃ (c : ClassId) (k : Class) (i : Nat) (f : Field) (a : Nat) (cell : Cell), U.vm.findClass C = some c ∧ U.fieldFound? C n d = some (c, k, i, f) ∧ f.isStatic = true ∧ k.statics = some a ∧ H[a]? = some cell ∧ cell.vm.isStatics = true ∧ cell.cls = c ∧ f.slot < cell.slots.size ∧ k.staticTypes[f.slot]? = some f.type ∧ ¬ A a
theorem vx_L.moved {C n d : String} {A : Nat → Prop} {u U : State} {H : Heap} (hvm : u.vm.Alike U.vm) (h : vx_L C n d A u H) : vx_L C n d A U H := by
  obtain ⟨c, k, i, f, a, cell, h1, h2, h3, h4, h5, h6, h7, h8, h9, h10⟩ := h
  obtain ⟨k', hi', he⟩ := State.fieldFound?_setVm hvm h2
  exact ⟨c, k', i, f, a, cell, by rw [hvm.findClass]; exact h1, hi', h3, by rw [he]; exact h4, h5, h6, h7, h8, by rw [he]; exact h9, h10⟩
theorem vx_L.kept {C n d : String} {A : Nat → Prop} {U : State} {H H1 : Heap} (h : vx_L C n d A U H) (hq : ∀ a : Nat, a < H.size → ¬ A a → H1[a]? = H[a]?) : vx_L C n d A U H1 := by
  obtain ⟨c, k, i, f, a, cell, h1, h2, h3, h4, h5, h6, h7, h8, h9, h10⟩ := h
  exact ⟨c, k, i, f, a, cell, h1, h2, h3, h4, by rw [hq a (Array.getElem?_eq_some_iff.mp h5).1 h10]; exact h5, h6, h7, h8, h9, h10⟩
theorem vx_L.narrow {C n d : String} {A B : Nat → Prop} {U : State} {H : Heap} (h : vx_L C n d A U H) (hAB : ∀ q, B q → A q) : vx_L C n d B U H := by
  obtain ⟨c, k, i, f, a, cell, h1, h2, h3, h4, h5, h6, h7, h8, h9, h10⟩ := h
  exact ⟨c, k, i, f, a, cell, h1, h2, h3, h4, h5, h6, h7, h8, h9, fun z => h10 (hAB _ z)⟩
theorem vx_L.word {C n d : String} {A : Nat → Prop} {s : State} {args : Array Value} (h : vx_L C n d A s s.heap) : (Cond.laysStatic C n d).before args s = true := by
  obtain ⟨c, k, i, f, a, cell, h1, h2, h3, h4, h5, h6, h7, h8, h9, -⟩ := h
  show (Cond.laysStatic C n d).holds args s none s [] = true
  exact Cond.laysStatic_of h1 h2 h3 h4 h5 h6 h7 h8 h9
/-- .. and what it holds: null or some reference -/
def vx_Zq (C n d : String) (A : Nat → Prop) (U : State) (H : Heap) : Prop := va_Zq C n d A U H ∧ vx_L C n d A U H
theorem vx_Zq.moved {C n d : String} {A : Nat → Prop} {u U : State} {H : Heap} (hvm : u.vm.Alike U.vm) (h : vx_Zq C n d A u H) : vx_Zq C n d A U H := ⟨va_Zq.moved hvm h.1, vx_L.moved hvm h.2⟩
theorem vx_Zq.kept {C n d : String} {A : Nat → Prop} {U : State} {H H1 : Heap} (h : vx_Zq C n d A U H) (hq : ∀ a : Nat, a < H.size → ¬ A a → H1[a]? = H[a]?) : vx_Zq C n d A U H1 := ⟨va_Zq.kept h.1 hq, vx_L.kept h.2 hq⟩
theorem vx_Zq.narrow {C n d : String} {A B : Nat → Prop} {U : State} {H : Heap} (h : vx_Zq C n d A U H) (hAB : ∀ q, B q → A q) : vx_Zq C n d B U H := ⟨va_Zq.narrow h.1 hAB, vx_L.narrow h.2 hAB⟩
theorem vx_Zqof {args : Array Value} {s : State} {C n d : String} {A : Nat → Prop} (hl : (Cond.laysStatic C n d).before args s = true) (hini : (Cond.initialized C).before args s = true) (h : (Cond.isRef (.static C n d)).before args s = true) (hA : ∀ a : Nat, a < s.heap.size → ¬ A a) : vx_Zq C n d A s s.heap := by
  refine ⟨va_Zqof hl hini h hA, ?_⟩
  obtain ⟨c, k, i, f, a, cell, h1, h2, h3, h4, h5, h6, h7, h8, h9⟩ := Cond.laysStatic_spec hl
  exact ⟨c, k, i, f, a, cell, h1, h2, h3, h4, h5, h6, h7, h8, h9, hA a (Array.getElem?_eq_some_iff.mp h5).1⟩
theorem vx_isRef {C n d : String} {v : Value} {A : Nat → Prop} {s : State} {args : Array Value} (h : va_Z C n d v A s s.heap) (hv : v.isRef = true) : (Cond.isRef (.static C n d)).before args s = true := by
  obtain ⟨cf, kf, fi, f, a, cell, h1, h2, h3, h4, h5, h6, h7, -⟩ := h
  have he : (Term.static C n d).eval args s none [] s = some v := by
    simp [Term.eval, State.fieldNamed?, h1, h2, h4, h5, h6, h7]
  simp only [Cond.before, Cond.holds, Cond.value, he]
  cases v <;> simp_all [Value.isRef]
theorem vx_isRefq {C n d : String} {A : Nat → Prop} {s : State} {args : Array Value} (h : va_Zq C n d A s s.heap) : (Cond.isRef (.static C n d)).before args s = true := by
  rcases h with h | ⟨t, h⟩
  · exact vx_isRef h rfl
  · exact vx_isRef h rfl
/-- the same frame, seen from here: as if the method were called anew in this heap -/
theorem vx_rebase {T : State} (X : Stand p l e R s m args below meth c T locs cells slots) {R' : Room} (hf : R'.frames ≤ R.frames) (hl : R'.locals ≤ R.locals) (hc : cells + R'.cells ≤ R.cells) (hs : slots + R'.slots ≤ R.slots) :
    Stand p l e R' ((T.setVm s.vm).setFrames (.invoking m args :: below)) m args below meth c T [] 0 0 := by
  have htop : (T.setVm s.vm).topJava?.isSome := X.here.top
  have hF : ((T.setVm s.vm).setFrames (.invoking m args :: below)).frames = .invoking m args :: below := State.frames_setFrames _ (State.cur_lt_of_top htop)
  obtain ⟨g₀, hg0⟩ := Option.isSome_iff_exists.mp htop
  obtain ⟨r, hr⟩ := State.topJava?_eq_some.mp hg0
  have hl9 : e.platform.stackLimits (T.setVm s.vm).me = e.platform.stackLimits s.me := X.limits
  have hb9 : (T.setVm s.vm).me.stackBytes = s.me.stackBytes := X.bytes
  refine ⟨X.admits, X.cas, X.clock, hF, ?_, X.hears, X.method, X.code, X.here, X.tail, X.warmed, ?_, ?_, ?_⟩
  · have h := X.room
    have hU : ((T.setVm s.vm).setFrames (.invoking m args :: below)).localsInUse = s.localsInUse := by
      rw [State.localsInUse_invoking hF (meth := meth) (c := c) X.method X.code, State.localsInUse_invoking X.frames X.method X.code]
    simp only [State.hasRoom, Bool.and_eq_true, decide_eq_true_eq] at h ⊢
    obtain ⟨⟨⟨⟨h1, h2, h3, h4, h5, h6⟩, h7⟩, h8⟩, h9⟩ := h
    rw [X.frames, List.length_cons] at h2 h3
    have q1 := X.heapSize
    have q2 := X.used
    simp only [hF, hU, List.length_cons, State.stackLimits_setFrames, State.stackBytes_setFrames, hl9, hb9]
    refine ⟨⟨⟨⟨by omega, by omega, by omega, by omega, by omega, h6⟩, ?_⟩, ?_⟩, X.book⟩
    · show T.heap.size + R'.cells ≤ e.platform.maxCells
      omega
    · show T.slotsUsed + R'.slots ≤ e.platform.maxSlots
      omega
  · rw [State.stackLimits_setFrames]; rfl
  · rw [State.stackBytes_setFrames]; rfl
  · refine ⟨?_, Nat.le_refl _, Nat.le_refl _, ?_, ?_, fun a c9 h9 => ⟨c9, h9, rfl, rfl, fun _ _ => rfl⟩⟩
    · obtain ⟨t, ht, -⟩ := State.frames_cons hr
      show T.setVm s.vm = { ((T.setVm s.vm).setFrames (.invoking m args :: below)).setFrames (T.setVm s.vm).frames with heap := T.heap, slotsUsed := T.slotsUsed }
      rw [State.setFrames_setFrames, State.setFrames_self ht]
      rfl
    · show T.slotsUsed = T.slotsUsed + ((T.heap.toList.drop T.heap.size).map (·.slots.size)).sum
      rw [List.drop_eq_nil_of_le (Nat.le_of_eq Array.length_toList)]
      rfl
    · show ((T.heap.toList.drop T.heap.size).map (·.slots.size)).sum ≤ 0
      rw [List.drop_eq_nil_of_le (Nat.le_of_eq Array.length_toList)]
      exact Nat.le_refl _
/-- 'throw new E()': new; dup; invokespecial; athrow -/
theorem vx_throw0 {cc : ByteArray} {pc : Nat} (hexec : p.tables.exec = Jvm.exec) (hb : c.code = cc) (hl : l.stackTraces = false) {own cls : String} {names : List String} {ik ic mc ms : Nat} {A : Nat → Prop}
    (hown : s.vm.findClass own = some m.cls) (hcls : Bundle.fit cls = true) (hnames : ∀ n ∈ names, Bundle.fit n = true)
    (hk : (Cond.classLink own ik cls).before args s = true) (hini : (Cond.initialized cls).before args s = true) (hat : ∀ w ∈ vx_at0 own ic cls names, w.before args s = true)
    (hgood : ∀ w ∈ Cond.classLink own ik cls :: Cond.initialized cls :: vx_at0 own ic cls names, vx_ot w = true)
    (hU : vx_Zq Bundle.tN "UNASSIGNED_STACK" Bundle.steD A s s.heap) (hN : vx_Zq Bundle.tN "SUPPRESSED_SENTINEL" Bundle.listD A s s.heap) (hS : va_S A s.heap H locs) (hsize : ls.size = c.maxLocals)
    (d0 : decode cc pc = .ok (.new ik, 3)) (d3 : decode cc (pc + 3) = .ok (.dup, 1)) (d4 : decode cc (pc + 4) = .ok (.invokespecial ic, 3)) (d7 : decode cc (pc + 7) = .ok (.athrow, 1))
    (hout : ∀ x ∈ c.exceptionTable.toList, covers x (pc + 7) = false)
    (hRframes : names.length + 3 < R.frames) (hRlocals : (rest.map fun v => v.category).sum + (13 * (names.length + 1) + 42) ≤ R.locals) (hRcells : cells + 1 ≤ R.cells) (hRslots : slots + 6 ≤ R.slots) (hlocks : meth.locks = false)
    (hx : ∀ t : State, s.vm.Alike t.vm → H.size ≤ t.heap.size → (∀ q : Nat, q < H.size → t.heap[q]? = H[q]?) → XC cls s t)
    (hf : ∀ z ∈ locs, free z.base) (hc : cells + 1 ≤ mc) (hs : slots + 6 ≤ ms) :
    W p l e R s m args below meth c H locs cells slots (vx_MQ below Qc XC args s mc ms free) (F0 m pc ls rest) := by
  intro T hT X
  have htr : e.platform.stackTraces = false := (show e.platform.stackTraces = l.stackTraces by rw [X.admits.platform]).trans hl
  have Y := vx_rebase X (R' := { frames := R.frames, locals := R.locals, cells := 1, slots := 6 }) (Nat.le_refl _) (Nat.le_refl _) hRcells hRslots
  obtain ⟨s', hA⟩ : ∃ z, z = (T.setVm s.vm).setFrames (.invoking m args :: below) := ⟨_, rfl⟩
  rw [← hA] at Y
  have hvm : s'.vm = s.vm := by rw [hA]; rfl
  have hhp : s'.heap = H := by rw [hA]; exact hT
  have hW0 : s.WarmedH s'.vm := by rw [hvm]; exact State.WarmedH.refl s
  have hat' : ∀ w ∈ vx_at0 own ic cls names, w.before args s' = true := fun w hw => vx_ot_at hW0 hvm.symm (hgood w (List.mem_cons_of_mem _ (List.mem_cons_of_mem _ hw))) (hat w hw)
  have hk' : (Cond.classLink own ik cls).before args s' = true := vx_ot_at hW0 hvm.symm (hgood _ List.mem_cons_self) hk
  have hini' : (Cond.initialized cls).before args s' = true := vx_ot_at hW0 hvm.symm (hgood _ (List.mem_cons_of_mem _ List.mem_cons_self)) hini
  have hU' : vx_Zq Bundle.tN "UNASSIGNED_STACK" Bundle.steD A s' s'.heap := by rw [hhp]; exact vx_Zq.moved hW0.alike (hU.kept hS.2.1)
  have hN' : vx_Zq Bundle.tN "SUPPRESSED_SENTINEL" Bundle.listD A s' s'.heap := by rw [hhp]; exact vx_Zq.moved hW0.alike (hN.kept hS.2.1)
  have h : ∀ w ∈ Bundle.ownAtoms0 own ic cls names, w.before args s' = true := vx_own hat' (vx_isRefq hU'.1) (vx_isRefq hN'.1) hU'.2.word hN'.2.word
  have hown' : s'.vm.findClass own = some m.cls := by rw [hvm]; exact hown
  have hins : (Cond.instantiable cls 6).before args s' = true := h _ (by simp [Bundle.ownAtoms0])
  obtain ⟨vm₁, cX, kX, hfX, hkX, -, -, X₁, st1⟩ := Y.newCold hexec (own := own) (C := cls) (index := ik) (n := 6) hown' hk' hins hini'
    (g := F0 m pc ls rest) rfl (by rw [hb]; exact d0) (Nat.le_refl _) (Nat.le_refl _)
  generalize hT1 : (T.setVm vm₁).pushCell { cls := cX, slots := kX.instanceTypes.map defaultValue, vm := .none } = T1 at X₁ st1
  have hcat : (Value.ref T.heap.size).category = 1 := rfl
  have hcellA : T1.heap[T.heap.size]? = some (freshCell cX kX) := by rw [← hT1]; exact State.heap_pushCell_size _ _
  have d3' : decode c.code (pc + 3) = .ok (.dup, 1) := by rw [hb]; exact d3
  obtain ⟨U, hsteps, hrun, hend, hW, hsame, ce, hce, hO⟩ := X₁.ctorThrow0 hexec htr (own := own) (cls := cls) (names := names) (ic := ic) hown' hcls hnames h (fun x hx => nomatch hx) hfX hkX hcellA (by rw [hhp, hT]; exact Nat.le_refl _)
    (g := { method := m, pc := pc + 4, locals := ls, stack := .ref T.heap.size :: .ref T.heap.size :: rest, locked := none }) rfl hsize rfl rfl (rest := rest) rfl
    (by rw [hb]; exact d4) (by rw [hb]; exact d7) hout hRframes (by simp only [List.map_cons, List.sum_cons, hcat]; omega) hlocks
  obtain ⟨f1, f2⟩ := vx_frame hsame
  rw [hhp] at f1 f2
  have hWs : s.WarmedH U.vm := State.WarmedH.trans hW0 hW
  have hcl : s.vm.findClass cls = some ce.cls := by
    have h9 := hO.cls
    rw [hvm] at h9
    exact h9
  have hall : s.sameButNew ({ U with vm := s.vm } : State) locs mc ms := by
    subst hA
    obtain ⟨e1, e2⟩ := hsame
    rw [State.setFrames_setFrames] at e1
    have h2 : (T.setVm s.vm).sameButNew ({ U with vm := s.vm } : State) [] (0 + 1) (0 + 6) := ⟨e1, e2⟩
    have h3 := X.same.trans h2
    rw [List.append_nil] at h3
    exact h3.mono hc hs
  refine ⟨U, ?_, .threw T.heap.size, hrun, hend, Or.inr ⟨T.heap.size, rfl, cls, ce, locs, hx U hWs.alike f1 (fun q hq => f2 q hq (fun z hz => nomatch hz)), hce, hO.vm, hcl, hWs, hall, hf⟩⟩
  refine st1 _ ?_
  show Steps p.tables e below (T1.setTop { method := m, pc := pc + 3, locals := ls, stack := .ref T.heap.size :: rest, locked := none }) _
  jvm_step X₁.here [X₁.here.top, hexec, d3', Value.category]
  exact hsteps
/-- 'throw new E("text")': new; dup; ldc; invokespecial; athrow -/
theorem vx_throwS {cc : ByteArray} {pc : Nat} (hexec : p.tables.exec = Jvm.exec) (hb : c.code = cc) (hl : l.stackTraces = false) {own cls text : String} {names : List String} {ik is ic mc ms sa : Nat} {A : Nat → Prop}
    (hown : s.vm.findClass own = some m.cls) (hcls : Bundle.fit cls = true) (hnames : ∀ n ∈ names, Bundle.fit n = true)
    (hk : (Cond.classLink own ik cls).before args s = true) (hini : (Cond.initialized cls).before args s = true) (hstr : vk_R own is text sa s) (hat : ∀ w ∈ vx_atS own ic cls names, w.before args s = true)
    (hgood : ∀ w ∈ Cond.classLink own ik cls :: Cond.initialized cls :: vx_atS own ic cls names, vx_ot w = true)
    (hU : vx_Zq Bundle.tN "UNASSIGNED_STACK" Bundle.steD A s s.heap) (hN : vx_Zq Bundle.tN "SUPPRESSED_SENTINEL" Bundle.listD A s s.heap) (hS : va_S A s.heap H locs) (hsize : ls.size = c.maxLocals)
    (d0 : decode cc pc = .ok (.new ik, 3)) (d3 : decode cc (pc + 3) = .ok (.dup, 1)) (d4 : decode cc (pc + 4) = .ok (.ldc is, 2)) (d6 : decode cc (pc + 6) = .ok (.invokespecial ic, 3)) (d9 : decode cc (pc + 9) = .ok (.athrow, 1))
    (hout : ∀ x ∈ c.exceptionTable.toList, covers x (pc + 9) = false)
    (hRframes : names.length + 3 < R.frames) (hRlocals : (rest.map fun v => v.category).sum + (13 * (names.length + 1) + 43) ≤ R.locals) (hRcells : cells + 1 ≤ R.cells) (hRslots : slots + 6 ≤ R.slots) (hlocks : meth.locks = false)
    (hx : ∀ t : State, s.vm.Alike t.vm → H.size ≤ t.heap.size → (∀ q : Nat, q < H.size → t.heap[q]? = H[q]?) → XC cls s t)
    (hf : ∀ z ∈ locs, free z.base) (hc : cells + 1 ≤ mc) (hs : slots + 6 ≤ ms) :
    W p l e R s m args below meth c H locs cells slots (vx_MQ below Qc XC args s mc ms free) (F0 m pc ls rest) := by
  intro T hT X
  have htr : e.platform.stackTraces = false := (show e.platform.stackTraces = l.stackTraces by rw [X.admits.platform]).trans hl
  have Y := vx_rebase X (R' := { frames := R.frames, locals := R.locals, cells := 1, slots := 6 }) (Nat.le_refl _) (Nat.le_refl _) hRcells hRslots
  obtain ⟨s', hA⟩ : ∃ z, z = (T.setVm s.vm).setFrames (.invoking m args :: below) := ⟨_, rfl⟩
  rw [← hA] at Y
  have hvm : s'.vm = s.vm := by rw [hA]; rfl
  have hhp : s'.heap = H := by rw [hA]; exact hT
  have hW0 : s.WarmedH s'.vm := by rw [hvm]; exact State.WarmedH.refl s
  have hat' : ∀ w ∈ vx_atS own ic cls names, w.before args s' = true := fun w hw => vx_ot_at hW0 hvm.symm (hgood w (List.mem_cons_of_mem _ (List.mem_cons_of_mem _ hw))) (hat w hw)
  have hk' : (Cond.classLink own ik cls).before args s' = true := vx_ot_at hW0 hvm.symm (hgood _ List.mem_cons_self) hk
  have hini' : (Cond.initialized cls).before args s' = true := vx_ot_at hW0 hvm.symm (hgood _ (List.mem_cons_of_mem _ List.mem_cons_self)) hini
  have hU' : vx_Zq Bundle.tN "UNASSIGNED_STACK" Bundle.steD A s' s'.heap := by rw [hhp]; exact vx_Zq.moved hW0.alike (hU.kept hS.2.1)
  have hN' : vx_Zq Bundle.tN "SUPPRESSED_SENTINEL" Bundle.listD A s' s'.heap := by rw [hhp]; exact vx_Zq.moved hW0.alike (hN.kept hS.2.1)
  have h : ∀ w ∈ Bundle.ownAtoms own ic cls names, w.before args s' = true := vx_own hat' (vx_isRefq hU'.1) (vx_isRefq hN'.1) hU'.2.word hN'.2.word
  have hown' : s'.vm.findClass own = some m.cls := by rw [hvm]; exact hown
  have hins : (Cond.instantiable cls 6).before args s' = true := h _ (by simp [Bundle.ownAtoms])
  obtain ⟨vm₁, cX, kX, hfX, hkX, -, -, X₁, st1⟩ := Y.newCold hexec (own := own) (C := cls) (index := ik) (n := 6) hown' hk' hins hini'
    (g := F0 m pc ls rest) rfl (by rw [hb]; exact d0) (Nat.le_refl _) (Nat.le_refl _)
  generalize hT1 : (T.setVm vm₁).pushCell { cls := cX, slots := kX.instanceTypes.map defaultValue, vm := .none } = T1 at X₁ st1
  have hcat : (Value.ref T.heap.size).category = 1 := rfl
  have hcellA : T1.heap[T.heap.size]? = some (freshCell cX kX) := by rw [← hT1]; exact State.heap_pushCell_size _ _
  have d3' : decode c.code (pc + 3) = .ok (.dup, 1) := by rw [hb]; exact d3
  have d4' : decode c.code (pc + 4) = .ok (.ldc is, 2) := by rw [hb]; exact d4
  have hstr' : vk_R own is text sa s' := vk_R.warm hW0 hstr
  obtain ⟨U, hsteps, hrun, hend, hW, hsame, ce, hce, hO⟩ := X₁.ctorThrowS hexec htr (own := own) (cls := cls) (names := names) (ic := ic) hown' hcls hnames h (fun x hx => nomatch hx) hfX hkX hcellA (by rw [hhp, hT]; exact Nat.le_refl _) (msg := .ref sa) rfl
    (g := { method := m, pc := pc + 6, locals := ls, stack := .ref sa :: .ref T.heap.size :: .ref T.heap.size :: rest, locked := none }) rfl hsize rfl rfl (rest := rest) rfl
    (by rw [hb]; exact d6) (by rw [hb]; exact d9) hout hRframes (by simp only [List.map_cons, List.sum_cons, hcat]; omega) hlocks
  obtain ⟨f1, f2⟩ := vx_frame hsame
  rw [hhp] at f1 f2
  have hWs : s.WarmedH U.vm := State.WarmedH.trans hW0 hW
  have hcl : s.vm.findClass cls = some ce.cls := by
    have h9 := hO.cls
    rw [hvm] at h9
    exact h9
  have hall : s.sameButNew ({ U with vm := s.vm } : State) locs mc ms := by
    subst hA
    obtain ⟨e1, e2⟩ := hsame
    rw [State.setFrames_setFrames] at e1
    have h2 : (T.setVm s.vm).sameButNew ({ U with vm := s.vm } : State) [] (0 + 1) (0 + 6) := ⟨e1, e2⟩
    have h3 := X.same.trans h2
    rw [List.append_nil] at h3
    exact h3.mono hc hs
  refine ⟨U, ?_, .threw T.heap.size, hrun, hend, Or.inr ⟨T.heap.size, rfl, cls, ce, locs, hx U hWs.alike f1 (fun q hq => f2 q hq (fun z hz => nomatch hz)), hce, hO.vm, hcl, hWs, hall, hf⟩⟩
  refine st1 _ ?_
  show Steps p.tables e below (T1.setTop { method := m, pc := pc + 3, locals := ls, stack := .ref T.heap.size :: rest, locked := none }) _
  jvm_step X₁.here [X₁.here.top, hexec, d3', Value.category]
  exact X₁.ldcString hexec (own := own) (text := text) (index := is) (a := sa) hown' hstr'.1 hstr'.2
    (g := { method := m, pc := pc + 4, locals := ls, stack := .ref T.heap.size :: .ref T.heap.size :: rest, locked := none }) rfl d4' _ hsteps
theorem xn_throwS {cc : ByteArray} {pc : Nat} (hexec : p.tables.exec = Jvm.exec) (hb : c.code = cc) (hl : l.stackTraces = false) {own cls text : String} {up : String} {r : List String} {ik is ic mc ms sa : Nat} {A : Nat → Prop}
    (hown : s.vm.findClass own = some m.cls) (hcls : Bundle.fit cls = true) (hnames : ∀ n ∈ (up :: r), Bundle.fit n = true)
    (hk : (Cond.classLink own ik cls).before args s = true) (hini : (Cond.initialized cls).before args s = true) (hstr : vk_R own is text sa s) (hat : ∀ w ∈ xn_atS own ic cls (up :: r), w.before args s = true)
    (hgood : ∀ w ∈ Cond.classLink own ik cls :: Cond.initialized cls :: xn_atS own ic cls (up :: r), vx_ot w = true)
    (hU : vx_Zq Bundle.tN "UNASSIGNED_STACK" Bundle.steD A s s.heap) (hN : vx_Zq Bundle.tN "SUPPRESSED_SENTINEL" Bundle.listD A s s.heap) (hS : va_S A s.heap H locs) (hsize : ls.size = c.maxLocals)
    (d0 : decode cc pc = .ok (.new ik, 3)) (d3 : decode cc (pc + 3) = .ok (.dup, 1)) (d4 : decode cc (pc + 4) = .ok (.ldc is, 2)) (d6 : decode cc (pc + 6) = .ok (.invokespecial ic, 3)) (d9 : decode cc (pc + 9) = .ok (.athrow, 1))
    (hout : ∀ x ∈ c.exceptionTable.toList, covers x (pc + 9) = false)
    (hRframes : (up :: r).length + 3 < R.frames) (hRlocals : (rest.map fun v => v.category).sum + (13 * ((up :: r).length + 1) + 43) ≤ R.locals) (hRcells : cells + 1 ≤ R.cells) (hRslots : slots + 6 ≤ R.slots) (hlocks : meth.locks = false)
    (hx : ∀ t : State, s.vm.Alike t.vm → H.size ≤ t.heap.size → (∀ q : Nat, q < H.size → t.heap[q]? = H[q]?) → XC cls s t)
    (hf : ∀ z ∈ locs, free z.base) (hc : cells + 1 ≤ mc) (hs : slots + 6 ≤ ms) :
    W p l e R s m args below meth c H locs cells slots (vx_MQ below Qc XC args s mc ms free) (F0 m pc ls rest) := by
  intro T hT X
  have htr : e.platform.stackTraces = false := (show e.platform.stackTraces = l.stackTraces by rw [X.admits.platform]).trans hl
  have Y := vx_rebase X (R' := { frames := R.frames, locals := R.locals, cells := 1, slots := 6 }) (Nat.le_refl _) (Nat.le_refl _) hRcells hRslots
  obtain ⟨s', hA⟩ : ∃ z, z = (T.setVm s.vm).setFrames (.invoking m args :: below) := ⟨_, rfl⟩
  rw [← hA] at Y
  have hvm : s'.vm = s.vm := by rw [hA]; rfl
  have hhp : s'.heap = H := by rw [hA]; exact hT
  have hW0 : s.WarmedH s'.vm := by rw [hvm]; exact State.WarmedH.refl s
  have hat' : ∀ w ∈ xn_atS own ic cls (up :: r), w.before args s' = true := fun w hw => vx_ot_at hW0 hvm.symm (hgood w (List.mem_cons_of_mem _ (List.mem_cons_of_mem _ hw))) (hat w hw)
  have hk' : (Cond.classLink own ik cls).before args s' = true := vx_ot_at hW0 hvm.symm (hgood _ List.mem_cons_self) hk
  have hini' : (Cond.initialized cls).before args s' = true := vx_ot_at hW0 hvm.symm (hgood _ (List.mem_cons_of_mem _ List.mem_cons_self)) hini
  have hU' : vx_Zq Bundle.tN "UNASSIGNED_STACK" Bundle.steD A s' s'.heap := by rw [hhp]; exact vx_Zq.moved hW0.alike (hU.kept hS.2.1)
  have hN' : vx_Zq Bundle.tN "SUPPRESSED_SENTINEL" Bundle.listD A s' s'.heap := by rw [hhp]; exact vx_Zq.moved hW0.alike (hN.kept hS.2.1)
  have h : ∀ w ∈ xn_own own ic cls (up :: r), w.before args s' = true := vx_own hat' (vx_isRefq hU'.1) (vx_isRefq hN'.1) hU'.2.word hN'.2.word
  have hown' : s'.vm.findClass own = some m.cls := by rw [hvm]; exact hown
  have hins : (Cond.instantiable cls 6).before args s' = true := h _ (by simp [xn_own])
  obtain ⟨vm₁, cX, kX, hfX, hkX, -, -, X₁, st1⟩ := Y.newCold hexec (own := own) (C := cls) (index := ik) (n := 6) hown' hk' hins hini'
    (g := F0 m pc ls rest) rfl (by rw [hb]; exact d0) (Nat.le_refl _) (Nat.le_refl _)
  generalize hT1 : (T.setVm vm₁).pushCell { cls := cX, slots := kX.instanceTypes.map defaultValue, vm := .none } = T1 at X₁ st1
  have hcat : (Value.ref T.heap.size).category = 1 := rfl
  have hcellA : T1.heap[T.heap.size]? = some (freshCell cX kX) := by rw [← hT1]; exact State.heap_pushCell_size _ _
  have d3' : decode c.code (pc + 3) = .ok (.dup, 1) := by rw [hb]; exact d3
  have d4' : decode c.code (pc + 4) = .ok (.ldc is, 2) := by rw [hb]; exact d4
  have hstr' : vk_R own is text sa s' := vk_R.warm hW0 hstr
  obtain ⟨U, hsteps, hrun, hend, hW, hsame, ce, hce, hO⟩ := xn_ctor X₁ hexec htr (own := own) (cls := cls) (up := up) (r := r) (ic := ic) hown' hcls hnames h (fun x hx => nomatch hx) hfX hkX hcellA (by rw [hhp, hT]; exact Nat.le_refl _) (msg := .ref sa) rfl
    (g := { method := m, pc := pc + 6, locals := ls, stack := .ref sa :: .ref T.heap.size :: .ref T.heap.size :: rest, locked := none }) rfl hsize rfl rfl (rest := rest) rfl
    (by rw [hb]; exact d6) (by rw [hb]; exact d9) hout hRframes (by simp only [List.map_cons, List.sum_cons, hcat]; omega) hlocks
  obtain ⟨f1, f2⟩ := vx_frame hsame
  rw [hhp] at f1 f2
  have hWs : s.WarmedH U.vm := State.WarmedH.trans hW0 hW
  have hcl : s.vm.findClass cls = some ce.cls := by
    have h9 := hO.1
    rw [hvm] at h9
    exact h9
  have hall : s.sameButNew ({ U with vm := s.vm } : State) locs mc ms := by
    subst hA
    obtain ⟨e1, e2⟩ := hsame
    rw [State.setFrames_setFrames] at e1
    have h2 : (T.setVm s.vm).sameButNew ({ U with vm := s.vm } : State) [] (0 + 1) (0 + 6) := ⟨e1, e2⟩
    have h3 := X.same.trans h2
    rw [List.append_nil] at h3
    exact h3.mono hc hs
  refine ⟨U, ?_, .threw T.heap.size, hrun, hend, Or.inr ⟨T.heap.size, rfl, cls, ce, locs, hx U hWs.alike f1 (fun q hq => f2 q hq (fun z hz => nomatch hz)), hce, hO.2, hcl, hWs, hall, hf⟩⟩
  refine st1 _ ?_
  show Steps p.tables e below (T1.setTop { method := m, pc := pc + 3, locals := ls, stack := .ref T.heap.size :: rest, locked := none }) _
  jvm_step X₁.here [X₁.here.top, hexec, d3', Value.category]
  exact X₁.ldcString hexec (own := own) (text := text) (index := is) (a := sa) hown' hstr'.1 hstr'.2
    (g := { method := m, pc := pc + 4, locals := ls, stack := .ref T.heap.size :: .ref T.heap.size :: rest, locked := none }) rfl d4' _ hsteps
/-- 'throw new E("text")', the text by a wide index -/
theorem vx_throwSW {cc : ByteArray} {pc : Nat} (hexec : p.tables.exec = Jvm.exec) (hb : c.code = cc) (hl : l.stackTraces = false) {own cls text : String} {names : List String} {ik is ic mc ms sa : Nat} {A : Nat → Prop}
    (hown : s.vm.findClass own = some m.cls) (hcls : Bundle.fit cls = true) (hnames : ∀ n ∈ names, Bundle.fit n = true)
    (hk : (Cond.classLink own ik cls).before args s = true) (hini : (Cond.initialized cls).before args s = true) (hstr : vk_R own is text sa s) (hat : ∀ w ∈ vx_atS own ic cls names, w.before args s = true)
    (hgood : ∀ w ∈ Cond.classLink own ik cls :: Cond.initialized cls :: vx_atS own ic cls names, vx_ot w = true)
    (hU : vx_Zq Bundle.tN "UNASSIGNED_STACK" Bundle.steD A s s.heap) (hN : vx_Zq Bundle.tN "SUPPRESSED_SENTINEL" Bundle.listD A s s.heap) (hS : va_S A s.heap H locs) (hsize : ls.size = c.maxLocals)
    (d0 : decode cc pc = .ok (.new ik, 3)) (d3 : decode cc (pc + 3) = .ok (.dup, 1)) (d4 : decode cc (pc + 4) = .ok (.ldc_w is, 3)) (d7 : decode cc (pc + 7) = .ok (.invokespecial ic, 3)) (d10 : decode cc (pc + 10) = .ok (.athrow, 1))
    (hout : ∀ x ∈ c.exceptionTable.toList, covers x (pc + 10) = false)
    (hRframes : names.length + 3 < R.frames) (hRlocals : (rest.map fun v => v.category).sum + (13 * (names.length + 1) + 43) ≤ R.locals) (hRcells : cells + 1 ≤ R.cells) (hRslots : slots + 6 ≤ R.slots) (hlocks : meth.locks = false)
    (hx : ∀ t : State, s.vm.Alike t.vm → H.size ≤ t.heap.size → (∀ q : Nat, q < H.size → t.heap[q]? = H[q]?) → XC cls s t)
    (hf : ∀ z ∈ locs, free z.base) (hc : cells + 1 ≤ mc) (hs : slots + 6 ≤ ms) :
    W p l e R s m args below meth c H locs cells slots (vx_MQ below Qc XC args s mc ms free) (F0 m pc ls rest) := by
  intro T hT X
  have htr : e.platform.stackTraces = false := (show e.platform.stackTraces = l.stackTraces by rw [X.admits.platform]).trans hl
  have Y := vx_rebase X (R' := { frames := R.frames, locals := R.locals, cells := 1, slots := 6 }) (Nat.le_refl _) (Nat.le_refl _) hRcells hRslots
  obtain ⟨s', hA⟩ : ∃ z, z = (T.setVm s.vm).setFrames (.invoking m args :: below) := ⟨_, rfl⟩
  rw [← hA] at Y
  have hvm : s'.vm = s.vm := by rw [hA]; rfl
  have hhp : s'.heap = H := by rw [hA]; exact hT
  have hW0 : s.WarmedH s'.vm := by rw [hvm]; exact State.WarmedH.refl s
  have hat' : ∀ w ∈ vx_atS own ic cls names, w.before args s' = true := fun w hw => vx_ot_at hW0 hvm.symm (hgood w (List.mem_cons_of_mem _ (List.mem_cons_of_mem _ hw))) (hat w hw)
  have hk' : (Cond.classLink own ik cls).before args s' = true := vx_ot_at hW0 hvm.symm (hgood _ List.mem_cons_self) hk
  have hini' : (Cond.initialized cls).before args s' = true := vx_ot_at hW0 hvm.symm (hgood _ (List.mem_cons_of_mem _ List.mem_cons_self)) hini
  have hU' : vx_Zq Bundle.tN "UNASSIGNED_STACK" Bundle.steD A s' s'.heap := by rw [hhp]; exact vx_Zq.moved hW0.alike (hU.kept hS.2.1)
  have hN' : vx_Zq Bundle.tN "SUPPRESSED_SENTINEL" Bundle.listD A s' s'.heap := by rw [hhp]; exact vx_Zq.moved hW0.alike (hN.kept hS.2.1)
  have h : ∀ w ∈ Bundle.ownAtoms own ic cls names, w.before args s' = true := vx_own hat' (vx_isRefq hU'.1) (vx_isRefq hN'.1) hU'.2.word hN'.2.word
  have hown' : s'.vm.findClass own = some m.cls := by rw [hvm]; exact hown
  have hins : (Cond.instantiable cls 6).before args s' = true := h _ (by simp [Bundle.ownAtoms])
  obtain ⟨vm₁, cX, kX, hfX, hkX, -, -, X₁, st1⟩ := Y.newCold hexec (own := own) (C := cls) (index := ik) (n := 6) hown' hk' hins hini'
    (g := F0 m pc ls rest) rfl (by rw [hb]; exact d0) (Nat.le_refl _) (Nat.le_refl _)
  generalize hT1 : (T.setVm vm₁).pushCell { cls := cX, slots := kX.instanceTypes.map defaultValue, vm := .none } = T1 at X₁ st1
  have hcat : (Value.ref T.heap.size).category = 1 := rfl
  have hcellA : T1.heap[T.heap.size]? = some (freshCell cX kX) := by rw [← hT1]; exact State.heap_pushCell_size _ _
  have d3' : decode c.code (pc + 3) = .ok (.dup, 1) := by rw [hb]; exact d3
  have d4' : decode c.code (pc + 4) = .ok (.ldc_w is, 3) := by rw [hb]; exact d4
  have hstr' : vk_R own is text sa s' := vk_R.warm hW0 hstr
  obtain ⟨U, hsteps, hrun, hend, hW, hsame, ce, hce, hO⟩ := X₁.ctorThrowS hexec htr (own := own) (cls := cls) (names := names) (ic := ic) hown' hcls hnames h (fun x hx => nomatch hx) hfX hkX hcellA (by rw [hhp, hT]; exact Nat.le_refl _) (msg := .ref sa) rfl
    (g := { method := m, pc := pc + 7, locals := ls, stack := .ref sa :: .ref T.heap.size :: .ref T.heap.size :: rest, locked := none }) rfl hsize rfl rfl (rest := rest) rfl
    (by rw [hb]; exact d7) (by rw [hb]; exact d10) hout hRframes (by simp only [List.map_cons, List.sum_cons, hcat]; omega) hlocks
  obtain ⟨f1, f2⟩ := vx_frame hsame
  rw [hhp] at f1 f2
  have hWs : s.WarmedH U.vm := State.WarmedH.trans hW0 hW
  have hcl : s.vm.findClass cls = some ce.cls := by
    have h9 := hO.cls
    rw [hvm] at h9
    exact h9
  have hall : s.sameButNew ({ U with vm := s.vm } : State) locs mc ms := by
    subst hA
    obtain ⟨e1, e2⟩ := hsame
    rw [State.setFrames_setFrames] at e1
    have h2 : (T.setVm s.vm).sameButNew ({ U with vm := s.vm } : State) [] (0 + 1) (0 + 6) := ⟨e1, e2⟩
    have h3 := X.same.trans h2
    rw [List.append_nil] at h3
    exact h3.mono hc hs
  refine ⟨U, ?_, .threw T.heap.size, hrun, hend, Or.inr ⟨T.heap.size, rfl, cls, ce, locs, hx U hWs.alike f1 (fun q hq => f2 q hq (fun z hz => nomatch hz)), hce, hO.vm, hcl, hWs, hall, hf⟩⟩
  refine st1 _ ?_
  show Steps p.tables e below (T1.setTop { method := m, pc := pc + 3, locals := ls, stack := .ref T.heap.size :: rest, locked := none }) _
  jvm_step X₁.here [X₁.here.top, hexec, d3', Value.category]
  exact X₁.ldcStringW hexec (own := own) (text := text) (index := is) (a := sa) hown' hstr'.1 hstr'.2
    (g := { method := m, pc := pc + 4, locals := ls, stack := .ref T.heap.size :: .ref T.heap.size :: rest, locked := none }) rfl d4' _ hsteps
theorem xn_throwSW {cc : ByteArray} {pc : Nat} (hexec : p.tables.exec = Jvm.exec) (hb : c.code = cc) (hl : l.stackTraces = false) {own cls text : String} {up : String} {r : List String} {ik is ic mc ms sa : Nat} {A : Nat → Prop}
    (hown : s.vm.findClass own = some m.cls) (hcls : Bundle.fit cls = true) (hnames : ∀ n ∈ (up :: r), Bundle.fit n = true)
    (hk : (Cond.classLink own ik cls).before args s = true) (hini : (Cond.initialized cls).before args s = true) (hstr : vk_R own is text sa s) (hat : ∀ w ∈ xn_atS own ic cls (up :: r), w.before args s = true)
    (hgood : ∀ w ∈ Cond.classLink own ik cls :: Cond.initialized cls :: xn_atS own ic cls (up :: r), vx_ot w = true)
    (hU : vx_Zq Bundle.tN "UNASSIGNED_STACK" Bundle.steD A s s.heap) (hN : vx_Zq Bundle.tN "SUPPRESSED_SENTINEL" Bundle.listD A s s.heap) (hS : va_S A s.heap H locs) (hsize : ls.size = c.maxLocals)
    (d0 : decode cc pc = .ok (.new ik, 3)) (d3 : decode cc (pc + 3) = .ok (.dup, 1)) (d4 : decode cc (pc + 4) = .ok (.ldc_w is, 3)) (d7 : decode cc (pc + 7) = .ok (.invokespecial ic, 3)) (d10 : decode cc (pc + 10) = .ok (.athrow, 1))
    (hout : ∀ x ∈ c.exceptionTable.toList, covers x (pc + 10) = false)
    (hRframes : (up :: r).length + 3 < R.frames) (hRlocals : (rest.map fun v => v.category).sum + (13 * ((up :: r).length + 1) + 43) ≤ R.locals) (hRcells : cells + 1 ≤ R.cells) (hRslots : slots + 6 ≤ R.slots) (hlocks : meth.locks = false)
    (hx : ∀ t : State, s.vm.Alike t.vm → H.size ≤ t.heap.size → (∀ q : Nat, q < H.size → t.heap[q]? = H[q]?) → XC cls s t)
    (hf : ∀ z ∈ locs, free z.base) (hc : cells + 1 ≤ mc) (hs : slots + 6 ≤ ms) :
    W p l e R s m args below meth c H locs cells slots (vx_MQ below Qc XC args s mc ms free) (F0 m pc ls rest) := by
  intro T hT X
  have htr : e.platform.stackTraces = false := (show e.platform.stackTraces = l.stackTraces by rw [X.admits.platform]).trans hl
  have Y := vx_rebase X (R' := { frames := R.frames, locals := R.locals, cells := 1, slots := 6 }) (Nat.le_refl _) (Nat.le_refl _) hRcells hRslots
  obtain ⟨s', hA⟩ : ∃ z, z = (T.setVm s.vm).setFrames (.invoking m args :: below) := ⟨_, rfl⟩
  rw [← hA] at Y
  have hvm : s'.vm = s.vm := by rw [hA]; rfl
  have hhp : s'.heap = H := by rw [hA]; exact hT
  have hW0 : s.WarmedH s'.vm := by rw [hvm]; exact State.WarmedH.refl s
  have hat' : ∀ w ∈ xn_atS own ic cls (up :: r), w.before args s' = true := fun w hw => vx_ot_at hW0 hvm.symm (hgood w (List.mem_cons_of_mem _ (List.mem_cons_of_mem _ hw))) (hat w hw)
  have hk' : (Cond.classLink own ik cls).before args s' = true := vx_ot_at hW0 hvm.symm (hgood _ List.mem_cons_self) hk
  have hini' : (Cond.initialized cls).before args s' = true := vx_ot_at hW0 hvm.symm (hgood _ (List.mem_cons_of_mem _ List.mem_cons_self)) hini
  have hU' : vx_Zq Bundle.tN "UNASSIGNED_STACK" Bundle.steD A s' s'.heap := by rw [hhp]; exact vx_Zq.moved hW0.alike (hU.kept hS.2.1)
  have hN' : vx_Zq Bundle.tN "SUPPRESSED_SENTINEL" Bundle.listD A s' s'.heap := by rw [hhp]; exact vx_Zq.moved hW0.alike (hN.kept hS.2.1)
  have h : ∀ w ∈ xn_own own ic cls (up :: r), w.before args s' = true := vx_own hat' (vx_isRefq hU'.1) (vx_isRefq hN'.1) hU'.2.word hN'.2.word
  have hown' : s'.vm.findClass own = some m.cls := by rw [hvm]; exact hown
  have hins : (Cond.instantiable cls 6).before args s' = true := h _ (by simp [xn_own])
  obtain ⟨vm₁, cX, kX, hfX, hkX, -, -, X₁, st1⟩ := Y.newCold hexec (own := own) (C := cls) (index := ik) (n := 6) hown' hk' hins hini'
    (g := F0 m pc ls rest) rfl (by rw [hb]; exact d0) (Nat.le_refl _) (Nat.le_refl _)
  generalize hT1 : (T.setVm vm₁).pushCell { cls := cX, slots := kX.instanceTypes.map defaultValue, vm := .none } = T1 at X₁ st1
  have hcat : (Value.ref T.heap.size).category = 1 := rfl
  have hcellA : T1.heap[T.heap.size]? = some (freshCell cX kX) := by rw [← hT1]; exact State.heap_pushCell_size _ _
  have d3' : decode c.code (pc + 3) = .ok (.dup, 1) := by rw [hb]; exact d3
  have d4' : decode c.code (pc + 4) = .ok (.ldc_w is, 3) := by rw [hb]; exact d4
  have hstr' : vk_R own is text sa s' := vk_R.warm hW0 hstr
  obtain ⟨U, hsteps, hrun, hend, hW, hsame, ce, hce, hO⟩ := xn_ctor X₁ hexec htr (own := own) (cls := cls) (up := up) (r := r) (ic := ic) hown' hcls hnames h (fun x hx => nomatch hx) hfX hkX hcellA (by rw [hhp, hT]; exact Nat.le_refl _) (msg := .ref sa) rfl
    (g := { method := m, pc := pc + 7, locals := ls, stack := .ref sa :: .ref T.heap.size :: .ref T.heap.size :: rest, locked := none }) rfl hsize rfl rfl (rest := rest) rfl
    (by rw [hb]; exact d7) (by rw [hb]; exact d10) hout hRframes (by simp only [List.map_cons, List.sum_cons, hcat]; omega) hlocks
  obtain ⟨f1, f2⟩ := vx_frame hsame
  rw [hhp] at f1 f2
  have hWs : s.WarmedH U.vm := State.WarmedH.trans hW0 hW
  have hcl : s.vm.findClass cls = some ce.cls := by
    have h9 := hO.1
    rw [hvm] at h9
    exact h9
  have hall : s.sameButNew ({ U with vm := s.vm } : State) locs mc ms := by
    subst hA
    obtain ⟨e1, e2⟩ := hsame
    rw [State.setFrames_setFrames] at e1
    have h2 : (T.setVm s.vm).sameButNew ({ U with vm := s.vm } : State) [] (0 + 1) (0 + 6) := ⟨e1, e2⟩
    have h3 := X.same.trans h2
    rw [List.append_nil] at h3
    exact h3.mono hc hs
  refine ⟨U, ?_, .threw T.heap.size, hrun, hend, Or.inr ⟨T.heap.size, rfl, cls, ce, locs, hx U hWs.alike f1 (fun q hq => f2 q hq (fun z hz => nomatch hz)), hce, hO.2, hcl, hWs, hall, hf⟩⟩
  refine st1 _ ?_
  show Steps p.tables e below (T1.setTop { method := m, pc := pc + 3, locals := ls, stack := .ref T.heap.size :: rest, locked := none }) _
  jvm_step X₁.here [X₁.here.top, hexec, d3', Value.category]
  exact X₁.ldcStringW hexec (own := own) (text := text) (index := is) (a := sa) hown' hstr'.1 hstr'.2
    (g := { method := m, pc := pc + 4, locals := ls, stack := .ref T.heap.size :: .ref T.heap.size :: rest, locked := none }) rfl d4' _ hsteps
end Ends
section Bodies
variable {l : Launch}
theorem vx_ofW {y : MethodName} {ws ws' : List Cond} {rm : Room} {Pc : Array Value → State → Prop} {Qc : Array Value → State → Outcome → State → Prop} {XC : String → State → State → Prop} {mc ms : Nat} {free : Addr → Prop} {cc : ByteArray} {maxL : Nat} {ret : Option FieldType}
    (hy : plainName y.cls = true) (hw : ws = Cond.code y cc maxL ret :: ws')
    (body : ∀ p e s m args below meth c s₁, BodyLoose p l y (headSpec ws rm) cc maxL ret e s m args below meth c s₁ → c.maxLocals = maxL → (∀ x ∈ c.exceptionTable.toList, False) → Pc args s →
      W p l e (headSpec ws rm).room s m args below meth c s.heap [] 0 0 (vx_MQ below Qc XC args s mc ms free) (entryFrame m args maxL)) : vx_Met l y ws rm Pc Qc XC mc ms free := by
  refine MetFree.of_bodyS (code := cc) (maxLocals := maxL) (ret := ret) hy ?_ ?_
  · intro args s m h hn
    obtain ⟨meth, c, h1, h2, h3, h4, h5, h6, -, -⟩ := Cond.code_spec hn (atoms_spec (ws := ws) h _ (by rw [hw]; exact List.mem_cons_self))
    exact ⟨meth, c, h1, h2, h3, h4, h5, h6⟩
  · intro p e s m args below meth c s₁ B hml hP _
    have hh0 : s₁.heap = s.heap := by rw [B.state]; rfl
    have ht : ∀ x ∈ c.exceptionTable.toList, False := by
      obtain ⟨meth9, c9, h1, h2, -, -, -, -, h7, -⟩ := Cond.code_spec B.named (atoms_spec (ws := ws) B.pre _ (by rw [hw]; exact List.mem_cons_self))
      cases Option.some.inj (h1.symm.trans B.method)
      cases Option.some.inj (h2.symm.trans (Stand.of_body B).code)
      intro x hx
      rw [Array.isEmpty_iff.mp h7] at hx
      cases hx
    obtain ⟨t, a1, o, b1, b2, b3⟩ := body p e s m args below meth c s₁ B hml ht hP s₁ hh0 (Stand.of_body B)
    exact ⟨t, o, a1, b1, b2, b3⟩
/-- the table of a body with handlers -/
theorem vx_table {p : Program} {x y : MethodName} {S : Spec} {cc bytes : ByteArray} {maxL maxL' : Nat} {ret ret' : Option FieldType} {e : Env} {s s₁ : State} {m : MethodId} {args : Array Value} {below : List Frame} {meth : Method} {c : Code} {hh : List (Nat × Nat × Nat × Nat)}
    (B : BodyLoose p l y S cc maxL ret e s m args below meth c s₁) (h : (Cond.codeWith y bytes maxL' ret' hh).before args s = true) : c.exceptionTable.toList = tableOf hh := by
  obtain ⟨m9, meth9, c9, hn9, h1, h2, -, -, h6, -⟩ := Cond.codeWith_spec h
  cases Option.some.inj (hn9.symm.trans B.named)
  cases Option.some.inj (h1.symm.trans B.method)
  cases Option.some.inj (h2.symm.trans (Stand.of_body B).code)
  rw [← h6, table_eq]
end Bodies
end VXA
/-! ===== END ===== -/
/-! ===== BEGIN a static call of a method with an exception table ===== -/
section VXS
variable {p : Program} {l : Launch} {e : Env} {R : Room} {s : State} {m : MethodId} {args : Array Value} {below : List Frame} {meth : Method} {c : Code} {T : State} {H : Heap} {locs : List Loc} {cells slots : Nat}
abbrev vx_CSW (R : Room) (s : State) (args : Array Value) (own : String) (index : Nat) (y : MethodName) (bytes : ByteArray) (maxL : Nat) (ret : Option FieldType) (hh : List (Nat × Nat × Nat × Nat)) (ws : List Cond) (rm : Room) (mc ms n : Nat) : Prop :=
  (rm.cells = mc ∧ rm.slots = ms ∧ rm.frames + 1 ≤ R.frames ∧ 8 + (maxL + 11) + rm.locals ≤ R.locals ∧ (∀ w ∈ ws, ∀ (a' : Array Value) (U : State), s.WarmedH U.vm → w.before a' U = true) ∧ Cond.codeWith y bytes maxL ret hh ∈ ws) ∧
  (Cond.codeWith y bytes maxL ret hh).before args s = true ∧ (Cond.initialized y.cls).before args s = true ∧ (y.cls ≠ "java/lang/invoke/MethodHandle" ∧ y.cls ≠ "java/lang/invoke/VarHandle") ∧
  (∀ sig, parseMethodDescriptor y.desc = some sig → n = sig.parameters.length) ∧ (Cond.methodLink own index y).before args s = true ∧ (Cond.static y).before args s = true
theorem vx_cwSW {own : String} {index maxL mc ms : Nat} {y : MethodName} {bytes : ByteArray} {ret : Option FieldType} {hh : List (Nat × Nat × Nat × Nat)} {Ts ws ws' : List Cond} {rm : Room} (n : Nat) (ht : ∀ w ∈ Ts, w.before args s = true) (hT : GoodIn Ts (va_wsS own index y ws)) (hw : ws = Cond.codeWith y bytes maxL ret hh :: ws') (hrc : rm.cells = mc) (hrs : rm.slots = ms)
    (hd : y.cls ≠ "java/lang/invoke/MethodHandle" ∧ y.cls ≠ "java/lang/invoke/VarHandle" ∧ (parseMethodDescriptor y.desc).map (fun d => d.parameters.length) = some n) (hR : rm.frames + 1 ≤ R.frames ∧ 8 + (maxL + 11) + rm.locals ≤ R.locals) :
    vx_CSW R s args own index y bytes maxL ret hh ws rm mc ms n := by
  have ok : ∀ w ∈ va_wsS own index y ws, w.before args s = true := fun w h => ht w (hT w h).1
  have hG : GoodIn Ts ws := fun w h => hT w (by unfold va_wsS; exact List.mem_append_right _ h)
  have hc : Cond.codeWith y bytes maxL ret hh ∈ ws := by rw [hw]; exact List.mem_cons_self
  refine ⟨⟨hrc, hrs, hR.1, hR.2, pay_in ht hG, hc⟩, ht _ (hG _ hc).1, ok _ (by simp [va_wsS]), ⟨hd.1, hd.2.1⟩, fun sig h => ?_, ok _ (by simp [va_wsS]), ok _ (by simp [va_wsS])⟩
  have h2 := hd.2.2
  rw [h] at h2
  exact (Option.some.inj h2).symm
theorem vx_callSW (X : Stand p l e R s m args below meth c T locs cells slots) (hexec : p.tables.exec = Jvm.exec) {own : String} {index : Nat} {y : MethodName} {bytes : ByteArray} {maxL : Nat} {ret : Option FieldType} {hh : List (Nat × Nat × Nat × Nat)}
    (hown : s.vm.findClass own = some m.cls) (hlink : (Cond.methodLink own index y).before args s = true) (hstat : (Cond.static y).before args s = true) (hinit : (Cond.initialized y.cls).before args s = true)
    (hcode : (Cond.codeWith y bytes maxL ret hh).before args s = true) (hy : y.cls ≠ "java/lang/invoke/MethodHandle" ∧ y.cls ≠ "java/lang/invoke/VarHandle")
    {W9 : Nat} {Pre : Pt → Array Value → Prop} {Post : Pt → Array Value → Option Value → Pt → Prop} (hK : Back l R p e below s args y 3 W9 Pre Post)
    {g : JFrame} (hg : g.method = m) (hsize : g.locals.size = c.maxLocals) {argsL rest : List Value} (hlen : ∀ sig, parseMethodDescriptor y.desc = some sig → argsL.length = sig.parameters.length)
    (hstack : g.stack = argsL.reverse ++ rest) (hW : 2 * g.monitorRoom + (rest.map fun v => v.category).sum ≤ W9) (hdg : decode c.code g.pc = .ok (.invokestatic index, 3))
    (hpre : ∀ vm₁, s.WarmedH vm₁ → Pre ⟨T.setVm vm₁, locs, cells, slots⟩ argsL.toArray) :
    ∃ (v : Option Value) (vm₁ : Vm) (B : Pt), s.WarmedH vm₁ ∧ Stand p l e R s m args below meth c B.U B.locs B.cells B.slots ∧ Post ⟨T.setVm vm₁, locs, cells, slots⟩ argsL.toArray v B ∧
      ∀ target, Steps p.tables e below (B.U.setTop { g with pc := g.pc + 3, stack := v.toList ++ rest }) target → Steps p.tables e below (T.setTop g) target := by
  obtain ⟨mk, methM, cM, hnamed, hmethM, -, -, -, -, -, -, hsigM⟩ := Cond.codeWith_spec hcode
  have hstatic : methM.isStatic = true := Cond.static_spec hnamed hmethM hstat
  obtain ⟨kP, hkP, -⟩ := className_of_methodNamed hnamed
  have hinitP : kP.init = .initialized := Cond.initialized_spec (findClass_of_methodNamed hnamed) hkP hinit
  obtain ⟨vm₁, X₁, hstep₁⟩ := X.invokestatic hexec hown hlink hnamed hmethM hstatic hkP hinitP hy (g := g) hg (argsL := argsL) (rest := rest) (hlen _ hsigM) hstack hdg
  obtain ⟨v, B, X', hpost, hsteps⟩ := hK m meth c ⟨T.setVm vm₁, locs, cells, slots⟩ { g with stack := rest } (.invokestatic index) mk argsL.toArray X₁ hg hsize hdg hW (X₁.named hnamed) (hpre vm₁ X₁.warmed)
  exact ⟨v, vm₁, B, X₁.warmed, X', hpost, fun target h => hstep₁ _ fun acts => by rw [doInvoke_state]; exact hsteps.trans h⟩
theorem vx_runSW {y : MethodName} {bytes cc : ByteArray} {maxL nL mc ms n index : Nat} {ret : Option FieldType} {hh : List (Nat × Nat × Nat × Nat)} {ws : List Cond} {rm : Room} {Pc : Array Value → State → Prop} {Qc : Array Value → State → Outcome → State → Prop} {free : Addr → Prop} {Ts : List Cond} {own : String} {As rest : List Value} {g : JFrame}
    (S : CallFix p m c cc nL s args Ts own) (hM : Met l y ws rm Pc Qc mc ms free) (cw : vx_CSW R s args own index y bytes maxL ret hh ws rm mc ms n) (hp : PreS s H Pc As)
    (hg : g.method = m) (hn : As.length = n) (hsize : g.locals.size = nL) (hstack : g.stack = As.reverse ++ rest) (hW : 2 * g.monitorRoom + (rest.map fun v => v.category).sum ≤ 8) (hdg : decode cc g.pc = .ok (.invokestatic index, 3)) (hf : cells + mc ≤ R.cells ∧ slots + ms ≤ R.slots) :
    va_Run p l e R s m args below meth c H locs cells slots mc ms g rest (Qc As.toArray) (free) := by
  obtain ⟨⟨hrc, hrs, hfr, hlo, hws, hcw⟩, hcode, hini, hy, hlen, hl, hstt⟩ := cw
  have hK : Back l R p e below s args y 3 8 (PreOf R mc ms Pc) (PostOf Qc mc ms free) := va_backW (hh := hh) (bytes := bytes) (maxL := maxL) (ret := ret) hM hp.1 hrc hrs hfr hlo hws hcw (fun a' U hW => word_at hW (Or.inl (by first | rfl | simp [Cond.onTables, Cond.keeps, Cond.steady])) hini)
  obtain ⟨hx, hb, hml, ho, -⟩ := S
  intro T hT X
  obtain ⟨v, vm₁, ⟨U', l2, c2, s2⟩, hW₁, X', ⟨g', mk, t, L, e1, e2, hq, h1, hL, h2, h3⟩, st⟩ := vx_callSW X hx (hh := hh) (bytes := bytes) (maxL := maxL) (ret := ret) ho hl hstt hini hcode hy hK hg (hsize.trans hml.symm) (argsL := As) (rest := rest) (fun sig h => hn.trans (hlen sig h)) hstack hW (by rw [hb]; exact hdg)
    (fun vm₁ hW₁ => ⟨hf.1, hf.2, hp.2 (T.setVm vm₁) hT hW₁⟩)
  dsimp only [Pt.U, Pt.locs, Pt.cells, Pt.slots] at X' e1 e2 h1 h2 h3 st
  subst h1; subst h2; subst h3
  exact ⟨v, (T.setVm vm₁).calling g' mk As.toArray, t, U', L, hT, X', hL, e1, e2, hq, st⟩
/-- a thing of a world lies in the heap -/
theorem vx_lt {D : va_G} {cl : List vw_C} {ws : va_W} {H1 : Heap} (h : va_P D cl ws H1) {k : Nat} {q : Nat × va_E} (hk : ws[k]? = some q) : q.1 < H1.size := (h k q hk).lt
end VXS
/-! ===== END ===== -/
/-! ===== BEGIN methods with a table of their own: called by a name, returning or throwing ===== -/
section VXH
/-! vx_backW, vx_callVX, vx_callSX, vx_callVW, vx_runVW, vx_runVX, vx_runSX, vx_ofWH follow the same proofs as their sisters above (Free/Laws.lean, Shelf42/LK1.lean); vx_outP calls Shelf42/NT130.lean (outThrough). -/
section
variable {l : Launch} {R : Room} {p : Program} {e : Env} {below : List Frame} {s : State} {sargs : Array Value} {y : MethodName} {len W9 : Nat}
theorem vx_backW {ws : List Cond} {rm : Room} {Pc : Array Value → State → Prop} {Qc : Array Value → State → Outcome → State → Prop} {XC : String → State → State → Prop} {mc ms : Nat} {free : Addr → Prop} {bytes : ByteArray} {maxL : Nat} {ret : Option FieldType} {hh : List (Nat × Nat × Nat × Nat)}
    (hM : vx_Met l y ws rm Pc Qc XC mc ms free) (hblind : FrameBlind Pc) (hrc : rm.cells = mc) (hrs : rm.slots = ms)
    (hframes : rm.frames + 1 ≤ R.frames) (hlocals : W9 + (maxL + 11) + rm.locals ≤ R.locals)
    (hws : ∀ w ∈ ws, ∀ a' U, s.WarmedH U.vm → w.before a' U = true) (hcode : Cond.codeWith y bytes maxL ret hh ∈ ws) (hinit : ∀ a' U, s.WarmedH U.vm → (Cond.initialized y.cls).before a' U = true) :
    vx_Back l R p e below s sargs y len W9 (PreOf R mc ms Pc) (PostOf Qc mc ms free) (vx_Post XC mc ms free) := by
  intro m meth c A g ig mk a X hg hsize hdg hW hn hp
  have h1 : (headSpec ws rm).pre.before a A.U = true := atoms_intro fun w hw => hws w hw _ _ X.warmed
  have h2 : (Cond.codeWith y bytes maxL ret hh).before a A.U = true := hws _ hcode _ _ X.warmed
  have h3 : (Cond.initialized y.cls).before a A.U = true := hinit _ _ X.warmed
  have h4 : A.cells + (headSpec ws rm).room.cells ≤ R.cells := by rw [show (headSpec ws rm).room.cells = mc from hrc]; exact hp.1
  have h5 : A.slots + (headSpec ws rm).room.slots ≤ R.slots := by rw [show (headSpec ws rm).room.slots = ms from hrs]; exact hp.2.1
  have hPc : Pc a (A.U.calling g mk a) := hblind _ _ _ _ hp.2.2
  obtain ⟨U, Ls, c0, s0⟩ := A
  dsimp only [Pt.U, Pt.locs, Pt.cells, Pt.slots] at h1 h2 h3 h4 h5 X hn hPc ⊢
  obtain ⟨m9, methY, cY, hn9, hmY, hcY, -, hlY, -⟩ := Cond.codeWith_spec h2
  cases Option.some.inj (hn9.symm.trans hn)
  obtain ⟨kY, hkY, -⟩ := className_of_methodNamed hn
  have hinitY : kY.init = .initialized := Cond.initialized_spec (findClass_of_methodNamed hn) hkY h3
  have h : At U g.method c below := by rw [hg]; exact X.here
  have hlocals9 : W9 + (maxL + 11) + (headSpec ws rm).room.locals ≤ R.locals := hlocals
  have happ : (headSpec ws rm).appliesLoose y e.platform (U.calling g mk a) = true :=
    Spec.appliesLoose_calling (g := g) h hdg hn hkY hinitY
      (X.room_calling (g := g) (R' := (headSpec ws rm).room) hsize hmY hcY hframes (by rw [hlY]; omega) h4 h5) h1
  obtain ⟨mid, hmid⟩ := h.above
  have hfr : (U.setTop g).frames = (.java g :: mid) ++ below := by rw [State.frames_setTop' g h.top, hmid]; rfl
  obtain ⟨o, s₂, hsteps, -, hend, hq⟩ := Steps.callFree hM p X.admits X.cas X.clock (acts := []) hfr happ hPc trivial
  have hq' : vx_Q Qc XC mc ms free a (U.calling g mk a) o s₂ := hq
  rw [State.frames_setTop' g h.top] at hend
  obtain ⟨g₀, hg0⟩ := Option.isSome_iff_exists.mp h.top
  obtain ⟨r, hr⟩ := State.topJava?_eq_some.mp hg0
  have hr' : (({ U with heap := s₂.heap, slotsUsed := s₂.slotsUsed } : State).setVm s₂.vm).frames = .java g₀ :: r := hr
  rcases hq' with ⟨hqc, L, hfe, hL⟩ | ⟨q, rfl, E, ce, L, hx, hce, hcv, hcl, hW₂, hsm, hL⟩
  · obtain ⟨⟨v, rfl⟩, hW₂, e2, q2, q3, q4, q5, q6⟩ := id hfe
    have e3 : s₂ = ({ (U.calling g mk a).setFrames s₂.frames with heap := s₂.heap, slotsUsed := s₂.slotsUsed } : State).setVm s₂.vm := by
      have : s₂ = ({ s₂ with vm := (U.calling g mk a).vm } : State).setVm s₂.vm := rfl
      rw [e2] at this
      exact this
    obtain ⟨c₂, i₂, len₂, hc₂, hd₂, hf₂⟩ := hend
    have hW' : U.WarmedH s₂.vm := hW₂
    have hcc : c₂ = c := by
      have h1 : s₂.code? g.method = U.code? g.method := by
        rw [State.code?_eq, State.code?_eq, hW'.alike.method?]
      exact Option.some.inj (hc₂.symm.trans (h1.trans h.code))
    subst hcc
    have hlen : len₂ = len := by rw [hdg] at hd₂; cases hd₂; rfl
    subst hlen
    have hs₂ : s₂ = (({ U with heap := s₂.heap, slotsUsed := s₂.slotsUsed } : State).setVm s₂.vm).setTop { g with pc := g.pc + len₂, stack := v.toList ++ g.stack } := by
      refine e3.trans ?_
      rw [hf₂, State.calling_eq h.top, State.setFrames_setFrames, State.setTop_of_frames _ hr', hr]
      rfl
    have hsame : U.sameButNew ({ U with heap := s₂.heap, slotsUsed := s₂.slotsUsed } : State) L mc ms := by
      refine ⟨?_, q2, q3, q4, q5, q6⟩
      obtain ⟨t, ht, -⟩ := State.frames_cons hr
      show ({ U with heap := s₂.heap, slotsUsed := s₂.slotsUsed } : State) = { U.setFrames U.frames with heap := s₂.heap, slotsUsed := s₂.slotsUsed }
      rw [State.setFrames_self ht]
    subst hg
    refine Or.inl ⟨v, ⟨(({ U with heap := s₂.heap, slotsUsed := s₂.slotsUsed } : State).setVm s₂.vm), Ls ++ L, c0 + mc, s0 + ms⟩,
      ⟨X.admits, X.cas, X.clock, X.frames, X.room, X.hears, X.method, X.code, (X.here.setHeapUsed s₂.heap s₂.slotsUsed).setVm hW'.alike, X.tail, State.WarmedH.trans X.warmed hW', X.limits, X.bytes, X.same.trans (hsame.setVm s.vm)⟩,
      ⟨g, mk, s₂, L, rfl, rfl, hqc, rfl, hL, rfl, rfl⟩, ?_⟩
    show Steps p.tables e below _ ((({ U with heap := s₂.heap, slotsUsed := s₂.slotsUsed } : State).setVm s₂.vm).setTop { g with pc := g.pc + len₂, stack := v.toList ++ g.stack })
    rw [← hs₂]
    exact hsteps
  · obtain ⟨e2, q2, q3, q4, q5, q6⟩ := id hsm
    have e3 : s₂ = ({ (U.calling g mk a).setFrames s₂.frames with heap := s₂.heap, slotsUsed := s₂.slotsUsed } : State).setVm s₂.vm := by
      have : s₂ = ({ s₂ with vm := (U.calling g mk a).vm } : State).setVm s₂.vm := rfl
      rw [e2] at this
      exact this
    have hf₂ : s₂.frames = .throwing q :: .java g :: U.frames.tail := hend
    have hW' : U.WarmedH s₂.vm := hW₂
    have hs₂ : s₂ = ((({ U with heap := s₂.heap, slotsUsed := s₂.slotsUsed } : State).setVm s₂.vm).setTop g).pushFrame (.throwing q) := by
      refine e3.trans ?_
      rw [hf₂, State.calling_eq h.top, State.setFrames_setFrames, State.pushFrame, State.frames_setTop _ hr', State.setTop_of_frames _ hr', State.setFrames_setFrames, hr]
      rfl
    have hsame : U.sameButNew ({ U with heap := s₂.heap, slotsUsed := s₂.slotsUsed } : State) L mc ms := by
      refine ⟨?_, q2, q3, q4, q5, q6⟩
      obtain ⟨t, ht, -⟩ := State.frames_cons hr
      show ({ U with heap := s₂.heap, slotsUsed := s₂.slotsUsed } : State) = { U.setFrames U.frames with heap := s₂.heap, slotsUsed := s₂.slotsUsed }
      rw [State.setFrames_self ht]
    subst hg
    refine Or.inr ⟨q, ⟨(({ U with heap := s₂.heap, slotsUsed := s₂.slotsUsed } : State).setVm s₂.vm), Ls ++ L, c0 + mc, s0 + ms⟩,
      ⟨X.admits, X.cas, X.clock, X.frames, X.room, X.hears, X.method, X.code, (X.here.setHeapUsed s₂.heap s₂.slotsUsed).setVm hW'.alike, X.tail, State.WarmedH.trans X.warmed hW', X.limits, X.bytes, X.same.trans (hsame.setVm s.vm)⟩,
      ⟨g, mk, s₂, L, E, ce, rfl, rfl, hx, hce, hcv, hcl, rfl, hL, rfl, rfl⟩, ?_⟩
    show Steps p.tables e below _ (((({ U with heap := s₂.heap, slotsUsed := s₂.slotsUsed } : State).setVm s₂.vm).setTop g).pushFrame (.throwing q))
    rw [← hs₂]
    exact hsteps
end
variable {p : Program} {l : Launch} {e : Env} {R : Room} {s : State} {m : MethodId} {args : Array Value} {below : List Frame} {meth : Method} {c : Code} {T : State} {H : Heap} {locs : List Loc} {cells slots : Nat}
theorem vx_callVX (X : Stand p l e R s m args below meth c T locs cells slots) (hexec : p.tables.exec = Jvm.exec) {own C : String} {index : Nat} {y : MethodName} {bytes : ByteArray} {maxL : Nat} {ret : Option FieldType} {hh : List (Nat × Nat × Nat × Nat)}
    (hown : s.vm.findClass own = some m.cls) (hlink : (Cond.methodLink own index y).before args s = true) (hinst : (Cond.instanceMethod y).before args s = true) (hsel : (Cond.selects C y y).before args s = true)
    (hcode : (Cond.codeWith y bytes maxL ret hh).before args s = true) (hy : y.cls ≠ "java/lang/invoke/MethodHandle" ∧ y.cls ≠ "java/lang/invoke/VarHandle")
    {W9 : Nat} {Pre : Pt → Array Value → Prop} {Post : Pt → Array Value → Option Value → Pt → Prop} {PostX : Pt → Array Value → Addr → Pt → Prop} (hK : vx_Back l R p e below s args y 3 W9 Pre Post PostX)
    {b : Addr} {cellB : Cell} (hcell : T.heap[b]? = some cellB) (hobj : cellB.vm.isStatics = false) (hcls : s.vm.findClass C = some cellB.cls)
    {g : JFrame} (hg : g.method = m) (hsize : g.locals.size = c.maxLocals) {argsL rest : List Value} (hlen : ∀ sig, parseMethodDescriptor y.desc = some sig → argsL.length = sig.parameters.length)
    (hstack : g.stack = argsL.reverse ++ .ref b :: rest) (hW : 2 * g.monitorRoom + (rest.map fun v => v.category).sum ≤ W9) (hdg : decode c.code g.pc = .ok (.invokevirtual index, 3))
    (hpre : ∀ vm₁, s.WarmedH vm₁ → Pre ⟨T.setVm vm₁, locs, cells, slots⟩ (Value.ref b :: argsL).toArray) :
    (∃ (v : Option Value) (vm₁ : Vm) (B : Pt), s.WarmedH vm₁ ∧ Stand p l e R s m args below meth c B.U B.locs B.cells B.slots ∧ Post ⟨T.setVm vm₁, locs, cells, slots⟩ (Value.ref b :: argsL).toArray v B ∧
      ∀ target, Steps p.tables e below (B.U.setTop { g with pc := g.pc + 3, stack := v.toList ++ rest }) target → Steps p.tables e below (T.setTop g) target) ∨
    (∃ (q : Addr) (vm₁ : Vm) (B : Pt), s.WarmedH vm₁ ∧ Stand p l e R s m args below meth c B.U B.locs B.cells B.slots ∧ PostX ⟨T.setVm vm₁, locs, cells, slots⟩ (Value.ref b :: argsL).toArray q B ∧
      Steps p.tables e below (T.setTop g) ((B.U.setTop { g with stack := rest }).pushFrame (.throwing q))) := by
  obtain ⟨mk, methM, hnamed, hmethM, hstM, habM⟩ := Cond.instanceMethod_spec hinst
  obtain ⟨m8, methM', cM, hn8, hmethM', -, -, -, -, -, -, hsigM⟩ := Cond.codeWith_spec hcode
  cases Option.some.inj (hn8.symm.trans hnamed)
  cases hmethM.symm.trans hmethM'
  obtain ⟨c2, r2, m2, q1, q2, q3, q4, kP, hkP, hkPi⟩ := Cond.selects_spec hsel
  cases hcls.symm.trans q1
  cases (State.methodFound?_of_named hnamed hy).symm.trans q2
  cases hnamed.symm.trans q3
  have hselP : selectMethod e.platform s.vm cellB.cls mk = .method mk := by rw [Launch.admits_selectMethod X.admits]; exact q4
  obtain ⟨vm₁, X₁, hstep₁⟩ := X.invokevirtual hexec hown hlink hnamed hmethM hstM hkP hkPi hy (a := b) (cell := cellB) hcell
    (fun z h => by rw [h] at hobj; cases hobj) hselP hmethM habM hkP hkPi (g := g) hg (argsL := argsL) (rest := rest) (hlen _ hsigM) hstack hdg
  rcases hK m meth c ⟨T.setVm vm₁, locs, cells, slots⟩ { g with stack := rest } (.invokevirtual index) mk (Value.ref b :: argsL).toArray X₁ hg hsize hdg hW (X₁.named hnamed) (hpre vm₁ X₁.warmed) with ⟨v, B, X', hpost, hsteps⟩ | ⟨q, B, X', hpost, hsteps⟩
  · exact Or.inl ⟨v, vm₁, B, X₁.warmed, X', hpost, fun target h => hstep₁ _ fun acts => by rw [doInvoke_state]; exact hsteps.trans h⟩
  · exact Or.inr ⟨q, vm₁, B, X₁.warmed, X', hpost, hstep₁ _ fun acts => by rw [doInvoke_state]; exact hsteps⟩
theorem vx_callSX (X : Stand p l e R s m args below meth c T locs cells slots) (hexec : p.tables.exec = Jvm.exec) {own : String} {index : Nat} {y : MethodName} {bytes : ByteArray} {maxL : Nat} {ret : Option FieldType} {hh : List (Nat × Nat × Nat × Nat)}
    (hown : s.vm.findClass own = some m.cls) (hlink : (Cond.methodLink own index y).before args s = true) (hstat : (Cond.static y).before args s = true) (hinit : (Cond.initialized y.cls).before args s = true)
    (hcode : (Cond.codeWith y bytes maxL ret hh).before args s = true) (hy : y.cls ≠ "java/lang/invoke/MethodHandle" ∧ y.cls ≠ "java/lang/invoke/VarHandle")
    {W9 : Nat} {Pre : Pt → Array Value → Prop} {Post : Pt → Array Value → Option Value → Pt → Prop} {PostX : Pt → Array Value → Addr → Pt → Prop} (hK : vx_Back l R p e below s args y 3 W9 Pre Post PostX)
    {g : JFrame} (hg : g.method = m) (hsize : g.locals.size = c.maxLocals) {argsL rest : List Value} (hlen : ∀ sig, parseMethodDescriptor y.desc = some sig → argsL.length = sig.parameters.length)
    (hstack : g.stack = argsL.reverse ++ rest) (hW : 2 * g.monitorRoom + (rest.map fun v => v.category).sum ≤ W9) (hdg : decode c.code g.pc = .ok (.invokestatic index, 3))
    (hpre : ∀ vm₁, s.WarmedH vm₁ → Pre ⟨T.setVm vm₁, locs, cells, slots⟩ argsL.toArray) :
    (∃ (v : Option Value) (vm₁ : Vm) (B : Pt), s.WarmedH vm₁ ∧ Stand p l e R s m args below meth c B.U B.locs B.cells B.slots ∧ Post ⟨T.setVm vm₁, locs, cells, slots⟩ argsL.toArray v B ∧
      ∀ target, Steps p.tables e below (B.U.setTop { g with pc := g.pc + 3, stack := v.toList ++ rest }) target → Steps p.tables e below (T.setTop g) target) ∨
    (∃ (q : Addr) (vm₁ : Vm) (B : Pt), s.WarmedH vm₁ ∧ Stand p l e R s m args below meth c B.U B.locs B.cells B.slots ∧ PostX ⟨T.setVm vm₁, locs, cells, slots⟩ argsL.toArray q B ∧
      Steps p.tables e below (T.setTop g) ((B.U.setTop { g with stack := rest }).pushFrame (.throwing q))) := by
  obtain ⟨mk, methM, cM, hnamed, hmethM, -, -, -, -, -, -, hsigM⟩ := Cond.codeWith_spec hcode
  have hstatic : methM.isStatic = true := Cond.static_spec hnamed hmethM hstat
  obtain ⟨kP, hkP, -⟩ := className_of_methodNamed hnamed
  have hinitP : kP.init = .initialized := Cond.initialized_spec (findClass_of_methodNamed hnamed) hkP hinit
  obtain ⟨vm₁, X₁, hstep₁⟩ := X.invokestatic hexec hown hlink hnamed hmethM hstatic hkP hinitP hy (g := g) hg (argsL := argsL) (rest := rest) (hlen _ hsigM) hstack hdg
  rcases hK m meth c ⟨T.setVm vm₁, locs, cells, slots⟩ { g with stack := rest } (.invokestatic index) mk argsL.toArray X₁ hg hsize hdg hW (X₁.named hnamed) (hpre vm₁ X₁.warmed) with ⟨v, B, X', hpost, hsteps⟩ | ⟨q, B, X', hpost, hsteps⟩
  · exact Or.inl ⟨v, vm₁, B, X₁.warmed, X', hpost, fun target h => hstep₁ _ fun acts => by rw [doInvoke_state]; exact hsteps.trans h⟩
  · exact Or.inr ⟨q, vm₁, B, X₁.warmed, X', hpost, hstep₁ _ fun acts => by rw [doInvoke_state]; exact hsteps⟩
theorem vx_callVW (X : Stand p l e R s m args below meth c T locs cells slots) (hexec : p.tables.exec = Jvm.exec) {own C : String} {index : Nat} {y : MethodName} {bytes : ByteArray} {maxL : Nat} {ret : Option FieldType} {hh : List (Nat × Nat × Nat × Nat)}
    (hown : s.vm.findClass own = some m.cls) (hlink : (Cond.methodLink own index y).before args s = true) (hinst : (Cond.instanceMethod y).before args s = true) (hsel : (Cond.selects C y y).before args s = true)
    (hcode : (Cond.codeWith y bytes maxL ret hh).before args s = true) (hy : y.cls ≠ "java/lang/invoke/MethodHandle" ∧ y.cls ≠ "java/lang/invoke/VarHandle")
    {W9 : Nat} {Pre : Pt → Array Value → Prop} {Post : Pt → Array Value → Option Value → Pt → Prop} (hK : Back l R p e below s args y 3 W9 Pre Post)
    {b : Addr} {cellB : Cell} (hcell : T.heap[b]? = some cellB) (hobj : cellB.vm.isStatics = false) (hcls : s.vm.findClass C = some cellB.cls)
    {g : JFrame} (hg : g.method = m) (hsize : g.locals.size = c.maxLocals) {argsL rest : List Value} (hlen : ∀ sig, parseMethodDescriptor y.desc = some sig → argsL.length = sig.parameters.length)
    (hstack : g.stack = argsL.reverse ++ .ref b :: rest) (hW : 2 * g.monitorRoom + (rest.map fun v => v.category).sum ≤ W9) (hdg : decode c.code g.pc = .ok (.invokevirtual index, 3))
    (hpre : ∀ vm₁, s.WarmedH vm₁ → Pre ⟨T.setVm vm₁, locs, cells, slots⟩ (Value.ref b :: argsL).toArray) :
    ∃ (v : Option Value) (vm₁ : Vm) (B : Pt), s.WarmedH vm₁ ∧ Stand p l e R s m args below meth c B.U B.locs B.cells B.slots ∧ Post ⟨T.setVm vm₁, locs, cells, slots⟩ (Value.ref b :: argsL).toArray v B ∧
      ∀ target, Steps p.tables e below (B.U.setTop { g with pc := g.pc + 3, stack := v.toList ++ rest }) target → Steps p.tables e below (T.setTop g) target := by
  obtain ⟨mk, methM, hnamed, hmethM, hstM, habM⟩ := Cond.instanceMethod_spec hinst
  obtain ⟨m8, methM', cM, hn8, hmethM', -, -, -, -, -, -, hsigM⟩ := Cond.codeWith_spec hcode
  cases Option.some.inj (hn8.symm.trans hnamed)
  cases hmethM.symm.trans hmethM'
  obtain ⟨c2, r2, m2, q1, q2, q3, q4, kP, hkP, hkPi⟩ := Cond.selects_spec hsel
  cases hcls.symm.trans q1
  cases (State.methodFound?_of_named hnamed hy).symm.trans q2
  cases hnamed.symm.trans q3
  have hselP : selectMethod e.platform s.vm cellB.cls mk = .method mk := by rw [Launch.admits_selectMethod X.admits]; exact q4
  obtain ⟨vm₁, X₁, hstep₁⟩ := X.invokevirtual hexec hown hlink hnamed hmethM hstM hkP hkPi hy (a := b) (cell := cellB) hcell
    (fun z h => by rw [h] at hobj; cases hobj) hselP hmethM habM hkP hkPi (g := g) hg (argsL := argsL) (rest := rest) (hlen _ hsigM) hstack hdg
  obtain ⟨v, B, X', hpost, hsteps⟩ := hK m meth c ⟨T.setVm vm₁, locs, cells, slots⟩ { g with stack := rest } (.invokevirtual index) mk (Value.ref b :: argsL).toArray X₁ hg hsize hdg hW (X₁.named hnamed) (hpre vm₁ X₁.warmed)
  exact ⟨v, vm₁, B, X₁.warmed, X', hpost, fun target h => hstep₁ _ fun acts => by rw [doInvoke_state]; exact hsteps.trans h⟩
abbrev vx_CVW (R : Room) (s : State) (args : Array Value) (own C : String) (index : Nat) (y : MethodName) (bytes : ByteArray) (maxL : Nat) (ret : Option FieldType) (hh : List (Nat × Nat × Nat × Nat)) (ws : List Cond) (rm : Room) (mc ms n : Nat) : Prop :=
  (rm.cells = mc ∧ rm.slots = ms ∧ rm.frames + 1 ≤ R.frames ∧ 8 + (maxL + 11) + rm.locals ≤ R.locals ∧ (∀ w ∈ ws, ∀ (a' : Array Value) (U : State), s.WarmedH U.vm → w.before a' U = true) ∧ Cond.codeWith y bytes maxL ret hh ∈ ws) ∧
  (Cond.codeWith y bytes maxL ret hh).before args s = true ∧ (Cond.initialized y.cls).before args s = true ∧ (y.cls ≠ "java/lang/invoke/MethodHandle" ∧ y.cls ≠ "java/lang/invoke/VarHandle") ∧
  (∀ sig, parseMethodDescriptor y.desc = some sig → n = sig.parameters.length) ∧ (Cond.methodLink own index y).before args s = true ∧ (Cond.instanceMethod y).before args s = true ∧ (Cond.selects C y y).before args s = true
theorem vx_cwVW {own C : String} {index maxL mc ms : Nat} {y : MethodName} {bytes : ByteArray} {ret : Option FieldType} {hh : List (Nat × Nat × Nat × Nat)} {Ts ws ws' : List Cond} {rm : Room} (n : Nat) (ht : ∀ w ∈ Ts, w.before args s = true) (hT : GoodIn Ts (wsV own index C y ws)) (hw : ws = Cond.codeWith y bytes maxL ret hh :: ws') (hrc : rm.cells = mc) (hrs : rm.slots = ms)
    (hd : y.cls = C ∧ y.cls ≠ "java/lang/invoke/MethodHandle" ∧ y.cls ≠ "java/lang/invoke/VarHandle" ∧ (parseMethodDescriptor y.desc).map (fun d => d.parameters.length) = some n) (hR : rm.frames + 1 ≤ R.frames ∧ 8 + (maxL + 11) + rm.locals ≤ R.locals) :
    vx_CVW R s args own C index y bytes maxL ret hh ws rm mc ms n := by
  obtain ⟨hC, hd⟩ := hd
  subst hC
  have ok : ∀ w ∈ wsV own index y.cls y ws, w.before args s = true := fun w h => ht w (hT w h).1
  have hG : GoodIn Ts ws := fun w h => hT w (by unfold wsV; exact List.mem_append_right _ h)
  have hc : Cond.codeWith y bytes maxL ret hh ∈ ws := by rw [hw]; exact List.mem_cons_self
  refine ⟨⟨hrc, hrs, hR.1, hR.2, pay_in ht hG, hc⟩, ht _ (hG _ hc).1, ok _ (by simp [wsV]), ⟨hd.1, hd.2.1⟩, fun sig h => ?_, ok _ (by simp [wsV]), ok _ (by simp [wsV]), ok _ (by simp [wsV])⟩
  have h2 := hd.2.2
  rw [h] at h2
  exact (Option.some.inj h2).symm
theorem vx_runVW {y : MethodName} {bytes cc : ByteArray} {maxL nL mc ms n index : Nat} {ret : Option FieldType} {hh : List (Nat × Nat × Nat × Nat)} {ws : List Cond} {rm : Room} {Pc : Array Value → State → Prop} {Qc : Array Value → State → Outcome → State → Prop} {free : Addr → Prop} {Ts : List Cond} {own C : String} {b : Addr} {As rest : List Value} {g : JFrame}
    (S : CallFix p m c cc nL s args Ts own) (hM : Met l y ws rm Pc Qc mc ms free) (cw : vx_CVW R s args own C index y bytes maxL ret hh ws rm mc ms n) (hp : PreV s H C b Pc As)
    (hg : g.method = m) (hn : As.length = n) (hsize : g.locals.size = nL) (hstack : g.stack = As.reverse ++ .ref b :: rest) (hW : 2 * g.monitorRoom + (rest.map fun v => v.category).sum ≤ 8) (hdg : decode cc g.pc = .ok (.invokevirtual index, 3)) (hf : cells + mc ≤ R.cells ∧ slots + ms ≤ R.slots) :
    va_Run p l e R s m args below meth c H locs cells slots mc ms g rest (Qc (Value.ref b :: As).toArray) free := by
  obtain ⟨⟨hrc, hrs, hfr, hlo, hws, hcw⟩, hcode, hini, hy, hlen, hl, hin, hse⟩ := cw
  have hK : Back l R p e below s args y 3 8 (PreOf R mc ms Pc) (PostOf Qc mc ms free) := va_backW (hh := hh) (bytes := bytes) (maxL := maxL) (ret := ret) hM hp.1 hrc hrs hfr hlo hws hcw (fun a' U hW => word_at hW (Or.inl (by first | rfl | simp [Cond.onTables, Cond.keeps, Cond.steady])) hini)
  obtain ⟨hx, hb, hml, ho, -⟩ := S
  obtain ⟨-, ⟨cellB, hcB, hoB, hclB⟩, hPc⟩ := hp
  intro T hT X
  obtain ⟨v, vm₁, ⟨U', l2, c2, s2⟩, hW₁, X', ⟨g', mk, t, L, e1, e2, hq, h1, hL, h2, h3⟩, st⟩ := vx_callVW X hx (C := C) (hh := hh) (bytes := bytes) (maxL := maxL) (ret := ret) ho hl hin hse hcode hy hK (by rw [hT]; exact hcB) hoB hclB hg (hsize.trans hml.symm) (argsL := As) (rest := rest) (fun sig h => hn.trans (hlen sig h)) hstack hW (by rw [hb]; exact hdg)
    (fun vm₁ hW₁ => ⟨hf.1, hf.2, hPc (T.setVm vm₁) hT hW₁⟩)
  dsimp only [Pt.U, Pt.locs, Pt.cells, Pt.slots] at X' e1 e2 h1 h2 h3 st
  subst h1; subst h2; subst h3
  exact ⟨v, (T.setVm vm₁).calling g' mk (Value.ref b :: As).toArray, t, U', L, hT, X', hL, e1, e2, hq, st⟩
section
variable {y : MethodName} {bytes cc : ByteArray} {maxL nL mc ms n index : Nat} {ret : Option FieldType} {ws : List Cond} {rm : Room} {Pc : Array Value → State → Prop} {Qc : Array Value → State → Outcome → State → Prop} {XC : String → State → State → Prop} {free : Addr → Prop} {Ts : List Cond} {own C : String} {b : Addr} {As rest : List Value} {g : JFrame}
theorem vx_runVX {hh : List (Nat × Nat × Nat × Nat)} (S : CallFix p m c cc nL s args Ts own) (hM : vx_Met l y ws rm Pc Qc XC mc ms free) (cw : vx_CVW R s args own C index y bytes maxL ret hh ws rm mc ms n) (hp : PreV s H C b Pc As)
    (hg : g.method = m) (hn : As.length = n) (hsize : g.locals.size = nL) (hstack : g.stack = As.reverse ++ .ref b :: rest) (hW : 2 * g.monitorRoom + (rest.map fun v => v.category).sum ≤ 8) (hdg : decode cc g.pc = .ok (.invokevirtual index, 3)) (hf : cells + mc ≤ R.cells ∧ slots + ms ≤ R.slots) :
    vx_Run p l e R s m args below meth c H locs cells slots mc ms g rest (Qc (Value.ref b :: As).toArray) XC free := by
  obtain ⟨⟨hrc, hrs, hfr, hlo, hws, hcw⟩, hcode, hini, hy, hlen, hl, hin, hse⟩ := cw
  have hK : vx_Back l R p e below s args y 3 8 (PreOf R mc ms Pc) (PostOf Qc mc ms free) (vx_Post XC mc ms free) := vx_backW (hh := hh) (bytes := bytes) (maxL := maxL) (ret := ret) hM hp.1 hrc hrs hfr hlo hws hcw (fun a' U hW => word_at hW (Or.inl (by first | rfl | simp [Cond.onTables, Cond.keeps, Cond.steady])) hini)
  obtain ⟨hx, hb, hml, ho, -⟩ := S
  obtain ⟨-, ⟨cellB, hcB, hoB, hclB⟩, hPc⟩ := hp
  intro T hT X
  rcases vx_callVX X hx (C := C) (hh := hh) (bytes := bytes) (maxL := maxL) (ret := ret) ho hl hin hse hcode hy hK (by rw [hT]; exact hcB) hoB hclB hg (hsize.trans hml.symm) (argsL := As) (rest := rest) (fun sig h => hn.trans (hlen sig h)) hstack hW (by rw [hb]; exact hdg)
    (fun vm₁ hW₁ => ⟨hf.1, hf.2, hPc (T.setVm vm₁) hT hW₁⟩) with ⟨v, vm₁, ⟨U', l2, c2, s2⟩, hW₁, X', ⟨g', mk, t, L, e1, e2, hq, h1, hL, h2, h3⟩, st⟩ | ⟨q, vm₁, ⟨U', l2, c2, s2⟩, hW₁, X', ⟨g', mk, t, L, E, ce, e1, e2, hq, hce, hcv, hcl, h1, hL, h2, h3⟩, st⟩
  · dsimp only [Pt.U, Pt.locs, Pt.cells, Pt.slots] at X' e1 e2 h1 h2 h3 st
    subst h1; subst h2; subst h3
    exact Or.inl ⟨v, (T.setVm vm₁).calling g' mk (Value.ref b :: As).toArray, t, U', L, hT, X', hL, e1, e2, hq, st⟩
  · dsimp only [Pt.U, Pt.locs, Pt.cells, Pt.slots] at X' e1 e2 h1 h2 h3 st hcl
    subst h1; subst h2; subst h3
    exact Or.inr ⟨q, (T.setVm vm₁).calling g' mk (Value.ref b :: As).toArray, t, U', L, E, ce, hT, X', hL, e1, e2, hq, hce, hcv, vx_cls hW₁ hcl, st⟩
theorem vx_runSX {hh : List (Nat × Nat × Nat × Nat)} (S : CallFix p m c cc nL s args Ts own) (hM : vx_Met l y ws rm Pc Qc XC mc ms free) (cw : vx_CSW R s args own index y bytes maxL ret hh ws rm mc ms n) (hp : PreS s H Pc As)
    (hg : g.method = m) (hn : As.length = n) (hsize : g.locals.size = nL) (hstack : g.stack = As.reverse ++ rest) (hW : 2 * g.monitorRoom + (rest.map fun v => v.category).sum ≤ 8) (hdg : decode cc g.pc = .ok (.invokestatic index, 3)) (hf : cells + mc ≤ R.cells ∧ slots + ms ≤ R.slots) :
    vx_Run p l e R s m args below meth c H locs cells slots mc ms g rest (Qc As.toArray) XC free := by
  obtain ⟨⟨hrc, hrs, hfr, hlo, hws, hcw⟩, hcode, hini, hy, hlen, hl, hstt⟩ := cw
  have hK : vx_Back l R p e below s args y 3 8 (PreOf R mc ms Pc) (PostOf Qc mc ms free) (vx_Post XC mc ms free) := vx_backW (hh := hh) (bytes := bytes) (maxL := maxL) (ret := ret) hM hp.1 hrc hrs hfr hlo hws hcw (fun a' U hW => word_at hW (Or.inl (by first | rfl | simp [Cond.onTables, Cond.keeps, Cond.steady])) hini)
  obtain ⟨hx, hb, hml, ho, -⟩ := S
  intro T hT X
  rcases vx_callSX X hx (hh := hh) (bytes := bytes) (maxL := maxL) (ret := ret) ho hl hstt hini hcode hy hK hg (hsize.trans hml.symm) (argsL := As) (rest := rest) (fun sig h => hn.trans (hlen sig h)) hstack hW (by rw [hb]; exact hdg)
    (fun vm₁ hW₁ => ⟨hf.1, hf.2, hp.2 (T.setVm vm₁) hT hW₁⟩) with ⟨v, vm₁, ⟨U', l2, c2, s2⟩, hW₁, X', ⟨g', mk, t, L, e1, e2, hq, h1, hL, h2, h3⟩, st⟩ | ⟨q, vm₁, ⟨U', l2, c2, s2⟩, hW₁, X', ⟨g', mk, t, L, E, ce, e1, e2, hq, hce, hcv, hcl, h1, hL, h2, h3⟩, st⟩
  · dsimp only [Pt.U, Pt.locs, Pt.cells, Pt.slots] at X' e1 e2 h1 h2 h3 st
    subst h1; subst h2; subst h3
    exact Or.inl ⟨v, (T.setVm vm₁).calling g' mk As.toArray, t, U', L, hT, X', hL, e1, e2, hq, st⟩
  · dsimp only [Pt.U, Pt.locs, Pt.cells, Pt.slots] at X' e1 e2 h1 h2 h3 st hcl
    subst h1; subst h2; subst h3
    exact Or.inr ⟨q, (T.setVm vm₁).calling g' mk As.toArray, t, U', L, E, ce, hT, X', hL, e1, e2, hq, hce, hcv, vx_cls hW₁ hcl, st⟩
end
end VXH
theorem vx_ofWH {l : Launch} {y : MethodName} {ws ws' : List Cond} {rm : Room} {Pc : Array Value → State → Prop} {Qc : Array Value → State → Outcome → State → Prop} {XC : String → State → State → Prop} {mc ms : Nat} {free : Addr → Prop} {cc : ByteArray} {maxL : Nat} {ret : Option FieldType} {hh : List (Nat × Nat × Nat × Nat)}
    (hy : plainName y.cls = true) (hw : ws = Cond.codeWith y cc maxL ret hh :: ws')
    (body : ∀ p e s m args below meth c s₁, BodyLoose p l y (headSpec ws rm) cc maxL ret e s m args below meth c s₁ → c.maxLocals = maxL → Pc args s →
      W p l e (headSpec ws rm).room s m args below meth c s.heap [] 0 0 (vx_MQ below Qc XC args s mc ms free) (entryFrame m args maxL)) : vx_Met l y ws rm Pc Qc XC mc ms free := by
  refine MetFree.of_bodyS (code := cc) (maxLocals := maxL) (ret := ret) hy ?_ ?_
  · intro args s m h hn
    obtain ⟨m9, meth, c, hn9, h1, h2, h3, h4, -, h5, h6, -⟩ := Cond.codeWith_spec (atoms_spec (ws := ws) h _ (by rw [hw]; exact List.mem_cons_self))
    cases hn.symm.trans hn9
    exact ⟨meth, c, h1, h2, h3, h4, h5, h6⟩
  · intro p e s m args below meth c s₁ B hml hP _
    have hh0 : s₁.heap = s.heap := by rw [B.state]; rfl
    obtain ⟨t, a1, o, b1, b2, b3⟩ := body p e s m args below meth c s₁ B hml hP s₁ hh0 (Stand.of_body B)
    exact ⟨t, o, a1, b1, b2, b3⟩
/-! ===== END ===== -/

/-! ===== BEGIN printed: names, fields, word lists, decode rows ===== -/
def RX0 : String := "HiddenFacts$Action"
def TX0 : u_T := fun k => match k with
  | 0 => ("HiddenFacts$Action", "there", "Z", false)
  | 1 => ("HiddenFacts$Action", "condition", "I", false)
  | 2 => ("HiddenFacts$Action", "senses", "I", false)
  | 3 => ("HiddenFacts$Action", "effects", "I", false)
  | _ => ("HiddenFacts$Action", "next", "[I", true)
def tyX0 : Nat → FieldType := fun k => match k with
  | 0 => .boolean
  | 1 => .int
  | 2 => .int
  | 3 => .int
  | _ => .array .int
abbrev wsX00 : List Cond := u_ws RX0 TX0 5
theorem nmX0 : ∀ a, a < 5 → ∀ b, b < 5 → a ≠ b → (TX0 a).2.1 ≠ (TX0 b).2.1 := by decide +kernel
theorem tyX0_ok : ∀ k, k < 5 → parseFieldDescriptor (TX0 k).2.2.1 = some (tyX0 k) := by decide +kernel
abbrev cX0_init : ByteArray := prog_2_method_1_code
def yX0_init : MethodName := ⟨RX0, "<init>", "()V"⟩
abbrev cX0_begin : ByteArray := prog_2_method_2_code
def yX0_begin : MethodName := ⟨RX0, "begin", "(II)V"⟩
abbrev cX0_addEffect : ByteArray := prog_2_method_3_code
def yX0_addEffect : MethodName := ⟨RX0, "addEffect", "(IZI)V"⟩
abbrev cX0_usable : ByteArray := prog_2_method_4_code
def yX0_usable : MethodName := ⟨RX0, "usable", "(I)Z"⟩
abbrev cX0_after : ByteArray := prog_2_method_5_code
def yX0_after : MethodName := ⟨RX0, "after", "(I)I"⟩
abbrev cX0_part : ByteArray := prog_2_method_6_code
def yX0_part : MethodName := ⟨RX0, "part", "(II)I"⟩
abbrev cX0_sensed : ByteArray := prog_2_method_7_code
def yX0_sensed : MethodName := ⟨RX0, "sensed", "(I)I"⟩
def RX1 : String := "HiddenFacts$Sight"
def TX1 : u_T := fun k => match k with
  | 0 => ("HiddenFacts$Sight", "come", "[I", true)
  | 1 => ("HiddenFacts$Sight", "apart", "[I", true)
  | _ => ("HiddenFacts$Sight", "belief", "I", false)
def tyX1 : Nat → FieldType := fun k => match k with
  | 0 => .array .int
  | 1 => .array .int
  | _ => .int
abbrev wsX10 : List Cond := u_ws RX1 TX1 3
theorem nmX1 : ∀ a, a < 3 → ∀ b, b < 3 → a ≠ b → (TX1 a).2.1 ≠ (TX1 b).2.1 := by decide +kernel
theorem tyX1_ok : ∀ k, k < 3 → parseFieldDescriptor (TX1 k).2.2.1 = some (tyX1 k) := by decide +kernel
abbrev cX1_init : ByteArray := prog_3_method_1_code
def yX1_init : MethodName := ⟨RX1, "<init>", "()V"⟩
abbrev cX1_open : ByteArray := prog_3_method_2_code
def yX1_open : MethodName := ⟨RX1, "open", "(I)V"⟩
abbrev cX1_step : ByteArray := prog_3_method_3_code
def yX1_step : MethodName := ⟨RX1, "step", "(LHiddenFacts$Action;I)V"⟩
abbrev cX1_firstAlike : ByteArray := prog_3_method_4_code
def yX1_firstAlike : MethodName := ⟨RX1, "firstAlike", "()I"⟩
def RX2 : String := "HiddenFacts$Tree"
def TX2 : u_T := fun k => match k with
  | 0 => ("HiddenFacts$Tree", "cells", "[I", true)
  | _ => ("HiddenFacts$Tree", "count", "I", false)
def tyX2 : Nat → FieldType := fun k => match k with
  | 0 => .array .int
  | _ => .int
abbrev wsX20 : List Cond := u_ws RX2 TX2 2
theorem nmX2 : ∀ a, a < 2 → ∀ b, b < 2 → a ≠ b → (TX2 a).2.1 ≠ (TX2 b).2.1 := by decide +kernel
theorem tyX2_ok : ∀ k, k < 2 → parseFieldDescriptor (TX2 k).2.2.1 = some (tyX2 k) := by decide +kernel
abbrev cX2_init : ByteArray := prog_4_method_1_code
def yX2_init : MethodName := ⟨RX2, "<init>", "()V"⟩
abbrev cX2_empty : ByteArray := prog_4_method_2_code
def yX2_empty : MethodName := ⟨RX2, "empty", "()V"⟩
abbrev cX2_cell : ByteArray := prog_4_method_3_code
def yX2_cell : MethodName := ⟨RX2, "cell", "(II)I"⟩
abbrev cX2_setAction : ByteArray := prog_4_method_4_code
def yX2_setAction : MethodName := ⟨RX2, "setAction", "(II)V"⟩
abbrev cX2_open : ByteArray := prog_4_method_5_code
def yX2_open : MethodName := ⟨RX2, "open", "()I"⟩
abbrev cX2_close : ByteArray := prog_4_method_6_code
def yX2_close : MethodName := ⟨RX2, "close", "(IIII)I"⟩
def RX3 : String := "HiddenFacts"
def TX3 : u_T := fun k => match k with
  | 0 => ("HiddenFacts", "actions", "[LHiddenFacts$Action;", true)
  | 1 => ("HiddenFacts", "tree", "LHiddenFacts$Tree;", true)
  | 2 => ("HiddenFacts", "sight", "LHiddenFacts$Sight;", true)
  | 3 => ("HiddenFacts", "trace", "[I", true)
  | 4 => ("HiddenFacts", "clauses", "I", false)
  | 5 => ("HiddenFacts", "startBelief", "I", false)
  | 6 => ("HiddenFacts", "goalStates", "I", false)
  | 7 => ("HiddenFacts", "hidden", "I", false)
  | _ => ("HiddenFacts", "made", "I", false)
def tyX3 : Nat → FieldType := fun k => match k with
  | 0 => .array (.object "HiddenFacts$Action")
  | 1 => .object "HiddenFacts$Tree"
  | 2 => .object "HiddenFacts$Sight"
  | 3 => .array .int
  | 4 => .int
  | 5 => .int
  | 6 => .int
  | 7 => .int
  | _ => .int
abbrev wsX30 : List Cond := u_ws RX3 TX3 9
theorem nmX3 : ∀ a, a < 9 → ∀ b, b < 9 → a ≠ b → (TX3 a).2.1 ≠ (TX3 b).2.1 := by decide +kernel
theorem tyX3_ok : ∀ k, k < 9 → parseFieldDescriptor (TX3 k).2.2.1 = some (tyX3 k) := by decide +kernel
abbrev cX3_init : ByteArray := prog_1_method_1_code
def yX3_init : MethodName := ⟨RX3, "<init>", "()V"⟩
abbrev cX3_clear : ByteArray := prog_1_method_2_code
def yX3_clear : MethodName := ⟨RX3, "clear", "()I"⟩
abbrev cX3_action : ByteArray := prog_1_method_3_code
def yX3_action : MethodName := ⟨RX3, "action", "(IIII)Z"⟩
abbrev cX3_effect : ByteArray := prog_1_method_4_code
def yX3_effect : MethodName := ⟨RX3, "effect", "(IIZII)I"⟩
abbrev cX3_clause : ByteArray := prog_1_method_5_code
def yX3_clause : MethodName := ⟨RX3, "clause", "(II)I"⟩
abbrev cX3_goal : ByteArray := prog_1_method_6_code
def yX3_goal : MethodName := ⟨RX3, "goal", "(II)I"⟩
abbrev cX3_start : ByteArray := prog_1_method_7_code
def yX3_start : MethodName := ⟨RX3, "start", "()I"⟩
abbrev cX3_behind : ByteArray := prog_1_method_8_code
def yX3_behind : MethodName := ⟨RX3, "behind", "(II)I"⟩
abbrev cX3_least : ByteArray := prog_1_method_9_code
def yX3_least : MethodName := ⟨RX3, "least", "(II)I"⟩
abbrev cX3_plan : ByteArray := prog_1_method_10_code
def yX3_plan : MethodName := ⟨RX3, "plan", "(I)I"⟩
abbrev cX3_nodes : ByteArray := prog_1_method_11_code
def yX3_nodes : MethodName := ⟨RX3, "nodes", "()I"⟩
abbrev cX3_node : ByteArray := prog_1_method_12_code
def yX3_node : MethodName := ⟨RX3, "node", "(II)I"⟩
abbrev cX3_edit : ByteArray := prog_1_method_13_code
def yX3_edit : MethodName := ⟨RX3, "edit", "(II)I"⟩
abbrev cX3_right : ByteArray := prog_1_method_14_code
def yX3_right : MethodName := ⟨RX3, "right", "()Z"⟩
abbrev cX3_hide : ByteArray := prog_1_method_15_code
def yX3_hide : MethodName := ⟨RX3, "hide", "(I)Z"⟩
abbrev cX3_execute : ByteArray := prog_1_method_16_code
def yX3_execute : MethodName := ⟨RX3, "execute", "()Z"⟩
abbrev cX3_made : ByteArray := prog_1_method_17_code
def yX3_made : MethodName := ⟨RX3, "made", "()I"⟩
abbrev cX3_trace : ByteArray := prog_1_method_18_code
def yX3_trace : MethodName := ⟨RX3, "trace", "(I)I"⟩
abbrev cX3_twins : ByteArray := prog_1_method_19_code
def yX3_twins : MethodName := ⟨RX3, "twins", "()I"⟩
abbrev cX3_forgetAll : ByteArray := prog_1_method_20_code
def yX3_forgetAll : MethodName := ⟨RX3, "forgetAll", "()V"⟩
abbrev cX3_needNumber : ByteArray := prog_1_method_21_code
def yX3_needNumber : MethodName := ⟨RX3, "needNumber", "(I)V"⟩
abbrev cX3_needThere : ByteArray := prog_1_method_22_code
def yX3_needThere : MethodName := ⟨RX3, "needThere", "(I)V"⟩
abbrev cX3_needBits : ByteArray := prog_1_method_23_code
def yX3_needBits : MethodName := ⟨RX3, "needBits", "(II)V"⟩
abbrev cX3_needDepth : ByteArray := prog_1_method_24_code
def yX3_needDepth : MethodName := ⟨RX3, "needDepth", "(I)V"⟩
abbrev cX3_needSolved : ByteArray := prog_1_method_25_code
def yX3_needSolved : MethodName := ⟨RX3, "needSolved", "(I)I"⟩
abbrev cX3_needNode : ByteArray := prog_1_method_26_code
def yX3_needNode : MethodName := ⟨RX3, "needNode", "(I)V"⟩
abbrev cX3_needPlan : ByteArray := prog_1_method_27_code
def yX3_needPlan : MethodName := ⟨RX3, "needPlan", "()V"⟩
abbrev cX3_isIn : ByteArray := prog_1_method_28_code
def yX3_isIn : MethodName := ⟨RX3, "isIn", "(II)Z"⟩
abbrev cX3_demanded : ByteArray := prog_1_method_29_code
def yX3_demanded : MethodName := ⟨RX3, "demanded", "(II)I"⟩
abbrev cX3_allowed : ByteArray := prog_1_method_30_code
def yX3_allowed : MethodName := ⟨RX3, "allowed", "(II)I"⟩
abbrev cX3_fewest : ByteArray := prog_1_method_31_code
def yX3_fewest : MethodName := ⟨RX3, "fewest", "(II)I"⟩
abbrev cX3_solved : ByteArray := prog_1_method_32_code
def yX3_solved : MethodName := ⟨RX3, "solved", "(II)Z"⟩
abbrev cX3_reached : ByteArray := prog_1_method_33_code
def yX3_reached : MethodName := ⟨RX3, "reached", "(I)Z"⟩
abbrev cX3_leastAction : ByteArray := prog_1_method_34_code
def yX3_leastAction : MethodName := ⟨RX3, "leastAction", "(II)I"⟩
abbrev cX3_solves : ByteArray := prog_1_method_35_code
def yX3_solves : MethodName := ⟨RX3, "solves", "(LHiddenFacts$Action;II)Z"⟩
abbrev cX3_grow : ByteArray := prog_1_method_36_code
def yX3_grow : MethodName := ⟨RX3, "grow", "(II)I"⟩
abbrev cX3_growPart : ByteArray := prog_1_method_37_code
def yX3_growPart : MethodName := ⟨RX3, "growPart", "(II)I"⟩
abbrev cX3_fits : ByteArray := prog_1_method_38_code
def yX3_fits : MethodName := ⟨RX3, "fits", "(III)Z"⟩
abbrev cX3_carryOut : ByteArray := prog_1_method_39_code
def yX3_carryOut : MethodName := ⟨RX3, "carryOut", "()Z"⟩
abbrev cX3_look : ByteArray := prog_1_method_40_code
def yX3_look : MethodName := ⟨RX3, "look", "(II)V"⟩
def RX4 : String := "HiddenFactsModel"
def TX4 : u_T := fun k => match k with
  | 0 => ("HiddenFactsModel", "thrown", "I", false)
  | 1 => ("HiddenFactsModel", "there", "[Z", true)
  | 2 => ("HiddenFactsModel", "mask", "[I", true)
  | 3 => ("HiddenFactsModel", "value", "[I", true)
  | 4 => ("HiddenFactsModel", "senses", "[I", true)
  | 5 => ("HiddenFactsModel", "effects", "[I", true)
  | 6 => ("HiddenFactsModel", "facts", "[I", true)
  | 7 => ("HiddenFactsModel", "makes", "[Z", true)
  | 8 => ("HiddenFactsModel", "masks", "[I", true)
  | 9 => ("HiddenFactsModel", "values", "[I", true)
  | 10 => ("HiddenFactsModel", "clauses", "I", false)
  | 11 => ("HiddenFactsModel", "trues", "[I", true)
  | 12 => ("HiddenFactsModel", "falses", "[I", true)
  | 13 => ("HiddenFactsModel", "goalMask", "I", false)
  | 14 => ("HiddenFactsModel", "goalValue", "I", false)
  | 15 => ("HiddenFactsModel", "nodes", "I", false)
  | 16 => ("HiddenFactsModel", "nodeAction", "[I", true)
  | 17 => ("HiddenFactsModel", "nodeFirst", "[I", true)
  | 18 => ("HiddenFactsModel", "nodeSecond", "[I", true)
  | 19 => ("HiddenFactsModel", "asked", "[I", true)
  | 20 => ("HiddenFactsModel", "tried", "[I", true)
  | 21 => ("HiddenFactsModel", "side", "[I", true)
  | 22 => ("HiddenFactsModel", "belief", "[I", true)
  | 23 => ("HiddenFactsModel", "does", "[I", true)
  | 24 => ("HiddenFactsModel", "same", "[I", true)
  | 25 => ("HiddenFactsModel", "numbered", "[I", true)
  | 26 => ("HiddenFactsModel", "walk", "[I", true)
  | 27 => ("HiddenFactsModel", "walkBelief", "[I", true)
  | 28 => ("HiddenFactsModel", "hidden", "I", false)
  | 29 => ("HiddenFactsModel", "made", "I", false)
  | 30 => ("HiddenFactsModel", "trace", "[I", true)
  | 31 => ("HiddenFactsModel", "at", "[I", true)
  | _ => ("HiddenFactsModel", "apart", "[I", true)
def tyX4 : Nat → FieldType := fun k => match k with
  | 0 => .int
  | 1 => .array .boolean
  | 2 => .array .int
  | 3 => .array .int
  | 4 => .array .int
  | 5 => .array .int
  | 6 => .array .int
  | 7 => .array .boolean
  | 8 => .array .int
  | 9 => .array .int
  | 10 => .int
  | 11 => .array .int
  | 12 => .array .int
  | 13 => .int
  | 14 => .int
  | 15 => .int
  | 16 => .array .int
  | 17 => .array .int
  | 18 => .array .int
  | 19 => .array .int
  | 20 => .array .int
  | 21 => .array .int
  | 22 => .array .int
  | 23 => .array .int
  | 24 => .array .int
  | 25 => .array .int
  | 26 => .array .int
  | 27 => .array .int
  | 28 => .int
  | 29 => .int
  | 30 => .array .int
  | 31 => .array .int
  | _ => .array .int
abbrev wsX40 : List Cond := u_ws RX4 TX4 33
theorem nmX4 : ∀ a, a < 33 → ∀ b, b < 33 → a ≠ b → (TX4 a).2.1 ≠ (TX4 b).2.1 := by decide +kernel
theorem tyX4_ok : ∀ k, k < 33 → parseFieldDescriptor (TX4 k).2.2.1 = some (tyX4 k) := by decide +kernel
abbrev cX4_init : ByteArray := prog_6_method_1_code
def yX4_init : MethodName := ⟨RX4, "<init>", "()V"⟩
abbrev cX4_thrown : ByteArray := prog_6_method_2_code
def yX4_thrown : MethodName := ⟨RX4, "thrown", "()I"⟩
abbrev cX4_fail : ByteArray := prog_6_method_3_code
def yX4_fail : MethodName := ⟨RX4, "fail", "(I)I"⟩
abbrev cX4_within : ByteArray := prog_6_method_4_code
def yX4_within : MethodName := ⟨RX4, "within", "(III)Z"⟩
abbrev cX4_demand : ByteArray := prog_6_method_5_code
def yX4_demand : MethodName := ⟨RX4, "demand", "(II)Z"⟩
abbrev cX4_holds : ByteArray := prog_6_method_6_code
def yX4_holds : MethodName := ⟨RX4, "holds", "(III)Z"⟩
abbrev cX4_clear : ByteArray := prog_6_method_7_code
def yX4_clear : MethodName := ⟨RX4, "clear", "()I"⟩
abbrev cX4_action : ByteArray := prog_6_method_8_code
def yX4_action : MethodName := ⟨RX4, "action", "(IIII)Z"⟩
abbrev cX4_effect : ByteArray := prog_6_method_9_code
def yX4_effect : MethodName := ⟨RX4, "effect", "(IIZII)I"⟩
abbrev cX4_clause : ByteArray := prog_6_method_10_code
def yX4_clause : MethodName := ⟨RX4, "clause", "(II)I"⟩
abbrev cX4_goal : ByteArray := prog_6_method_11_code
def yX4_goal : MethodName := ⟨RX4, "goal", "(II)I"⟩
abbrev cX4_startBelief : ByteArray := prog_6_method_12_code
def yX4_startBelief : MethodName := ⟨RX4, "startBelief", "()I"⟩
abbrev cX4_start : ByteArray := prog_6_method_13_code
def yX4_start : MethodName := ⟨RX4, "start", "()I"⟩
abbrev cX4_usable : ByteArray := prog_6_method_14_code
def yX4_usable : MethodName := ⟨RX4, "usable", "(II)Z"⟩
abbrev cX4_next : ByteArray := prog_6_method_15_code
def yX4_next : MethodName := ⟨RX4, "next", "(II)I"⟩
abbrev cX4_after : ByteArray := prog_6_method_16_code
def yX4_after : MethodName := ⟨RX4, "after", "(II)I"⟩
abbrev cX4_part : ByteArray := prog_6_method_17_code
def yX4_part : MethodName := ⟨RX4, "part", "(III)I"⟩
abbrev cX4_behind : ByteArray := prog_6_method_18_code
def yX4_behind : MethodName := ⟨RX4, "behind", "(II)I"⟩
abbrev cX4_reached : ByteArray := prog_6_method_19_code
def yX4_reached : MethodName := ⟨RX4, "reached", "(I)Z"⟩
abbrev cX4_solved : ByteArray := prog_6_method_20_code
def yX4_solved : MethodName := ⟨RX4, "solved", "(II)Z"⟩
abbrev cX4_leastFor : ByteArray := prog_6_method_21_code
def yX4_leastFor : MethodName := ⟨RX4, "leastFor", "(II)I"⟩
abbrev cX4_least : ByteArray := prog_6_method_22_code
def yX4_least : MethodName := ⟨RX4, "least", "(II)I"⟩
abbrev cX4_partSolved : ByteArray := prog_6_method_23_code
def yX4_partSolved : MethodName := ⟨RX4, "partSolved", "(IIII)Z"⟩
abbrev cX4_choose : ByteArray := prog_6_method_24_code
def yX4_choose : MethodName := ⟨RX4, "choose", "(II)V"⟩
abbrev cX4_depthOf : ByteArray := prog_6_method_25_code
def yX4_depthOf : MethodName := ⟨RX4, "depthOf", "(I)I"⟩
abbrev cX4_equal : ByteArray := prog_6_method_26_code
def yX4_equal : MethodName := ⟨RX4, "equal", "(II)Z"⟩
abbrev cX4_classOf : ByteArray := prog_6_method_27_code
def yX4_classOf : MethodName := ⟨RX4, "classOf", "(I)I"⟩
abbrev cX4_build : ByteArray := prog_6_method_28_code
def yX4_build : MethodName := ⟨RX4, "build", "(II)V"⟩
abbrev cX4_number : ByteArray := prog_6_method_29_code
def yX4_number : MethodName := ⟨RX4, "number", "()V"⟩
abbrev cX4_plan : ByteArray := prog_6_method_30_code
def yX4_plan : MethodName := ⟨RX4, "plan", "(I)I"⟩
abbrev cX4_nodes : ByteArray := prog_6_method_31_code
def yX4_nodes : MethodName := ⟨RX4, "nodes", "()I"⟩
abbrev cX4_node : ByteArray := prog_6_method_32_code
def yX4_node : MethodName := ⟨RX4, "node", "(II)I"⟩
abbrev cX4_edit : ByteArray := prog_6_method_33_code
def yX4_edit : MethodName := ⟨RX4, "edit", "(II)I"⟩
abbrev cX4_right : ByteArray := prog_6_method_34_code
def yX4_right : MethodName := ⟨RX4, "right", "()Z"⟩
abbrev cX4_hide : ByteArray := prog_6_method_35_code
def yX4_hide : MethodName := ⟨RX4, "hide", "(I)Z"⟩
abbrev cX4_execute : ByteArray := prog_6_method_36_code
def yX4_execute : MethodName := ⟨RX4, "execute", "()Z"⟩
abbrev cX4_made : ByteArray := prog_6_method_37_code
def yX4_made : MethodName := ⟨RX4, "made", "()I"⟩
abbrev cX4_trace : ByteArray := prog_6_method_38_code
def yX4_trace : MethodName := ⟨RX4, "trace", "(I)I"⟩
abbrev cX4_make : ByteArray := prog_6_method_39_code
def yX4_make : MethodName := ⟨RX4, "make", "(II)V"⟩
abbrev cX4_beliefAt : ByteArray := prog_6_method_40_code
def yX4_beliefAt : MethodName := ⟨RX4, "beliefAt", "(II)I"⟩
abbrev cX4_twins : ByteArray := prog_6_method_41_code
def yX4_twins : MethodName := ⟨RX4, "twins", "()I"⟩
def RJ6 : String := "java/lang/Integer"
def TJ6 : u_T := fun k => match k with
  | _ => ("", "", "", false)
def tyJ6 : Nat → FieldType := fun k => match k with
  | _ => .int
abbrev wsJ60 : List Cond := u_ws RJ6 TJ6 0
theorem nmJ6 : ∀ a, a < 0 → ∀ b, b < 0 → a ≠ b → (TJ6 a).2.1 ≠ (TJ6 b).2.1 := by decide +kernel
theorem tyJ6_ok : ∀ k, k < 0 → parseFieldDescriptor (TJ6 k).2.2.1 = some (tyJ6 k) := by decide +kernel
abbrev cJ6_bitCount_0f7a4 : ByteArray := prog_11_method_49_code
def yJ6_bitCount_0f7a4 : MethodName := ⟨RJ6, "bitCount", "(I)I"⟩
def RJ0 : String := "java/lang/String"
def TJ0 : u_T := fun k => match k with
  | _ => ("", "", "", false)
def tyJ0 : Nat → FieldType := fun k => match k with
  | _ => .int
abbrev wsJ00 : List Cond := u_ws RJ0 TJ0 0
theorem nmJ0 : ∀ a, a < 0 → ∀ b, b < 0 → a ≠ b → (TJ0 a).2.1 ≠ (TJ0 b).2.1 := by decide +kernel
theorem tyJ0_ok : ∀ k, k < 0 → parseFieldDescriptor (TJ0 k).2.2.1 = some (tyJ0 k) := by decide +kernel
def RL : String := "HiddenFactsLaw"
abbrev cL_action : ByteArray := method_3_code
def yL_action : MethodName := ⟨RL, "action", "(LHiddenFacts;IIII[J)I"⟩
abbrev cL_effect : ByteArray := method_4_code
def yL_effect : MethodName := ⟨RL, "effect", "(LHiddenFacts;IIZII[J)I"⟩
abbrev cL_clause : ByteArray := method_5_code
def yL_clause : MethodName := ⟨RL, "clause", "(LHiddenFacts;II[J)I"⟩
abbrev cL_goal : ByteArray := method_6_code
def yL_goal : MethodName := ⟨RL, "goal", "(LHiddenFacts;II[J)I"⟩
abbrev cL_behind : ByteArray := method_7_code
def yL_behind : MethodName := ⟨RL, "behind", "(LHiddenFacts;II[J)I"⟩
abbrev cL_least : ByteArray := method_8_code
def yL_least : MethodName := ⟨RL, "least", "(LHiddenFacts;II[J)I"⟩
abbrev cL_plan : ByteArray := method_9_code
def yL_plan : MethodName := ⟨RL, "plan", "(LHiddenFacts;I[J)I"⟩
abbrev cL_node : ByteArray := method_10_code
def yL_node : MethodName := ⟨RL, "node", "(LHiddenFacts;II[J)I"⟩
abbrev cL_edit : ByteArray := method_11_code
def yL_edit : MethodName := ⟨RL, "edit", "(LHiddenFacts;II[J)I"⟩
abbrev cL_right : ByteArray := method_12_code
def yL_right : MethodName := ⟨RL, "right", "(LHiddenFacts;[J)I"⟩
abbrev cL_hide : ByteArray := method_13_code
def yL_hide : MethodName := ⟨RL, "hide", "(LHiddenFacts;I[J)I"⟩
abbrev cL_execute : ByteArray := method_14_code
def yL_execute : MethodName := ⟨RL, "execute", "(LHiddenFacts;[J)I"⟩
abbrev cL_trace : ByteArray := method_15_code
def yL_trace : MethodName := ⟨RL, "trace", "(LHiddenFacts;I[J)I"⟩
abbrev cL_twins : ByteArray := method_16_code
def yL_twins : MethodName := ⟨RL, "twins", "(LHiddenFacts;[J)I"⟩
abbrev cL_law : ByteArray := code
def yL_law : MethodName := ⟨RL, "law", "([I)Z"⟩
def wsX0_init : List Cond := .code yX0_init cX0_init 1 none :: ([.methodLink RX0 3 objectInit, .instanceMethod objectInit, .code objectInit ⟨#[0xb1]⟩ 1 none, .arrayClass .int, .fieldLink RX0 9 "HiddenFacts$Action" "next" "[I"] ++ wsX00)
def wsX0_begin : List Cond := .code yX0_begin cX0_begin 4 none :: ([.fieldLink RX0 15 "HiddenFacts$Action" "there" "Z", .fieldLink RX0 19 "HiddenFacts$Action" "condition" "I", .fieldLink RX0 23 "HiddenFacts$Action" "senses" "I", .fieldLink RX0 26 "HiddenFacts$Action" "effects" "I", .fieldLink RX0 9 "HiddenFacts$Action" "next" "[I"] ++ wsX00)
def wsX3_isIn : List Cond := .code yX3_isIn cX3_isIn 2 (some .boolean) :: ([])
def wsX0_addEffect : List Cond := .code yX0_addEffect cX0_addEffect 5 none :: ([.fieldLink RX0 9 "HiddenFacts$Action" "next" "[I", .fieldLink RX0 26 "HiddenFacts$Action" "effects" "I", .static yX3_isIn, .initialized RX3, .code yX3_isIn cX3_isIn 2 (some .boolean)] ++ wsX00)
def wsX0_usable : List Cond := .code yX0_usable cX0_usable 2 (some .boolean) :: ([.fieldLink RX0 15 "HiddenFacts$Action" "there" "Z", .fieldLink RX0 19 "HiddenFacts$Action" "condition" "I"] ++ wsX00)
def wsX0_after : List Cond := .code yX0_after cX0_after 4 (some .int) :: ([.fieldLink RX0 9 "HiddenFacts$Action" "next" "[I", .static yX3_isIn, .initialized RX3, .code yX3_isIn cX3_isIn 2 (some .boolean)] ++ wsX00)
def wsX0_part : List Cond := .code yX0_part cX0_part 3 (some .int) :: ([.fieldLink RX0 23 "HiddenFacts$Action" "senses" "I"] ++ wsX00)
def wsX0_sensed : List Cond := .code yX0_sensed cX0_sensed 2 (some .int) :: ([.fieldLink RX0 23 "HiddenFacts$Action" "senses" "I", .static yX3_isIn, .initialized RX3, .code yX3_isIn cX3_isIn 2 (some .boolean)] ++ wsX00)
def wsX1_init : List Cond := .code yX1_init cX1_init 1 none :: ([.methodLink RX1 3 objectInit, .instanceMethod objectInit, .code objectInit ⟨#[0xb1]⟩ 1 none, .arrayClass .int, .fieldLink RX1 9 "HiddenFacts$Sight" "come" "[I", .fieldLink RX1 15 "HiddenFacts$Sight" "apart" "[I"] ++ wsX10)
def wsX1_open : List Cond := .code yX1_open cX1_open 3 none :: ([.fieldLink RX1 18 "HiddenFacts$Sight" "belief" "I", .fieldLink RX1 9 "HiddenFacts$Sight" "come" "[I", .fieldLink RX1 15 "HiddenFacts$Sight" "apart" "[I"] ++ wsX10)
def wsX1_step : List Cond := .code yX1_step cX1_step 7 none :: ([.fieldLink RX1 9 "HiddenFacts$Sight" "come" "[I", .fieldLink RX1 15 "HiddenFacts$Sight" "apart" "[I", .methodLink RX1 27 yX0_sensed, .instanceMethod yX0_sensed, .selects RX0 yX0_sensed yX0_sensed, .initialized RX0, .code yX0_sensed cX0_sensed 2 (some .int), .fieldLink RX0 23 "HiddenFacts$Action" "senses" "I", .static yX3_isIn, .initialized RX3, .code yX3_isIn cX3_isIn 2 (some .boolean)] ++ wsX00 ++ wsX10)
def wsX1_firstAlike : List Cond := .code yX1_firstAlike cX1_firstAlike 3 (some .int) :: ([.fieldLink RX1 18 "HiddenFacts$Sight" "belief" "I", .fieldLink RX1 15 "HiddenFacts$Sight" "apart" "[I", .static yX3_isIn, .initialized RX3, .code yX3_isIn cX3_isIn 2 (some .boolean)] ++ wsX10)
def wsX2_init : List Cond := .code yX2_init cX2_init 1 none :: ([.methodLink RX2 1 objectInit, .instanceMethod objectInit, .code objectInit ⟨#[0xb1]⟩ 1 none, .arrayClass .int, .fieldLink RX2 9 "HiddenFacts$Tree" "cells" "[I"] ++ wsX20)
def wsX2_empty : List Cond := .code yX2_empty cX2_empty 1 none :: ([.fieldLink RX2 13 "HiddenFacts$Tree" "count" "I"] ++ wsX20)
def wsX2_cell : List Cond := .code yX2_cell cX2_cell 3 (some .int) :: ([.fieldLink RX2 9 "HiddenFacts$Tree" "cells" "[I"] ++ wsX20)
def wsX2_setAction : List Cond := .code yX2_setAction cX2_setAction 3 none :: ([.fieldLink RX2 9 "HiddenFacts$Tree" "cells" "[I"] ++ wsX20)
def wsX2_open : List Cond := .code yX2_open cX2_open 1 (some .int) :: ([.fieldLink RX2 13 "HiddenFacts$Tree" "count" "I", .methodLink RX2 17 yX2_setAction, .instanceMethod yX2_setAction, .selects RX2 yX2_setAction yX2_setAction, .initialized RX2, .code yX2_setAction cX2_setAction 3 none, .fieldLink RX2 9 "HiddenFacts$Tree" "cells" "[I"] ++ wsX20)
def wsX2_close : List Cond := .code yX2_close cX2_close 6 (some .int) :: ([.fieldLink RX2 13 "HiddenFacts$Tree" "count" "I", .fieldLink RX2 9 "HiddenFacts$Tree" "cells" "[I", .methodLink RX2 21 yX2_cell, .instanceMethod yX2_cell, .selects RX2 yX2_cell yX2_cell, .initialized RX2, .code yX2_cell cX2_cell 3 (some .int), .methodLink RX2 17 yX2_setAction, .instanceMethod yX2_setAction, .selects RX2 yX2_setAction yX2_setAction, .code yX2_setAction cX2_setAction 3 none] ++ wsX20)
def wsX3_forgetAll : List Cond := .code yX3_forgetAll cX3_forgetAll 2 none :: ([.fieldLink RX3 11 "HiddenFacts" "actions" "[LHiddenFacts$Action;", .fieldLink RX3 18 "HiddenFacts" "tree" "LHiddenFacts$Tree;", .fieldLink RX3 84 "HiddenFacts" "clauses" "I", .constant RX3 104 (65535), .fieldLink RX3 89 "HiddenFacts" "startBelief" "I", .fieldLink RX3 95 "HiddenFacts" "goalStates" "I", .fieldLink RX3 166 "HiddenFacts" "hidden" "I", .fieldLink RX3 179 "HiddenFacts" "made" "I", .methodLink RX3 132 yX2_empty, .instanceMethod yX2_empty, .selects RX2 yX2_empty yX2_empty, .initialized RX2, .code yX2_empty cX2_empty 1 none, .fieldLink RX2 13 "HiddenFacts$Tree" "count" "I"] ++ wsX30 ++ wsX00 ++ wsX20)
def wsX3_init_r1 : List Cond := [Cond.methodLink RX3 1 objectInit, Cond.instanceMethod objectInit, Cond.code objectInit ⟨#[0xb1]⟩ 1 none, Cond.classLink RX3 9 RX0, Cond.fieldLink RX3 11 "HiddenFacts" "actions" "[LHiddenFacts$Action;", Cond.classLink RX3 15 RX2, Cond.instantiable RX2 2, Cond.initialized RX2, Cond.fieldLink RX3 18 "HiddenFacts" "tree" "LHiddenFacts$Tree;", Cond.classLink RX3 22 RX1, Cond.instantiable RX1 3, Cond.initialized RX1, Cond.fieldLink RX3 25 "HiddenFacts" "sight" "LHiddenFacts$Sight;", Cond.arrayClass .int, Cond.fieldLink RX3 29 "HiddenFacts" "trace" "[I", Cond.instantiable RX0 5, Cond.initialized RX0, Cond.instanceMethod yX2_init, Cond.code yX2_init cX2_init 1 none, Cond.methodLink RX2 1 objectInit, Cond.fieldLink RX2 9 "HiddenFacts$Tree" "cells" "[I", Cond.instanceMethod yX1_init, Cond.code yX1_init cX1_init 1 none, Cond.methodLink RX1 3 objectInit]
def wsX3_init_r2 : List Cond := [Cond.fieldLink RX1 9 "HiddenFacts$Sight" "come" "[I", Cond.fieldLink RX1 15 "HiddenFacts$Sight" "apart" "[I", Cond.instanceMethod yX0_init, Cond.code yX0_init cX0_init 1 none, Cond.methodLink RX0 3 objectInit, Cond.fieldLink RX0 9 "HiddenFacts$Action" "next" "[I", Cond.methodLink RX3 34 yX3_forgetAll, Cond.instanceMethod yX3_forgetAll, Cond.selects RX3 yX3_forgetAll yX3_forgetAll, Cond.initialized RX3, Cond.code yX3_forgetAll cX3_forgetAll 2 none, Cond.fieldLink RX3 84 "HiddenFacts" "clauses" "I", Cond.constant RX3 104 (65535), Cond.fieldLink RX3 89 "HiddenFacts" "startBelief" "I", Cond.fieldLink RX3 95 "HiddenFacts" "goalStates" "I", Cond.fieldLink RX3 166 "HiddenFacts" "hidden" "I", Cond.fieldLink RX3 179 "HiddenFacts" "made" "I", Cond.methodLink RX3 132 yX2_empty, Cond.instanceMethod yX2_empty, Cond.selects RX2 yX2_empty yX2_empty, Cond.code yX2_empty cX2_empty 1 none, Cond.fieldLink RX2 13 "HiddenFacts$Tree" "count" "I"]
def wsX3_init : List Cond := .code yX3_init cX3_init 2 none :: ((wsX3_init_r1 ++ wsX3_init_r2) ++ wsX30 ++ wsX20 ++ wsX10 ++ wsX00)
def wsX3_clear : List Cond := .code yX3_clear cX3_clear 3 (some .int) :: ([.fieldLink RX3 11 "HiddenFacts" "actions" "[LHiddenFacts$Action;", .methodLink RX3 34 yX3_forgetAll, .instanceMethod yX3_forgetAll, .selects RX3 yX3_forgetAll yX3_forgetAll, .initialized RX3, .code yX3_forgetAll cX3_forgetAll 2 none, .fieldLink RX3 18 "HiddenFacts" "tree" "LHiddenFacts$Tree;", .fieldLink RX3 84 "HiddenFacts" "clauses" "I", .constant RX3 104 (65535), .fieldLink RX3 89 "HiddenFacts" "startBelief" "I", .fieldLink RX3 95 "HiddenFacts" "goalStates" "I", .fieldLink RX3 166 "HiddenFacts" "hidden" "I", .fieldLink RX3 179 "HiddenFacts" "made" "I", .methodLink RX3 132 yX2_empty, .instanceMethod yX2_empty, .selects RX2 yX2_empty yX2_empty, .initialized RX2, .code yX2_empty cX2_empty 1 none, .fieldLink RX2 13 "HiddenFacts$Tree" "count" "I"] ++ wsX30 ++ wsX00 ++ wsX20)
def wsX3_needNumber : List Cond := .code yX3_needNumber cX3_needNumber 1 none :: ([.classLink RX3 144 "java/lang/IndexOutOfBoundsException", .initialized "java/lang/IndexOutOfBoundsException"] ++ (vx_atS RX3 148 "java/lang/IndexOutOfBoundsException" ["java/lang/RuntimeException", "java/lang/Exception"]).filter goodWord)
def wsX3_needBits : List Cond := .code yX3_needBits cX3_needBits 2 none :: ([.classLink RX3 49 "java/lang/IllegalArgumentException", .initialized "java/lang/IllegalArgumentException"] ++ (vx_atS RX3 53 "java/lang/IllegalArgumentException" ["java/lang/RuntimeException", "java/lang/Exception"]).filter goodWord)
def wsX3_demanded : List Cond := .code yX3_demanded cX3_demanded 4 (some .int) :: ([])
def wsX3_action_r1 : List Cond := [Cond.classLink RX3 49 "java/lang/IllegalArgumentException", Cond.initialized "java/lang/IllegalArgumentException", Cond.fieldLink RX3 11 "HiddenFacts" "actions" "[LHiddenFacts$Action;", Cond.fieldLink RX3 60 "HiddenFacts" "TRUE_IN" "[I", Cond.methodLink RX3 41 yX3_needNumber, Cond.static yX3_needNumber, Cond.initialized RX3, Cond.code yX3_needNumber cX3_needNumber 1 none, Cond.classLink RX3 144 "java/lang/IndexOutOfBoundsException", Cond.initialized "java/lang/IndexOutOfBoundsException", Cond.methodLink RX3 45 yX3_needBits, Cond.static yX3_needBits, Cond.code yX3_needBits cX3_needBits 2 none, Cond.methodLink RX3 56 yX3_demanded, Cond.static yX3_demanded, Cond.code yX3_demanded cX3_demanded 4 (some .int), Cond.methodLink RX3 63 yX0_begin, Cond.instanceMethod yX0_begin, Cond.selects RX0 yX0_begin yX0_begin, Cond.initialized RX0, Cond.code yX0_begin cX0_begin 4 none, Cond.fieldLink RX0 15 "HiddenFacts$Action" "there" "Z", Cond.fieldLink RX0 19 "HiddenFacts$Action" "condition" "I", Cond.fieldLink RX0 23 "HiddenFacts$Action" "senses" "I"]
def wsX3_action_r2 : List Cond := [Cond.fieldLink RX0 26 "HiddenFacts$Action" "effects" "I", Cond.fieldLink RX0 9 "HiddenFacts$Action" "next" "[I"]
def wsX3_action : List Cond := .code yX3_action cX3_action 6 (some .boolean) :: ((wsX3_action_r1 ++ wsX3_action_r2) ++ wsX30 ++ wsX00 ++ (vx_atS RX3 53 "java/lang/IllegalArgumentException" ["java/lang/RuntimeException", "java/lang/Exception"]).filter goodWord ++ (vx_atS RX3 148 "java/lang/IndexOutOfBoundsException" ["java/lang/RuntimeException", "java/lang/Exception"]).filter goodWord)
def wsX3_needThere : List Cond := .code yX3_needThere cX3_needThere 2 none :: ([.classLink RX3 194 "java/util/NoSuchElementException", .initialized "java/util/NoSuchElementException", .fieldLink RX3 11 "HiddenFacts" "actions" "[LHiddenFacts$Action;"] ++ wsX30 ++ wsX00 ++ (xn_atS RX3 198 "java/util/NoSuchElementException" ["java/lang/RuntimeException", "java/lang/Exception"]).filter goodWord)
def wsX3_effect_r1 : List Cond := [Cond.classLink RX3 49 "java/lang/IllegalArgumentException", Cond.initialized "java/lang/IllegalArgumentException", Cond.classLink RX3 75 "java/lang/IllegalStateException", Cond.initialized "java/lang/IllegalStateException", Cond.fieldLink RX3 11 "HiddenFacts" "actions" "[LHiddenFacts$Action;", Cond.methodLink RX3 41 yX3_needNumber, Cond.static yX3_needNumber, Cond.initialized RX3, Cond.code yX3_needNumber cX3_needNumber 1 none, Cond.classLink RX3 144 "java/lang/IndexOutOfBoundsException", Cond.initialized "java/lang/IndexOutOfBoundsException", Cond.methodLink RX3 66 yX3_needThere, Cond.instanceMethod yX3_needThere, Cond.selects RX3 yX3_needThere yX3_needThere, Cond.code yX3_needThere cX3_needThere 2 none, Cond.classLink RX3 194 "java/util/NoSuchElementException", Cond.initialized "java/util/NoSuchElementException", Cond.methodLink RX3 45 yX3_needBits, Cond.static yX3_needBits, Cond.code yX3_needBits cX3_needBits 2 none, Cond.methodLink RX3 56 yX3_demanded, Cond.static yX3_demanded, Cond.code yX3_demanded cX3_demanded 4 (some .int), Cond.methodLink RX3 80 yX0_addEffect]
def wsX3_effect_r2 : List Cond := [Cond.instanceMethod yX0_addEffect, Cond.selects RX0 yX0_addEffect yX0_addEffect, Cond.initialized RX0, Cond.code yX0_addEffect cX0_addEffect 5 none, Cond.fieldLink RX0 9 "HiddenFacts$Action" "next" "[I", Cond.fieldLink RX0 26 "HiddenFacts$Action" "effects" "I", Cond.static yX3_isIn, Cond.code yX3_isIn cX3_isIn 2 (some .boolean)]
def wsX3_effect : List Cond := .code yX3_effect cX3_effect 6 (some .int) :: ((wsX3_effect_r1 ++ wsX3_effect_r2) ++ wsX30 ++ wsX00 ++ (vx_atS RX3 53 "java/lang/IllegalArgumentException" ["java/lang/RuntimeException", "java/lang/Exception"]).filter goodWord ++ (vx_atS RX3 79 "java/lang/IllegalStateException" ["java/lang/RuntimeException", "java/lang/Exception"]).filter goodWord ++ (vx_atS RX3 148 "java/lang/IndexOutOfBoundsException" ["java/lang/RuntimeException", "java/lang/Exception"]).filter goodWord ++ (xn_atS RX3 198 "java/util/NoSuchElementException" ["java/lang/RuntimeException", "java/lang/Exception"]).filter goodWord)
def wsX3_allowed : List Cond := .code yX3_allowed cX3_allowed 4 (some .int) :: ([])
def wsX3_clause : List Cond := .code yX3_clause cX3_clause 3 (some .int) :: ([.classLink RX3 75 "java/lang/IllegalStateException", .initialized "java/lang/IllegalStateException", .fieldLink RX3 84 "HiddenFacts" "clauses" "I", .fieldLink RX3 89 "HiddenFacts" "startBelief" "I", .methodLink RX3 45 yX3_needBits, .static yX3_needBits, .initialized RX3, .code yX3_needBits cX3_needBits 2 none, .classLink RX3 49 "java/lang/IllegalArgumentException", .initialized "java/lang/IllegalArgumentException", .methodLink RX3 92 yX3_allowed, .static yX3_allowed, .code yX3_allowed cX3_allowed 4 (some .int)] ++ wsX30 ++ (vx_atS RX3 79 "java/lang/IllegalStateException" ["java/lang/RuntimeException", "java/lang/Exception"]).filter goodWord ++ (vx_atS RX3 53 "java/lang/IllegalArgumentException" ["java/lang/RuntimeException", "java/lang/Exception"]).filter goodWord)
def wsJ6_bitCount_0f7a4 : List Cond := .code yJ6_bitCount_0f7a4 cJ6_bitCount_0f7a4 1 (some .int) :: ([.constant RJ6 265 (1431655765), .constant RJ6 266 (858993459), .constant RJ6 267 (252645135)])
def wsX3_goal : List Cond := .code yX3_goal cX3_goal 3 (some .int) :: ([.fieldLink RX3 95 "HiddenFacts" "goalStates" "I", .methodLink RX3 45 yX3_needBits, .static yX3_needBits, .initialized RX3, .code yX3_needBits cX3_needBits 2 none, .classLink RX3 49 "java/lang/IllegalArgumentException", .initialized "java/lang/IllegalArgumentException", .methodLink RX3 56 yX3_demanded, .static yX3_demanded, .code yX3_demanded cX3_demanded 4 (some .int), .methodLink RX3 98 yJ6_bitCount_0f7a4, .static yJ6_bitCount_0f7a4, .initialized RJ6, .code yJ6_bitCount_0f7a4 cJ6_bitCount_0f7a4 1 (some .int), .constant RJ6 265 (1431655765), .constant RJ6 266 (858993459), .constant RJ6 267 (252645135)] ++ wsX30 ++ (vx_atS RX3 53 "java/lang/IllegalArgumentException" ["java/lang/RuntimeException", "java/lang/Exception"]).filter goodWord)
def wsX3_start : List Cond := .code yX3_start cX3_start 1 (some .int) :: ([.fieldLink RX3 89 "HiddenFacts" "startBelief" "I"] ++ wsX30)
def wsX3_behind_r1 : List Cond := [Cond.classLink RX3 49 "java/lang/IllegalArgumentException", Cond.initialized "java/lang/IllegalArgumentException", Cond.classLink RX3 111 "java/lang/UnsupportedOperationException", Cond.initialized "java/lang/UnsupportedOperationException", Cond.constant RX3 104 (65535), Cond.fieldLink RX3 11 "HiddenFacts" "actions" "[LHiddenFacts$Action;", Cond.methodLink RX3 41 yX3_needNumber, Cond.static yX3_needNumber, Cond.initialized RX3, Cond.code yX3_needNumber cX3_needNumber 1 none, Cond.classLink RX3 144 "java/lang/IndexOutOfBoundsException", Cond.initialized "java/lang/IndexOutOfBoundsException", Cond.methodLink RX3 66 yX3_needThere, Cond.instanceMethod yX3_needThere, Cond.selects RX3 yX3_needThere yX3_needThere, Cond.code yX3_needThere cX3_needThere 2 none, Cond.classLink RX3 194 "java/util/NoSuchElementException", Cond.initialized "java/util/NoSuchElementException", Cond.methodLink RX3 107 yX0_usable, Cond.instanceMethod yX0_usable, Cond.selects RX0 yX0_usable yX0_usable, Cond.initialized RX0, Cond.code yX0_usable cX0_usable 2 (some .boolean), Cond.fieldLink RX0 15 "HiddenFacts$Action" "there" "Z"]
def wsX3_behind_r2 : List Cond := [Cond.fieldLink RX0 19 "HiddenFacts$Action" "condition" "I", Cond.methodLink RX3 116 yX0_after, Cond.instanceMethod yX0_after, Cond.selects RX0 yX0_after yX0_after, Cond.code yX0_after cX0_after 4 (some .int), Cond.fieldLink RX0 9 "HiddenFacts$Action" "next" "[I", Cond.static yX3_isIn, Cond.code yX3_isIn cX3_isIn 2 (some .boolean)]
def wsX3_behind : List Cond := .code yX3_behind cX3_behind 3 (some .int) :: ((wsX3_behind_r1 ++ wsX3_behind_r2) ++ wsX30 ++ wsX00 ++ (vx_atS RX3 53 "java/lang/IllegalArgumentException" ["java/lang/RuntimeException", "java/lang/Exception"]).filter goodWord ++ (vx_atS RX3 115 "java/lang/UnsupportedOperationException" ["java/lang/RuntimeException", "java/lang/Exception"]).filter goodWord ++ (vx_atS RX3 148 "java/lang/IndexOutOfBoundsException" ["java/lang/RuntimeException", "java/lang/Exception"]).filter goodWord ++ (xn_atS RX3 198 "java/util/NoSuchElementException" ["java/lang/RuntimeException", "java/lang/Exception"]).filter goodWord)
def wsX3_needDepth : List Cond := .code yX3_needDepth cX3_needDepth 1 none :: ([.classLink RX3 49 "java/lang/IllegalArgumentException", .initialized "java/lang/IllegalArgumentException"] ++ (vx_atS RX3 53 "java/lang/IllegalArgumentException" ["java/lang/RuntimeException", "java/lang/Exception"]).filter goodWord)
def wsX3_reached : List Cond := .code yX3_reached cX3_reached 2 (some .boolean) :: ([.fieldLink RX3 95 "HiddenFacts" "goalStates" "I"] ++ wsX30)
def wsX3_leastAction_r1 : List Cond := [Cond.fieldLink RX3 11 "HiddenFacts" "actions" "[LHiddenFacts$Action;", Cond.methodLink RX3 107 yX0_usable, Cond.instanceMethod yX0_usable, Cond.selects RX0 yX0_usable yX0_usable, Cond.initialized RX0, Cond.code yX0_usable cX0_usable 2 (some .boolean), Cond.fieldLink RX0 15 "HiddenFacts$Action" "there" "Z", Cond.fieldLink RX0 19 "HiddenFacts$Action" "condition" "I", Cond.methodLink RX3 222 yX3_solves, Cond.instanceMethod yX3_solves, Cond.selects RX3 yX3_solves yX3_solves, Cond.initialized RX3, Cond.code yX3_solved cX3_solved 3 (some .boolean), Cond.methodLink RX3 216 yX3_reached, Cond.instanceMethod yX3_reached, Cond.selects RX3 yX3_reached yX3_reached, Cond.code yX3_reached cX3_reached 2 (some .boolean), Cond.fieldLink RX3 95 "HiddenFacts" "goalStates" "I", Cond.methodLink RX3 219 yX3_leastAction, Cond.instanceMethod yX3_leastAction, Cond.selects RX3 yX3_leastAction yX3_leastAction, Cond.code yX3_solves cX3_solves 5 (some .boolean), Cond.methodLink RX3 116 yX0_after, Cond.instanceMethod yX0_after]
def wsX3_leastAction_r2 : List Cond := [Cond.selects RX0 yX0_after yX0_after, Cond.code yX0_after cX0_after 4 (some .int), Cond.fieldLink RX0 9 "HiddenFacts$Action" "next" "[I", Cond.static yX3_isIn, Cond.code yX3_isIn cX3_isIn 2 (some .boolean), Cond.methodLink RX3 226 yX0_part, Cond.instanceMethod yX0_part, Cond.selects RX0 yX0_part yX0_part, Cond.code yX0_part cX0_part 3 (some .int), Cond.fieldLink RX0 23 "HiddenFacts$Action" "senses" "I", Cond.methodLink RX3 213 yX3_solved, Cond.instanceMethod yX3_solved, Cond.selects RX3 yX3_solved yX3_solved]
def wsX3_leastAction : List Cond := .code yX3_leastAction cX3_leastAction 4 (some .int) :: ((wsX3_leastAction_r1 ++ wsX3_leastAction_r2) ++ wsX30 ++ wsX00)
def wsX3_solved_r1 : List Cond := [Cond.methodLink RX3 216 yX3_reached, Cond.instanceMethod yX3_reached, Cond.selects RX3 yX3_reached yX3_reached, Cond.initialized RX3, Cond.code yX3_reached cX3_reached 2 (some .boolean), Cond.fieldLink RX3 95 "HiddenFacts" "goalStates" "I", Cond.methodLink RX3 219 yX3_leastAction, Cond.instanceMethod yX3_leastAction, Cond.selects RX3 yX3_leastAction yX3_leastAction, Cond.code yX3_leastAction cX3_leastAction 4 (some .int), Cond.fieldLink RX3 11 "HiddenFacts" "actions" "[LHiddenFacts$Action;", Cond.methodLink RX3 107 yX0_usable, Cond.instanceMethod yX0_usable, Cond.selects RX0 yX0_usable yX0_usable, Cond.initialized RX0, Cond.code yX0_usable cX0_usable 2 (some .boolean), Cond.fieldLink RX0 15 "HiddenFacts$Action" "there" "Z", Cond.fieldLink RX0 19 "HiddenFacts$Action" "condition" "I", Cond.methodLink RX3 222 yX3_solves, Cond.instanceMethod yX3_solves, Cond.selects RX3 yX3_solves yX3_solves, Cond.code yX3_solves cX3_solves 5 (some .boolean), Cond.methodLink RX3 116 yX0_after, Cond.instanceMethod yX0_after]
def wsX3_solved_r2 : List Cond := [Cond.selects RX0 yX0_after yX0_after, Cond.code yX0_after cX0_after 4 (some .int), Cond.fieldLink RX0 9 "HiddenFacts$Action" "next" "[I", Cond.static yX3_isIn, Cond.code yX3_isIn cX3_isIn 2 (some .boolean), Cond.methodLink RX3 226 yX0_part, Cond.instanceMethod yX0_part, Cond.selects RX0 yX0_part yX0_part, Cond.code yX0_part cX0_part 3 (some .int), Cond.fieldLink RX0 23 "HiddenFacts$Action" "senses" "I", Cond.methodLink RX3 213 yX3_solved, Cond.instanceMethod yX3_solved, Cond.selects RX3 yX3_solved yX3_solved]
def wsX3_solved : List Cond := .code yX3_solved cX3_solved 3 (some .boolean) :: ((wsX3_solved_r1 ++ wsX3_solved_r2) ++ wsX30 ++ wsX00)
def wsX3_solves_r1 : List Cond := [Cond.methodLink RX3 116 yX0_after, Cond.instanceMethod yX0_after, Cond.selects RX0 yX0_after yX0_after, Cond.initialized RX0, Cond.code yX0_after cX0_after 4 (some .int), Cond.fieldLink RX0 9 "HiddenFacts$Action" "next" "[I", Cond.static yX3_isIn, Cond.initialized RX3, Cond.code yX3_isIn cX3_isIn 2 (some .boolean), Cond.methodLink RX3 226 yX0_part, Cond.instanceMethod yX0_part, Cond.selects RX0 yX0_part yX0_part, Cond.code yX0_part cX0_part 3 (some .int), Cond.fieldLink RX0 23 "HiddenFacts$Action" "senses" "I", Cond.methodLink RX3 213 yX3_solved, Cond.instanceMethod yX3_solved, Cond.selects RX3 yX3_solved yX3_solved, Cond.code yX3_leastAction cX3_leastAction 4 (some .int), Cond.fieldLink RX3 11 "HiddenFacts" "actions" "[LHiddenFacts$Action;", Cond.methodLink RX3 107 yX0_usable, Cond.instanceMethod yX0_usable, Cond.selects RX0 yX0_usable yX0_usable, Cond.code yX0_usable cX0_usable 2 (some .boolean), Cond.fieldLink RX0 15 "HiddenFacts$Action" "there" "Z"]
def wsX3_solves_r2 : List Cond := [Cond.fieldLink RX0 19 "HiddenFacts$Action" "condition" "I", Cond.methodLink RX3 222 yX3_solves, Cond.instanceMethod yX3_solves, Cond.selects RX3 yX3_solves yX3_solves, Cond.code yX3_solved cX3_solved 3 (some .boolean), Cond.methodLink RX3 216 yX3_reached, Cond.instanceMethod yX3_reached, Cond.selects RX3 yX3_reached yX3_reached, Cond.code yX3_reached cX3_reached 2 (some .boolean), Cond.fieldLink RX3 95 "HiddenFacts" "goalStates" "I", Cond.methodLink RX3 219 yX3_leastAction, Cond.instanceMethod yX3_leastAction, Cond.selects RX3 yX3_leastAction yX3_leastAction]
def wsX3_solves : List Cond := .code yX3_solves cX3_solves 5 (some .boolean) :: ((wsX3_solves_r1 ++ wsX3_solves_r2) ++ wsX30 ++ wsX00)
def wsX3_fewest_r1 : List Cond := [Cond.methodLink RX3 213 yX3_solved, Cond.instanceMethod yX3_solved, Cond.selects RX3 yX3_solved yX3_solved, Cond.initialized RX3, Cond.code yX3_solved cX3_solved 3 (some .boolean), Cond.methodLink RX3 216 yX3_reached, Cond.instanceMethod yX3_reached, Cond.selects RX3 yX3_reached yX3_reached, Cond.code yX3_reached cX3_reached 2 (some .boolean), Cond.fieldLink RX3 95 "HiddenFacts" "goalStates" "I", Cond.methodLink RX3 219 yX3_leastAction, Cond.instanceMethod yX3_leastAction, Cond.selects RX3 yX3_leastAction yX3_leastAction, Cond.code yX3_leastAction cX3_leastAction 4 (some .int), Cond.fieldLink RX3 11 "HiddenFacts" "actions" "[LHiddenFacts$Action;", Cond.methodLink RX3 107 yX0_usable, Cond.instanceMethod yX0_usable, Cond.selects RX0 yX0_usable yX0_usable, Cond.initialized RX0, Cond.code yX0_usable cX0_usable 2 (some .boolean), Cond.fieldLink RX0 15 "HiddenFacts$Action" "there" "Z", Cond.fieldLink RX0 19 "HiddenFacts$Action" "condition" "I", Cond.methodLink RX3 222 yX3_solves, Cond.instanceMethod yX3_solves]
def wsX3_fewest_r2 : List Cond := [Cond.selects RX3 yX3_solves yX3_solves, Cond.code yX3_solves cX3_solves 5 (some .boolean), Cond.methodLink RX3 116 yX0_after, Cond.instanceMethod yX0_after, Cond.selects RX0 yX0_after yX0_after, Cond.code yX0_after cX0_after 4 (some .int), Cond.fieldLink RX0 9 "HiddenFacts$Action" "next" "[I", Cond.static yX3_isIn, Cond.code yX3_isIn cX3_isIn 2 (some .boolean), Cond.methodLink RX3 226 yX0_part, Cond.instanceMethod yX0_part, Cond.selects RX0 yX0_part yX0_part, Cond.code yX0_part cX0_part 3 (some .int), Cond.fieldLink RX0 23 "HiddenFacts$Action" "senses" "I"]
def wsX3_fewest : List Cond := .code yX3_fewest cX3_fewest 4 (some .int) :: ((wsX3_fewest_r1 ++ wsX3_fewest_r2) ++ wsX30 ++ wsX00)
def wsX3_needSolved : List Cond := .code yX3_needSolved cX3_needSolved 1 (some .int) :: ([.classLink RX3 194 "java/util/NoSuchElementException", .initialized "java/util/NoSuchElementException"] ++ (xn_atS RX3 198 "java/util/NoSuchElementException" ["java/lang/RuntimeException", "java/lang/Exception"]).filter goodWord)
def wsX3_least_r1 : List Cond := [Cond.classLink RX3 49 "java/lang/IllegalArgumentException", Cond.initialized "java/lang/IllegalArgumentException", Cond.constant RX3 104 (65535), Cond.methodLink RX3 121 yX3_needDepth, Cond.static yX3_needDepth, Cond.initialized RX3, Cond.code yX3_needDepth cX3_needDepth 1 none, Cond.methodLink RX3 124 yX3_fewest, Cond.instanceMethod yX3_fewest, Cond.selects RX3 yX3_fewest yX3_fewest, Cond.code yX3_fewest cX3_fewest 4 (some .int), Cond.methodLink RX3 213 yX3_solved, Cond.instanceMethod yX3_solved, Cond.selects RX3 yX3_solved yX3_solved, Cond.code yX3_solved cX3_solved 3 (some .boolean), Cond.methodLink RX3 216 yX3_reached, Cond.instanceMethod yX3_reached, Cond.selects RX3 yX3_reached yX3_reached, Cond.code yX3_reached cX3_reached 2 (some .boolean), Cond.fieldLink RX3 95 "HiddenFacts" "goalStates" "I", Cond.methodLink RX3 219 yX3_leastAction, Cond.instanceMethod yX3_leastAction, Cond.selects RX3 yX3_leastAction yX3_leastAction, Cond.code yX3_leastAction cX3_leastAction 4 (some .int)]
def wsX3_least_r2 : List Cond := [Cond.fieldLink RX3 11 "HiddenFacts" "actions" "[LHiddenFacts$Action;", Cond.methodLink RX3 107 yX0_usable, Cond.instanceMethod yX0_usable, Cond.selects RX0 yX0_usable yX0_usable, Cond.initialized RX0, Cond.code yX0_usable cX0_usable 2 (some .boolean), Cond.fieldLink RX0 15 "HiddenFacts$Action" "there" "Z", Cond.fieldLink RX0 19 "HiddenFacts$Action" "condition" "I", Cond.methodLink RX3 222 yX3_solves, Cond.instanceMethod yX3_solves, Cond.selects RX3 yX3_solves yX3_solves, Cond.code yX3_solves cX3_solves 5 (some .boolean), Cond.methodLink RX3 116 yX0_after, Cond.instanceMethod yX0_after, Cond.selects RX0 yX0_after yX0_after, Cond.code yX0_after cX0_after 4 (some .int), Cond.fieldLink RX0 9 "HiddenFacts$Action" "next" "[I", Cond.static yX3_isIn, Cond.code yX3_isIn cX3_isIn 2 (some .boolean), Cond.methodLink RX3 226 yX0_part, Cond.instanceMethod yX0_part, Cond.selects RX0 yX0_part yX0_part, Cond.code yX0_part cX0_part 3 (some .int), Cond.fieldLink RX0 23 "HiddenFacts$Action" "senses" "I"]
def wsX3_least_r3 : List Cond := [Cond.methodLink RX3 127 yX3_needSolved, Cond.static yX3_needSolved, Cond.code yX3_needSolved cX3_needSolved 1 (some .int), Cond.classLink RX3 194 "java/util/NoSuchElementException", Cond.initialized "java/util/NoSuchElementException"]
def wsX3_least : List Cond := .code yX3_least cX3_least 3 (some .int) :: ((wsX3_least_r1 ++ (wsX3_least_r2 ++ wsX3_least_r3)) ++ wsX30 ++ wsX00 ++ (vx_atS RX3 53 "java/lang/IllegalArgumentException" ["java/lang/RuntimeException", "java/lang/Exception"]).filter goodWord ++ (xn_atS RX3 198 "java/util/NoSuchElementException" ["java/lang/RuntimeException", "java/lang/Exception"]).filter goodWord)
def wsX3_grow_r1 : List Cond := [Cond.fieldLink RX3 18 "HiddenFacts" "tree" "LHiddenFacts$Tree;", Cond.fieldLink RX3 11 "HiddenFacts" "actions" "[LHiddenFacts$Action;", Cond.methodLink RX3 229 yX2_open, Cond.instanceMethod yX2_open, Cond.selects RX2 yX2_open yX2_open, Cond.initialized RX2, Cond.code yX2_open cX2_open 1 (some .int), Cond.fieldLink RX2 13 "HiddenFacts$Tree" "count" "I", Cond.methodLink RX2 17 yX2_setAction, Cond.instanceMethod yX2_setAction, Cond.selects RX2 yX2_setAction yX2_setAction, Cond.code yX2_setAction cX2_setAction 3 none, Cond.fieldLink RX2 9 "HiddenFacts$Tree" "cells" "[I", Cond.methodLink RX3 216 yX3_reached, Cond.instanceMethod yX3_reached, Cond.selects RX3 yX3_reached yX3_reached, Cond.initialized RX3, Cond.code yX3_reached cX3_reached 2 (some .boolean), Cond.fieldLink RX3 95 "HiddenFacts" "goalStates" "I", Cond.methodLink RX3 219 yX3_leastAction, Cond.instanceMethod yX3_leastAction, Cond.selects RX3 yX3_leastAction yX3_leastAction, Cond.code yX3_leastAction cX3_leastAction 4 (some .int), Cond.methodLink RX3 107 yX0_usable]
def wsX3_grow_r2 : List Cond := [Cond.instanceMethod yX0_usable, Cond.selects RX0 yX0_usable yX0_usable, Cond.initialized RX0, Cond.code yX0_usable cX0_usable 2 (some .boolean), Cond.fieldLink RX0 15 "HiddenFacts$Action" "there" "Z", Cond.fieldLink RX0 19 "HiddenFacts$Action" "condition" "I", Cond.methodLink RX3 222 yX3_solves, Cond.instanceMethod yX3_solves, Cond.selects RX3 yX3_solves yX3_solves, Cond.code yX3_solved cX3_solved 3 (some .boolean), Cond.code yX3_solves cX3_solves 5 (some .boolean), Cond.methodLink RX3 116 yX0_after, Cond.instanceMethod yX0_after, Cond.selects RX0 yX0_after yX0_after, Cond.code yX0_after cX0_after 4 (some .int), Cond.fieldLink RX0 9 "HiddenFacts$Action" "next" "[I", Cond.static yX3_isIn, Cond.code yX3_isIn cX3_isIn 2 (some .boolean), Cond.methodLink RX3 226 yX0_part, Cond.instanceMethod yX0_part, Cond.selects RX0 yX0_part yX0_part, Cond.code yX0_part cX0_part 3 (some .int), Cond.fieldLink RX0 23 "HiddenFacts$Action" "senses" "I", Cond.methodLink RX3 213 yX3_solved]
def wsX3_grow_r3 : List Cond := [Cond.instanceMethod yX3_solved, Cond.selects RX3 yX3_solved yX3_solved, Cond.methodLink RX3 231 yX2_close, Cond.instanceMethod yX2_close, Cond.selects RX2 yX2_close yX2_close, Cond.code yX2_close cX2_close 6 (some .int), Cond.methodLink RX2 21 yX2_cell, Cond.instanceMethod yX2_cell, Cond.selects RX2 yX2_cell yX2_cell, Cond.code yX2_cell cX2_cell 3 (some .int), Cond.methodLink RX3 235 yX3_growPart, Cond.instanceMethod yX3_growPart, Cond.selects RX3 yX3_growPart yX3_growPart, Cond.code yX3_growPart cX3_growPart 3 (some .int), Cond.methodLink RX3 135 yX3_grow, Cond.instanceMethod yX3_grow, Cond.selects RX3 yX3_grow yX3_grow]
def wsX3_grow : List Cond := .code yX3_grow cX3_grow 8 (some .int) :: ((wsX3_grow_r1 ++ (wsX3_grow_r2 ++ wsX3_grow_r3)) ++ wsX30 ++ wsX20 ++ wsX00)
def wsX3_growPart_r1 : List Cond := [Cond.methodLink RX3 135 yX3_grow, Cond.instanceMethod yX3_grow, Cond.selects RX3 yX3_grow yX3_grow, Cond.initialized RX3, Cond.code yX3_grow cX3_grow 8 (some .int), Cond.fieldLink RX3 18 "HiddenFacts" "tree" "LHiddenFacts$Tree;", Cond.fieldLink RX3 11 "HiddenFacts" "actions" "[LHiddenFacts$Action;", Cond.methodLink RX3 229 yX2_open, Cond.instanceMethod yX2_open, Cond.selects RX2 yX2_open yX2_open, Cond.initialized RX2, Cond.code yX2_open cX2_open 1 (some .int), Cond.fieldLink RX2 13 "HiddenFacts$Tree" "count" "I", Cond.methodLink RX2 17 yX2_setAction, Cond.instanceMethod yX2_setAction, Cond.selects RX2 yX2_setAction yX2_setAction, Cond.code yX2_setAction cX2_setAction 3 none, Cond.fieldLink RX2 9 "HiddenFacts$Tree" "cells" "[I", Cond.methodLink RX3 216 yX3_reached, Cond.instanceMethod yX3_reached, Cond.selects RX3 yX3_reached yX3_reached, Cond.code yX3_reached cX3_reached 2 (some .boolean), Cond.fieldLink RX3 95 "HiddenFacts" "goalStates" "I", Cond.methodLink RX3 219 yX3_leastAction]
def wsX3_growPart_r2 : List Cond := [Cond.instanceMethod yX3_leastAction, Cond.selects RX3 yX3_leastAction yX3_leastAction, Cond.code yX3_leastAction cX3_leastAction 4 (some .int), Cond.methodLink RX3 107 yX0_usable, Cond.instanceMethod yX0_usable, Cond.selects RX0 yX0_usable yX0_usable, Cond.initialized RX0, Cond.code yX0_usable cX0_usable 2 (some .boolean), Cond.fieldLink RX0 15 "HiddenFacts$Action" "there" "Z", Cond.fieldLink RX0 19 "HiddenFacts$Action" "condition" "I", Cond.methodLink RX3 222 yX3_solves, Cond.instanceMethod yX3_solves, Cond.selects RX3 yX3_solves yX3_solves, Cond.code yX3_solved cX3_solved 3 (some .boolean), Cond.code yX3_solves cX3_solves 5 (some .boolean), Cond.methodLink RX3 116 yX0_after, Cond.instanceMethod yX0_after, Cond.selects RX0 yX0_after yX0_after, Cond.code yX0_after cX0_after 4 (some .int), Cond.fieldLink RX0 9 "HiddenFacts$Action" "next" "[I", Cond.static yX3_isIn, Cond.code yX3_isIn cX3_isIn 2 (some .boolean), Cond.methodLink RX3 226 yX0_part, Cond.instanceMethod yX0_part]
def wsX3_growPart_r3 : List Cond := [Cond.selects RX0 yX0_part yX0_part, Cond.code yX0_part cX0_part 3 (some .int), Cond.fieldLink RX0 23 "HiddenFacts$Action" "senses" "I", Cond.methodLink RX3 213 yX3_solved, Cond.instanceMethod yX3_solved, Cond.selects RX3 yX3_solved yX3_solved, Cond.methodLink RX3 231 yX2_close, Cond.instanceMethod yX2_close, Cond.selects RX2 yX2_close yX2_close, Cond.code yX2_close cX2_close 6 (some .int), Cond.methodLink RX2 21 yX2_cell, Cond.instanceMethod yX2_cell, Cond.selects RX2 yX2_cell yX2_cell, Cond.code yX2_cell cX2_cell 3 (some .int), Cond.methodLink RX3 235 yX3_growPart, Cond.instanceMethod yX3_growPart, Cond.selects RX3 yX3_growPart yX3_growPart]
def wsX3_growPart : List Cond := .code yX3_growPart cX3_growPart 3 (some .int) :: ((wsX3_growPart_r1 ++ (wsX3_growPart_r2 ++ wsX3_growPart_r3)) ++ wsX30 ++ wsX20 ++ wsX00)
def wsX3_plan_r1 : List Cond := [Cond.classLink RX3 75 "java/lang/IllegalStateException", Cond.initialized "java/lang/IllegalStateException", Cond.fieldLink RX3 89 "HiddenFacts" "startBelief" "I", Cond.fieldLink RX3 18 "HiddenFacts" "tree" "LHiddenFacts$Tree;", Cond.methodLink RX3 121 yX3_needDepth, Cond.static yX3_needDepth, Cond.initialized RX3, Cond.code yX3_needDepth cX3_needDepth 1 none, Cond.classLink RX3 49 "java/lang/IllegalArgumentException", Cond.initialized "java/lang/IllegalArgumentException", Cond.methodLink RX3 124 yX3_fewest, Cond.instanceMethod yX3_fewest, Cond.selects RX3 yX3_fewest yX3_fewest, Cond.code yX3_fewest cX3_fewest 4 (some .int), Cond.methodLink RX3 213 yX3_solved, Cond.instanceMethod yX3_solved, Cond.selects RX3 yX3_solved yX3_solved, Cond.code yX3_solved cX3_solved 3 (some .boolean), Cond.methodLink RX3 216 yX3_reached, Cond.instanceMethod yX3_reached, Cond.selects RX3 yX3_reached yX3_reached, Cond.code yX3_reached cX3_reached 2 (some .boolean), Cond.fieldLink RX3 95 "HiddenFacts" "goalStates" "I", Cond.methodLink RX3 219 yX3_leastAction]
def wsX3_plan_r2 : List Cond := [Cond.instanceMethod yX3_leastAction, Cond.selects RX3 yX3_leastAction yX3_leastAction, Cond.code yX3_leastAction cX3_leastAction 4 (some .int), Cond.fieldLink RX3 11 "HiddenFacts" "actions" "[LHiddenFacts$Action;", Cond.methodLink RX3 107 yX0_usable, Cond.instanceMethod yX0_usable, Cond.selects RX0 yX0_usable yX0_usable, Cond.initialized RX0, Cond.code yX0_usable cX0_usable 2 (some .boolean), Cond.fieldLink RX0 15 "HiddenFacts$Action" "there" "Z", Cond.fieldLink RX0 19 "HiddenFacts$Action" "condition" "I", Cond.methodLink RX3 222 yX3_solves, Cond.instanceMethod yX3_solves, Cond.selects RX3 yX3_solves yX3_solves, Cond.code yX3_solves cX3_solves 5 (some .boolean), Cond.methodLink RX3 116 yX0_after, Cond.instanceMethod yX0_after, Cond.selects RX0 yX0_after yX0_after, Cond.code yX0_after cX0_after 4 (some .int), Cond.fieldLink RX0 9 "HiddenFacts$Action" "next" "[I", Cond.static yX3_isIn, Cond.code yX3_isIn cX3_isIn 2 (some .boolean), Cond.methodLink RX3 226 yX0_part, Cond.instanceMethod yX0_part]
def wsX3_plan_r3 : List Cond := [Cond.selects RX0 yX0_part yX0_part, Cond.code yX0_part cX0_part 3 (some .int), Cond.fieldLink RX0 23 "HiddenFacts$Action" "senses" "I", Cond.methodLink RX3 127 yX3_needSolved, Cond.static yX3_needSolved, Cond.code yX3_needSolved cX3_needSolved 1 (some .int), Cond.classLink RX3 194 "java/util/NoSuchElementException", Cond.initialized "java/util/NoSuchElementException", Cond.methodLink RX3 132 yX2_empty, Cond.instanceMethod yX2_empty, Cond.selects RX2 yX2_empty yX2_empty, Cond.initialized RX2, Cond.code yX2_empty cX2_empty 1 none, Cond.fieldLink RX2 13 "HiddenFacts$Tree" "count" "I", Cond.methodLink RX3 135 yX3_grow, Cond.instanceMethod yX3_grow, Cond.selects RX3 yX3_grow yX3_grow, Cond.code yX3_grow cX3_grow 8 (some .int), Cond.methodLink RX3 229 yX2_open, Cond.instanceMethod yX2_open, Cond.selects RX2 yX2_open yX2_open, Cond.code yX2_open cX2_open 1 (some .int), Cond.methodLink RX2 17 yX2_setAction, Cond.instanceMethod yX2_setAction]
def wsX3_plan_r4 : List Cond := [Cond.selects RX2 yX2_setAction yX2_setAction, Cond.code yX2_setAction cX2_setAction 3 none, Cond.fieldLink RX2 9 "HiddenFacts$Tree" "cells" "[I", Cond.methodLink RX3 231 yX2_close, Cond.instanceMethod yX2_close, Cond.selects RX2 yX2_close yX2_close, Cond.code yX2_close cX2_close 6 (some .int), Cond.methodLink RX2 21 yX2_cell, Cond.instanceMethod yX2_cell, Cond.selects RX2 yX2_cell yX2_cell, Cond.code yX2_cell cX2_cell 3 (some .int), Cond.methodLink RX3 235 yX3_growPart, Cond.instanceMethod yX3_growPart, Cond.selects RX3 yX3_growPart yX3_growPart, Cond.code yX3_growPart cX3_growPart 3 (some .int)]
def wsX3_plan : List Cond := .code yX3_plan cX3_plan 3 (some .int) :: ((wsX3_plan_r1 ++ (wsX3_plan_r2 ++ (wsX3_plan_r3 ++ wsX3_plan_r4))) ++ wsX30 ++ wsX00 ++ wsX20 ++ (vx_atS RX3 79 "java/lang/IllegalStateException" ["java/lang/RuntimeException", "java/lang/Exception"]).filter goodWord ++ (vx_atS RX3 53 "java/lang/IllegalArgumentException" ["java/lang/RuntimeException", "java/lang/Exception"]).filter goodWord ++ (xn_atS RX3 198 "java/util/NoSuchElementException" ["java/lang/RuntimeException", "java/lang/Exception"]).filter goodWord)
def wsX3_nodes : List Cond := .code yX3_nodes cX3_nodes 1 (some .int) :: ([.fieldLink RX3 18 "HiddenFacts" "tree" "LHiddenFacts$Tree;"] ++ wsX30 ++ wsX20)
def wsX3_needNode : List Cond := .code yX3_needNode cX3_needNode 2 none :: ([.classLink RX3 144 "java/lang/IndexOutOfBoundsException", .initialized "java/lang/IndexOutOfBoundsException", .fieldLink RX3 18 "HiddenFacts" "tree" "LHiddenFacts$Tree;"] ++ wsX30 ++ wsX20 ++ (vx_atS RX3 148 "java/lang/IndexOutOfBoundsException" ["java/lang/RuntimeException", "java/lang/Exception"]).filter goodWord)
def wsX3_node : List Cond := .code yX3_node cX3_node 3 (some .int) :: ([.classLink RX3 144 "java/lang/IndexOutOfBoundsException", .initialized "java/lang/IndexOutOfBoundsException", .fieldLink RX3 18 "HiddenFacts" "tree" "LHiddenFacts$Tree;", .methodLink RX3 141 yX3_needNode, .instanceMethod yX3_needNode, .selects RX3 yX3_needNode yX3_needNode, .initialized RX3, .code yX3_needNode cX3_needNode 2 none, .methodLink RX3 149 yX2_cell, .instanceMethod yX2_cell, .selects RX2 yX2_cell yX2_cell, .initialized RX2, .code yX2_cell cX2_cell 3 (some .int), .fieldLink RX2 9 "HiddenFacts$Tree" "cells" "[I"] ++ wsX30 ++ wsX20 ++ (vx_atS RX3 148 "java/lang/IndexOutOfBoundsException" ["java/lang/RuntimeException", "java/lang/Exception"]).filter goodWord)
def wsX3_edit_r1 : List Cond := [Cond.classLink RX3 111 "java/lang/UnsupportedOperationException", Cond.initialized "java/lang/UnsupportedOperationException", Cond.fieldLink RX3 18 "HiddenFacts" "tree" "LHiddenFacts$Tree;", Cond.methodLink RX3 141 yX3_needNode, Cond.instanceMethod yX3_needNode, Cond.selects RX3 yX3_needNode yX3_needNode, Cond.initialized RX3, Cond.code yX3_needNode cX3_needNode 2 none, Cond.classLink RX3 144 "java/lang/IndexOutOfBoundsException", Cond.initialized "java/lang/IndexOutOfBoundsException", Cond.methodLink RX3 41 yX3_needNumber, Cond.static yX3_needNumber, Cond.code yX3_needNumber cX3_needNumber 1 none, Cond.methodLink RX3 66 yX3_needThere, Cond.instanceMethod yX3_needThere, Cond.selects RX3 yX3_needThere yX3_needThere, Cond.code yX3_needThere cX3_needThere 2 none, Cond.classLink RX3 194 "java/util/NoSuchElementException", Cond.initialized "java/util/NoSuchElementException", Cond.fieldLink RX3 11 "HiddenFacts" "actions" "[LHiddenFacts$Action;", Cond.methodLink RX3 149 yX2_cell, Cond.instanceMethod yX2_cell, Cond.selects RX2 yX2_cell yX2_cell, Cond.initialized RX2]
def wsX3_edit_r2 : List Cond := [Cond.code yX2_cell cX2_cell 3 (some .int), Cond.fieldLink RX2 9 "HiddenFacts$Tree" "cells" "[I", Cond.methodLink RX3 154 yX2_setAction, Cond.instanceMethod yX2_setAction, Cond.selects RX2 yX2_setAction yX2_setAction, Cond.code yX2_setAction cX2_setAction 3 none]
def wsX3_edit : List Cond := .code yX3_edit cX3_edit 4 (some .int) :: ((wsX3_edit_r1 ++ wsX3_edit_r2) ++ wsX30 ++ wsX20 ++ wsX00 ++ (vx_atS RX3 115 "java/lang/UnsupportedOperationException" ["java/lang/RuntimeException", "java/lang/Exception"]).filter goodWord ++ (vx_atS RX3 148 "java/lang/IndexOutOfBoundsException" ["java/lang/RuntimeException", "java/lang/Exception"]).filter goodWord ++ (xn_atS RX3 198 "java/util/NoSuchElementException" ["java/lang/RuntimeException", "java/lang/Exception"]).filter goodWord)
def wsX3_needPlan : List Cond := .code yX3_needPlan cX3_needPlan 1 none :: ([.classLink RX3 75 "java/lang/IllegalStateException", .initialized "java/lang/IllegalStateException", .fieldLink RX3 18 "HiddenFacts" "tree" "LHiddenFacts$Tree;"] ++ wsX30 ++ wsX20 ++ (vx_atS RX3 79 "java/lang/IllegalStateException" ["java/lang/RuntimeException", "java/lang/Exception"]).filter goodWord)
def wsX3_fits_r1 : List Cond := [Cond.fieldLink RX3 18 "HiddenFacts" "tree" "LHiddenFacts$Tree;", Cond.fieldLink RX3 11 "HiddenFacts" "actions" "[LHiddenFacts$Action;", Cond.methodLink RX3 149 yX2_cell, Cond.instanceMethod yX2_cell, Cond.selects RX2 yX2_cell yX2_cell, Cond.initialized RX2, Cond.code yX2_cell cX2_cell 3 (some .int), Cond.fieldLink RX2 9 "HiddenFacts$Tree" "cells" "[I", Cond.methodLink RX3 216 yX3_reached, Cond.instanceMethod yX3_reached, Cond.selects RX3 yX3_reached yX3_reached, Cond.initialized RX3, Cond.code yX3_reached cX3_reached 2 (some .boolean), Cond.fieldLink RX3 95 "HiddenFacts" "goalStates" "I", Cond.methodLink RX3 107 yX0_usable, Cond.instanceMethod yX0_usable, Cond.selects RX0 yX0_usable yX0_usable, Cond.initialized RX0, Cond.code yX0_usable cX0_usable 2 (some .boolean), Cond.fieldLink RX0 15 "HiddenFacts$Action" "there" "Z", Cond.fieldLink RX0 19 "HiddenFacts$Action" "condition" "I", Cond.methodLink RX3 116 yX0_after, Cond.instanceMethod yX0_after, Cond.selects RX0 yX0_after yX0_after]
def wsX3_fits_r2 : List Cond := [Cond.code yX0_after cX0_after 4 (some .int), Cond.fieldLink RX0 9 "HiddenFacts$Action" "next" "[I", Cond.static yX3_isIn, Cond.code yX3_isIn cX3_isIn 2 (some .boolean), Cond.methodLink RX3 226 yX0_part, Cond.instanceMethod yX0_part, Cond.selects RX0 yX0_part yX0_part, Cond.code yX0_part cX0_part 3 (some .int), Cond.fieldLink RX0 23 "HiddenFacts$Action" "senses" "I", Cond.methodLink RX3 160 yX3_fits, Cond.instanceMethod yX3_fits, Cond.selects RX3 yX3_fits yX3_fits]
def wsX3_fits : List Cond := .code yX3_fits cX3_fits 6 (some .boolean) :: ((wsX3_fits_r1 ++ wsX3_fits_r2) ++ wsX30 ++ wsX20 ++ wsX00)
def wsX3_right_r1 : List Cond := [Cond.fieldLink RX3 89 "HiddenFacts" "startBelief" "I", Cond.methodLink RX3 157 yX3_needPlan, Cond.instanceMethod yX3_needPlan, Cond.selects RX3 yX3_needPlan yX3_needPlan, Cond.initialized RX3, Cond.code yX3_needPlan cX3_needPlan 1 none, Cond.classLink RX3 75 "java/lang/IllegalStateException", Cond.initialized "java/lang/IllegalStateException", Cond.fieldLink RX3 18 "HiddenFacts" "tree" "LHiddenFacts$Tree;", Cond.methodLink RX3 160 yX3_fits, Cond.instanceMethod yX3_fits, Cond.selects RX3 yX3_fits yX3_fits, Cond.code yX3_fits cX3_fits 6 (some .boolean), Cond.fieldLink RX3 11 "HiddenFacts" "actions" "[LHiddenFacts$Action;", Cond.methodLink RX3 149 yX2_cell, Cond.instanceMethod yX2_cell, Cond.selects RX2 yX2_cell yX2_cell, Cond.initialized RX2, Cond.code yX2_cell cX2_cell 3 (some .int), Cond.fieldLink RX2 9 "HiddenFacts$Tree" "cells" "[I", Cond.methodLink RX3 216 yX3_reached, Cond.instanceMethod yX3_reached, Cond.selects RX3 yX3_reached yX3_reached, Cond.code yX3_reached cX3_reached 2 (some .boolean)]
def wsX3_right_r2 : List Cond := [Cond.fieldLink RX3 95 "HiddenFacts" "goalStates" "I", Cond.methodLink RX3 107 yX0_usable, Cond.instanceMethod yX0_usable, Cond.selects RX0 yX0_usable yX0_usable, Cond.initialized RX0, Cond.code yX0_usable cX0_usable 2 (some .boolean), Cond.fieldLink RX0 15 "HiddenFacts$Action" "there" "Z", Cond.fieldLink RX0 19 "HiddenFacts$Action" "condition" "I", Cond.methodLink RX3 116 yX0_after, Cond.instanceMethod yX0_after, Cond.selects RX0 yX0_after yX0_after, Cond.code yX0_after cX0_after 4 (some .int), Cond.fieldLink RX0 9 "HiddenFacts$Action" "next" "[I", Cond.static yX3_isIn, Cond.code yX3_isIn cX3_isIn 2 (some .boolean), Cond.methodLink RX3 226 yX0_part, Cond.instanceMethod yX0_part, Cond.selects RX0 yX0_part yX0_part, Cond.code yX0_part cX0_part 3 (some .int), Cond.fieldLink RX0 23 "HiddenFacts$Action" "senses" "I"]
def wsX3_right : List Cond := .code yX3_right cX3_right 1 (some .boolean) :: ((wsX3_right_r1 ++ wsX3_right_r2) ++ wsX30 ++ wsX20 ++ wsX00 ++ (vx_atS RX3 79 "java/lang/IllegalStateException" ["java/lang/RuntimeException", "java/lang/Exception"]).filter goodWord)
def wsX3_hide : List Cond := .code yX3_hide cX3_hide 2 (some .boolean) :: ([.classLink RX3 49 "java/lang/IllegalArgumentException", .initialized "java/lang/IllegalArgumentException", .fieldLink RX3 166 "HiddenFacts" "hidden" "I", .fieldLink RX3 89 "HiddenFacts" "startBelief" "I", .methodLink RX3 169 yX3_isIn, .static yX3_isIn, .initialized RX3, .code yX3_isIn cX3_isIn 2 (some .boolean)] ++ wsX30 ++ (vx_atS RX3 53 "java/lang/IllegalArgumentException" ["java/lang/RuntimeException", "java/lang/Exception"]).filter goodWord)
def wsX3_carryOut_r1 : List Cond := [Cond.fieldLink RX3 166 "HiddenFacts" "hidden" "I", Cond.fieldLink RX3 179 "HiddenFacts" "made" "I", Cond.fieldLink RX3 18 "HiddenFacts" "tree" "LHiddenFacts$Tree;", Cond.fieldLink RX3 11 "HiddenFacts" "actions" "[LHiddenFacts$Action;", Cond.fieldLink RX3 29 "HiddenFacts" "trace" "[I", Cond.fieldLink RX3 95 "HiddenFacts" "goalStates" "I", Cond.methodLink RX3 149 yX2_cell, Cond.instanceMethod yX2_cell, Cond.selects RX2 yX2_cell yX2_cell, Cond.initialized RX2, Cond.code yX2_cell cX2_cell 3 (some .int), Cond.fieldLink RX2 9 "HiddenFacts$Tree" "cells" "[I", Cond.methodLink RX3 107 yX0_usable, Cond.instanceMethod yX0_usable, Cond.selects RX0 yX0_usable yX0_usable, Cond.initialized RX0, Cond.code yX0_usable cX0_usable 2 (some .boolean), Cond.fieldLink RX0 15 "HiddenFacts$Action" "there" "Z", Cond.fieldLink RX0 19 "HiddenFacts$Action" "condition" "I", Cond.methodLink RX3 241 yX0_sensed, Cond.instanceMethod yX0_sensed, Cond.selects RX0 yX0_sensed yX0_sensed, Cond.code yX0_sensed cX0_sensed 2 (some .int), Cond.fieldLink RX0 23 "HiddenFacts$Action" "senses" "I"]
def wsX3_carryOut_r2 : List Cond := [Cond.static yX3_isIn, Cond.initialized RX3, Cond.code yX3_isIn cX3_isIn 2 (some .boolean), Cond.methodLink RX3 169 yX3_isIn]
def wsX3_carryOut : List Cond := .code yX3_carryOut cX3_carryOut 4 (some .boolean) :: ((wsX3_carryOut_r1 ++ wsX3_carryOut_r2) ++ wsX30 ++ wsX00 ++ wsX20)
def wsX3_execute_r1 : List Cond := [Cond.classLink RX3 75 "java/lang/IllegalStateException", Cond.initialized "java/lang/IllegalStateException", Cond.fieldLink RX3 166 "HiddenFacts" "hidden" "I", Cond.methodLink RX3 157 yX3_needPlan, Cond.instanceMethod yX3_needPlan, Cond.selects RX3 yX3_needPlan yX3_needPlan, Cond.initialized RX3, Cond.code yX3_needPlan cX3_needPlan 1 none, Cond.fieldLink RX3 18 "HiddenFacts" "tree" "LHiddenFacts$Tree;", Cond.methodLink RX3 175 yX3_carryOut, Cond.instanceMethod yX3_carryOut, Cond.selects RX3 yX3_carryOut yX3_carryOut, Cond.code yX3_carryOut cX3_carryOut 4 (some .boolean), Cond.fieldLink RX3 179 "HiddenFacts" "made" "I", Cond.fieldLink RX3 11 "HiddenFacts" "actions" "[LHiddenFacts$Action;", Cond.fieldLink RX3 29 "HiddenFacts" "trace" "[I", Cond.fieldLink RX3 95 "HiddenFacts" "goalStates" "I", Cond.methodLink RX3 149 yX2_cell, Cond.instanceMethod yX2_cell, Cond.selects RX2 yX2_cell yX2_cell, Cond.initialized RX2, Cond.code yX2_cell cX2_cell 3 (some .int), Cond.fieldLink RX2 9 "HiddenFacts$Tree" "cells" "[I", Cond.methodLink RX3 107 yX0_usable]
def wsX3_execute_r2 : List Cond := [Cond.instanceMethod yX0_usable, Cond.selects RX0 yX0_usable yX0_usable, Cond.initialized RX0, Cond.code yX0_usable cX0_usable 2 (some .boolean), Cond.fieldLink RX0 15 "HiddenFacts$Action" "there" "Z", Cond.fieldLink RX0 19 "HiddenFacts$Action" "condition" "I", Cond.methodLink RX3 241 yX0_sensed, Cond.instanceMethod yX0_sensed, Cond.selects RX0 yX0_sensed yX0_sensed, Cond.code yX0_sensed cX0_sensed 2 (some .int), Cond.fieldLink RX0 23 "HiddenFacts$Action" "senses" "I", Cond.static yX3_isIn, Cond.code yX3_isIn cX3_isIn 2 (some .boolean), Cond.methodLink RX3 169 yX3_isIn]
def wsX3_execute : List Cond := .code yX3_execute cX3_execute 1 (some .boolean) :: ((wsX3_execute_r1 ++ wsX3_execute_r2) ++ wsX30 ++ wsX20 ++ wsX00 ++ (vx_atS RX3 79 "java/lang/IllegalStateException" ["java/lang/RuntimeException", "java/lang/Exception"]).filter goodWord)
def wsX3_made : List Cond := .code yX3_made cX3_made 1 (some .int) :: ([.fieldLink RX3 179 "HiddenFacts" "made" "I"] ++ wsX30)
def wsX3_trace : List Cond := .code yX3_trace cX3_trace 2 (some .int) :: ([.classLink RX3 144 "java/lang/IndexOutOfBoundsException", .initialized "java/lang/IndexOutOfBoundsException", .fieldLink RX3 179 "HiddenFacts" "made" "I", .fieldLink RX3 29 "HiddenFacts" "trace" "[I"] ++ wsX30 ++ (vx_atS RX3 148 "java/lang/IndexOutOfBoundsException" ["java/lang/RuntimeException", "java/lang/Exception"]).filter goodWord)
def wsX3_look_r1 : List Cond := [Cond.fieldLink RX3 11 "HiddenFacts" "actions" "[LHiddenFacts$Action;", Cond.fieldLink RX3 25 "HiddenFacts" "sight" "LHiddenFacts$Sight;", Cond.methodLink RX3 107 yX0_usable, Cond.instanceMethod yX0_usable, Cond.selects RX0 yX0_usable yX0_usable, Cond.initialized RX0, Cond.code yX0_usable cX0_usable 2 (some .boolean), Cond.fieldLink RX0 15 "HiddenFacts$Action" "there" "Z", Cond.fieldLink RX0 19 "HiddenFacts$Action" "condition" "I", Cond.methodLink RX3 244 yX1_step, Cond.instanceMethod yX1_step, Cond.selects RX1 yX1_step yX1_step, Cond.initialized RX1, Cond.code yX1_step cX1_step 7 none, Cond.fieldLink RX1 9 "HiddenFacts$Sight" "come" "[I", Cond.fieldLink RX1 15 "HiddenFacts$Sight" "apart" "[I", Cond.methodLink RX1 27 yX0_sensed, Cond.instanceMethod yX0_sensed, Cond.selects RX0 yX0_sensed yX0_sensed, Cond.code yX0_sensed cX0_sensed 2 (some .int), Cond.fieldLink RX0 23 "HiddenFacts$Action" "senses" "I", Cond.static yX3_isIn, Cond.initialized RX3, Cond.code yX3_isIn cX3_isIn 2 (some .boolean)]
def wsX3_look_r2 : List Cond := [Cond.methodLink RX3 116 yX0_after, Cond.instanceMethod yX0_after, Cond.selects RX0 yX0_after yX0_after, Cond.code yX0_after cX0_after 4 (some .int), Cond.fieldLink RX0 9 "HiddenFacts$Action" "next" "[I", Cond.methodLink RX3 187 yX3_look, Cond.instanceMethod yX3_look, Cond.selects RX3 yX3_look yX3_look]
def wsX3_look : List Cond := .code yX3_look cX3_look 4 none :: ((wsX3_look_r1 ++ wsX3_look_r2) ++ wsX30 ++ wsX00 ++ wsX10)
def wsX3_twins_r1 : List Cond := [Cond.classLink RX3 194 "java/util/NoSuchElementException", Cond.initialized "java/util/NoSuchElementException", Cond.fieldLink RX3 25 "HiddenFacts" "sight" "LHiddenFacts$Sight;", Cond.fieldLink RX3 89 "HiddenFacts" "startBelief" "I", Cond.methodLink RX3 184 yX1_open, Cond.instanceMethod yX1_open, Cond.selects RX1 yX1_open yX1_open, Cond.initialized RX1, Cond.code yX1_open cX1_open 3 none, Cond.fieldLink RX1 18 "HiddenFacts$Sight" "belief" "I", Cond.fieldLink RX1 9 "HiddenFacts$Sight" "come" "[I", Cond.fieldLink RX1 15 "HiddenFacts$Sight" "apart" "[I", Cond.methodLink RX3 187 yX3_look, Cond.instanceMethod yX3_look, Cond.selects RX3 yX3_look yX3_look, Cond.initialized RX3, Cond.code yX3_look cX3_look 4 none, Cond.fieldLink RX3 11 "HiddenFacts" "actions" "[LHiddenFacts$Action;", Cond.methodLink RX3 107 yX0_usable, Cond.instanceMethod yX0_usable, Cond.selects RX0 yX0_usable yX0_usable, Cond.initialized RX0, Cond.code yX0_usable cX0_usable 2 (some .boolean), Cond.fieldLink RX0 15 "HiddenFacts$Action" "there" "Z"]
def wsX3_twins_r2 : List Cond := [Cond.fieldLink RX0 19 "HiddenFacts$Action" "condition" "I", Cond.methodLink RX3 244 yX1_step, Cond.instanceMethod yX1_step, Cond.selects RX1 yX1_step yX1_step, Cond.code yX1_step cX1_step 7 none, Cond.methodLink RX1 27 yX0_sensed, Cond.instanceMethod yX0_sensed, Cond.selects RX0 yX0_sensed yX0_sensed, Cond.code yX0_sensed cX0_sensed 2 (some .int), Cond.fieldLink RX0 23 "HiddenFacts$Action" "senses" "I", Cond.static yX3_isIn, Cond.code yX3_isIn cX3_isIn 2 (some .boolean), Cond.methodLink RX3 116 yX0_after, Cond.instanceMethod yX0_after, Cond.selects RX0 yX0_after yX0_after, Cond.code yX0_after cX0_after 4 (some .int), Cond.fieldLink RX0 9 "HiddenFacts$Action" "next" "[I", Cond.methodLink RX3 190 yX1_firstAlike, Cond.instanceMethod yX1_firstAlike, Cond.selects RX1 yX1_firstAlike yX1_firstAlike, Cond.code yX1_firstAlike cX1_firstAlike 3 (some .int)]
def wsX3_twins : List Cond := .code yX3_twins cX3_twins 2 (some .int) :: ((wsX3_twins_r1 ++ wsX3_twins_r2) ++ wsX30 ++ wsX10 ++ wsX00 ++ (xn_atS RX3 198 "java/util/NoSuchElementException" ["java/lang/RuntimeException", "java/lang/Exception"]).filter goodWord)
def wsX4_init_r1 : List Cond := [Cond.methodLink RX4 1 objectInit, Cond.instanceMethod objectInit, Cond.code objectInit ⟨#[0xb1]⟩ 1 none, Cond.arrayClass .boolean, Cond.fieldLink RX4 7 "HiddenFactsModel" "there" "[Z", Cond.arrayClass .int, Cond.fieldLink RX4 13 "HiddenFactsModel" "mask" "[I", Cond.fieldLink RX4 17 "HiddenFactsModel" "value" "[I", Cond.fieldLink RX4 20 "HiddenFactsModel" "senses" "[I", Cond.fieldLink RX4 23 "HiddenFactsModel" "effects" "[I", Cond.fieldLink RX4 26 "HiddenFactsModel" "facts" "[I", Cond.fieldLink RX4 29 "HiddenFactsModel" "makes" "[Z", Cond.fieldLink RX4 32 "HiddenFactsModel" "masks" "[I", Cond.fieldLink RX4 35 "HiddenFactsModel" "values" "[I", Cond.fieldLink RX4 38 "HiddenFactsModel" "trues" "[I", Cond.fieldLink RX4 41 "HiddenFactsModel" "falses" "[I", Cond.fieldLink RX4 44 "HiddenFactsModel" "nodeAction" "[I", Cond.fieldLink RX4 47 "HiddenFactsModel" "nodeFirst" "[I", Cond.fieldLink RX4 50 "HiddenFactsModel" "nodeSecond" "[I", Cond.fieldLink RX4 53 "HiddenFactsModel" "asked" "[I", Cond.fieldLink RX4 56 "HiddenFactsModel" "tried" "[I", Cond.fieldLink RX4 59 "HiddenFactsModel" "side" "[I", Cond.fieldLink RX4 62 "HiddenFactsModel" "belief" "[I", Cond.fieldLink RX4 65 "HiddenFactsModel" "does" "[I"]
def wsX4_init_r2 : List Cond := [Cond.fieldLink RX4 68 "HiddenFactsModel" "same" "[I", Cond.fieldLink RX4 71 "HiddenFactsModel" "numbered" "[I", Cond.fieldLink RX4 74 "HiddenFactsModel" "walk" "[I", Cond.fieldLink RX4 77 "HiddenFactsModel" "walkBelief" "[I", Cond.fieldLink RX4 80 "HiddenFactsModel" "hidden" "I", Cond.fieldLink RX4 84 "HiddenFactsModel" "trace" "[I", Cond.fieldLink RX4 87 "HiddenFactsModel" "at" "[I", Cond.fieldLink RX4 90 "HiddenFactsModel" "apart" "[I"]
def wsX4_init : List Cond := .code yX4_init cX4_init 1 none :: ((wsX4_init_r1 ++ wsX4_init_r2) ++ wsX40)
def wsX4_thrown : List Cond := .code yX4_thrown cX4_thrown 1 (some .int) :: ([.fieldLink RX4 93 "HiddenFactsModel" "thrown" "I"] ++ wsX40)
def wsX4_fail : List Cond := .code yX4_fail cX4_fail 2 (some .int) :: ([.fieldLink RX4 93 "HiddenFactsModel" "thrown" "I"] ++ wsX40)
def wsX4_within : List Cond := .code yX4_within cX4_within 3 (some .boolean) :: ([])
def wsX4_demand : List Cond := .code yX4_demand cX4_demand 2 (some .boolean) :: ([.methodLink RX4 96 yX4_within, .static yX4_within, .initialized RX4, .code yX4_within cX4_within 3 (some .boolean)])
def wsX4_holds : List Cond := .code yX4_holds cX4_holds 3 (some .boolean) :: ([])
def wsX4_clear : List Cond := .code yX4_clear cX4_clear 3 (some .int) :: ([.fieldLink RX4 93 "HiddenFactsModel" "thrown" "I", .fieldLink RX4 7 "HiddenFactsModel" "there" "[Z", .fieldLink RX4 100 "HiddenFactsModel" "clauses" "I", .fieldLink RX4 103 "HiddenFactsModel" "goalMask" "I", .fieldLink RX4 106 "HiddenFactsModel" "goalValue" "I", .fieldLink RX4 109 "HiddenFactsModel" "nodes" "I", .fieldLink RX4 80 "HiddenFactsModel" "hidden" "I", .fieldLink RX4 112 "HiddenFactsModel" "made" "I"] ++ wsX40)
def wsX4_action : List Cond := .code yX4_action cX4_action 6 (some .boolean) :: ([.fieldLink RX4 93 "HiddenFactsModel" "thrown" "I", .fieldLink RX4 7 "HiddenFactsModel" "there" "[Z", .fieldLink RX4 13 "HiddenFactsModel" "mask" "[I", .fieldLink RX4 17 "HiddenFactsModel" "value" "[I", .fieldLink RX4 20 "HiddenFactsModel" "senses" "[I", .fieldLink RX4 23 "HiddenFactsModel" "effects" "[I", .methodLink RX4 96 yX4_within, .static yX4_within, .initialized RX4, .code yX4_within cX4_within 3 (some .boolean), .methodLink RX4 115 yX4_fail, .instanceMethod yX4_fail, .selects RX4 yX4_fail yX4_fail, .code yX4_fail cX4_fail 2 (some .int), .methodLink RX4 119 yX4_demand, .static yX4_demand, .code yX4_demand cX4_demand 2 (some .boolean)] ++ wsX40)
def wsX4_effect : List Cond := .code yX4_effect cX4_effect 7 (some .int) :: ([.fieldLink RX4 93 "HiddenFactsModel" "thrown" "I", .fieldLink RX4 7 "HiddenFactsModel" "there" "[Z", .fieldLink RX4 23 "HiddenFactsModel" "effects" "[I", .fieldLink RX4 26 "HiddenFactsModel" "facts" "[I", .fieldLink RX4 29 "HiddenFactsModel" "makes" "[Z", .fieldLink RX4 32 "HiddenFactsModel" "masks" "[I", .fieldLink RX4 35 "HiddenFactsModel" "values" "[I", .methodLink RX4 96 yX4_within, .static yX4_within, .initialized RX4, .code yX4_within cX4_within 3 (some .boolean), .methodLink RX4 115 yX4_fail, .instanceMethod yX4_fail, .selects RX4 yX4_fail yX4_fail, .code yX4_fail cX4_fail 2 (some .int), .methodLink RX4 119 yX4_demand, .static yX4_demand, .code yX4_demand cX4_demand 2 (some .boolean)] ++ wsX40)
def wsX4_clause : List Cond := .code yX4_clause cX4_clause 3 (some .int) :: ([.fieldLink RX4 93 "HiddenFactsModel" "thrown" "I", .fieldLink RX4 100 "HiddenFactsModel" "clauses" "I", .fieldLink RX4 38 "HiddenFactsModel" "trues" "[I", .fieldLink RX4 41 "HiddenFactsModel" "falses" "[I", .methodLink RX4 119 yX4_demand, .static yX4_demand, .initialized RX4, .code yX4_demand cX4_demand 2 (some .boolean), .methodLink RX4 96 yX4_within, .static yX4_within, .code yX4_within cX4_within 3 (some .boolean), .methodLink RX4 115 yX4_fail, .instanceMethod yX4_fail, .selects RX4 yX4_fail yX4_fail, .code yX4_fail cX4_fail 2 (some .int)] ++ wsX40)
def wsX4_goal : List Cond := .code yX4_goal cX4_goal 5 (some .int) :: ([.fieldLink RX4 93 "HiddenFactsModel" "thrown" "I", .fieldLink RX4 103 "HiddenFactsModel" "goalMask" "I", .fieldLink RX4 106 "HiddenFactsModel" "goalValue" "I", .methodLink RX4 119 yX4_demand, .static yX4_demand, .initialized RX4, .code yX4_demand cX4_demand 2 (some .boolean), .methodLink RX4 96 yX4_within, .static yX4_within, .code yX4_within cX4_within 3 (some .boolean), .methodLink RX4 115 yX4_fail, .instanceMethod yX4_fail, .selects RX4 yX4_fail yX4_fail, .code yX4_fail cX4_fail 2 (some .int), .methodLink RX4 123 yX4_holds, .static yX4_holds, .code yX4_holds cX4_holds 3 (some .boolean)] ++ wsX40)
def wsX4_startBelief : List Cond := .code yX4_startBelief cX4_startBelief 5 (some .int) :: ([.fieldLink RX4 100 "HiddenFactsModel" "clauses" "I", .fieldLink RX4 38 "HiddenFactsModel" "trues" "[I", .fieldLink RX4 41 "HiddenFactsModel" "falses" "[I"] ++ wsX40)
def wsX4_start : List Cond := .code yX4_start cX4_start 1 (some .int) :: ([.fieldLink RX4 93 "HiddenFactsModel" "thrown" "I", .methodLink RX4 126 yX4_startBelief, .instanceMethod yX4_startBelief, .selects RX4 yX4_startBelief yX4_startBelief, .initialized RX4, .code yX4_startBelief cX4_startBelief 5 (some .int), .fieldLink RX4 100 "HiddenFactsModel" "clauses" "I", .fieldLink RX4 38 "HiddenFactsModel" "trues" "[I", .fieldLink RX4 41 "HiddenFactsModel" "falses" "[I"] ++ wsX40)
def wsX4_usable : List Cond := .code yX4_usable cX4_usable 5 (some .boolean) :: ([.fieldLink RX4 7 "HiddenFactsModel" "there" "[Z", .fieldLink RX4 13 "HiddenFactsModel" "mask" "[I", .fieldLink RX4 17 "HiddenFactsModel" "value" "[I", .methodLink RX4 123 yX4_holds, .static yX4_holds, .initialized RX4, .code yX4_holds cX4_holds 3 (some .boolean)] ++ wsX40)
def wsX4_next : List Cond := .code yX4_next cX4_next 5 (some .int) :: ([.fieldLink RX4 23 "HiddenFactsModel" "effects" "[I", .fieldLink RX4 32 "HiddenFactsModel" "masks" "[I", .fieldLink RX4 35 "HiddenFactsModel" "values" "[I", .fieldLink RX4 29 "HiddenFactsModel" "makes" "[Z", .fieldLink RX4 26 "HiddenFactsModel" "facts" "[I", .methodLink RX4 123 yX4_holds, .static yX4_holds, .initialized RX4, .code yX4_holds cX4_holds 3 (some .boolean)] ++ wsX40)
def wsX4_after : List Cond := .code yX4_after cX4_after 5 (some .int) :: ([.methodLink RX4 130 yX4_next, .instanceMethod yX4_next, .selects RX4 yX4_next yX4_next, .initialized RX4, .code yX4_next cX4_next 5 (some .int), .fieldLink RX4 23 "HiddenFactsModel" "effects" "[I", .fieldLink RX4 32 "HiddenFactsModel" "masks" "[I", .fieldLink RX4 35 "HiddenFactsModel" "values" "[I", .fieldLink RX4 29 "HiddenFactsModel" "makes" "[Z", .fieldLink RX4 26 "HiddenFactsModel" "facts" "[I", .methodLink RX4 123 yX4_holds, .static yX4_holds, .code yX4_holds cX4_holds 3 (some .boolean)] ++ wsX40)
def wsX4_part : List Cond := .code yX4_part cX4_part 7 (some .int) :: ([.fieldLink RX4 20 "HiddenFactsModel" "senses" "[I", .methodLink RX4 134 yX4_after, .instanceMethod yX4_after, .selects RX4 yX4_after yX4_after, .initialized RX4, .code yX4_after cX4_after 5 (some .int), .methodLink RX4 130 yX4_next, .instanceMethod yX4_next, .selects RX4 yX4_next yX4_next, .code yX4_next cX4_next 5 (some .int), .fieldLink RX4 23 "HiddenFactsModel" "effects" "[I", .fieldLink RX4 32 "HiddenFactsModel" "masks" "[I", .fieldLink RX4 35 "HiddenFactsModel" "values" "[I", .fieldLink RX4 29 "HiddenFactsModel" "makes" "[Z", .fieldLink RX4 26 "HiddenFactsModel" "facts" "[I", .methodLink RX4 123 yX4_holds, .static yX4_holds, .code yX4_holds cX4_holds 3 (some .boolean)] ++ wsX40)
def wsX4_behind_r1 : List Cond := [Cond.fieldLink RX4 93 "HiddenFactsModel" "thrown" "I", Cond.fieldLink RX4 7 "HiddenFactsModel" "there" "[Z", Cond.constant RX4 137 (65535), Cond.methodLink RX4 96 yX4_within, Cond.static yX4_within, Cond.initialized RX4, Cond.code yX4_within cX4_within 3 (some .boolean), Cond.methodLink RX4 115 yX4_fail, Cond.instanceMethod yX4_fail, Cond.selects RX4 yX4_fail yX4_fail, Cond.code yX4_fail cX4_fail 2 (some .int), Cond.methodLink RX4 138 yX4_usable, Cond.instanceMethod yX4_usable, Cond.selects RX4 yX4_usable yX4_usable, Cond.code yX4_usable cX4_usable 5 (some .boolean), Cond.fieldLink RX4 13 "HiddenFactsModel" "mask" "[I", Cond.fieldLink RX4 17 "HiddenFactsModel" "value" "[I", Cond.methodLink RX4 123 yX4_holds, Cond.static yX4_holds, Cond.code yX4_holds cX4_holds 3 (some .boolean), Cond.methodLink RX4 134 yX4_after, Cond.instanceMethod yX4_after, Cond.selects RX4 yX4_after yX4_after, Cond.code yX4_after cX4_after 5 (some .int)]
def wsX4_behind_r2 : List Cond := [Cond.methodLink RX4 130 yX4_next, Cond.instanceMethod yX4_next, Cond.selects RX4 yX4_next yX4_next, Cond.code yX4_next cX4_next 5 (some .int), Cond.fieldLink RX4 23 "HiddenFactsModel" "effects" "[I", Cond.fieldLink RX4 32 "HiddenFactsModel" "masks" "[I", Cond.fieldLink RX4 35 "HiddenFactsModel" "values" "[I", Cond.fieldLink RX4 29 "HiddenFactsModel" "makes" "[Z", Cond.fieldLink RX4 26 "HiddenFactsModel" "facts" "[I"]
def wsX4_behind : List Cond := .code yX4_behind cX4_behind 3 (some .int) :: ((wsX4_behind_r1 ++ wsX4_behind_r2) ++ wsX40)
def wsX4_reached : List Cond := .code yX4_reached cX4_reached 4 (some .boolean) :: ([.fieldLink RX4 103 "HiddenFactsModel" "goalMask" "I", .fieldLink RX4 106 "HiddenFactsModel" "goalValue" "I", .methodLink RX4 123 yX4_holds, .static yX4_holds, .initialized RX4, .code yX4_holds cX4_holds 3 (some .boolean)] ++ wsX40)
def wsX4_solved_r1 : List Cond := [Cond.fieldLink RX4 53 "HiddenFactsModel" "asked" "[I", Cond.fieldLink RX4 56 "HiddenFactsModel" "tried" "[I", Cond.fieldLink RX4 59 "HiddenFactsModel" "side" "[I", Cond.methodLink RX4 141 yX4_reached, Cond.instanceMethod yX4_reached, Cond.selects RX4 yX4_reached yX4_reached, Cond.initialized RX4, Cond.code yX4_reached cX4_reached 4 (some .boolean), Cond.fieldLink RX4 103 "HiddenFactsModel" "goalMask" "I", Cond.fieldLink RX4 106 "HiddenFactsModel" "goalValue" "I", Cond.methodLink RX4 123 yX4_holds, Cond.static yX4_holds, Cond.code yX4_holds cX4_holds 3 (some .boolean), Cond.methodLink RX4 138 yX4_usable, Cond.instanceMethod yX4_usable, Cond.selects RX4 yX4_usable yX4_usable, Cond.code yX4_usable cX4_usable 5 (some .boolean), Cond.fieldLink RX4 7 "HiddenFactsModel" "there" "[Z", Cond.fieldLink RX4 13 "HiddenFactsModel" "mask" "[I", Cond.fieldLink RX4 17 "HiddenFactsModel" "value" "[I", Cond.methodLink RX4 145 yX4_part, Cond.instanceMethod yX4_part, Cond.selects RX4 yX4_part yX4_part, Cond.code yX4_part cX4_part 7 (some .int)]
def wsX4_solved_r2 : List Cond := [Cond.fieldLink RX4 20 "HiddenFactsModel" "senses" "[I", Cond.methodLink RX4 134 yX4_after, Cond.instanceMethod yX4_after, Cond.selects RX4 yX4_after yX4_after, Cond.code yX4_after cX4_after 5 (some .int), Cond.methodLink RX4 130 yX4_next, Cond.instanceMethod yX4_next, Cond.selects RX4 yX4_next yX4_next, Cond.code yX4_next cX4_next 5 (some .int), Cond.fieldLink RX4 23 "HiddenFactsModel" "effects" "[I", Cond.fieldLink RX4 32 "HiddenFactsModel" "masks" "[I", Cond.fieldLink RX4 35 "HiddenFactsModel" "values" "[I", Cond.fieldLink RX4 29 "HiddenFactsModel" "makes" "[Z", Cond.fieldLink RX4 26 "HiddenFactsModel" "facts" "[I"]
def wsX4_solved : List Cond := .code yX4_solved cX4_solved 5 (some .boolean) :: ((wsX4_solved_r1 ++ wsX4_solved_r2) ++ wsX40)
def wsX4_leastFor_r1 : List Cond := [Cond.methodLink RX4 149 yX4_solved, Cond.instanceMethod yX4_solved, Cond.selects RX4 yX4_solved yX4_solved, Cond.initialized RX4, Cond.code yX4_solved cX4_solved 5 (some .boolean), Cond.fieldLink RX4 53 "HiddenFactsModel" "asked" "[I", Cond.fieldLink RX4 56 "HiddenFactsModel" "tried" "[I", Cond.fieldLink RX4 59 "HiddenFactsModel" "side" "[I", Cond.methodLink RX4 141 yX4_reached, Cond.instanceMethod yX4_reached, Cond.selects RX4 yX4_reached yX4_reached, Cond.code yX4_reached cX4_reached 4 (some .boolean), Cond.fieldLink RX4 103 "HiddenFactsModel" "goalMask" "I", Cond.fieldLink RX4 106 "HiddenFactsModel" "goalValue" "I", Cond.methodLink RX4 123 yX4_holds, Cond.static yX4_holds, Cond.code yX4_holds cX4_holds 3 (some .boolean), Cond.methodLink RX4 138 yX4_usable, Cond.instanceMethod yX4_usable, Cond.selects RX4 yX4_usable yX4_usable, Cond.code yX4_usable cX4_usable 5 (some .boolean), Cond.fieldLink RX4 7 "HiddenFactsModel" "there" "[Z", Cond.fieldLink RX4 13 "HiddenFactsModel" "mask" "[I", Cond.fieldLink RX4 17 "HiddenFactsModel" "value" "[I"]
def wsX4_leastFor_r2 : List Cond := [Cond.methodLink RX4 145 yX4_part, Cond.instanceMethod yX4_part, Cond.selects RX4 yX4_part yX4_part, Cond.code yX4_part cX4_part 7 (some .int), Cond.fieldLink RX4 20 "HiddenFactsModel" "senses" "[I", Cond.methodLink RX4 134 yX4_after, Cond.instanceMethod yX4_after, Cond.selects RX4 yX4_after yX4_after, Cond.code yX4_after cX4_after 5 (some .int), Cond.methodLink RX4 130 yX4_next, Cond.instanceMethod yX4_next, Cond.selects RX4 yX4_next yX4_next, Cond.code yX4_next cX4_next 5 (some .int), Cond.fieldLink RX4 23 "HiddenFactsModel" "effects" "[I", Cond.fieldLink RX4 32 "HiddenFactsModel" "masks" "[I", Cond.fieldLink RX4 35 "HiddenFactsModel" "values" "[I", Cond.fieldLink RX4 29 "HiddenFactsModel" "makes" "[Z", Cond.fieldLink RX4 26 "HiddenFactsModel" "facts" "[I"]
def wsX4_leastFor : List Cond := .code yX4_leastFor cX4_leastFor 4 (some .int) :: ((wsX4_leastFor_r1 ++ wsX4_leastFor_r2) ++ wsX40)
def wsX4_least_r1 : List Cond := [Cond.fieldLink RX4 93 "HiddenFactsModel" "thrown" "I", Cond.constant RX4 137 (65535), Cond.methodLink RX4 96 yX4_within, Cond.static yX4_within, Cond.initialized RX4, Cond.code yX4_within cX4_within 3 (some .boolean), Cond.methodLink RX4 115 yX4_fail, Cond.instanceMethod yX4_fail, Cond.selects RX4 yX4_fail yX4_fail, Cond.code yX4_fail cX4_fail 2 (some .int), Cond.methodLink RX4 152 yX4_leastFor, Cond.instanceMethod yX4_leastFor, Cond.selects RX4 yX4_leastFor yX4_leastFor, Cond.code yX4_leastFor cX4_leastFor 4 (some .int), Cond.methodLink RX4 149 yX4_solved, Cond.instanceMethod yX4_solved, Cond.selects RX4 yX4_solved yX4_solved, Cond.code yX4_solved cX4_solved 5 (some .boolean), Cond.fieldLink RX4 53 "HiddenFactsModel" "asked" "[I", Cond.fieldLink RX4 56 "HiddenFactsModel" "tried" "[I", Cond.fieldLink RX4 59 "HiddenFactsModel" "side" "[I", Cond.methodLink RX4 141 yX4_reached, Cond.instanceMethod yX4_reached, Cond.selects RX4 yX4_reached yX4_reached]
def wsX4_least_r2 : List Cond := [Cond.code yX4_reached cX4_reached 4 (some .boolean), Cond.fieldLink RX4 103 "HiddenFactsModel" "goalMask" "I", Cond.fieldLink RX4 106 "HiddenFactsModel" "goalValue" "I", Cond.methodLink RX4 123 yX4_holds, Cond.static yX4_holds, Cond.code yX4_holds cX4_holds 3 (some .boolean), Cond.methodLink RX4 138 yX4_usable, Cond.instanceMethod yX4_usable, Cond.selects RX4 yX4_usable yX4_usable, Cond.code yX4_usable cX4_usable 5 (some .boolean), Cond.fieldLink RX4 7 "HiddenFactsModel" "there" "[Z", Cond.fieldLink RX4 13 "HiddenFactsModel" "mask" "[I", Cond.fieldLink RX4 17 "HiddenFactsModel" "value" "[I", Cond.methodLink RX4 145 yX4_part, Cond.instanceMethod yX4_part, Cond.selects RX4 yX4_part yX4_part, Cond.code yX4_part cX4_part 7 (some .int), Cond.fieldLink RX4 20 "HiddenFactsModel" "senses" "[I", Cond.methodLink RX4 134 yX4_after, Cond.instanceMethod yX4_after, Cond.selects RX4 yX4_after yX4_after, Cond.code yX4_after cX4_after 5 (some .int), Cond.methodLink RX4 130 yX4_next, Cond.instanceMethod yX4_next]
def wsX4_least_r3 : List Cond := [Cond.selects RX4 yX4_next yX4_next, Cond.code yX4_next cX4_next 5 (some .int), Cond.fieldLink RX4 23 "HiddenFactsModel" "effects" "[I", Cond.fieldLink RX4 32 "HiddenFactsModel" "masks" "[I", Cond.fieldLink RX4 35 "HiddenFactsModel" "values" "[I", Cond.fieldLink RX4 29 "HiddenFactsModel" "makes" "[Z", Cond.fieldLink RX4 26 "HiddenFactsModel" "facts" "[I"]
def wsX4_least : List Cond := .code yX4_least cX4_least 4 (some .int) :: ((wsX4_least_r1 ++ (wsX4_least_r2 ++ wsX4_least_r3)) ++ wsX40)
def wsX4_partSolved_r1 : List Cond := [Cond.methodLink RX4 145 yX4_part, Cond.instanceMethod yX4_part, Cond.selects RX4 yX4_part yX4_part, Cond.initialized RX4, Cond.code yX4_part cX4_part 7 (some .int), Cond.fieldLink RX4 20 "HiddenFactsModel" "senses" "[I", Cond.methodLink RX4 134 yX4_after, Cond.instanceMethod yX4_after, Cond.selects RX4 yX4_after yX4_after, Cond.code yX4_after cX4_after 5 (some .int), Cond.methodLink RX4 130 yX4_next, Cond.instanceMethod yX4_next, Cond.selects RX4 yX4_next yX4_next, Cond.code yX4_next cX4_next 5 (some .int), Cond.fieldLink RX4 23 "HiddenFactsModel" "effects" "[I", Cond.fieldLink RX4 32 "HiddenFactsModel" "masks" "[I", Cond.fieldLink RX4 35 "HiddenFactsModel" "values" "[I", Cond.fieldLink RX4 29 "HiddenFactsModel" "makes" "[Z", Cond.fieldLink RX4 26 "HiddenFactsModel" "facts" "[I", Cond.methodLink RX4 123 yX4_holds, Cond.static yX4_holds, Cond.code yX4_holds cX4_holds 3 (some .boolean), Cond.methodLink RX4 149 yX4_solved, Cond.instanceMethod yX4_solved]
def wsX4_partSolved_r2 : List Cond := [Cond.selects RX4 yX4_solved yX4_solved, Cond.code yX4_solved cX4_solved 5 (some .boolean), Cond.fieldLink RX4 53 "HiddenFactsModel" "asked" "[I", Cond.fieldLink RX4 56 "HiddenFactsModel" "tried" "[I", Cond.fieldLink RX4 59 "HiddenFactsModel" "side" "[I", Cond.methodLink RX4 141 yX4_reached, Cond.instanceMethod yX4_reached, Cond.selects RX4 yX4_reached yX4_reached, Cond.code yX4_reached cX4_reached 4 (some .boolean), Cond.fieldLink RX4 103 "HiddenFactsModel" "goalMask" "I", Cond.fieldLink RX4 106 "HiddenFactsModel" "goalValue" "I", Cond.methodLink RX4 138 yX4_usable, Cond.instanceMethod yX4_usable, Cond.selects RX4 yX4_usable yX4_usable, Cond.code yX4_usable cX4_usable 5 (some .boolean), Cond.fieldLink RX4 7 "HiddenFactsModel" "there" "[Z", Cond.fieldLink RX4 13 "HiddenFactsModel" "mask" "[I", Cond.fieldLink RX4 17 "HiddenFactsModel" "value" "[I"]
def wsX4_partSolved : List Cond := .code yX4_partSolved cX4_partSolved 6 (some .boolean) :: ((wsX4_partSolved_r1 ++ wsX4_partSolved_r2) ++ wsX40)
def wsX4_choose_r1 : List Cond := [Cond.fieldLink RX4 62 "HiddenFactsModel" "belief" "[I", Cond.fieldLink RX4 65 "HiddenFactsModel" "does" "[I", Cond.methodLink RX4 141 yX4_reached, Cond.instanceMethod yX4_reached, Cond.selects RX4 yX4_reached yX4_reached, Cond.initialized RX4, Cond.code yX4_reached cX4_reached 4 (some .boolean), Cond.fieldLink RX4 103 "HiddenFactsModel" "goalMask" "I", Cond.fieldLink RX4 106 "HiddenFactsModel" "goalValue" "I", Cond.methodLink RX4 123 yX4_holds, Cond.static yX4_holds, Cond.code yX4_holds cX4_holds 3 (some .boolean), Cond.methodLink RX4 138 yX4_usable, Cond.instanceMethod yX4_usable, Cond.selects RX4 yX4_usable yX4_usable, Cond.code yX4_usable cX4_usable 5 (some .boolean), Cond.fieldLink RX4 7 "HiddenFactsModel" "there" "[Z", Cond.fieldLink RX4 13 "HiddenFactsModel" "mask" "[I", Cond.fieldLink RX4 17 "HiddenFactsModel" "value" "[I", Cond.methodLink RX4 155 yX4_partSolved, Cond.instanceMethod yX4_partSolved, Cond.selects RX4 yX4_partSolved yX4_partSolved, Cond.code yX4_partSolved cX4_partSolved 6 (some .boolean), Cond.methodLink RX4 145 yX4_part]
def wsX4_choose_r2 : List Cond := [Cond.instanceMethod yX4_part, Cond.selects RX4 yX4_part yX4_part, Cond.code yX4_part cX4_part 7 (some .int), Cond.fieldLink RX4 20 "HiddenFactsModel" "senses" "[I", Cond.methodLink RX4 134 yX4_after, Cond.instanceMethod yX4_after, Cond.selects RX4 yX4_after yX4_after, Cond.code yX4_after cX4_after 5 (some .int), Cond.methodLink RX4 130 yX4_next, Cond.instanceMethod yX4_next, Cond.selects RX4 yX4_next yX4_next, Cond.code yX4_next cX4_next 5 (some .int), Cond.fieldLink RX4 23 "HiddenFactsModel" "effects" "[I", Cond.fieldLink RX4 32 "HiddenFactsModel" "masks" "[I", Cond.fieldLink RX4 35 "HiddenFactsModel" "values" "[I", Cond.fieldLink RX4 29 "HiddenFactsModel" "makes" "[Z", Cond.fieldLink RX4 26 "HiddenFactsModel" "facts" "[I", Cond.methodLink RX4 149 yX4_solved, Cond.instanceMethod yX4_solved, Cond.selects RX4 yX4_solved yX4_solved, Cond.code yX4_solved cX4_solved 5 (some .boolean), Cond.fieldLink RX4 53 "HiddenFactsModel" "asked" "[I", Cond.fieldLink RX4 56 "HiddenFactsModel" "tried" "[I", Cond.fieldLink RX4 59 "HiddenFactsModel" "side" "[I"]
def wsX4_choose : List Cond := .code yX4_choose cX4_choose 5 none :: ((wsX4_choose_r1 ++ wsX4_choose_r2) ++ wsX40)
def wsX4_depthOf : List Cond := .code yX4_depthOf cX4_depthOf 3 (some .int) :: ([])
def wsX4_classOf : List Cond := .code yX4_classOf cX4_classOf 2 (some .int) :: ([.fieldLink RX4 62 "HiddenFactsModel" "belief" "[I", .fieldLink RX4 68 "HiddenFactsModel" "same" "[I"] ++ wsX40)
def wsX4_equal : List Cond := .code yX4_equal cX4_equal 3 (some .boolean) :: ([.fieldLink RX4 62 "HiddenFactsModel" "belief" "[I", .fieldLink RX4 65 "HiddenFactsModel" "does" "[I", .methodLink RX4 159 yX4_classOf, .instanceMethod yX4_classOf, .selects RX4 yX4_classOf yX4_classOf, .initialized RX4, .code yX4_classOf cX4_classOf 2 (some .int), .fieldLink RX4 68 "HiddenFactsModel" "same" "[I"] ++ wsX40)
def wsX4_number : List Cond := .code yX4_number cX4_number 5 none :: ([.fieldLink RX4 109 "HiddenFactsModel" "nodes" "I", .fieldLink RX4 74 "HiddenFactsModel" "walk" "[I", .fieldLink RX4 68 "HiddenFactsModel" "same" "[I", .fieldLink RX4 62 "HiddenFactsModel" "belief" "[I", .fieldLink RX4 71 "HiddenFactsModel" "numbered" "[I", .fieldLink RX4 44 "HiddenFactsModel" "nodeAction" "[I", .fieldLink RX4 65 "HiddenFactsModel" "does" "[I", .fieldLink RX4 47 "HiddenFactsModel" "nodeFirst" "[I", .fieldLink RX4 50 "HiddenFactsModel" "nodeSecond" "[I"] ++ wsX40)
def wsX4_build_r1 : List Cond := [Cond.fieldLink RX4 62 "HiddenFactsModel" "belief" "[I", Cond.fieldLink RX4 71 "HiddenFactsModel" "numbered" "[I", Cond.fieldLink RX4 68 "HiddenFactsModel" "same" "[I", Cond.methodLink RX4 162 yX4_depthOf, Cond.static yX4_depthOf, Cond.initialized RX4, Cond.code yX4_depthOf cX4_depthOf 3 (some .int), Cond.methodLink RX4 165 yX4_choose, Cond.instanceMethod yX4_choose, Cond.selects RX4 yX4_choose yX4_choose, Cond.code yX4_choose cX4_choose 5 none, Cond.fieldLink RX4 65 "HiddenFactsModel" "does" "[I", Cond.methodLink RX4 141 yX4_reached, Cond.instanceMethod yX4_reached, Cond.selects RX4 yX4_reached yX4_reached, Cond.code yX4_reached cX4_reached 4 (some .boolean), Cond.fieldLink RX4 103 "HiddenFactsModel" "goalMask" "I", Cond.fieldLink RX4 106 "HiddenFactsModel" "goalValue" "I", Cond.methodLink RX4 123 yX4_holds, Cond.static yX4_holds, Cond.code yX4_holds cX4_holds 3 (some .boolean), Cond.methodLink RX4 138 yX4_usable, Cond.instanceMethod yX4_usable, Cond.selects RX4 yX4_usable yX4_usable]
def wsX4_build_r2 : List Cond := [Cond.code yX4_usable cX4_usable 5 (some .boolean), Cond.fieldLink RX4 7 "HiddenFactsModel" "there" "[Z", Cond.fieldLink RX4 13 "HiddenFactsModel" "mask" "[I", Cond.fieldLink RX4 17 "HiddenFactsModel" "value" "[I", Cond.methodLink RX4 155 yX4_partSolved, Cond.instanceMethod yX4_partSolved, Cond.selects RX4 yX4_partSolved yX4_partSolved, Cond.code yX4_partSolved cX4_partSolved 6 (some .boolean), Cond.methodLink RX4 145 yX4_part, Cond.instanceMethod yX4_part, Cond.selects RX4 yX4_part yX4_part, Cond.code yX4_part cX4_part 7 (some .int), Cond.fieldLink RX4 20 "HiddenFactsModel" "senses" "[I", Cond.methodLink RX4 134 yX4_after, Cond.instanceMethod yX4_after, Cond.selects RX4 yX4_after yX4_after, Cond.code yX4_after cX4_after 5 (some .int), Cond.methodLink RX4 130 yX4_next, Cond.instanceMethod yX4_next, Cond.selects RX4 yX4_next yX4_next, Cond.code yX4_next cX4_next 5 (some .int), Cond.fieldLink RX4 23 "HiddenFactsModel" "effects" "[I", Cond.fieldLink RX4 32 "HiddenFactsModel" "masks" "[I", Cond.fieldLink RX4 35 "HiddenFactsModel" "values" "[I"]
def wsX4_build_r3 : List Cond := [Cond.fieldLink RX4 29 "HiddenFactsModel" "makes" "[Z", Cond.fieldLink RX4 26 "HiddenFactsModel" "facts" "[I", Cond.methodLink RX4 149 yX4_solved, Cond.instanceMethod yX4_solved, Cond.selects RX4 yX4_solved yX4_solved, Cond.code yX4_solved cX4_solved 5 (some .boolean), Cond.fieldLink RX4 53 "HiddenFactsModel" "asked" "[I", Cond.fieldLink RX4 56 "HiddenFactsModel" "tried" "[I", Cond.fieldLink RX4 59 "HiddenFactsModel" "side" "[I", Cond.methodLink RX4 169 yX4_equal, Cond.instanceMethod yX4_equal, Cond.selects RX4 yX4_equal yX4_equal, Cond.code yX4_equal cX4_equal 3 (some .boolean), Cond.methodLink RX4 159 yX4_classOf, Cond.instanceMethod yX4_classOf, Cond.selects RX4 yX4_classOf yX4_classOf, Cond.code yX4_classOf cX4_classOf 2 (some .int), Cond.methodLink RX4 172 yX4_number, Cond.instanceMethod yX4_number, Cond.selects RX4 yX4_number yX4_number, Cond.code yX4_number cX4_number 5 none, Cond.fieldLink RX4 109 "HiddenFactsModel" "nodes" "I", Cond.fieldLink RX4 74 "HiddenFactsModel" "walk" "[I", Cond.fieldLink RX4 44 "HiddenFactsModel" "nodeAction" "[I"]
def wsX4_build_r4 : List Cond := [Cond.fieldLink RX4 47 "HiddenFactsModel" "nodeFirst" "[I", Cond.fieldLink RX4 50 "HiddenFactsModel" "nodeSecond" "[I"]
def wsX4_build : List Cond := .code yX4_build cX4_build 5 none :: ((wsX4_build_r1 ++ (wsX4_build_r2 ++ (wsX4_build_r3 ++ wsX4_build_r4))) ++ wsX40)
def wsX4_plan_r1 : List Cond := [Cond.fieldLink RX4 93 "HiddenFactsModel" "thrown" "I", Cond.methodLink RX4 96 yX4_within, Cond.static yX4_within, Cond.initialized RX4, Cond.code yX4_within cX4_within 3 (some .boolean), Cond.methodLink RX4 115 yX4_fail, Cond.instanceMethod yX4_fail, Cond.selects RX4 yX4_fail yX4_fail, Cond.code yX4_fail cX4_fail 2 (some .int), Cond.methodLink RX4 126 yX4_startBelief, Cond.instanceMethod yX4_startBelief, Cond.selects RX4 yX4_startBelief yX4_startBelief, Cond.code yX4_startBelief cX4_startBelief 5 (some .int), Cond.fieldLink RX4 100 "HiddenFactsModel" "clauses" "I", Cond.fieldLink RX4 38 "HiddenFactsModel" "trues" "[I", Cond.fieldLink RX4 41 "HiddenFactsModel" "falses" "[I", Cond.methodLink RX4 152 yX4_leastFor, Cond.instanceMethod yX4_leastFor, Cond.selects RX4 yX4_leastFor yX4_leastFor, Cond.code yX4_leastFor cX4_leastFor 4 (some .int), Cond.methodLink RX4 149 yX4_solved, Cond.instanceMethod yX4_solved, Cond.selects RX4 yX4_solved yX4_solved, Cond.code yX4_solved cX4_solved 5 (some .boolean)]
def wsX4_plan_r2 : List Cond := [Cond.fieldLink RX4 53 "HiddenFactsModel" "asked" "[I", Cond.fieldLink RX4 56 "HiddenFactsModel" "tried" "[I", Cond.fieldLink RX4 59 "HiddenFactsModel" "side" "[I", Cond.methodLink RX4 141 yX4_reached, Cond.instanceMethod yX4_reached, Cond.selects RX4 yX4_reached yX4_reached, Cond.code yX4_reached cX4_reached 4 (some .boolean), Cond.fieldLink RX4 103 "HiddenFactsModel" "goalMask" "I", Cond.fieldLink RX4 106 "HiddenFactsModel" "goalValue" "I", Cond.methodLink RX4 123 yX4_holds, Cond.static yX4_holds, Cond.code yX4_holds cX4_holds 3 (some .boolean), Cond.methodLink RX4 138 yX4_usable, Cond.instanceMethod yX4_usable, Cond.selects RX4 yX4_usable yX4_usable, Cond.code yX4_usable cX4_usable 5 (some .boolean), Cond.fieldLink RX4 7 "HiddenFactsModel" "there" "[Z", Cond.fieldLink RX4 13 "HiddenFactsModel" "mask" "[I", Cond.fieldLink RX4 17 "HiddenFactsModel" "value" "[I", Cond.methodLink RX4 145 yX4_part, Cond.instanceMethod yX4_part, Cond.selects RX4 yX4_part yX4_part, Cond.code yX4_part cX4_part 7 (some .int), Cond.fieldLink RX4 20 "HiddenFactsModel" "senses" "[I"]
def wsX4_plan_r3 : List Cond := [Cond.methodLink RX4 134 yX4_after, Cond.instanceMethod yX4_after, Cond.selects RX4 yX4_after yX4_after, Cond.code yX4_after cX4_after 5 (some .int), Cond.methodLink RX4 130 yX4_next, Cond.instanceMethod yX4_next, Cond.selects RX4 yX4_next yX4_next, Cond.code yX4_next cX4_next 5 (some .int), Cond.fieldLink RX4 23 "HiddenFactsModel" "effects" "[I", Cond.fieldLink RX4 32 "HiddenFactsModel" "masks" "[I", Cond.fieldLink RX4 35 "HiddenFactsModel" "values" "[I", Cond.fieldLink RX4 29 "HiddenFactsModel" "makes" "[Z", Cond.fieldLink RX4 26 "HiddenFactsModel" "facts" "[I", Cond.methodLink RX4 175 yX4_build, Cond.instanceMethod yX4_build, Cond.selects RX4 yX4_build yX4_build, Cond.code yX4_build cX4_build 5 none, Cond.fieldLink RX4 62 "HiddenFactsModel" "belief" "[I", Cond.fieldLink RX4 71 "HiddenFactsModel" "numbered" "[I", Cond.fieldLink RX4 68 "HiddenFactsModel" "same" "[I", Cond.methodLink RX4 162 yX4_depthOf, Cond.static yX4_depthOf, Cond.code yX4_depthOf cX4_depthOf 3 (some .int), Cond.methodLink RX4 165 yX4_choose]
def wsX4_plan_r4 : List Cond := [Cond.instanceMethod yX4_choose, Cond.selects RX4 yX4_choose yX4_choose, Cond.code yX4_choose cX4_choose 5 none, Cond.fieldLink RX4 65 "HiddenFactsModel" "does" "[I", Cond.methodLink RX4 155 yX4_partSolved, Cond.instanceMethod yX4_partSolved, Cond.selects RX4 yX4_partSolved yX4_partSolved, Cond.code yX4_partSolved cX4_partSolved 6 (some .boolean), Cond.methodLink RX4 169 yX4_equal, Cond.instanceMethod yX4_equal, Cond.selects RX4 yX4_equal yX4_equal, Cond.code yX4_equal cX4_equal 3 (some .boolean), Cond.methodLink RX4 159 yX4_classOf, Cond.instanceMethod yX4_classOf, Cond.selects RX4 yX4_classOf yX4_classOf, Cond.code yX4_classOf cX4_classOf 2 (some .int), Cond.methodLink RX4 172 yX4_number, Cond.instanceMethod yX4_number, Cond.selects RX4 yX4_number yX4_number, Cond.code yX4_number cX4_number 5 none, Cond.fieldLink RX4 109 "HiddenFactsModel" "nodes" "I", Cond.fieldLink RX4 74 "HiddenFactsModel" "walk" "[I", Cond.fieldLink RX4 44 "HiddenFactsModel" "nodeAction" "[I", Cond.fieldLink RX4 47 "HiddenFactsModel" "nodeFirst" "[I"]
def wsX4_plan_r5 : List Cond := [Cond.fieldLink RX4 50 "HiddenFactsModel" "nodeSecond" "[I"]
def wsX4_plan : List Cond := .code yX4_plan cX4_plan 4 (some .int) :: ((wsX4_plan_r1 ++ (wsX4_plan_r2 ++ (wsX4_plan_r3 ++ (wsX4_plan_r4 ++ wsX4_plan_r5)))) ++ wsX40)
def wsX4_nodes : List Cond := .code yX4_nodes cX4_nodes 1 (some .int) :: ([.fieldLink RX4 93 "HiddenFactsModel" "thrown" "I", .fieldLink RX4 109 "HiddenFactsModel" "nodes" "I"] ++ wsX40)
def wsX4_node : List Cond := .code yX4_node cX4_node 3 (some .int) :: ([.fieldLink RX4 93 "HiddenFactsModel" "thrown" "I", .fieldLink RX4 109 "HiddenFactsModel" "nodes" "I", .fieldLink RX4 44 "HiddenFactsModel" "nodeAction" "[I", .fieldLink RX4 47 "HiddenFactsModel" "nodeFirst" "[I", .fieldLink RX4 50 "HiddenFactsModel" "nodeSecond" "[I", .methodLink RX4 96 yX4_within, .static yX4_within, .initialized RX4, .code yX4_within cX4_within 3 (some .boolean), .methodLink RX4 115 yX4_fail, .instanceMethod yX4_fail, .selects RX4 yX4_fail yX4_fail, .code yX4_fail cX4_fail 2 (some .int)] ++ wsX40)
def wsX4_edit : List Cond := .code yX4_edit cX4_edit 4 (some .int) :: ([.fieldLink RX4 93 "HiddenFactsModel" "thrown" "I", .fieldLink RX4 109 "HiddenFactsModel" "nodes" "I", .fieldLink RX4 7 "HiddenFactsModel" "there" "[Z", .fieldLink RX4 44 "HiddenFactsModel" "nodeAction" "[I", .methodLink RX4 96 yX4_within, .static yX4_within, .initialized RX4, .code yX4_within cX4_within 3 (some .boolean), .methodLink RX4 115 yX4_fail, .instanceMethod yX4_fail, .selects RX4 yX4_fail yX4_fail, .code yX4_fail cX4_fail 2 (some .int)] ++ wsX40)
def wsX4_right_r1 : List Cond := [Cond.fieldLink RX4 93 "HiddenFactsModel" "thrown" "I", Cond.fieldLink RX4 109 "HiddenFactsModel" "nodes" "I", Cond.fieldLink RX4 74 "HiddenFactsModel" "walk" "[I", Cond.fieldLink RX4 77 "HiddenFactsModel" "walkBelief" "[I", Cond.fieldLink RX4 44 "HiddenFactsModel" "nodeAction" "[I", Cond.fieldLink RX4 47 "HiddenFactsModel" "nodeFirst" "[I", Cond.fieldLink RX4 50 "HiddenFactsModel" "nodeSecond" "[I", Cond.methodLink RX4 115 yX4_fail, Cond.instanceMethod yX4_fail, Cond.selects RX4 yX4_fail yX4_fail, Cond.initialized RX4, Cond.code yX4_fail cX4_fail 2 (some .int), Cond.methodLink RX4 126 yX4_startBelief, Cond.instanceMethod yX4_startBelief, Cond.selects RX4 yX4_startBelief yX4_startBelief, Cond.code yX4_startBelief cX4_startBelief 5 (some .int), Cond.fieldLink RX4 100 "HiddenFactsModel" "clauses" "I", Cond.fieldLink RX4 38 "HiddenFactsModel" "trues" "[I", Cond.fieldLink RX4 41 "HiddenFactsModel" "falses" "[I", Cond.methodLink RX4 141 yX4_reached, Cond.instanceMethod yX4_reached, Cond.selects RX4 yX4_reached yX4_reached, Cond.code yX4_reached cX4_reached 4 (some .boolean), Cond.fieldLink RX4 103 "HiddenFactsModel" "goalMask" "I"]
def wsX4_right_r2 : List Cond := [Cond.fieldLink RX4 106 "HiddenFactsModel" "goalValue" "I", Cond.methodLink RX4 123 yX4_holds, Cond.static yX4_holds, Cond.code yX4_holds cX4_holds 3 (some .boolean), Cond.methodLink RX4 138 yX4_usable, Cond.instanceMethod yX4_usable, Cond.selects RX4 yX4_usable yX4_usable, Cond.code yX4_usable cX4_usable 5 (some .boolean), Cond.fieldLink RX4 7 "HiddenFactsModel" "there" "[Z", Cond.fieldLink RX4 13 "HiddenFactsModel" "mask" "[I", Cond.fieldLink RX4 17 "HiddenFactsModel" "value" "[I", Cond.methodLink RX4 145 yX4_part, Cond.instanceMethod yX4_part, Cond.selects RX4 yX4_part yX4_part, Cond.code yX4_part cX4_part 7 (some .int), Cond.fieldLink RX4 20 "HiddenFactsModel" "senses" "[I", Cond.methodLink RX4 134 yX4_after, Cond.instanceMethod yX4_after, Cond.selects RX4 yX4_after yX4_after, Cond.code yX4_after cX4_after 5 (some .int), Cond.methodLink RX4 130 yX4_next, Cond.instanceMethod yX4_next, Cond.selects RX4 yX4_next yX4_next, Cond.code yX4_next cX4_next 5 (some .int)]
def wsX4_right_r3 : List Cond := [Cond.fieldLink RX4 23 "HiddenFactsModel" "effects" "[I", Cond.fieldLink RX4 32 "HiddenFactsModel" "masks" "[I", Cond.fieldLink RX4 35 "HiddenFactsModel" "values" "[I", Cond.fieldLink RX4 29 "HiddenFactsModel" "makes" "[Z", Cond.fieldLink RX4 26 "HiddenFactsModel" "facts" "[I"]
def wsX4_right : List Cond := .code yX4_right cX4_right 9 (some .boolean) :: ((wsX4_right_r1 ++ (wsX4_right_r2 ++ wsX4_right_r3)) ++ wsX40)
def wsX4_hide : List Cond := .code yX4_hide cX4_hide 2 (some .boolean) :: ([.fieldLink RX4 93 "HiddenFactsModel" "thrown" "I", .fieldLink RX4 80 "HiddenFactsModel" "hidden" "I", .methodLink RX4 96 yX4_within, .static yX4_within, .initialized RX4, .code yX4_within cX4_within 3 (some .boolean), .methodLink RX4 115 yX4_fail, .instanceMethod yX4_fail, .selects RX4 yX4_fail yX4_fail, .code yX4_fail cX4_fail 2 (some .int), .methodLink RX4 126 yX4_startBelief, .instanceMethod yX4_startBelief, .selects RX4 yX4_startBelief yX4_startBelief, .code yX4_startBelief cX4_startBelief 5 (some .int), .fieldLink RX4 100 "HiddenFactsModel" "clauses" "I", .fieldLink RX4 38 "HiddenFactsModel" "trues" "[I", .fieldLink RX4 41 "HiddenFactsModel" "falses" "[I"] ++ wsX40)
def wsX4_execute_r1 : List Cond := [Cond.fieldLink RX4 93 "HiddenFactsModel" "thrown" "I", Cond.fieldLink RX4 109 "HiddenFactsModel" "nodes" "I", Cond.fieldLink RX4 80 "HiddenFactsModel" "hidden" "I", Cond.fieldLink RX4 112 "HiddenFactsModel" "made" "I", Cond.fieldLink RX4 44 "HiddenFactsModel" "nodeAction" "[I", Cond.fieldLink RX4 7 "HiddenFactsModel" "there" "[Z", Cond.fieldLink RX4 13 "HiddenFactsModel" "mask" "[I", Cond.fieldLink RX4 17 "HiddenFactsModel" "value" "[I", Cond.fieldLink RX4 84 "HiddenFactsModel" "trace" "[I", Cond.fieldLink RX4 20 "HiddenFactsModel" "senses" "[I", Cond.fieldLink RX4 50 "HiddenFactsModel" "nodeSecond" "[I", Cond.fieldLink RX4 47 "HiddenFactsModel" "nodeFirst" "[I", Cond.fieldLink RX4 103 "HiddenFactsModel" "goalMask" "I", Cond.fieldLink RX4 106 "HiddenFactsModel" "goalValue" "I", Cond.methodLink RX4 115 yX4_fail, Cond.instanceMethod yX4_fail, Cond.selects RX4 yX4_fail yX4_fail, Cond.initialized RX4, Cond.code yX4_fail cX4_fail 2 (some .int), Cond.methodLink RX4 123 yX4_holds, Cond.static yX4_holds, Cond.code yX4_holds cX4_holds 3 (some .boolean), Cond.methodLink RX4 130 yX4_next, Cond.instanceMethod yX4_next]
def wsX4_execute_r2 : List Cond := [Cond.selects RX4 yX4_next yX4_next, Cond.code yX4_next cX4_next 5 (some .int), Cond.fieldLink RX4 23 "HiddenFactsModel" "effects" "[I", Cond.fieldLink RX4 32 "HiddenFactsModel" "masks" "[I", Cond.fieldLink RX4 35 "HiddenFactsModel" "values" "[I", Cond.fieldLink RX4 29 "HiddenFactsModel" "makes" "[Z", Cond.fieldLink RX4 26 "HiddenFactsModel" "facts" "[I"]
def wsX4_execute : List Cond := .code yX4_execute cX4_execute 5 (some .boolean) :: ((wsX4_execute_r1 ++ wsX4_execute_r2) ++ wsX40)
def wsX4_made : List Cond := .code yX4_made cX4_made 1 (some .int) :: ([.fieldLink RX4 93 "HiddenFactsModel" "thrown" "I", .fieldLink RX4 112 "HiddenFactsModel" "made" "I"] ++ wsX40)
def wsX4_trace : List Cond := .code yX4_trace cX4_trace 2 (some .int) :: ([.fieldLink RX4 93 "HiddenFactsModel" "thrown" "I", .fieldLink RX4 112 "HiddenFactsModel" "made" "I", .fieldLink RX4 84 "HiddenFactsModel" "trace" "[I", .methodLink RX4 96 yX4_within, .static yX4_within, .initialized RX4, .code yX4_within cX4_within 3 (some .boolean), .methodLink RX4 115 yX4_fail, .instanceMethod yX4_fail, .selects RX4 yX4_fail yX4_fail, .code yX4_fail cX4_fail 2 (some .int)] ++ wsX40)
def wsX4_make : List Cond := .code yX4_make cX4_make 7 none :: ([.fieldLink RX4 87 "HiddenFactsModel" "at" "[I", .fieldLink RX4 20 "HiddenFactsModel" "senses" "[I", .fieldLink RX4 90 "HiddenFactsModel" "apart" "[I", .methodLink RX4 130 yX4_next, .instanceMethod yX4_next, .selects RX4 yX4_next yX4_next, .initialized RX4, .code yX4_next cX4_next 5 (some .int), .fieldLink RX4 23 "HiddenFactsModel" "effects" "[I", .fieldLink RX4 32 "HiddenFactsModel" "masks" "[I", .fieldLink RX4 35 "HiddenFactsModel" "values" "[I", .fieldLink RX4 29 "HiddenFactsModel" "makes" "[Z", .fieldLink RX4 26 "HiddenFactsModel" "facts" "[I", .methodLink RX4 123 yX4_holds, .static yX4_holds, .code yX4_holds cX4_holds 3 (some .boolean)] ++ wsX40)
def wsX4_beliefAt : List Cond := .code yX4_beliefAt cX4_beliefAt 5 (some .int) :: ([.fieldLink RX4 87 "HiddenFactsModel" "at" "[I"] ++ wsX40)
def wsX4_twins_r1 : List Cond := [Cond.fieldLink RX4 93 "HiddenFactsModel" "thrown" "I", Cond.fieldLink RX4 90 "HiddenFactsModel" "apart" "[I", Cond.fieldLink RX4 87 "HiddenFactsModel" "at" "[I", Cond.methodLink RX4 126 yX4_startBelief, Cond.instanceMethod yX4_startBelief, Cond.selects RX4 yX4_startBelief yX4_startBelief, Cond.initialized RX4, Cond.code yX4_startBelief cX4_startBelief 5 (some .int), Cond.fieldLink RX4 100 "HiddenFactsModel" "clauses" "I", Cond.fieldLink RX4 38 "HiddenFactsModel" "trues" "[I", Cond.fieldLink RX4 41 "HiddenFactsModel" "falses" "[I", Cond.methodLink RX4 178 yX4_beliefAt, Cond.instanceMethod yX4_beliefAt, Cond.selects RX4 yX4_beliefAt yX4_beliefAt, Cond.code yX4_beliefAt cX4_beliefAt 5 (some .int), Cond.methodLink RX4 138 yX4_usable, Cond.instanceMethod yX4_usable, Cond.selects RX4 yX4_usable yX4_usable, Cond.code yX4_usable cX4_usable 5 (some .boolean), Cond.fieldLink RX4 7 "HiddenFactsModel" "there" "[Z", Cond.fieldLink RX4 13 "HiddenFactsModel" "mask" "[I", Cond.fieldLink RX4 17 "HiddenFactsModel" "value" "[I", Cond.methodLink RX4 123 yX4_holds, Cond.static yX4_holds]
def wsX4_twins_r2 : List Cond := [Cond.code yX4_holds cX4_holds 3 (some .boolean), Cond.methodLink RX4 181 yX4_make, Cond.instanceMethod yX4_make, Cond.selects RX4 yX4_make yX4_make, Cond.code yX4_make cX4_make 7 none, Cond.fieldLink RX4 20 "HiddenFactsModel" "senses" "[I", Cond.methodLink RX4 130 yX4_next, Cond.instanceMethod yX4_next, Cond.selects RX4 yX4_next yX4_next, Cond.code yX4_next cX4_next 5 (some .int), Cond.fieldLink RX4 23 "HiddenFactsModel" "effects" "[I", Cond.fieldLink RX4 32 "HiddenFactsModel" "masks" "[I", Cond.fieldLink RX4 35 "HiddenFactsModel" "values" "[I", Cond.fieldLink RX4 29 "HiddenFactsModel" "makes" "[Z", Cond.fieldLink RX4 26 "HiddenFactsModel" "facts" "[I", Cond.methodLink RX4 115 yX4_fail, Cond.instanceMethod yX4_fail, Cond.selects RX4 yX4_fail yX4_fail, Cond.code yX4_fail cX4_fail 2 (some .int)]
def wsX4_twins : List Cond := .code yX4_twins cX4_twins 6 (some .int) :: ((wsX4_twins_r1 ++ wsX4_twins_r2) ++ wsX40)
def wsL_action_r1 : List Cond := [Cond.classLink RL 13 "java/lang/IndexOutOfBoundsException", Cond.classLink RL 15 "java/lang/IllegalArgumentException", Cond.methodLink RL 7 yX3_action, Cond.instanceMethod yX3_action, Cond.selects RX3 yX3_action yX3_action, Cond.initialized RX3, Cond.code yX3_action cX3_action 6 (some .boolean), Cond.classLink RX3 49 "java/lang/IllegalArgumentException", Cond.initialized "java/lang/IllegalArgumentException", Cond.fieldLink RX3 11 "HiddenFacts" "actions" "[LHiddenFacts$Action;", Cond.fieldLink RX3 60 "HiddenFacts" "TRUE_IN" "[I", Cond.methodLink RX3 41 yX3_needNumber, Cond.static yX3_needNumber, Cond.code yX3_needNumber cX3_needNumber 1 none, Cond.classLink RX3 144 "java/lang/IndexOutOfBoundsException", Cond.initialized "java/lang/IndexOutOfBoundsException", Cond.methodLink RX3 45 yX3_needBits, Cond.static yX3_needBits, Cond.code yX3_needBits cX3_needBits 2 none, Cond.methodLink RX3 56 yX3_demanded, Cond.static yX3_demanded, Cond.code yX3_demanded cX3_demanded 4 (some .int), Cond.methodLink RX3 63 yX0_begin, Cond.instanceMethod yX0_begin]
def wsL_action_r2 : List Cond := [Cond.selects RX0 yX0_begin yX0_begin, Cond.initialized RX0, Cond.code yX0_begin cX0_begin 4 none, Cond.fieldLink RX0 15 "HiddenFacts$Action" "there" "Z", Cond.fieldLink RX0 19 "HiddenFacts$Action" "condition" "I", Cond.fieldLink RX0 23 "HiddenFacts$Action" "senses" "I", Cond.fieldLink RX0 26 "HiddenFacts$Action" "effects" "I", Cond.fieldLink RX0 9 "HiddenFacts$Action" "next" "[I"]
def wsL_action : List Cond := .codeWith yL_action cL_action 7 (some .int) [(0, 21, 24, 13), (0, 21, 28, 15)] :: ((wsL_action_r1 ++ wsL_action_r2) ++ wsX30 ++ wsX00 ++ (vx_atS RX3 53 "java/lang/IllegalArgumentException" ["java/lang/RuntimeException", "java/lang/Exception"]).filter goodWord ++ (vx_atS RX3 148 "java/lang/IndexOutOfBoundsException" ["java/lang/RuntimeException", "java/lang/Exception"]).filter goodWord)
def wsL_effect_r1 : List Cond := [Cond.classLink RL 13 "java/lang/IndexOutOfBoundsException", Cond.classLink RL 21 "java/util/NoSuchElementException", Cond.classLink RL 15 "java/lang/IllegalArgumentException", Cond.classLink RL 23 "java/lang/IllegalStateException", Cond.methodLink RL 17 yX3_effect, Cond.instanceMethod yX3_effect, Cond.selects RX3 yX3_effect yX3_effect, Cond.initialized RX3, Cond.code yX3_effect cX3_effect 6 (some .int), Cond.classLink RX3 49 "java/lang/IllegalArgumentException", Cond.initialized "java/lang/IllegalArgumentException", Cond.classLink RX3 75 "java/lang/IllegalStateException", Cond.initialized "java/lang/IllegalStateException", Cond.fieldLink RX3 11 "HiddenFacts" "actions" "[LHiddenFacts$Action;", Cond.methodLink RX3 41 yX3_needNumber, Cond.static yX3_needNumber, Cond.code yX3_needNumber cX3_needNumber 1 none, Cond.classLink RX3 144 "java/lang/IndexOutOfBoundsException", Cond.initialized "java/lang/IndexOutOfBoundsException", Cond.methodLink RX3 66 yX3_needThere, Cond.instanceMethod yX3_needThere, Cond.selects RX3 yX3_needThere yX3_needThere, Cond.code yX3_needThere cX3_needThere 2 none, Cond.classLink RX3 194 "java/util/NoSuchElementException"]
def wsL_effect_r2 : List Cond := [Cond.initialized "java/util/NoSuchElementException", Cond.methodLink RX3 45 yX3_needBits, Cond.static yX3_needBits, Cond.code yX3_needBits cX3_needBits 2 none, Cond.methodLink RX3 56 yX3_demanded, Cond.static yX3_demanded, Cond.code yX3_demanded cX3_demanded 4 (some .int), Cond.methodLink RX3 80 yX0_addEffect, Cond.instanceMethod yX0_addEffect, Cond.selects RX0 yX0_addEffect yX0_addEffect, Cond.initialized RX0, Cond.code yX0_addEffect cX0_addEffect 5 none, Cond.fieldLink RX0 9 "HiddenFacts$Action" "next" "[I", Cond.fieldLink RX0 26 "HiddenFacts$Action" "effects" "I", Cond.static yX3_isIn, Cond.code yX3_isIn cX3_isIn 2 (some .boolean)]
def wsL_effect : List Cond := .codeWith yL_effect cL_effect 8 (some .int) [(0, 16, 19, 13), (0, 16, 23, 21), (0, 16, 27, 15), (0, 16, 31, 23)] :: ((wsL_effect_r1 ++ wsL_effect_r2) ++ wsX30 ++ wsX00 ++ (vx_atS RX3 53 "java/lang/IllegalArgumentException" ["java/lang/RuntimeException", "java/lang/Exception"]).filter goodWord ++ (vx_atS RX3 79 "java/lang/IllegalStateException" ["java/lang/RuntimeException", "java/lang/Exception"]).filter goodWord ++ (vx_atS RX3 148 "java/lang/IndexOutOfBoundsException" ["java/lang/RuntimeException", "java/lang/Exception"]).filter goodWord ++ (xn_atS RX3 198 "java/util/NoSuchElementException" ["java/lang/RuntimeException", "java/lang/Exception"]).filter goodWord)
def wsL_clause : List Cond := .codeWith yL_clause cL_clause 5 (some .int) [(0, 10, 13, 15), (0, 10, 17, 23)] :: ([.classLink RL 15 "java/lang/IllegalArgumentException", .classLink RL 23 "java/lang/IllegalStateException", .methodLink RL 25 yX3_clause, .instanceMethod yX3_clause, .selects RX3 yX3_clause yX3_clause, .initialized RX3, .code yX3_clause cX3_clause 3 (some .int), .classLink RX3 75 "java/lang/IllegalStateException", .initialized "java/lang/IllegalStateException", .fieldLink RX3 84 "HiddenFacts" "clauses" "I", .fieldLink RX3 89 "HiddenFacts" "startBelief" "I", .methodLink RX3 45 yX3_needBits, .static yX3_needBits, .code yX3_needBits cX3_needBits 2 none, .classLink RX3 49 "java/lang/IllegalArgumentException", .initialized "java/lang/IllegalArgumentException", .methodLink RX3 92 yX3_allowed, .static yX3_allowed, .code yX3_allowed cX3_allowed 4 (some .int)] ++ wsX30 ++ (vx_atS RX3 79 "java/lang/IllegalStateException" ["java/lang/RuntimeException", "java/lang/Exception"]).filter goodWord ++ (vx_atS RX3 53 "java/lang/IllegalArgumentException" ["java/lang/RuntimeException", "java/lang/Exception"]).filter goodWord)
def wsL_goal : List Cond := .codeWith yL_goal cL_goal 5 (some .int) [(0, 10, 13, 15)] :: ([.classLink RL 15 "java/lang/IllegalArgumentException", .methodLink RL 29 yX3_goal, .instanceMethod yX3_goal, .selects RX3 yX3_goal yX3_goal, .initialized RX3, .code yX3_goal cX3_goal 3 (some .int), .fieldLink RX3 95 "HiddenFacts" "goalStates" "I", .methodLink RX3 45 yX3_needBits, .static yX3_needBits, .code yX3_needBits cX3_needBits 2 none, .classLink RX3 49 "java/lang/IllegalArgumentException", .initialized "java/lang/IllegalArgumentException", .methodLink RX3 56 yX3_demanded, .static yX3_demanded, .code yX3_demanded cX3_demanded 4 (some .int), .methodLink RX3 98 yJ6_bitCount_0f7a4, .static yJ6_bitCount_0f7a4, .initialized RJ6, .code yJ6_bitCount_0f7a4 cJ6_bitCount_0f7a4 1 (some .int), .constant RJ6 265 (1431655765), .constant RJ6 266 (858993459), .constant RJ6 267 (252645135)] ++ wsX30 ++ (vx_atS RX3 53 "java/lang/IllegalArgumentException" ["java/lang/RuntimeException", "java/lang/Exception"]).filter goodWord)
def wsL_behind_r1 : List Cond := [Cond.classLink RL 13 "java/lang/IndexOutOfBoundsException", Cond.classLink RL 21 "java/util/NoSuchElementException", Cond.classLink RL 15 "java/lang/IllegalArgumentException", Cond.classLink RL 35 "java/lang/UnsupportedOperationException", Cond.methodLink RL 32 yX3_behind, Cond.instanceMethod yX3_behind, Cond.selects RX3 yX3_behind yX3_behind, Cond.initialized RX3, Cond.code yX3_behind cX3_behind 3 (some .int), Cond.classLink RX3 49 "java/lang/IllegalArgumentException", Cond.initialized "java/lang/IllegalArgumentException", Cond.classLink RX3 111 "java/lang/UnsupportedOperationException", Cond.initialized "java/lang/UnsupportedOperationException", Cond.constant RX3 104 (65535), Cond.fieldLink RX3 11 "HiddenFacts" "actions" "[LHiddenFacts$Action;", Cond.methodLink RX3 41 yX3_needNumber, Cond.static yX3_needNumber, Cond.code yX3_needNumber cX3_needNumber 1 none, Cond.classLink RX3 144 "java/lang/IndexOutOfBoundsException", Cond.initialized "java/lang/IndexOutOfBoundsException", Cond.methodLink RX3 66 yX3_needThere, Cond.instanceMethod yX3_needThere, Cond.selects RX3 yX3_needThere yX3_needThere, Cond.code yX3_needThere cX3_needThere 2 none]
def wsL_behind_r2 : List Cond := [Cond.classLink RX3 194 "java/util/NoSuchElementException", Cond.initialized "java/util/NoSuchElementException", Cond.methodLink RX3 107 yX0_usable, Cond.instanceMethod yX0_usable, Cond.selects RX0 yX0_usable yX0_usable, Cond.initialized RX0, Cond.code yX0_usable cX0_usable 2 (some .boolean), Cond.fieldLink RX0 15 "HiddenFacts$Action" "there" "Z", Cond.fieldLink RX0 19 "HiddenFacts$Action" "condition" "I", Cond.methodLink RX3 116 yX0_after, Cond.instanceMethod yX0_after, Cond.selects RX0 yX0_after yX0_after, Cond.code yX0_after cX0_after 4 (some .int), Cond.fieldLink RX0 9 "HiddenFacts$Action" "next" "[I", Cond.static yX3_isIn, Cond.code yX3_isIn cX3_isIn 2 (some .boolean)]
def wsL_behind : List Cond := .codeWith yL_behind cL_behind 5 (some .int) [(0, 10, 13, 13), (0, 10, 17, 21), (0, 10, 21, 15), (0, 10, 25, 35)] :: ((wsL_behind_r1 ++ wsL_behind_r2) ++ wsX30 ++ wsX00 ++ (vx_atS RX3 53 "java/lang/IllegalArgumentException" ["java/lang/RuntimeException", "java/lang/Exception"]).filter goodWord ++ (vx_atS RX3 115 "java/lang/UnsupportedOperationException" ["java/lang/RuntimeException", "java/lang/Exception"]).filter goodWord ++ (vx_atS RX3 148 "java/lang/IndexOutOfBoundsException" ["java/lang/RuntimeException", "java/lang/Exception"]).filter goodWord ++ (xn_atS RX3 198 "java/util/NoSuchElementException" ["java/lang/RuntimeException", "java/lang/Exception"]).filter goodWord)
def wsL_least_r1 : List Cond := [Cond.classLink RL 15 "java/lang/IllegalArgumentException", Cond.classLink RL 21 "java/util/NoSuchElementException", Cond.methodLink RL 37 yX3_least, Cond.instanceMethod yX3_least, Cond.selects RX3 yX3_least yX3_least, Cond.initialized RX3, Cond.code yX3_least cX3_least 3 (some .int), Cond.classLink RX3 49 "java/lang/IllegalArgumentException", Cond.initialized "java/lang/IllegalArgumentException", Cond.constant RX3 104 (65535), Cond.methodLink RX3 121 yX3_needDepth, Cond.static yX3_needDepth, Cond.code yX3_needDepth cX3_needDepth 1 none, Cond.methodLink RX3 124 yX3_fewest, Cond.instanceMethod yX3_fewest, Cond.selects RX3 yX3_fewest yX3_fewest, Cond.code yX3_fewest cX3_fewest 4 (some .int), Cond.methodLink RX3 213 yX3_solved, Cond.instanceMethod yX3_solved, Cond.selects RX3 yX3_solved yX3_solved, Cond.code yX3_solved cX3_solved 3 (some .boolean), Cond.methodLink RX3 216 yX3_reached, Cond.instanceMethod yX3_reached, Cond.selects RX3 yX3_reached yX3_reached]
def wsL_least_r2 : List Cond := [Cond.code yX3_reached cX3_reached 2 (some .boolean), Cond.fieldLink RX3 95 "HiddenFacts" "goalStates" "I", Cond.methodLink RX3 219 yX3_leastAction, Cond.instanceMethod yX3_leastAction, Cond.selects RX3 yX3_leastAction yX3_leastAction, Cond.code yX3_leastAction cX3_leastAction 4 (some .int), Cond.fieldLink RX3 11 "HiddenFacts" "actions" "[LHiddenFacts$Action;", Cond.methodLink RX3 107 yX0_usable, Cond.instanceMethod yX0_usable, Cond.selects RX0 yX0_usable yX0_usable, Cond.initialized RX0, Cond.code yX0_usable cX0_usable 2 (some .boolean), Cond.fieldLink RX0 15 "HiddenFacts$Action" "there" "Z", Cond.fieldLink RX0 19 "HiddenFacts$Action" "condition" "I", Cond.methodLink RX3 222 yX3_solves, Cond.instanceMethod yX3_solves, Cond.selects RX3 yX3_solves yX3_solves, Cond.code yX3_solves cX3_solves 5 (some .boolean), Cond.methodLink RX3 116 yX0_after, Cond.instanceMethod yX0_after, Cond.selects RX0 yX0_after yX0_after, Cond.code yX0_after cX0_after 4 (some .int), Cond.fieldLink RX0 9 "HiddenFacts$Action" "next" "[I", Cond.static yX3_isIn]
def wsL_least_r3 : List Cond := [Cond.code yX3_isIn cX3_isIn 2 (some .boolean), Cond.methodLink RX3 226 yX0_part, Cond.instanceMethod yX0_part, Cond.selects RX0 yX0_part yX0_part, Cond.code yX0_part cX0_part 3 (some .int), Cond.fieldLink RX0 23 "HiddenFacts$Action" "senses" "I", Cond.methodLink RX3 127 yX3_needSolved, Cond.static yX3_needSolved, Cond.code yX3_needSolved cX3_needSolved 1 (some .int), Cond.classLink RX3 194 "java/util/NoSuchElementException", Cond.initialized "java/util/NoSuchElementException"]
def wsL_least : List Cond := .codeWith yL_least cL_least 5 (some .int) [(0, 10, 13, 15), (0, 10, 17, 21)] :: ((wsL_least_r1 ++ (wsL_least_r2 ++ wsL_least_r3)) ++ wsX30 ++ wsX00 ++ (vx_atS RX3 53 "java/lang/IllegalArgumentException" ["java/lang/RuntimeException", "java/lang/Exception"]).filter goodWord ++ (xn_atS RX3 198 "java/util/NoSuchElementException" ["java/lang/RuntimeException", "java/lang/Exception"]).filter goodWord)
def wsL_plan_r1 : List Cond := [Cond.classLink RL 15 "java/lang/IllegalArgumentException", Cond.classLink RL 23 "java/lang/IllegalStateException", Cond.classLink RL 21 "java/util/NoSuchElementException", Cond.methodLink RL 40 yX3_plan, Cond.instanceMethod yX3_plan, Cond.selects RX3 yX3_plan yX3_plan, Cond.initialized RX3, Cond.code yX3_plan cX3_plan 3 (some .int), Cond.classLink RX3 75 "java/lang/IllegalStateException", Cond.initialized "java/lang/IllegalStateException", Cond.fieldLink RX3 89 "HiddenFacts" "startBelief" "I", Cond.fieldLink RX3 18 "HiddenFacts" "tree" "LHiddenFacts$Tree;", Cond.methodLink RX3 121 yX3_needDepth, Cond.static yX3_needDepth, Cond.code yX3_needDepth cX3_needDepth 1 none, Cond.classLink RX3 49 "java/lang/IllegalArgumentException", Cond.initialized "java/lang/IllegalArgumentException", Cond.methodLink RX3 124 yX3_fewest, Cond.instanceMethod yX3_fewest, Cond.selects RX3 yX3_fewest yX3_fewest, Cond.code yX3_fewest cX3_fewest 4 (some .int), Cond.methodLink RX3 213 yX3_solved, Cond.instanceMethod yX3_solved, Cond.selects RX3 yX3_solved yX3_solved]
def wsL_plan_r2 : List Cond := [Cond.code yX3_solved cX3_solved 3 (some .boolean), Cond.methodLink RX3 216 yX3_reached, Cond.instanceMethod yX3_reached, Cond.selects RX3 yX3_reached yX3_reached, Cond.code yX3_reached cX3_reached 2 (some .boolean), Cond.fieldLink RX3 95 "HiddenFacts" "goalStates" "I", Cond.methodLink RX3 219 yX3_leastAction, Cond.instanceMethod yX3_leastAction, Cond.selects RX3 yX3_leastAction yX3_leastAction, Cond.code yX3_leastAction cX3_leastAction 4 (some .int), Cond.fieldLink RX3 11 "HiddenFacts" "actions" "[LHiddenFacts$Action;", Cond.methodLink RX3 107 yX0_usable, Cond.instanceMethod yX0_usable, Cond.selects RX0 yX0_usable yX0_usable, Cond.initialized RX0, Cond.code yX0_usable cX0_usable 2 (some .boolean), Cond.fieldLink RX0 15 "HiddenFacts$Action" "there" "Z", Cond.fieldLink RX0 19 "HiddenFacts$Action" "condition" "I", Cond.methodLink RX3 222 yX3_solves, Cond.instanceMethod yX3_solves, Cond.selects RX3 yX3_solves yX3_solves, Cond.code yX3_solves cX3_solves 5 (some .boolean), Cond.methodLink RX3 116 yX0_after, Cond.instanceMethod yX0_after]
def wsL_plan_r3 : List Cond := [Cond.selects RX0 yX0_after yX0_after, Cond.code yX0_after cX0_after 4 (some .int), Cond.fieldLink RX0 9 "HiddenFacts$Action" "next" "[I", Cond.static yX3_isIn, Cond.code yX3_isIn cX3_isIn 2 (some .boolean), Cond.methodLink RX3 226 yX0_part, Cond.instanceMethod yX0_part, Cond.selects RX0 yX0_part yX0_part, Cond.code yX0_part cX0_part 3 (some .int), Cond.fieldLink RX0 23 "HiddenFacts$Action" "senses" "I", Cond.methodLink RX3 127 yX3_needSolved, Cond.static yX3_needSolved, Cond.code yX3_needSolved cX3_needSolved 1 (some .int), Cond.classLink RX3 194 "java/util/NoSuchElementException", Cond.initialized "java/util/NoSuchElementException", Cond.methodLink RX3 132 yX2_empty, Cond.instanceMethod yX2_empty, Cond.selects RX2 yX2_empty yX2_empty, Cond.initialized RX2, Cond.code yX2_empty cX2_empty 1 none, Cond.fieldLink RX2 13 "HiddenFacts$Tree" "count" "I", Cond.methodLink RX3 135 yX3_grow, Cond.instanceMethod yX3_grow, Cond.selects RX3 yX3_grow yX3_grow]
def wsL_plan_r4 : List Cond := [Cond.code yX3_grow cX3_grow 8 (some .int), Cond.methodLink RX3 229 yX2_open, Cond.instanceMethod yX2_open, Cond.selects RX2 yX2_open yX2_open, Cond.code yX2_open cX2_open 1 (some .int), Cond.methodLink RX2 17 yX2_setAction, Cond.instanceMethod yX2_setAction, Cond.selects RX2 yX2_setAction yX2_setAction, Cond.code yX2_setAction cX2_setAction 3 none, Cond.fieldLink RX2 9 "HiddenFacts$Tree" "cells" "[I", Cond.methodLink RX3 231 yX2_close, Cond.instanceMethod yX2_close, Cond.selects RX2 yX2_close yX2_close, Cond.code yX2_close cX2_close 6 (some .int), Cond.methodLink RX2 21 yX2_cell, Cond.instanceMethod yX2_cell, Cond.selects RX2 yX2_cell yX2_cell, Cond.code yX2_cell cX2_cell 3 (some .int), Cond.methodLink RX3 235 yX3_growPart, Cond.instanceMethod yX3_growPart, Cond.selects RX3 yX3_growPart yX3_growPart, Cond.code yX3_growPart cX3_growPart 3 (some .int)]
def wsL_plan : List Cond := .codeWith yL_plan cL_plan 4 (some .int) [(0, 9, 12, 15), (0, 9, 15, 23), (0, 9, 18, 21)] :: ((wsL_plan_r1 ++ (wsL_plan_r2 ++ (wsL_plan_r3 ++ wsL_plan_r4))) ++ wsX30 ++ wsX00 ++ wsX20 ++ (vx_atS RX3 79 "java/lang/IllegalStateException" ["java/lang/RuntimeException", "java/lang/Exception"]).filter goodWord ++ (vx_atS RX3 53 "java/lang/IllegalArgumentException" ["java/lang/RuntimeException", "java/lang/Exception"]).filter goodWord ++ (xn_atS RX3 198 "java/util/NoSuchElementException" ["java/lang/RuntimeException", "java/lang/Exception"]).filter goodWord)
def wsL_node : List Cond := .codeWith yL_node cL_node 5 (some .int) [(0, 10, 13, 13)] :: ([.classLink RL 13 "java/lang/IndexOutOfBoundsException", .methodLink RL 44 yX3_node, .instanceMethod yX3_node, .selects RX3 yX3_node yX3_node, .initialized RX3, .code yX3_node cX3_node 3 (some .int), .classLink RX3 144 "java/lang/IndexOutOfBoundsException", .initialized "java/lang/IndexOutOfBoundsException", .fieldLink RX3 18 "HiddenFacts" "tree" "LHiddenFacts$Tree;", .methodLink RX3 141 yX3_needNode, .instanceMethod yX3_needNode, .selects RX3 yX3_needNode yX3_needNode, .code yX3_needNode cX3_needNode 2 none, .methodLink RX3 149 yX2_cell, .instanceMethod yX2_cell, .selects RX2 yX2_cell yX2_cell, .initialized RX2, .code yX2_cell cX2_cell 3 (some .int), .fieldLink RX2 9 "HiddenFacts$Tree" "cells" "[I"] ++ wsX30 ++ wsX20 ++ (vx_atS RX3 148 "java/lang/IndexOutOfBoundsException" ["java/lang/RuntimeException", "java/lang/Exception"]).filter goodWord)
def wsL_edit_r1 : List Cond := [Cond.classLink RL 13 "java/lang/IndexOutOfBoundsException", Cond.classLink RL 21 "java/util/NoSuchElementException", Cond.classLink RL 35 "java/lang/UnsupportedOperationException", Cond.methodLink RL 47 yX3_edit, Cond.instanceMethod yX3_edit, Cond.selects RX3 yX3_edit yX3_edit, Cond.initialized RX3, Cond.code yX3_edit cX3_edit 4 (some .int), Cond.classLink RX3 111 "java/lang/UnsupportedOperationException", Cond.initialized "java/lang/UnsupportedOperationException", Cond.fieldLink RX3 18 "HiddenFacts" "tree" "LHiddenFacts$Tree;", Cond.methodLink RX3 141 yX3_needNode, Cond.instanceMethod yX3_needNode, Cond.selects RX3 yX3_needNode yX3_needNode, Cond.code yX3_needNode cX3_needNode 2 none, Cond.classLink RX3 144 "java/lang/IndexOutOfBoundsException", Cond.initialized "java/lang/IndexOutOfBoundsException", Cond.methodLink RX3 41 yX3_needNumber, Cond.static yX3_needNumber, Cond.code yX3_needNumber cX3_needNumber 1 none, Cond.methodLink RX3 66 yX3_needThere, Cond.instanceMethod yX3_needThere, Cond.selects RX3 yX3_needThere yX3_needThere, Cond.code yX3_needThere cX3_needThere 2 none]
def wsL_edit_r2 : List Cond := [Cond.classLink RX3 194 "java/util/NoSuchElementException", Cond.initialized "java/util/NoSuchElementException", Cond.fieldLink RX3 11 "HiddenFacts" "actions" "[LHiddenFacts$Action;", Cond.methodLink RX3 149 yX2_cell, Cond.instanceMethod yX2_cell, Cond.selects RX2 yX2_cell yX2_cell, Cond.initialized RX2, Cond.code yX2_cell cX2_cell 3 (some .int), Cond.fieldLink RX2 9 "HiddenFacts$Tree" "cells" "[I", Cond.methodLink RX3 154 yX2_setAction, Cond.instanceMethod yX2_setAction, Cond.selects RX2 yX2_setAction yX2_setAction, Cond.code yX2_setAction cX2_setAction 3 none]
def wsL_edit : List Cond := .codeWith yL_edit cL_edit 5 (some .int) [(0, 10, 13, 13), (0, 10, 17, 21), (0, 10, 21, 35)] :: ((wsL_edit_r1 ++ wsL_edit_r2) ++ wsX30 ++ wsX20 ++ wsX00 ++ (vx_atS RX3 115 "java/lang/UnsupportedOperationException" ["java/lang/RuntimeException", "java/lang/Exception"]).filter goodWord ++ (vx_atS RX3 148 "java/lang/IndexOutOfBoundsException" ["java/lang/RuntimeException", "java/lang/Exception"]).filter goodWord ++ (xn_atS RX3 198 "java/util/NoSuchElementException" ["java/lang/RuntimeException", "java/lang/Exception"]).filter goodWord)
def wsL_right_r1 : List Cond := [Cond.classLink RL 23 "java/lang/IllegalStateException", Cond.methodLink RL 50 yX3_right, Cond.instanceMethod yX3_right, Cond.selects RX3 yX3_right yX3_right, Cond.initialized RX3, Cond.code yX3_right cX3_right 1 (some .boolean), Cond.fieldLink RX3 89 "HiddenFacts" "startBelief" "I", Cond.methodLink RX3 157 yX3_needPlan, Cond.instanceMethod yX3_needPlan, Cond.selects RX3 yX3_needPlan yX3_needPlan, Cond.code yX3_needPlan cX3_needPlan 1 none, Cond.classLink RX3 75 "java/lang/IllegalStateException", Cond.initialized "java/lang/IllegalStateException", Cond.fieldLink RX3 18 "HiddenFacts" "tree" "LHiddenFacts$Tree;", Cond.methodLink RX3 160 yX3_fits, Cond.instanceMethod yX3_fits, Cond.selects RX3 yX3_fits yX3_fits, Cond.code yX3_fits cX3_fits 6 (some .boolean), Cond.fieldLink RX3 11 "HiddenFacts" "actions" "[LHiddenFacts$Action;", Cond.methodLink RX3 149 yX2_cell, Cond.instanceMethod yX2_cell, Cond.selects RX2 yX2_cell yX2_cell, Cond.initialized RX2, Cond.code yX2_cell cX2_cell 3 (some .int)]
def wsL_right_r2 : List Cond := [Cond.fieldLink RX2 9 "HiddenFacts$Tree" "cells" "[I", Cond.methodLink RX3 216 yX3_reached, Cond.instanceMethod yX3_reached, Cond.selects RX3 yX3_reached yX3_reached, Cond.code yX3_reached cX3_reached 2 (some .boolean), Cond.fieldLink RX3 95 "HiddenFacts" "goalStates" "I", Cond.methodLink RX3 107 yX0_usable, Cond.instanceMethod yX0_usable, Cond.selects RX0 yX0_usable yX0_usable, Cond.initialized RX0, Cond.code yX0_usable cX0_usable 2 (some .boolean), Cond.fieldLink RX0 15 "HiddenFacts$Action" "there" "Z", Cond.fieldLink RX0 19 "HiddenFacts$Action" "condition" "I", Cond.methodLink RX3 116 yX0_after, Cond.instanceMethod yX0_after, Cond.selects RX0 yX0_after yX0_after, Cond.code yX0_after cX0_after 4 (some .int), Cond.fieldLink RX0 9 "HiddenFacts$Action" "next" "[I", Cond.static yX3_isIn, Cond.code yX3_isIn cX3_isIn 2 (some .boolean), Cond.methodLink RX3 226 yX0_part, Cond.instanceMethod yX0_part, Cond.selects RX0 yX0_part yX0_part, Cond.code yX0_part cX0_part 3 (some .int)]
def wsL_right_r3 : List Cond := [Cond.fieldLink RX0 23 "HiddenFacts$Action" "senses" "I"]
def wsL_right : List Cond := .codeWith yL_right cL_right 3 (some .int) [(0, 15, 18, 23)] :: ((wsL_right_r1 ++ (wsL_right_r2 ++ wsL_right_r3)) ++ wsX30 ++ wsX20 ++ wsX00 ++ (vx_atS RX3 79 "java/lang/IllegalStateException" ["java/lang/RuntimeException", "java/lang/Exception"]).filter goodWord)
def wsL_hide : List Cond := .codeWith yL_hide cL_hide 4 (some .int) [(0, 16, 19, 15)] :: ([.classLink RL 15 "java/lang/IllegalArgumentException", .methodLink RL 54 yX3_hide, .instanceMethod yX3_hide, .selects RX3 yX3_hide yX3_hide, .initialized RX3, .code yX3_hide cX3_hide 2 (some .boolean), .classLink RX3 49 "java/lang/IllegalArgumentException", .initialized "java/lang/IllegalArgumentException", .fieldLink RX3 166 "HiddenFacts" "hidden" "I", .fieldLink RX3 89 "HiddenFacts" "startBelief" "I", .methodLink RX3 169 yX3_isIn, .static yX3_isIn, .code yX3_isIn cX3_isIn 2 (some .boolean)] ++ wsX30 ++ (vx_atS RX3 53 "java/lang/IllegalArgumentException" ["java/lang/RuntimeException", "java/lang/Exception"]).filter goodWord)
def wsL_execute_r1 : List Cond := [Cond.classLink RL 23 "java/lang/IllegalStateException", Cond.methodLink RL 58 yX3_execute, Cond.instanceMethod yX3_execute, Cond.selects RX3 yX3_execute yX3_execute, Cond.initialized RX3, Cond.code yX3_execute cX3_execute 1 (some .boolean), Cond.classLink RX3 75 "java/lang/IllegalStateException", Cond.initialized "java/lang/IllegalStateException", Cond.fieldLink RX3 166 "HiddenFacts" "hidden" "I", Cond.methodLink RX3 157 yX3_needPlan, Cond.instanceMethod yX3_needPlan, Cond.selects RX3 yX3_needPlan yX3_needPlan, Cond.code yX3_needPlan cX3_needPlan 1 none, Cond.fieldLink RX3 18 "HiddenFacts" "tree" "LHiddenFacts$Tree;", Cond.methodLink RX3 175 yX3_carryOut, Cond.instanceMethod yX3_carryOut, Cond.selects RX3 yX3_carryOut yX3_carryOut, Cond.code yX3_carryOut cX3_carryOut 4 (some .boolean), Cond.fieldLink RX3 179 "HiddenFacts" "made" "I", Cond.fieldLink RX3 11 "HiddenFacts" "actions" "[LHiddenFacts$Action;", Cond.fieldLink RX3 29 "HiddenFacts" "trace" "[I", Cond.fieldLink RX3 95 "HiddenFacts" "goalStates" "I", Cond.methodLink RX3 149 yX2_cell, Cond.instanceMethod yX2_cell]
def wsL_execute_r2 : List Cond := [Cond.selects RX2 yX2_cell yX2_cell, Cond.initialized RX2, Cond.code yX2_cell cX2_cell 3 (some .int), Cond.fieldLink RX2 9 "HiddenFacts$Tree" "cells" "[I", Cond.methodLink RX3 107 yX0_usable, Cond.instanceMethod yX0_usable, Cond.selects RX0 yX0_usable yX0_usable, Cond.initialized RX0, Cond.code yX0_usable cX0_usable 2 (some .boolean), Cond.fieldLink RX0 15 "HiddenFacts$Action" "there" "Z", Cond.fieldLink RX0 19 "HiddenFacts$Action" "condition" "I", Cond.methodLink RX3 241 yX0_sensed, Cond.instanceMethod yX0_sensed, Cond.selects RX0 yX0_sensed yX0_sensed, Cond.code yX0_sensed cX0_sensed 2 (some .int), Cond.fieldLink RX0 23 "HiddenFacts$Action" "senses" "I", Cond.static yX3_isIn, Cond.code yX3_isIn cX3_isIn 2 (some .boolean), Cond.methodLink RX3 169 yX3_isIn]
def wsL_execute : List Cond := .codeWith yL_execute cL_execute 3 (some .int) [(0, 15, 18, 23)] :: ((wsL_execute_r1 ++ wsL_execute_r2) ++ wsX30 ++ wsX20 ++ wsX00 ++ (vx_atS RX3 79 "java/lang/IllegalStateException" ["java/lang/RuntimeException", "java/lang/Exception"]).filter goodWord)
def wsL_trace : List Cond := .codeWith yL_trace cL_trace 4 (some .int) [(0, 9, 12, 13)] :: ([.classLink RL 13 "java/lang/IndexOutOfBoundsException", .methodLink RL 61 yX3_trace, .instanceMethod yX3_trace, .selects RX3 yX3_trace yX3_trace, .initialized RX3, .code yX3_trace cX3_trace 2 (some .int), .classLink RX3 144 "java/lang/IndexOutOfBoundsException", .initialized "java/lang/IndexOutOfBoundsException", .fieldLink RX3 179 "HiddenFacts" "made" "I", .fieldLink RX3 29 "HiddenFacts" "trace" "[I"] ++ wsX30 ++ (vx_atS RX3 148 "java/lang/IndexOutOfBoundsException" ["java/lang/RuntimeException", "java/lang/Exception"]).filter goodWord)
def wsL_twins_r1 : List Cond := [Cond.classLink RL 21 "java/util/NoSuchElementException", Cond.methodLink RL 64 yX3_twins, Cond.instanceMethod yX3_twins, Cond.selects RX3 yX3_twins yX3_twins, Cond.initialized RX3, Cond.code yX3_twins cX3_twins 2 (some .int), Cond.classLink RX3 194 "java/util/NoSuchElementException", Cond.initialized "java/util/NoSuchElementException", Cond.fieldLink RX3 25 "HiddenFacts" "sight" "LHiddenFacts$Sight;", Cond.fieldLink RX3 89 "HiddenFacts" "startBelief" "I", Cond.methodLink RX3 184 yX1_open, Cond.instanceMethod yX1_open, Cond.selects RX1 yX1_open yX1_open, Cond.initialized RX1, Cond.code yX1_open cX1_open 3 none, Cond.fieldLink RX1 18 "HiddenFacts$Sight" "belief" "I", Cond.fieldLink RX1 9 "HiddenFacts$Sight" "come" "[I", Cond.fieldLink RX1 15 "HiddenFacts$Sight" "apart" "[I", Cond.methodLink RX3 187 yX3_look, Cond.instanceMethod yX3_look, Cond.selects RX3 yX3_look yX3_look, Cond.code yX3_look cX3_look 4 none, Cond.fieldLink RX3 11 "HiddenFacts" "actions" "[LHiddenFacts$Action;", Cond.methodLink RX3 107 yX0_usable]
def wsL_twins_r2 : List Cond := [Cond.instanceMethod yX0_usable, Cond.selects RX0 yX0_usable yX0_usable, Cond.initialized RX0, Cond.code yX0_usable cX0_usable 2 (some .boolean), Cond.fieldLink RX0 15 "HiddenFacts$Action" "there" "Z", Cond.fieldLink RX0 19 "HiddenFacts$Action" "condition" "I", Cond.methodLink RX3 244 yX1_step, Cond.instanceMethod yX1_step, Cond.selects RX1 yX1_step yX1_step, Cond.code yX1_step cX1_step 7 none, Cond.methodLink RX1 27 yX0_sensed, Cond.instanceMethod yX0_sensed, Cond.selects RX0 yX0_sensed yX0_sensed, Cond.code yX0_sensed cX0_sensed 2 (some .int), Cond.fieldLink RX0 23 "HiddenFacts$Action" "senses" "I", Cond.static yX3_isIn, Cond.code yX3_isIn cX3_isIn 2 (some .boolean), Cond.methodLink RX3 116 yX0_after, Cond.instanceMethod yX0_after, Cond.selects RX0 yX0_after yX0_after, Cond.code yX0_after cX0_after 4 (some .int), Cond.fieldLink RX0 9 "HiddenFacts$Action" "next" "[I", Cond.methodLink RX3 190 yX1_firstAlike, Cond.instanceMethod yX1_firstAlike]
def wsL_twins_r3 : List Cond := [Cond.selects RX1 yX1_firstAlike yX1_firstAlike, Cond.code yX1_firstAlike cX1_firstAlike 3 (some .int)]
def wsL_twins : List Cond := .codeWith yL_twins cL_twins 3 (some .int) [(0, 8, 11, 21)] :: ((wsL_twins_r1 ++ (wsL_twins_r2 ++ wsL_twins_r3)) ++ wsX30 ++ wsX10 ++ wsX00 ++ (xn_atS RX3 198 "java/util/NoSuchElementException" ["java/lang/RuntimeException", "java/lang/Exception"]).filter goodWord)
def wsL_law0_r1 : List Cond := [Cond.classLink RL 8 RX3, Cond.instantiable RX3 9, Cond.initialized RX3, Cond.classLink RL 69 RX4, Cond.instantiable RX4 33, Cond.initialized RX4, Cond.arrayClass .long, Cond.methodLink RL 68 yX3_init, Cond.instanceMethod yX3_init, Cond.code yX3_init cX3_init 2 none, Cond.methodLink RX3 1 objectInit, Cond.instanceMethod objectInit, Cond.code objectInit ⟨#[0xb1]⟩ 1 none, Cond.classLink RX3 9 RX0, Cond.fieldLink RX3 11 "HiddenFacts" "actions" "[LHiddenFacts$Action;", Cond.classLink RX3 15 RX2, Cond.instantiable RX2 2, Cond.initialized RX2, Cond.fieldLink RX3 18 "HiddenFacts" "tree" "LHiddenFacts$Tree;", Cond.classLink RX3 22 RX1, Cond.instantiable RX1 3, Cond.initialized RX1, Cond.fieldLink RX3 25 "HiddenFacts" "sight" "LHiddenFacts$Sight;", Cond.arrayClass .int]
def wsL_law0_r2 : List Cond := [Cond.fieldLink RX3 29 "HiddenFacts" "trace" "[I", Cond.instantiable RX0 5, Cond.initialized RX0, Cond.instanceMethod yX2_init, Cond.code yX2_init cX2_init 1 none, Cond.methodLink RX2 1 objectInit, Cond.fieldLink RX2 9 "HiddenFacts$Tree" "cells" "[I", Cond.instanceMethod yX1_init, Cond.code yX1_init cX1_init 1 none, Cond.methodLink RX1 3 objectInit, Cond.fieldLink RX1 9 "HiddenFacts$Sight" "come" "[I", Cond.fieldLink RX1 15 "HiddenFacts$Sight" "apart" "[I", Cond.instanceMethod yX0_init, Cond.code yX0_init cX0_init 1 none, Cond.methodLink RX0 3 objectInit, Cond.fieldLink RX0 9 "HiddenFacts$Action" "next" "[I", Cond.methodLink RX3 34 yX3_forgetAll, Cond.instanceMethod yX3_forgetAll, Cond.selects RX3 yX3_forgetAll yX3_forgetAll, Cond.code yX3_forgetAll cX3_forgetAll 2 none, Cond.fieldLink RX3 84 "HiddenFacts" "clauses" "I", Cond.constant RX3 104 (65535), Cond.fieldLink RX3 89 "HiddenFacts" "startBelief" "I", Cond.fieldLink RX3 95 "HiddenFacts" "goalStates" "I"]
def wsL_law0_r3 : List Cond := [Cond.fieldLink RX3 166 "HiddenFacts" "hidden" "I", Cond.fieldLink RX3 179 "HiddenFacts" "made" "I", Cond.methodLink RX3 132 yX2_empty, Cond.instanceMethod yX2_empty, Cond.selects RX2 yX2_empty yX2_empty, Cond.code yX2_empty cX2_empty 1 none, Cond.fieldLink RX2 13 "HiddenFacts$Tree" "count" "I", Cond.methodLink RL 71 yX4_init, Cond.instanceMethod yX4_init, Cond.code yX4_init cX4_init 1 none, Cond.methodLink RX4 1 objectInit, Cond.arrayClass .boolean, Cond.fieldLink RX4 7 "HiddenFactsModel" "there" "[Z", Cond.fieldLink RX4 13 "HiddenFactsModel" "mask" "[I", Cond.fieldLink RX4 17 "HiddenFactsModel" "value" "[I", Cond.fieldLink RX4 20 "HiddenFactsModel" "senses" "[I", Cond.fieldLink RX4 23 "HiddenFactsModel" "effects" "[I", Cond.fieldLink RX4 26 "HiddenFactsModel" "facts" "[I", Cond.fieldLink RX4 29 "HiddenFactsModel" "makes" "[Z", Cond.fieldLink RX4 32 "HiddenFactsModel" "masks" "[I", Cond.fieldLink RX4 35 "HiddenFactsModel" "values" "[I", Cond.fieldLink RX4 38 "HiddenFactsModel" "trues" "[I", Cond.fieldLink RX4 41 "HiddenFactsModel" "falses" "[I", Cond.fieldLink RX4 44 "HiddenFactsModel" "nodeAction" "[I"]
def wsL_law0_r4 : List Cond := [Cond.fieldLink RX4 47 "HiddenFactsModel" "nodeFirst" "[I", Cond.fieldLink RX4 50 "HiddenFactsModel" "nodeSecond" "[I", Cond.fieldLink RX4 53 "HiddenFactsModel" "asked" "[I", Cond.fieldLink RX4 56 "HiddenFactsModel" "tried" "[I", Cond.fieldLink RX4 59 "HiddenFactsModel" "side" "[I", Cond.fieldLink RX4 62 "HiddenFactsModel" "belief" "[I", Cond.fieldLink RX4 65 "HiddenFactsModel" "does" "[I", Cond.fieldLink RX4 68 "HiddenFactsModel" "same" "[I", Cond.fieldLink RX4 71 "HiddenFactsModel" "numbered" "[I", Cond.fieldLink RX4 74 "HiddenFactsModel" "walk" "[I", Cond.fieldLink RX4 77 "HiddenFactsModel" "walkBelief" "[I", Cond.fieldLink RX4 80 "HiddenFactsModel" "hidden" "I", Cond.fieldLink RX4 84 "HiddenFactsModel" "trace" "[I", Cond.fieldLink RX4 87 "HiddenFactsModel" "at" "[I", Cond.fieldLink RX4 90 "HiddenFactsModel" "apart" "[I", Cond.methodLink RL 72 yX3_clear, Cond.instanceMethod yX3_clear, Cond.selects RX3 yX3_clear yX3_clear, Cond.code yX3_clear cX3_clear 3 (some .int), Cond.methodLink RL 75 yX4_clear, Cond.instanceMethod yX4_clear, Cond.selects RX4 yX4_clear yX4_clear, Cond.code yX4_clear cX4_clear 3 (some .int), Cond.fieldLink RX4 93 "HiddenFactsModel" "thrown" "I"]
def wsL_law0_r5 : List Cond := [Cond.fieldLink RX4 100 "HiddenFactsModel" "clauses" "I", Cond.fieldLink RX4 103 "HiddenFactsModel" "goalMask" "I", Cond.fieldLink RX4 106 "HiddenFactsModel" "goalValue" "I", Cond.fieldLink RX4 109 "HiddenFactsModel" "nodes" "I", Cond.fieldLink RX4 112 "HiddenFactsModel" "made" "I", Cond.methodLink RL 76 yL_action, Cond.static yL_action, Cond.initialized RL, Cond.codeWith yL_action cL_action 7 (some .int) [(0, 21, 24, 13), (0, 21, 28, 15)], Cond.classLink RL 13 "java/lang/IndexOutOfBoundsException", Cond.classLink RL 15 "java/lang/IllegalArgumentException", Cond.methodLink RL 7 yX3_action, Cond.instanceMethod yX3_action, Cond.selects RX3 yX3_action yX3_action, Cond.code yX3_action cX3_action 6 (some .boolean), Cond.classLink RX3 49 "java/lang/IllegalArgumentException", Cond.initialized "java/lang/IllegalArgumentException", Cond.fieldLink RX3 60 "HiddenFacts" "TRUE_IN" "[I", Cond.methodLink RX3 41 yX3_needNumber, Cond.static yX3_needNumber, Cond.code yX3_needNumber cX3_needNumber 1 none, Cond.classLink RX3 144 "java/lang/IndexOutOfBoundsException", Cond.initialized "java/lang/IndexOutOfBoundsException", Cond.methodLink RX3 45 yX3_needBits]
def wsL_law0_r6 : List Cond := [Cond.static yX3_needBits, Cond.code yX3_needBits cX3_needBits 2 none, Cond.methodLink RX3 56 yX3_demanded, Cond.static yX3_demanded, Cond.code yX3_demanded cX3_demanded 4 (some .int), Cond.methodLink RX3 63 yX0_begin, Cond.instanceMethod yX0_begin, Cond.selects RX0 yX0_begin yX0_begin, Cond.code yX0_begin cX0_begin 4 none, Cond.fieldLink RX0 15 "HiddenFacts$Action" "there" "Z", Cond.fieldLink RX0 19 "HiddenFacts$Action" "condition" "I", Cond.fieldLink RX0 23 "HiddenFacts$Action" "senses" "I", Cond.fieldLink RX0 26 "HiddenFacts$Action" "effects" "I", Cond.methodLink RL 81 yX4_action, Cond.instanceMethod yX4_action, Cond.selects RX4 yX4_action yX4_action, Cond.code yX4_action cX4_action 6 (some .boolean), Cond.methodLink RX4 96 yX4_within, Cond.static yX4_within, Cond.code yX4_within cX4_within 3 (some .boolean), Cond.methodLink RX4 115 yX4_fail, Cond.instanceMethod yX4_fail, Cond.selects RX4 yX4_fail yX4_fail, Cond.code yX4_fail cX4_fail 2 (some .int)]
def wsL_law0_r7 : List Cond := [Cond.methodLink RX4 119 yX4_demand, Cond.static yX4_demand, Cond.code yX4_demand cX4_demand 2 (some .boolean), Cond.methodLink RL 82 yX4_thrown, Cond.instanceMethod yX4_thrown, Cond.selects RX4 yX4_thrown yX4_thrown, Cond.code yX4_thrown cX4_thrown 1 (some .int), Cond.methodLink RL 85 yL_effect, Cond.static yL_effect, Cond.codeWith yL_effect cL_effect 8 (some .int) [(0, 16, 19, 13), (0, 16, 23, 21), (0, 16, 27, 15), (0, 16, 31, 23)], Cond.classLink RL 21 "java/util/NoSuchElementException", Cond.classLink RL 23 "java/lang/IllegalStateException", Cond.methodLink RL 17 yX3_effect, Cond.instanceMethod yX3_effect, Cond.selects RX3 yX3_effect yX3_effect, Cond.code yX3_effect cX3_effect 6 (some .int), Cond.classLink RX3 75 "java/lang/IllegalStateException", Cond.initialized "java/lang/IllegalStateException", Cond.methodLink RX3 66 yX3_needThere, Cond.instanceMethod yX3_needThere, Cond.selects RX3 yX3_needThere yX3_needThere, Cond.code yX3_needThere cX3_needThere 2 none, Cond.classLink RX3 194 "java/util/NoSuchElementException", Cond.initialized "java/util/NoSuchElementException"]
def wsL_law0_r8 : List Cond := [Cond.methodLink RX3 80 yX0_addEffect, Cond.instanceMethod yX0_addEffect, Cond.selects RX0 yX0_addEffect yX0_addEffect, Cond.code yX0_addEffect cX0_addEffect 5 none, Cond.static yX3_isIn, Cond.code yX3_isIn cX3_isIn 2 (some .boolean), Cond.methodLink RL 88 yX4_effect, Cond.instanceMethod yX4_effect, Cond.selects RX4 yX4_effect yX4_effect, Cond.code yX4_effect cX4_effect 7 (some .int), Cond.methodLink RL 89 yL_clause, Cond.static yL_clause, Cond.codeWith yL_clause cL_clause 5 (some .int) [(0, 10, 13, 15), (0, 10, 17, 23)], Cond.methodLink RL 25 yX3_clause, Cond.instanceMethod yX3_clause, Cond.selects RX3 yX3_clause yX3_clause, Cond.code yX3_clause cX3_clause 3 (some .int), Cond.methodLink RX3 92 yX3_allowed, Cond.static yX3_allowed, Cond.code yX3_allowed cX3_allowed 4 (some .int), Cond.methodLink RL 92 yX4_clause, Cond.instanceMethod yX4_clause, Cond.selects RX4 yX4_clause yX4_clause, Cond.code yX4_clause cX4_clause 3 (some .int)]
def wsL_law0_r9 : List Cond := [Cond.methodLink RL 93 yL_goal, Cond.static yL_goal, Cond.codeWith yL_goal cL_goal 5 (some .int) [(0, 10, 13, 15)], Cond.methodLink RL 29 yX3_goal, Cond.instanceMethod yX3_goal, Cond.selects RX3 yX3_goal yX3_goal, Cond.code yX3_goal cX3_goal 3 (some .int), Cond.methodLink RX3 98 yJ6_bitCount_0f7a4, Cond.static yJ6_bitCount_0f7a4, Cond.initialized RJ6, Cond.code yJ6_bitCount_0f7a4 cJ6_bitCount_0f7a4 1 (some .int), Cond.constant RJ6 265 (1431655765), Cond.constant RJ6 266 (858993459), Cond.constant RJ6 267 (252645135), Cond.methodLink RL 95 yX4_goal, Cond.instanceMethod yX4_goal, Cond.selects RX4 yX4_goal yX4_goal, Cond.code yX4_goal cX4_goal 5 (some .int), Cond.methodLink RX4 123 yX4_holds, Cond.static yX4_holds, Cond.code yX4_holds cX4_holds 3 (some .boolean), Cond.methodLink RL 96 yX3_start, Cond.instanceMethod yX3_start, Cond.selects RX3 yX3_start yX3_start]
def wsL_law0_r10 : List Cond := [Cond.code yX3_start cX3_start 1 (some .int), Cond.methodLink RL 99 yX4_start, Cond.instanceMethod yX4_start, Cond.selects RX4 yX4_start yX4_start, Cond.code yX4_start cX4_start 1 (some .int), Cond.methodLink RX4 126 yX4_startBelief, Cond.instanceMethod yX4_startBelief, Cond.selects RX4 yX4_startBelief yX4_startBelief, Cond.code yX4_startBelief cX4_startBelief 5 (some .int), Cond.methodLink RL 100 yL_behind, Cond.static yL_behind, Cond.codeWith yL_behind cL_behind 5 (some .int) [(0, 10, 13, 13), (0, 10, 17, 21), (0, 10, 21, 15), (0, 10, 25, 35)], Cond.classLink RL 35 "java/lang/UnsupportedOperationException", Cond.methodLink RL 32 yX3_behind, Cond.instanceMethod yX3_behind, Cond.selects RX3 yX3_behind yX3_behind, Cond.code yX3_behind cX3_behind 3 (some .int), Cond.classLink RX3 111 "java/lang/UnsupportedOperationException", Cond.initialized "java/lang/UnsupportedOperationException", Cond.methodLink RX3 107 yX0_usable, Cond.instanceMethod yX0_usable, Cond.selects RX0 yX0_usable yX0_usable, Cond.code yX0_usable cX0_usable 2 (some .boolean), Cond.methodLink RX3 116 yX0_after]
def wsL_law0_r11 : List Cond := [Cond.instanceMethod yX0_after, Cond.selects RX0 yX0_after yX0_after, Cond.code yX0_after cX0_after 4 (some .int), Cond.methodLink RL 102 yX4_behind, Cond.instanceMethod yX4_behind, Cond.selects RX4 yX4_behind yX4_behind, Cond.code yX4_behind cX4_behind 3 (some .int), Cond.constant RX4 137 (65535), Cond.methodLink RX4 138 yX4_usable, Cond.instanceMethod yX4_usable, Cond.selects RX4 yX4_usable yX4_usable, Cond.code yX4_usable cX4_usable 5 (some .boolean), Cond.methodLink RX4 134 yX4_after, Cond.instanceMethod yX4_after, Cond.selects RX4 yX4_after yX4_after, Cond.code yX4_after cX4_after 5 (some .int), Cond.methodLink RX4 130 yX4_next, Cond.instanceMethod yX4_next, Cond.selects RX4 yX4_next yX4_next, Cond.code yX4_next cX4_next 5 (some .int), Cond.methodLink RL 103 yL_least, Cond.static yL_least, Cond.codeWith yL_least cL_least 5 (some .int) [(0, 10, 13, 15), (0, 10, 17, 21)], Cond.methodLink RL 37 yX3_least]
def wsL_law0_r12 : List Cond := [Cond.instanceMethod yX3_least, Cond.selects RX3 yX3_least yX3_least, Cond.code yX3_least cX3_least 3 (some .int), Cond.methodLink RX3 121 yX3_needDepth, Cond.static yX3_needDepth, Cond.code yX3_needDepth cX3_needDepth 1 none, Cond.methodLink RX3 124 yX3_fewest, Cond.instanceMethod yX3_fewest, Cond.selects RX3 yX3_fewest yX3_fewest, Cond.code yX3_fewest cX3_fewest 4 (some .int), Cond.methodLink RX3 213 yX3_solved, Cond.instanceMethod yX3_solved, Cond.selects RX3 yX3_solved yX3_solved, Cond.code yX3_solved cX3_solved 3 (some .boolean), Cond.methodLink RX3 216 yX3_reached, Cond.instanceMethod yX3_reached, Cond.selects RX3 yX3_reached yX3_reached, Cond.code yX3_reached cX3_reached 2 (some .boolean), Cond.methodLink RX3 219 yX3_leastAction, Cond.instanceMethod yX3_leastAction, Cond.selects RX3 yX3_leastAction yX3_leastAction, Cond.code yX3_leastAction cX3_leastAction 4 (some .int), Cond.methodLink RX3 222 yX3_solves, Cond.instanceMethod yX3_solves]
def wsL_law0_r13 : List Cond := [Cond.selects RX3 yX3_solves yX3_solves, Cond.code yX3_solves cX3_solves 5 (some .boolean), Cond.methodLink RX3 226 yX0_part, Cond.instanceMethod yX0_part, Cond.selects RX0 yX0_part yX0_part, Cond.code yX0_part cX0_part 3 (some .int), Cond.methodLink RX3 127 yX3_needSolved, Cond.static yX3_needSolved, Cond.code yX3_needSolved cX3_needSolved 1 (some .int), Cond.methodLink RL 105 yX4_least, Cond.instanceMethod yX4_least, Cond.selects RX4 yX4_least yX4_least, Cond.code yX4_least cX4_least 4 (some .int), Cond.methodLink RX4 152 yX4_leastFor, Cond.instanceMethod yX4_leastFor, Cond.selects RX4 yX4_leastFor yX4_leastFor, Cond.code yX4_leastFor cX4_leastFor 4 (some .int), Cond.methodLink RX4 149 yX4_solved, Cond.instanceMethod yX4_solved, Cond.selects RX4 yX4_solved yX4_solved, Cond.code yX4_solved cX4_solved 5 (some .boolean), Cond.methodLink RX4 141 yX4_reached, Cond.instanceMethod yX4_reached, Cond.selects RX4 yX4_reached yX4_reached]
def wsL_law0_r14 : List Cond := [Cond.code yX4_reached cX4_reached 4 (some .boolean), Cond.methodLink RX4 145 yX4_part, Cond.instanceMethod yX4_part, Cond.selects RX4 yX4_part yX4_part, Cond.code yX4_part cX4_part 7 (some .int), Cond.methodLink RL 106 yL_plan, Cond.static yL_plan, Cond.codeWith yL_plan cL_plan 4 (some .int) [(0, 9, 12, 15), (0, 9, 15, 23), (0, 9, 18, 21)], Cond.methodLink RL 40 yX3_plan, Cond.instanceMethod yX3_plan, Cond.selects RX3 yX3_plan yX3_plan, Cond.code yX3_plan cX3_plan 3 (some .int), Cond.methodLink RX3 135 yX3_grow, Cond.instanceMethod yX3_grow, Cond.selects RX3 yX3_grow yX3_grow, Cond.code yX3_grow cX3_grow 8 (some .int), Cond.methodLink RX3 229 yX2_open, Cond.instanceMethod yX2_open, Cond.selects RX2 yX2_open yX2_open, Cond.code yX2_open cX2_open 1 (some .int), Cond.methodLink RX2 17 yX2_setAction, Cond.instanceMethod yX2_setAction, Cond.selects RX2 yX2_setAction yX2_setAction, Cond.code yX2_setAction cX2_setAction 3 none]
def wsL_law0_r15 : List Cond := [Cond.methodLink RX3 231 yX2_close, Cond.instanceMethod yX2_close, Cond.selects RX2 yX2_close yX2_close, Cond.code yX2_close cX2_close 6 (some .int), Cond.methodLink RX2 21 yX2_cell, Cond.instanceMethod yX2_cell, Cond.selects RX2 yX2_cell yX2_cell, Cond.code yX2_cell cX2_cell 3 (some .int), Cond.methodLink RX3 235 yX3_growPart, Cond.instanceMethod yX3_growPart, Cond.selects RX3 yX3_growPart yX3_growPart, Cond.code yX3_growPart cX3_growPart 3 (some .int), Cond.methodLink RL 109 yX4_plan, Cond.instanceMethod yX4_plan, Cond.selects RX4 yX4_plan yX4_plan, Cond.code yX4_plan cX4_plan 4 (some .int), Cond.methodLink RX4 175 yX4_build, Cond.instanceMethod yX4_build, Cond.selects RX4 yX4_build yX4_build, Cond.code yX4_build cX4_build 5 none, Cond.methodLink RX4 162 yX4_depthOf, Cond.static yX4_depthOf, Cond.code yX4_depthOf cX4_depthOf 3 (some .int), Cond.methodLink RX4 165 yX4_choose]
def wsL_law0_r16 : List Cond := [Cond.instanceMethod yX4_choose, Cond.selects RX4 yX4_choose yX4_choose, Cond.code yX4_choose cX4_choose 5 none, Cond.methodLink RX4 155 yX4_partSolved, Cond.instanceMethod yX4_partSolved, Cond.selects RX4 yX4_partSolved yX4_partSolved, Cond.code yX4_partSolved cX4_partSolved 6 (some .boolean), Cond.methodLink RX4 169 yX4_equal, Cond.instanceMethod yX4_equal, Cond.selects RX4 yX4_equal yX4_equal, Cond.code yX4_equal cX4_equal 3 (some .boolean), Cond.methodLink RX4 159 yX4_classOf, Cond.instanceMethod yX4_classOf, Cond.selects RX4 yX4_classOf yX4_classOf, Cond.code yX4_classOf cX4_classOf 2 (some .int), Cond.methodLink RX4 172 yX4_number, Cond.instanceMethod yX4_number, Cond.selects RX4 yX4_number yX4_number, Cond.code yX4_number cX4_number 5 none, Cond.methodLink RL 110 yX3_nodes, Cond.instanceMethod yX3_nodes, Cond.selects RX3 yX3_nodes yX3_nodes, Cond.code yX3_nodes cX3_nodes 1 (some .int), Cond.methodLink RL 113 yX4_nodes]
def wsL_law0_r17 : List Cond := [Cond.instanceMethod yX4_nodes, Cond.selects RX4 yX4_nodes yX4_nodes, Cond.code yX4_nodes cX4_nodes 1 (some .int), Cond.methodLink RL 114 yL_node, Cond.static yL_node, Cond.codeWith yL_node cL_node 5 (some .int) [(0, 10, 13, 13)], Cond.methodLink RL 44 yX3_node, Cond.instanceMethod yX3_node, Cond.selects RX3 yX3_node yX3_node, Cond.code yX3_node cX3_node 3 (some .int), Cond.methodLink RX3 141 yX3_needNode, Cond.instanceMethod yX3_needNode, Cond.selects RX3 yX3_needNode yX3_needNode, Cond.code yX3_needNode cX3_needNode 2 none, Cond.methodLink RX3 149 yX2_cell, Cond.methodLink RL 116 yX4_node, Cond.instanceMethod yX4_node, Cond.selects RX4 yX4_node yX4_node, Cond.code yX4_node cX4_node 3 (some .int), Cond.methodLink RL 117 yL_edit, Cond.static yL_edit, Cond.codeWith yL_edit cL_edit 5 (some .int) [(0, 10, 13, 13), (0, 10, 17, 21), (0, 10, 21, 35)], Cond.methodLink RL 47 yX3_edit, Cond.instanceMethod yX3_edit]
def wsL_law0_r18 : List Cond := [Cond.selects RX3 yX3_edit yX3_edit, Cond.code yX3_edit cX3_edit 4 (some .int), Cond.methodLink RX3 154 yX2_setAction, Cond.methodLink RL 119 yX4_edit, Cond.instanceMethod yX4_edit, Cond.selects RX4 yX4_edit yX4_edit, Cond.code yX4_edit cX4_edit 4 (some .int), Cond.methodLink RL 120 yL_right, Cond.static yL_right, Cond.codeWith yL_right cL_right 3 (some .int) [(0, 15, 18, 23)], Cond.methodLink RL 50 yX3_right, Cond.instanceMethod yX3_right, Cond.selects RX3 yX3_right yX3_right, Cond.code yX3_right cX3_right 1 (some .boolean), Cond.methodLink RX3 157 yX3_needPlan, Cond.instanceMethod yX3_needPlan, Cond.selects RX3 yX3_needPlan yX3_needPlan, Cond.code yX3_needPlan cX3_needPlan 1 none, Cond.methodLink RX3 160 yX3_fits, Cond.instanceMethod yX3_fits, Cond.selects RX3 yX3_fits yX3_fits, Cond.code yX3_fits cX3_fits 6 (some .boolean), Cond.methodLink RL 123 yX4_right, Cond.instanceMethod yX4_right]
def wsL_law0_r19 : List Cond := [Cond.selects RX4 yX4_right yX4_right, Cond.code yX4_right cX4_right 9 (some .boolean), Cond.methodLink RL 124 yL_hide, Cond.static yL_hide, Cond.codeWith yL_hide cL_hide 4 (some .int) [(0, 16, 19, 15)], Cond.methodLink RL 54 yX3_hide, Cond.instanceMethod yX3_hide, Cond.selects RX3 yX3_hide yX3_hide, Cond.code yX3_hide cX3_hide 2 (some .boolean), Cond.methodLink RX3 169 yX3_isIn, Cond.methodLink RL 126 yX4_hide, Cond.instanceMethod yX4_hide, Cond.selects RX4 yX4_hide yX4_hide, Cond.code yX4_hide cX4_hide 2 (some .boolean), Cond.methodLink RL 127 yL_execute, Cond.static yL_execute, Cond.codeWith yL_execute cL_execute 3 (some .int) [(0, 15, 18, 23)], Cond.methodLink RL 58 yX3_execute, Cond.instanceMethod yX3_execute, Cond.selects RX3 yX3_execute yX3_execute, Cond.code yX3_execute cX3_execute 1 (some .boolean), Cond.methodLink RX3 175 yX3_carryOut, Cond.instanceMethod yX3_carryOut, Cond.selects RX3 yX3_carryOut yX3_carryOut]
def wsL_law0_r20 : List Cond := [Cond.code yX3_carryOut cX3_carryOut 4 (some .boolean), Cond.methodLink RX3 241 yX0_sensed, Cond.instanceMethod yX0_sensed, Cond.selects RX0 yX0_sensed yX0_sensed, Cond.code yX0_sensed cX0_sensed 2 (some .int), Cond.methodLink RL 129 yX4_execute, Cond.instanceMethod yX4_execute, Cond.selects RX4 yX4_execute yX4_execute, Cond.code yX4_execute cX4_execute 5 (some .boolean), Cond.methodLink RL 130 yX3_made, Cond.instanceMethod yX3_made, Cond.selects RX3 yX3_made yX3_made, Cond.code yX3_made cX3_made 1 (some .int), Cond.methodLink RL 133 yX4_made, Cond.instanceMethod yX4_made, Cond.selects RX4 yX4_made yX4_made, Cond.code yX4_made cX4_made 1 (some .int), Cond.methodLink RL 134 yL_trace, Cond.static yL_trace, Cond.codeWith yL_trace cL_trace 4 (some .int) [(0, 9, 12, 13)], Cond.methodLink RL 61 yX3_trace, Cond.instanceMethod yX3_trace, Cond.selects RX3 yX3_trace yX3_trace, Cond.code yX3_trace cX3_trace 2 (some .int)]
def wsL_law0_r21 : List Cond := [Cond.methodLink RL 136 yX4_trace, Cond.instanceMethod yX4_trace, Cond.selects RX4 yX4_trace yX4_trace, Cond.code yX4_trace cX4_trace 2 (some .int), Cond.methodLink RL 137 yL_twins, Cond.static yL_twins, Cond.codeWith yL_twins cL_twins 3 (some .int) [(0, 8, 11, 21)], Cond.methodLink RL 64 yX3_twins, Cond.instanceMethod yX3_twins, Cond.selects RX3 yX3_twins yX3_twins, Cond.code yX3_twins cX3_twins 2 (some .int), Cond.methodLink RX3 184 yX1_open, Cond.instanceMethod yX1_open, Cond.selects RX1 yX1_open yX1_open, Cond.code yX1_open cX1_open 3 none, Cond.fieldLink RX1 18 "HiddenFacts$Sight" "belief" "I", Cond.methodLink RX3 187 yX3_look, Cond.instanceMethod yX3_look, Cond.selects RX3 yX3_look yX3_look, Cond.code yX3_look cX3_look 4 none, Cond.methodLink RX3 244 yX1_step, Cond.instanceMethod yX1_step, Cond.selects RX1 yX1_step yX1_step, Cond.code yX1_step cX1_step 7 none]
def wsL_law0_r22 : List Cond := [Cond.methodLink RX1 27 yX0_sensed, Cond.methodLink RX3 190 yX1_firstAlike, Cond.instanceMethod yX1_firstAlike, Cond.selects RX1 yX1_firstAlike yX1_firstAlike, Cond.code yX1_firstAlike cX1_firstAlike 3 (some .int), Cond.methodLink RL 139 yX4_twins, Cond.instanceMethod yX4_twins, Cond.selects RX4 yX4_twins yX4_twins, Cond.code yX4_twins cX4_twins 6 (some .int), Cond.methodLink RX4 178 yX4_beliefAt, Cond.instanceMethod yX4_beliefAt, Cond.selects RX4 yX4_beliefAt yX4_beliefAt, Cond.code yX4_beliefAt cX4_beliefAt 5 (some .int), Cond.methodLink RX4 181 yX4_make, Cond.instanceMethod yX4_make, Cond.selects RX4 yX4_make yX4_make, Cond.code yX4_make cX4_make 7 none]
def wsL_law0 : List Cond := (wsL_law0_r1 ++ (wsL_law0_r2 ++ (wsL_law0_r3 ++ (wsL_law0_r4 ++ (wsL_law0_r5 ++ (wsL_law0_r6 ++ (wsL_law0_r7 ++ (wsL_law0_r8 ++ (wsL_law0_r9 ++ (wsL_law0_r10 ++ (wsL_law0_r11 ++ (wsL_law0_r12 ++ (wsL_law0_r13 ++ (wsL_law0_r14 ++ (wsL_law0_r15 ++ (wsL_law0_r16 ++ (wsL_law0_r17 ++ (wsL_law0_r18 ++ (wsL_law0_r19 ++ (wsL_law0_r20 ++ (wsL_law0_r21 ++ wsL_law0_r22))))))))))))))))))))) ++ wsX30 ++ wsX40 ++ wsX20 ++ wsX10 ++ wsX00 ++ ([] : List Cond)
def wsL_law : List Cond := wsL_law0 ++ (vx_atS RX3 53 "java/lang/IllegalArgumentException" ["java/lang/RuntimeException", "java/lang/Exception"]).filter goodWord ++ (vx_atS RX3 148 "java/lang/IndexOutOfBoundsException" ["java/lang/RuntimeException", "java/lang/Exception"]).filter goodWord ++ (vx_atS RX3 79 "java/lang/IllegalStateException" ["java/lang/RuntimeException", "java/lang/Exception"]).filter goodWord ++ (xn_atS RX3 198 "java/util/NoSuchElementException" ["java/lang/RuntimeException", "java/lang/Exception"]).filter goodWord ++ (vx_atS RX3 115 "java/lang/UnsupportedOperationException" ["java/lang/RuntimeException", "java/lang/Exception"]).filter goodWord
theorem xw_in {big ws : List Cond} (ps : List Nat) (hp : ws = ps.filterMap (fun i => big[i]?)) : ∀ w ∈ ws, w ∈ big := by
  intro w hw
  rw [hp] at hw
  obtain ⟨i, -, hi⟩ := List.mem_filterMap.mp hw
  first | exact List.mem_of_getElem? hi | exact List.getElem?_mem hi
set_option maxRecDepth 20000 in
theorem xw_r1 : ∀ w ∈ wsL_law0_r1, w ∈ lw_tbl := xw_in [47, 48, 33, 557, 558, 37, 821, 49, 50, 51, 52, 53, 54, 55, 122, 57, 58, 34, 123, 72, 73, 35, 124, 71] rfl
set_option maxRecDepth 20000 in
theorem xw_r2 : ∀ w ∈ wsL_law0_r2, w ∈ lw_tbl := xw_in [125, 88, 36, 60, 61, 62, 63, 75, 76, 77, 78, 79, 90, 91, 92, 99, 113, 115, 0, 116, 126, 121, 127, 128] rfl
set_option maxRecDepth 20000 in
theorem xw_r3 : ∀ w ∈ wsL_law0_r3, w ∈ lw_tbl := xw_in [129, 130, 117, 118, 119, 120, 64, 559, 560, 561, 562, 663, 564, 565, 566, 567, 568, 569, 570, 571, 572, 574, 575, 579] rfl
set_option maxRecDepth 20000 in
theorem xw_r4 : ∀ w ∈ wsL_law0_r4, w ∈ lw_tbl := xw_in [580, 581, 582, 583, 584, 585, 586, 587, 588, 589, 590, 591, 593, 594, 595, 150, 151, 152, 153, 668, 669, 670, 671, 563] rfl
set_option maxRecDepth 20000 in
theorem xw_r5 : ∀ w ∈ wsL_law0_r5, w ∈ lw_tbl := xw_in [573, 576, 577, 578, 592, 166, 167, 32, 168, 169, 170, 171, 172, 173, 174, 251, 42, 271, 175, 176, 177, 178, 41, 248] rfl
set_option maxRecDepth 20000 in
theorem xw_r6 : ∀ w ∈ wsL_law0_r6, w ∈ lw_tbl := xw_in [249, 250, 268, 269, 270, 273, 274, 275, 276, 93, 95, 96, 97, 672, 673, 674, 675, 676, 677, 678, 679, 681, 15, 682] rfl
set_option maxRecDepth 20000 in
theorem xw_r7 : ∀ w ∈ wsL_law0_r7, w ∈ lw_tbl := xw_in [683, 684, 685, 664, 665, 666, 667, 277, 278, 279, 280, 281, 282, 283, 284, 285, 307, 44, 286, 288, 2, 289, 290, 43] rfl
set_option maxRecDepth 20000 in
theorem xw_r8 : ∀ w ∈ wsL_law0_r8, w ∈ lw_tbl := xw_in [323, 324, 325, 326, 328, 329, 686, 687, 688, 689, 330, 331, 332, 333, 334, 335, 336, 338, 339, 340, 690, 691, 692, 693] rfl
set_option maxRecDepth 20000 in
theorem xw_r9 : ∀ w ∈ wsL_law0_r9, w ∈ lw_tbl := xw_in [341, 342, 343, 344, 345, 346, 347, 348, 349, 45, 350, 351, 352, 353, 694, 695, 696, 697, 698, 699, 700, 154, 155, 156] rfl
set_option maxRecDepth 20000 in
theorem xw_r10 : ∀ w ∈ wsL_law0_r10, w ∈ lw_tbl := xw_in [157, 701, 702, 703, 704, 705, 707, 16, 708, 354, 355, 356, 357, 358, 359, 360, 361, 367, 46, 363, 364, 365, 366, 383] rfl
set_option maxRecDepth 20000 in
theorem xw_r11 : ∀ w ∈ wsL_law0_r11, w ∈ lw_tbl := xw_in [384, 385, 386, 709, 710, 711, 712, 713, 714, 716, 17, 717, 718, 720, 18, 721, 722, 724, 19, 725, 387, 388, 389, 390] rfl
set_option maxRecDepth 20000 in
theorem xw_r12 : ∀ w ∈ wsL_law0_r12, w ∈ lw_tbl := xw_in [391, 392, 393, 395, 396, 397, 399, 401, 3, 402, 403, 405, 4, 406, 407, 409, 5, 410, 411, 413, 6, 414, 415, 417] rfl
set_option maxRecDepth 20000 in
theorem xw_r13 : ∀ w ∈ wsL_law0_r13, w ∈ lw_tbl := xw_in [7, 418, 419, 420, 421, 422, 423, 424, 425, 726, 727, 728, 729, 730, 732, 20, 733, 734, 736, 21, 737, 738, 740, 22] rfl
set_option maxRecDepth 20000 in
theorem xw_r14 : ∀ w ∈ wsL_law0_r14, w ∈ lw_tbl := xw_in [741, 742, 744, 23, 745, 427, 428, 429, 430, 431, 432, 433, 435, 437, 8, 438, 439, 440, 441, 442, 443, 444, 445, 446] rfl
set_option maxRecDepth 20000 in
theorem xw_r15 : ∀ w ∈ wsL_law0_r15, w ∈ lw_tbl := xw_in [447, 448, 449, 450, 451, 452, 453, 454, 455, 457, 9, 458, 746, 747, 748, 749, 750, 752, 24, 753, 754, 755, 756, 757] rfl
set_option maxRecDepth 20000 in
theorem xw_r16 : ∀ w ∈ wsL_law0_r16, w ∈ lw_tbl := xw_in [759, 25, 760, 761, 763, 26, 764, 765, 767, 27, 768, 769, 771, 28, 772, 773, 775, 29, 776, 158, 159, 160, 161, 777] rfl
set_option maxRecDepth 20000 in
theorem xw_r17 : ∀ w ∈ wsL_law0_r17, w ∈ lw_tbl := xw_in [778, 779, 780, 459, 460, 461, 462, 463, 464, 465, 466, 468, 10, 469, 472, 781, 782, 783, 784, 473, 474, 475, 476, 477] rfl
set_option maxRecDepth 20000 in
theorem xw_r18 : ∀ w ∈ wsL_law0_r18, w ∈ lw_tbl := xw_in [478, 479, 481, 785, 786, 787, 788, 482, 483, 484, 485, 486, 487, 488, 489, 491, 11, 492, 494, 496, 12, 497, 789, 790] rfl
set_option maxRecDepth 20000 in
theorem xw_r19 : ∀ w ∈ wsL_law0_r19, w ∈ lw_tbl := xw_in [791, 792, 498, 499, 500, 501, 502, 503, 504, 506, 793, 794, 795, 796, 507, 508, 509, 510, 511, 512, 513, 515, 517, 13] rfl
set_option maxRecDepth 20000 in
theorem xw_r20 : ∀ w ∈ wsL_law0_r20, w ∈ lw_tbl := xw_in [518, 519, 520, 521, 522, 797, 798, 799, 800, 162, 163, 164, 165, 801, 802, 803, 804, 523, 524, 525, 526, 527, 528, 529] rfl
set_option maxRecDepth 20000 in
theorem xw_r21 : ∀ w ∈ wsL_law0_r21, w ∈ lw_tbl := xw_in [805, 806, 807, 808, 531, 532, 533, 534, 535, 536, 537, 538, 539, 540, 541, 80, 542, 544, 14, 545, 546, 547, 548, 549] rfl
set_option maxRecDepth 20000 in
theorem xw_r22 : ∀ w ∈ wsL_law0_r22, w ∈ lw_tbl := xw_in [550, 552, 553, 554, 555, 809, 810, 811, 812, 813, 815, 30, 816, 817, 819, 31, 820] rfl
set_option maxRecDepth 20000 in
theorem xw_X3 : ∀ w ∈ wsX30, w ∈ lw_tbl := xw_in [131, 133, 135, 137, 139, 141, 143, 145, 147] rfl
set_option maxRecDepth 20000 in
theorem xw_X4 : ∀ w ∈ wsX40, w ∈ lw_tbl := xw_in [596, 598, 600, 602, 604, 606, 608, 610, 612, 614, 616, 618, 620, 622, 624, 626, 628, 630, 632, 634, 636, 638, 640, 642, 644, 646, 648, 650, 652, 654, 656, 658, 660] rfl
set_option maxRecDepth 20000 in
theorem xw_X2 : ∀ w ∈ wsX20, w ∈ lw_tbl := xw_in [66, 68] rfl
set_option maxRecDepth 20000 in
theorem xw_X1 : ∀ w ∈ wsX10, w ∈ lw_tbl := xw_in [81, 83, 85] rfl
set_option maxRecDepth 20000 in
theorem xw_X0 : ∀ w ∈ wsX00, w ∈ lw_tbl := xw_in [102, 104, 106, 108, 110] rfl
theorem wsL_law_in0 : ∀ w ∈ wsL_law0, w ∈ lw_tbl := by
  intro w h
  unfold wsL_law0 at h
  exact (fun w h => (List.mem_append.mp h).elim ((fun w h => (List.mem_append.mp h).elim ((fun w h => (List.mem_append.mp h).elim ((fun w h => (List.mem_append.mp h).elim ((fun w h => (List.mem_append.mp h).elim ((fun w h => (List.mem_append.mp h).elim ((fun w h => (List.mem_append.mp h).elim (xw_r1 w) ((fun w h => (List.mem_append.mp h).elim (xw_r2 w) ((fun w h => (List.mem_append.mp h).elim (xw_r3 w) ((fun w h => (List.mem_append.mp h).elim (xw_r4 w) ((fun w h => (List.mem_append.mp h).elim (xw_r5 w) ((fun w h => (List.mem_append.mp h).elim (xw_r6 w) ((fun w h => (List.mem_append.mp h).elim (xw_r7 w) ((fun w h => (List.mem_append.mp h).elim (xw_r8 w) ((fun w h => (List.mem_append.mp h).elim (xw_r9 w) ((fun w h => (List.mem_append.mp h).elim (xw_r10 w) ((fun w h => (List.mem_append.mp h).elim (xw_r11 w) ((fun w h => (List.mem_append.mp h).elim (xw_r12 w) ((fun w h => (List.mem_append.mp h).elim (xw_r13 w) ((fun w h => (List.mem_append.mp h).elim (xw_r14 w) ((fun w h => (List.mem_append.mp h).elim (xw_r15 w) ((fun w h => (List.mem_append.mp h).elim (xw_r16 w) ((fun w h => (List.mem_append.mp h).elim (xw_r17 w) ((fun w h => (List.mem_append.mp h).elim (xw_r18 w) ((fun w h => (List.mem_append.mp h).elim (xw_r19 w) ((fun w h => (List.mem_append.mp h).elim (xw_r20 w) ((fun w h => (List.mem_append.mp h).elim (xw_r21 w) (xw_r22 w)) w)) w)) w)) w)) w)) w)) w)) w)) w)) w)) w)) w)) w)) w)) w)) w)) w)) w)) w)) w)) w) (xw_X3 w)) w) (xw_X4 w)) w) (xw_X2 w)) w) (xw_X1 w)) w) (xw_X0 w)) w) ((fun (w : Cond) (h : w ∈ ([] : List Cond)) => (nomatch h : w ∈ lw_tbl)) w)) w h
theorem wsL_law_x0 : ∀ w ∈ (vx_atS RX3 53 "java/lang/IllegalArgumentException" ["java/lang/RuntimeException", "java/lang/Exception"]).filter goodWord, w ∈ lw_tbl := by decide +kernel
theorem wsL_law_x1 : ∀ w ∈ (vx_atS RX3 148 "java/lang/IndexOutOfBoundsException" ["java/lang/RuntimeException", "java/lang/Exception"]).filter goodWord, w ∈ lw_tbl := by decide +kernel
theorem wsL_law_x2 : ∀ w ∈ (vx_atS RX3 79 "java/lang/IllegalStateException" ["java/lang/RuntimeException", "java/lang/Exception"]).filter goodWord, w ∈ lw_tbl := by decide +kernel
theorem wsL_law_x3 : ∀ w ∈ (xn_atS RX3 198 "java/util/NoSuchElementException" ["java/lang/RuntimeException", "java/lang/Exception"]).filter goodWord, w ∈ lw_tbl := by decide +kernel
theorem wsL_law_x4 : ∀ w ∈ (vx_atS RX3 115 "java/lang/UnsupportedOperationException" ["java/lang/RuntimeException", "java/lang/Exception"]).filter goodWord, w ∈ lw_tbl := by decide +kernel
theorem wsL_law_in : ∀ w ∈ wsL_law, w ∈ lw_tbl := fun w h => (List.mem_append.mp h).elim (fun h => (List.mem_append.mp h).elim (fun h => (List.mem_append.mp h).elim (fun h => (List.mem_append.mp h).elim (fun h => (List.mem_append.mp h).elim (fun h => wsL_law_in0 w h) (fun h => wsL_law_x0 w h)) (fun h => wsL_law_x1 w h)) (fun h => wsL_law_x2 w h)) (fun h => wsL_law_x3 w h)) (fun h => wsL_law_x4 w h)
theorem inlX0 : ∀ w ∈ wsX00, w ∈ wsL_law := fun _ h => List.mem_append_left _ (List.mem_append_left _ (List.mem_append_left _ (List.mem_append_left _ (List.mem_append_left _ (List.mem_append_left _ (List.mem_append_right _ h))))))
theorem inX0 : ∀ w ∈ wsX00, w ∈ lw_tbl := fun w h => wsL_law_in w (inlX0 w h)
theorem inlX1 : ∀ w ∈ wsX10, w ∈ wsL_law := fun _ h => List.mem_append_left _ (List.mem_append_left _ (List.mem_append_left _ (List.mem_append_left _ (List.mem_append_left _ (List.mem_append_left _ (List.mem_append_left _ (List.mem_append_right _ h)))))))
theorem inX1 : ∀ w ∈ wsX10, w ∈ lw_tbl := fun w h => wsL_law_in w (inlX1 w h)
theorem inlX2 : ∀ w ∈ wsX20, w ∈ wsL_law := fun _ h => List.mem_append_left _ (List.mem_append_left _ (List.mem_append_left _ (List.mem_append_left _ (List.mem_append_left _ (List.mem_append_left _ (List.mem_append_left _ (List.mem_append_left _ (List.mem_append_right _ h))))))))
theorem inX2 : ∀ w ∈ wsX20, w ∈ lw_tbl := fun w h => wsL_law_in w (inlX2 w h)
theorem inlX3 : ∀ w ∈ wsX30, w ∈ wsL_law := fun _ h => List.mem_append_left _ (List.mem_append_left _ (List.mem_append_left _ (List.mem_append_left _ (List.mem_append_left _ (List.mem_append_left _ (List.mem_append_left _ (List.mem_append_left _ (List.mem_append_left _ (List.mem_append_left _ (List.mem_append_right _ h))))))))))
theorem inX3 : ∀ w ∈ wsX30, w ∈ lw_tbl := fun w h => wsL_law_in w (inlX3 w h)
theorem inlX4 : ∀ w ∈ wsX40, w ∈ wsL_law := fun _ h => List.mem_append_left _ (List.mem_append_left _ (List.mem_append_left _ (List.mem_append_left _ (List.mem_append_left _ (List.mem_append_left _ (List.mem_append_left _ (List.mem_append_left _ (List.mem_append_left _ (List.mem_append_right _ h)))))))))
theorem inX4 : ∀ w ∈ wsX40, w ∈ lw_tbl := fun w h => wsL_law_in w (inlX4 w h)
theorem inJ6 : ∀ w ∈ wsJ60, w ∈ lw_tbl := by decide +kernel
theorem inJ0 : ∀ w ∈ wsJ00, w ∈ lw_tbl := by decide +kernel
end
